noncomputable def L_X12_seekRows_94 : Nat → HSt → Int32 → Int32 → Int32 → Int32 → Int32 → Int32 × Int32 × Int32 × Int32 × Int32
  | 0, S, v1, v2, v3, v4, v5 => (v1, v2, v3, v4, v5)
  | n + 1, S, v1, v2, v3, v4, v5 =>
    if v2 ≤ v5 then ((pr (v1) (pr (v2) (pr (v3) (pr (v4) (v5)))))) else (if (f_X12_mayMove S 64 v5 (gI S 74 v3.toNatClampNeg)) = 0 then (L_X12_seekRows_94 n S v1 v2 v3 v4 (v5 + (1 : Int32))) else ((pr (v1) (pr (v2) (pr (v3) (pr (v4) (v5)))))))
def T_X12_seekRows_94 : Nat → HSt → Int32 → Int32 → Int32 → Int32 → Int32 → Prop
  | 0, _, _, _, _, _, _ => False
  | n + 1, S, v1, v2, v3, v4, v5 => ((¬ v2 ≤ v5) → vp_in v3 6) ∧ ((¬ v2 ≤ v5) → ((f_X12_mayMove S 64 v5 (gI S 74 v3.toNatClampNeg)) = 0) → T_X12_seekRows_94 n S v1 v2 v3 v4 (v5 + (1 : Int32)))
set_option maxRecDepth 100000 in
theorem l_X12_seekRows_94 {p : Program} {l : Launch} {e : Env} {s : State} {m : MethodId} {args : Array Value} {below : List Frame} {meth : Method} {c : Code} {G : GG} {Q : State → Prop} (hC : ACx p s m args meth c cX12_seekRows RX12 6 none) (hSt : St G s)  : ∀ (n : Nat) (S : HSt) (v1 : Int32) (v2 : Int32) (v3 : Int32) (v4 : Int32) (v5 : Int32), MS S → T_X12_seekRows_94 n S v1 v2 v3 v4 v5 → AW p l e (rmD 6 0 0) s m args below meth c G 6 Q S 0 0 121 [(0, .ref 64), (1, .int (L_X12_seekRows_94 n S v1 v2 v3 v4 v5).1), (2, .int (L_X12_seekRows_94 n S v1 v2 v3 v4 v5).2.1), (3, .int (L_X12_seekRows_94 n S v1 v2 v3 v4 v5).2.2.1), (4, .int (L_X12_seekRows_94 n S v1 v2 v3 v4 v5).2.2.2.1), (5, .int (L_X12_seekRows_94 n S v1 v2 v3 v4 v5).2.2.2.2)] [] → AW p l e (rmD 6 0 0) s m args below meth c G 6 Q S 0 0 94 [(0, .ref 64), (1, .int v1), (2, .int v2), (3, .int v3), (4, .int v4), (5, .int v5)] [] := by
  intro n
  induction n with
  | zero => intro S v1 v2 v3 v4 v5 _ hT; exact hT.elim
  | succ n ih =>
    intro S v1 v2 v3 v4 v5 hM hT hk
    unfold T_X12_seekRows_94 at hT
    obtain ⟨h0, h1⟩ := hT
    refine aw_iload hC 5 dX12_seekRows_94 rfl ?_
    refine aw_iload_n hC 2 dX12_seekRows_96 rfl rfl ?_
    refine aw_icmp_ge hC 121 dX12_seekRows_97 (by decide) (fun c2014 => ?_) (fun c2014 => ?_)
    · refine aw_sub [0, 1, 2, 3, 4, 5] rfl ?_
      have E : L_X12_seekRows_94 (n + 1) S v1 v2 v3 v4 v5 = _ := (if_pos c2014).trans (rfl)
      rw [E] at hk
      exact hk
    · refine aw_aload_n hC 0 dX12_seekRows_100 rfl rfl ?_
      refine aw_iload hC 5 dX12_seekRows_101 rfl ?_
      refine aw_aload_n hC 0 dX12_seekRows_103 rfl rfl ?_
      refine aw_getP (b := 74) hC hSt 35 (ms_lt 64 (by decide) hM) (ms_k 64 12 0 (by decide) hM) rfl (by decide) w_928 rfl (ms_p 35 74 (by decide) hM) dX12_seekRows_104 ?_
      refine aw_iload_n hC 3 dX12_seekRows_107 rfl rfl ?_
      refine aw_iald hC hSt (ms_lt 74 (by decide) hM) (ms_k 74 14 6 (by decide) hM) (vp_len (n := 6) (ms_l 74 14 6 (by decide) hM) (h0 c2014)) dX12_seekRows_108 ?_
      refine aw_cV2r hC hSt (t_X12_mayMove G l hM _ _) w_1208 w_1219 w_1220 w_1221 w_953 rfl rfl (by decide +kernel) ⟨Nat.le_of_ble_eq_true rfl, Nat.le_of_ble_eq_true rfl⟩ (ms_lt 64 (by decide) hM) (ms_k 64 12 0 (by decide) hM) rfl (Nat.le_of_ble_eq_true rfl) dX12_seekRows_109 ⟨Nat.zero_le _, Nat.zero_le _⟩ ?_
      refine aw_if_ne hC 121 dX12_seekRows_112 (by decide) (fun c2015 => ?_) (fun c2015 => ?_)
      · refine aw_sub [0, 1, 2, 3, 4, 5] rfl ?_
        have E : L_X12_seekRows_94 (n + 1) S v1 v2 v3 v4 v5 = _ := (if_neg c2014).trans ((if_neg c2015).trans (rfl))
        rw [E] at hk
        exact hk
      · refine aw_iinc (v := (v5 + (1 : Int32))) hC 5 [(5, .int _), (0, .ref 64), (1, .int _), (2, .int _), (3, .int _), (4, .int _)] dX12_seekRows_115 rfl rfl (by decide) rfl ?_
        refine aw_goto hC 94 dX12_seekRows_118 (by decide) ?_
        refine aw_sub [1, 2, 3, 4, 5, 0] rfl ?_
        have hTn := (h1 c2014 c2015)
        have hMn : MS S := hM
        have E : L_X12_seekRows_94 (n + 1) S v1 v2 v3 v4 v5 = _ := (if_neg c2014).trans ((if_pos c2015).trans (rfl))
        rw [E] at hk
        exact ih _ _ _ _ _ _ hMn hTn hk
noncomputable def L_X12_seekRows_50 : Nat → HSt → Int32 → Int32 → Int32 → Int32 × Int32 × Int32 × HSt
  | 0, S, v1, v2, v3 => (v1, v2, v3, S)
  | n + 1, S, v1, v2, v3 =>
    if v3 < 0 then ((pr (v1) (pr (v2) (pr (v3) (S))))) else (bd (f_X12_layPath S 64 v3) fun r1009 => bd ((if (gI r1009 73 v3.toNatClampNeg) < 0 then (0 : Int32) else (1 : Int32))) fun x1011 => bd ((if v3 = v1 then v2 else ((gI r1009 73 v3.toNatClampNeg) + (1 : Int32)))) fun x1013 => bd (L_X12_seekRows_94 1000 r1009 v1 v2 v3 x1011 x1013) fun r1014 => bd ((if r1014.2.1 ≤ r1014.2.2.2.2 then (bd ((if r1014.2.2.2.1 = 0 then (bd (f_X12_lookRow r1009 64 r1014.2.2.1) fun r1017 => r1017) else r1009)) fun S1018 => (r1014.2.2.1 + (-1 : Int32))) else (bd ((sI r1009 73 r1014.2.2.1.toNatClampNeg r1014.2.2.2.2)) fun S1019 => bd (f_X12_doMove S1019 64 r1014.2.2.2.2 r1014.2.2.1) fun r1020 => bd ((sI r1020 73 (r1014.2.2.1 + (1 : Int32)).toNatClampNeg (-1 : Int32))) fun S1021 => (r1014.2.2.1 + (1 : Int32))))) fun x1022 => bd ((if r1014.2.1 ≤ r1014.2.2.2.2 then (bd ((if r1014.2.2.2.1 = 0 then (bd (f_X12_lookRow r1009 64 r1014.2.2.1) fun r1017 => r1017) else r1009)) fun S1018 => S1018) else (bd ((sI r1009 73 r1014.2.2.1.toNatClampNeg r1014.2.2.2.2)) fun S1019 => bd (f_X12_doMove S1019 64 r1014.2.2.2.2 r1014.2.2.1) fun r1020 => bd ((sI r1020 73 (r1014.2.2.1 + (1 : Int32)).toNatClampNeg (-1 : Int32))) fun S1021 => S1021))) fun S1023 => L_X12_seekRows_50 n S1023 r1014.1 r1014.2.1 x1022)
def T_X12_seekRows_50 : Nat → HSt → Int32 → Int32 → Int32 → Prop
  | 0, _, _, _, _ => False
  | n + 1, S, v1, v2, v3 => ((¬ v3 < 0) → p_X12_layPath S 64 v3) ∧ ((¬ v3 < 0) → ∀ r1009, f_X12_layPath S 64 v3 = r1009 → vp_in v3 6) ∧ ((¬ v3 < 0) → ∀ r1009, f_X12_layPath S 64 v3 = r1009 → ∀ x1011 : Int32, (if (gI r1009 73 v3.toNatClampNeg) < 0 then (0 : Int32) else (1 : Int32)) = x1011 → (¬ v3 = v1) → vp_in v3 6) ∧ ((¬ v3 < 0) → ∀ r1009, f_X12_layPath S 64 v3 = r1009 → ∀ x1011 : Int32, (if (gI r1009 73 v3.toNatClampNeg) < 0 then (0 : Int32) else (1 : Int32)) = x1011 → ∀ x1013 : Int32, (if v3 = v1 then v2 else ((gI r1009 73 v3.toNatClampNeg) + (1 : Int32))) = x1013 → T_X12_seekRows_94 1000 r1009 v1 v2 v3 x1011 x1013) ∧ ((¬ v3 < 0) → ∀ r1009, f_X12_layPath S 64 v3 = r1009 → ∀ x1011 : Int32, (if (gI r1009 73 v3.toNatClampNeg) < 0 then (0 : Int32) else (1 : Int32)) = x1011 → ∀ x1013 : Int32, (if v3 = v1 then v2 else ((gI r1009 73 v3.toNatClampNeg) + (1 : Int32))) = x1013 → ∀ r1014, L_X12_seekRows_94 1000 r1009 v1 v2 v3 x1011 x1013 = r1014 → (r1014.2.1 ≤ r1014.2.2.2.2) → (r1014.2.2.2.1 = 0) → p_X12_lookRow r1009 64 r1014.2.2.1) ∧ ((¬ v3 < 0) → ∀ r1009, f_X12_layPath S 64 v3 = r1009 → ∀ x1011 : Int32, (if (gI r1009 73 v3.toNatClampNeg) < 0 then (0 : Int32) else (1 : Int32)) = x1011 → ∀ x1013 : Int32, (if v3 = v1 then v2 else ((gI r1009 73 v3.toNatClampNeg) + (1 : Int32))) = x1013 → ∀ r1014, L_X12_seekRows_94 1000 r1009 v1 v2 v3 x1011 x1013 = r1014 → (¬ r1014.2.1 ≤ r1014.2.2.2.2) → vp_in r1014.2.2.1 6) ∧ ((¬ v3 < 0) → ∀ r1009, f_X12_layPath S 64 v3 = r1009 → ∀ x1011 : Int32, (if (gI r1009 73 v3.toNatClampNeg) < 0 then (0 : Int32) else (1 : Int32)) = x1011 → ∀ x1013 : Int32, (if v3 = v1 then v2 else ((gI r1009 73 v3.toNatClampNeg) + (1 : Int32))) = x1013 → ∀ r1014, L_X12_seekRows_94 1000 r1009 v1 v2 v3 x1011 x1013 = r1014 → (¬ r1014.2.1 ≤ r1014.2.2.2.2) → ∀ S1019 : HSt, (sI r1009 73 r1014.2.2.1.toNatClampNeg r1014.2.2.2.2) = S1019 → p_X12_doMove S1019 64 r1014.2.2.2.2 r1014.2.2.1) ∧ ((¬ v3 < 0) → ∀ r1009, f_X12_layPath S 64 v3 = r1009 → ∀ x1011 : Int32, (if (gI r1009 73 v3.toNatClampNeg) < 0 then (0 : Int32) else (1 : Int32)) = x1011 → ∀ x1013 : Int32, (if v3 = v1 then v2 else ((gI r1009 73 v3.toNatClampNeg) + (1 : Int32))) = x1013 → ∀ r1014, L_X12_seekRows_94 1000 r1009 v1 v2 v3 x1011 x1013 = r1014 → (¬ r1014.2.1 ≤ r1014.2.2.2.2) → ∀ S1019 : HSt, (sI r1009 73 r1014.2.2.1.toNatClampNeg r1014.2.2.2.2) = S1019 → ∀ r1020, f_X12_doMove S1019 64 r1014.2.2.2.2 r1014.2.2.1 = r1020 → vp_in (r1014.2.2.1 + (1 : Int32)) 6) ∧ ((¬ v3 < 0) → ∀ r1009, f_X12_layPath S 64 v3 = r1009 → ∀ x1011 : Int32, (if (gI r1009 73 v3.toNatClampNeg) < 0 then (0 : Int32) else (1 : Int32)) = x1011 → ∀ x1013 : Int32, (if v3 = v1 then v2 else ((gI r1009 73 v3.toNatClampNeg) + (1 : Int32))) = x1013 → ∀ r1014, L_X12_seekRows_94 1000 r1009 v1 v2 v3 x1011 x1013 = r1014 → ∀ x1022 : Int32, (if r1014.2.1 ≤ r1014.2.2.2.2 then (bd ((if r1014.2.2.2.1 = 0 then (bd (f_X12_lookRow r1009 64 r1014.2.2.1) fun r1017 => r1017) else r1009)) fun S1018 => (r1014.2.2.1 + (-1 : Int32))) else (bd ((sI r1009 73 r1014.2.2.1.toNatClampNeg r1014.2.2.2.2)) fun S1019 => bd (f_X12_doMove S1019 64 r1014.2.2.2.2 r1014.2.2.1) fun r1020 => bd ((sI r1020 73 (r1014.2.2.1 + (1 : Int32)).toNatClampNeg (-1 : Int32))) fun S1021 => (r1014.2.2.1 + (1 : Int32)))) = x1022 → ∀ S1023 : HSt, (if r1014.2.1 ≤ r1014.2.2.2.2 then (bd ((if r1014.2.2.2.1 = 0 then (bd (f_X12_lookRow r1009 64 r1014.2.2.1) fun r1017 => r1017) else r1009)) fun S1018 => S1018) else (bd ((sI r1009 73 r1014.2.2.1.toNatClampNeg r1014.2.2.2.2)) fun S1019 => bd (f_X12_doMove S1019 64 r1014.2.2.2.2 r1014.2.2.1) fun r1020 => bd ((sI r1020 73 (r1014.2.2.1 + (1 : Int32)).toNatClampNeg (-1 : Int32))) fun S1021 => S1021)) = S1023 → T_X12_seekRows_50 n S1023 r1014.1 r1014.2.1 x1022)
theorem qL_X12_seekRows_50 : ∀ (n : Nat) (S : HSt) (v1 : Int32) (v2 : Int32) (v3 : Int32), shp (L_X12_seekRows_50 n S v1 v2 v3).2.2.2 = shp S := by
  intro n
  induction n with
  | zero => intros; rfl
  | succ n ih =>
    intro S v1 v2 v3
    unfold L_X12_seekRows_50
    repeat' (first | with_reducible refine shpr3 ?_ | with_reducible rfl | with_reducible refine (ih _ _ _ _).trans ?_ | with_reducible refine (q_X12_doMove _ _ _ _).trans ?_ | with_reducible refine (q_X12_keepPath _ _ _).trans ?_ | with_reducible refine (q_X12_layLive _ _).trans ?_ | with_reducible refine (q_X12_layPath _ _ _).trans ?_ | with_reducible refine (q_X12_lookRow _ _ _).trans ?_ | with_reducible refine (shp_sI _ _ _ _).trans ?_ | with_reducible refine (shp_sJ _ _ _ _).trans ?_ | with_reducible refine shi ?_ ?_ | with_reducible refine shb (fun _ _ => ?_) | with_reducible refine shiP (fun q : Int32 × Int32 × Int32 × HSt => q.2.2.2) ?_ ?_ | with_reducible refine shbP (fun q : Int32 × Int32 × Int32 × HSt => q.2.2.2) (fun _ _ => ?_) | (subst_vars; with_reducible rfl) | (subst_vars; with_reducible refine (ih _ _ _ _).trans ?_) | (subst_vars; with_reducible refine (q_X12_doMove _ _ _ _).trans ?_) | (subst_vars; with_reducible refine (q_X12_keepPath _ _ _).trans ?_) | (subst_vars; with_reducible refine (q_X12_layLive _ _).trans ?_) | (subst_vars; with_reducible refine (q_X12_layPath _ _ _).trans ?_) | (subst_vars; with_reducible refine (q_X12_lookRow _ _ _).trans ?_) | (subst_vars; with_reducible refine (shp_sI _ _ _ _).trans ?_) | (subst_vars; with_reducible refine (shp_sJ _ _ _ _).trans ?_) | (subst_vars; with_reducible refine shi ?_ ?_) | (subst_vars; with_reducible refine shb (fun _ _ => ?_)))
theorem vL_X12_seekRows_50 : ∀ (n : Nat) (S : HSt) (v1 : Int32) (v2 : Int32) (v3 : Int32), Fr [(64, 20), (64, 21), (64, 22), (64, 23), (64, 24), (64, 25), (64, 26), (64, 28), (64, 38), (64, 39), (72, 1000), (73, 1000), (74, 1000), (75, 1000), (76, 1000)] S (L_X12_seekRows_50 n S v1 v2 v3).2.2.2 := by
  intro n
  induction n with
  | zero => intros; exact Fr.refl _ _
  | succ n ih =>
    intro S v1 v2 v3
    unfold L_X12_seekRows_50
    repeat' (first | with_reducible refine frpr3 ?_ | with_reducible exact Fr.refl _ _ | with_reducible refine Fr.lP (fun q : Int32 × Int32 × Int32 × HSt => q.2.2.2) (fun _ _ => ?_) | with_reducible refine Fr.iteP (fun q : Int32 × Int32 × Int32 × HSt => q.2.2.2) ?_ ?_ | with_reducible refine Fr.l1 (fun _ _ => ?_) | with_reducible refine Fr.ite ?_ ?_ | with_reducible refine Fr.sE (by assumption) (by first | decide | simp only [List.mem_cons, List.not_mem_nil, or_false, true_or, or_true, eq_self_iff_true]) ?_ | with_reducible refine Fr.jE (by assumption) ?_ | with_reducible refine Fr.rE (by assumption) (by first | decide | simp only [List.mem_cons, List.not_mem_nil, or_false, true_or, or_true, eq_self_iff_true]) ?_ | with_reducible refine Fr.iE (by assumption) ?_ ?_ | with_reducible refine Fr.tr (ih _ _ _ _) (by first | decide | simp only [List.mem_cons, List.not_mem_nil, or_false, forall_eq_or_imp, forall_eq, true_or, or_true, and_self, eq_self_iff_true]) ?_ | with_reducible refine Fr.tr (w_X12_doMove _ _ _ _ _ (by assumption)) (by first | decide | simp only [List.mem_cons, List.not_mem_nil, or_false, forall_eq_or_imp, forall_eq, true_or, or_true, and_self, eq_self_iff_true]) ?_ | with_reducible refine Fr.tr (w_X12_keepPath _ _ _ _ (by assumption)) (by first | decide | simp only [List.mem_cons, List.not_mem_nil, or_false, forall_eq_or_imp, forall_eq, true_or, or_true, and_self, eq_self_iff_true]) ?_ | with_reducible refine Fr.tr (w_X12_layLive _ _ _ (by assumption)) (by first | decide | simp only [List.mem_cons, List.not_mem_nil, or_false, forall_eq_or_imp, forall_eq, true_or, or_true, and_self, eq_self_iff_true]) ?_ | with_reducible refine Fr.tr (w_X12_layPath _ _ _ _ (by assumption)) (by first | decide | simp only [List.mem_cons, List.not_mem_nil, or_false, forall_eq_or_imp, forall_eq, true_or, or_true, and_self, eq_self_iff_true]) ?_ | with_reducible refine Fr.tr (w_X12_lookRow _ _ _ _ (by assumption)) (by first | decide | simp only [List.mem_cons, List.not_mem_nil, or_false, forall_eq_or_imp, forall_eq, true_or, or_true, and_self, eq_self_iff_true]) ?_)
theorem wL_X12_seekRows_50 (n : Nat) (S : HSt) (v1 : Int32) (v2 : Int32) (v3 : Int32) (r : Int32 × Int32 × Int32 × HSt) (e : L_X12_seekRows_50 n S v1 v2 v3 = r) : Fr [(64, 20), (64, 21), (64, 22), (64, 23), (64, 24), (64, 25), (64, 26), (64, 28), (64, 38), (64, 39), (72, 1000), (73, 1000), (74, 1000), (75, 1000), (76, 1000)] S r.2.2.2 := by
  rw [← e]
  exact vL_X12_seekRows_50 n S v1 v2 v3
set_option maxRecDepth 100000 in
theorem l_X12_seekRows_50 {p : Program} {l : Launch} {e : Env} {s : State} {m : MethodId} {args : Array Value} {below : List Frame} {meth : Method} {c : Code} {G : GG} {Q : State → Prop} (hC : ACx p s m args meth c cX12_seekRows RX12 6 none) (hSt : St G s)  : ∀ (n : Nat) (S : HSt) (v1 : Int32) (v2 : Int32) (v3 : Int32), MS S → T_X12_seekRows_50 n S v1 v2 v3 → AW p l e (rmD 6 0 0) s m args below meth c G 6 Q (L_X12_seekRows_50 n S v1 v2 v3).2.2.2 0 0 171 [(0, .ref 64), (1, .int (L_X12_seekRows_50 n S v1 v2 v3).1), (2, .int (L_X12_seekRows_50 n S v1 v2 v3).2.1), (3, .int (L_X12_seekRows_50 n S v1 v2 v3).2.2.1)] [] → AW p l e (rmD 6 0 0) s m args below meth c G 6 Q S 0 0 50 [(0, .ref 64), (1, .int v1), (2, .int v2), (3, .int v3)] [] := by
  intro n
  induction n with
  | zero => intro S v1 v2 v3 _ hT; exact hT.elim
  | succ n ih =>
    intro S v1 v2 v3 hM hT hk
    unfold T_X12_seekRows_50 at hT
    obtain ⟨h0, h1, h2, h3, h4, h5, h6, h7, h8⟩ := hT
    refine aw_iload_n hC 3 dX12_seekRows_50 rfl rfl ?_
    refine aw_if_lt hC 171 dX12_seekRows_51 (by decide) (fun c1008 => ?_) (fun c1008 => ?_)
    · refine aw_sub [0, 1, 2, 3] rfl ?_
      have E : L_X12_seekRows_50 (n + 1) S v1 v2 v3 = _ := (if_pos c1008).trans (rfl)
      rw [E] at hk
      exact hk
    · refine aw_aload_n hC 0 dX12_seekRows_54 rfl rfl ?_
      refine aw_iload_n hC 3 dX12_seekRows_55 rfl rfl ?_
      refine aw_cV1v hC hSt (t_X12_layPath G l hM _ (h0 c1008)) w_1206 w_1216 w_1217 w_1218 w_953 rfl rfl (by decide +kernel) ⟨Nat.le_of_ble_eq_true rfl, Nat.le_of_ble_eq_true rfl⟩ (ms_lt 64 (by decide) hM) (ms_k 64 12 0 (by decide) hM) rfl (Nat.le_of_ble_eq_true rfl) dX12_seekRows_56 ⟨Nat.zero_le _, Nat.zero_le _⟩ ?_
      generalize er1009 : f_X12_layPath S 64 v3 = r1009
      have hM : MS r1009 := MS.of (by rw [← er1009]; exact q_X12_layPath _ _ _) hM
      refine aw_aload_n hC 0 dX12_seekRows_59 rfl rfl ?_
      refine aw_getP (b := 73) hC hSt 34 (ms_lt 64 (by decide) hM) (ms_k 64 12 0 (by decide) hM) rfl (by decide) w_927 rfl (ms_p 34 73 (by decide) hM) dX12_seekRows_60 ?_
      refine aw_iload_n hC 3 dX12_seekRows_63 rfl rfl ?_
      refine aw_iald hC hSt (ms_lt 73 (by decide) hM) (ms_k 73 14 6 (by decide) hM) (vp_len (n := 6) (ms_l 73 14 6 (by decide) hM) (h1 c1008 r1009 er1009)) dX12_seekRows_64 ?_
      refine aw_cut (S' := r1009) (pc' := 73) (lv' := [(0, .ref 64), (1, .int v1), (2, .int v2), (3, .int v3)]) (st' := [.int (if (gI r1009 73 v3.toNatClampNeg) < 0 then (0 : Int32) else (1 : Int32))]) ?_ (fun Jc1010 => ?_)
      · generalize ex1011 : (if (gI r1009 73 v3.toNatClampNeg) < 0 then (0 : Int32) else (1 : Int32)) = x1011
        refine aw_istore hC [(4, .int _), (0, .ref 64), (1, .int _), (2, .int _), (3, .int _)] dX12_seekRows_73 (by decide) rfl ?_
        refine aw_iload_n hC 4 dX12_seekRows_75 rfl rfl ?_
        refine aw_iload_n hC 2 dX12_seekRows_76 rfl rfl ?_
        refine aw_cut (S' := r1009) (pc' := 92) (lv' := [(4, .int x1011), (0, .ref 64), (1, .int v1), (2, .int v2), (3, .int v3)]) (st' := [.int (if v3 = v1 then v2 else ((gI r1009 73 v3.toNatClampNeg) + (1 : Int32)))]) ?_ (fun Jc1012 => ?_)
        · generalize ex1013 : (if v3 = v1 then v2 else ((gI r1009 73 v3.toNatClampNeg) + (1 : Int32))) = x1013
          refine aw_istore hC [(5, .int _), (4, .int _), (0, .ref 64), (1, .int _), (2, .int _), (3, .int _)] dX12_seekRows_92 (by decide) rfl ?_
          refine aw_sub [2, 3, 4, 5, 1, 0] rfl ?_
          refine l_X12_seekRows_94 hC hSt 1000 _ _ _ _ _ _ hM (h3 c1008 r1009 er1009 x1011 ex1011 x1013 ex1013) ?_
          generalize er1014 : L_X12_seekRows_94 1000 r1009 v1 v2 v3 x1011 x1013 = r1014
          refine aw_iload hC 5 dX12_seekRows_121 rfl ?_
          refine aw_iload_n hC 2 dX12_seekRows_123 rfl rfl ?_
          refine aw_cut (S' := (if r1014.2.1 ≤ r1014.2.2.2.2 then (bd ((if r1014.2.2.2.1 = 0 then (bd (f_X12_lookRow r1009 64 r1014.2.2.1) fun r1017 => r1017) else r1009)) fun S1018 => S1018) else (bd ((sI r1009 73 r1014.2.2.1.toNatClampNeg r1014.2.2.2.2)) fun S1019 => bd (f_X12_doMove S1019 64 r1014.2.2.2.2 r1014.2.2.1) fun r1020 => bd ((sI r1020 73 (r1014.2.2.1 + (1 : Int32)).toNatClampNeg (-1 : Int32))) fun S1021 => S1021))) (pc' := 168) (lv' := [(3, .int (if r1014.2.1 ≤ r1014.2.2.2.2 then (bd ((if r1014.2.2.2.1 = 0 then (bd (f_X12_lookRow r1009 64 r1014.2.2.1) fun r1017 => r1017) else r1009)) fun S1018 => (r1014.2.2.1 + (-1 : Int32))) else (bd ((sI r1009 73 r1014.2.2.1.toNatClampNeg r1014.2.2.2.2)) fun S1019 => bd (f_X12_doMove S1019 64 r1014.2.2.2.2 r1014.2.2.1) fun r1020 => bd ((sI r1020 73 (r1014.2.2.1 + (1 : Int32)).toNatClampNeg (-1 : Int32))) fun S1021 => (r1014.2.2.1 + (1 : Int32))))), (0, .ref 64), (1, .int r1014.1), (2, .int r1014.2.1), (4, .int r1014.2.2.2.1), (5, .int r1014.2.2.2.2)]) (st' := []) ?_ (fun Jc1015 => ?_)
          · generalize ex1022 : (if r1014.2.1 ≤ r1014.2.2.2.2 then (bd ((if r1014.2.2.2.1 = 0 then (bd (f_X12_lookRow r1009 64 r1014.2.2.1) fun r1017 => r1017) else r1009)) fun S1018 => (r1014.2.2.1 + (-1 : Int32))) else (bd ((sI r1009 73 r1014.2.2.1.toNatClampNeg r1014.2.2.2.2)) fun S1019 => bd (f_X12_doMove S1019 64 r1014.2.2.2.2 r1014.2.2.1) fun r1020 => bd ((sI r1020 73 (r1014.2.2.1 + (1 : Int32)).toNatClampNeg (-1 : Int32))) fun S1021 => (r1014.2.2.1 + (1 : Int32)))) = x1022
            generalize eS1023 : (if r1014.2.1 ≤ r1014.2.2.2.2 then (bd ((if r1014.2.2.2.1 = 0 then (bd (f_X12_lookRow r1009 64 r1014.2.2.1) fun r1017 => r1017) else r1009)) fun S1018 => S1018) else (bd ((sI r1009 73 r1014.2.2.1.toNatClampNeg r1014.2.2.2.2)) fun S1019 => bd (f_X12_doMove S1019 64 r1014.2.2.2.2 r1014.2.2.1) fun r1020 => bd ((sI r1020 73 (r1014.2.2.1 + (1 : Int32)).toNatClampNeg (-1 : Int32))) fun S1021 => S1021)) = S1023
            have hM : MS S1023 := MS.of (by rw [← eS1023]; repeat' (first | with_reducible rfl | with_reducible refine (q_X12_doMove _ _ _ _).trans ?_ | with_reducible refine (q_X12_layPath _ _ _).trans ?_ | with_reducible refine (q_X12_lookRow _ _ _).trans ?_ | with_reducible refine (shp_sI _ _ _ _).trans ?_ | with_reducible refine (shp_sJ _ _ _ _).trans ?_ | with_reducible refine shi ?_ ?_ | with_reducible refine shb (fun _ _ => ?_) | (subst_vars; with_reducible rfl) | (subst_vars; with_reducible refine (q_X12_doMove _ _ _ _).trans ?_) | (subst_vars; with_reducible refine (q_X12_layPath _ _ _).trans ?_) | (subst_vars; with_reducible refine (q_X12_lookRow _ _ _).trans ?_) | (subst_vars; with_reducible refine (shp_sI _ _ _ _).trans ?_) | (subst_vars; with_reducible refine (shp_sJ _ _ _ _).trans ?_) | (subst_vars; with_reducible refine shi ?_ ?_) | (subst_vars; with_reducible refine shb (fun _ _ => ?_)))) hM
            refine aw_goto hC 50 dX12_seekRows_168 (by decide) ?_
            refine aw_sub [1, 2, 3, 0] rfl ?_
            have hTn := (h8 c1008 r1009 er1009 x1011 ex1011 x1013 ex1013 r1014 er1014 x1022 ex1022 S1023 eS1023)
            have hMn : MS S1023 := hM
            have E : L_X12_seekRows_50 (n + 1) S v1 v2 v3 = _ := (if_neg c1008).trans ((bd_eq er1009).trans ((bd_eq ex1011).trans ((bd_eq ex1013).trans ((bd_eq er1014).trans ((bd_eq ex1022).trans ((bd_eq eS1023).trans (rfl)))))))
            rw [E] at hk
            exact ih _ _ _ _ hMn hTn hk
          · refine aw_icmp_ge hC 155 dX12_seekRows_124 (by decide) (fun c1015 => ?_) (fun c1015 => ?_)
            · refine aw_iload hC 4 dX12_seekRows_155 rfl ?_
              refine aw_cut (S' := (if r1014.2.2.2.1 = 0 then (bd (f_X12_lookRow r1009 64 r1014.2.2.1) fun r1017 => r1017) else r1009)) (pc' := 165) (lv' := [(0, .ref 64), (1, .int r1014.1), (2, .int r1014.2.1), (3, .int r1014.2.2.1), (4, .int r1014.2.2.2.1), (5, .int r1014.2.2.2.2)]) (st' := []) ?_ (fun Jc1016 => ?_)
              · generalize eS1018 : (if r1014.2.2.2.1 = 0 then (bd (f_X12_lookRow r1009 64 r1014.2.2.1) fun r1017 => r1017) else r1009) = S1018
                have hM : MS S1018 := MS.of (by rw [← eS1018]; repeat' (first | with_reducible rfl | with_reducible refine (q_X12_doMove _ _ _ _).trans ?_ | with_reducible refine (q_X12_layPath _ _ _).trans ?_ | with_reducible refine (q_X12_lookRow _ _ _).trans ?_ | with_reducible refine (shp_sI _ _ _ _).trans ?_ | with_reducible refine (shp_sJ _ _ _ _).trans ?_ | with_reducible refine shi ?_ ?_ | with_reducible refine shb (fun _ _ => ?_) | (subst_vars; with_reducible rfl) | (subst_vars; with_reducible refine (q_X12_doMove _ _ _ _).trans ?_) | (subst_vars; with_reducible refine (q_X12_layPath _ _ _).trans ?_) | (subst_vars; with_reducible refine (q_X12_lookRow _ _ _).trans ?_) | (subst_vars; with_reducible refine (shp_sI _ _ _ _).trans ?_) | (subst_vars; with_reducible refine (shp_sJ _ _ _ _).trans ?_) | (subst_vars; with_reducible refine shi ?_ ?_) | (subst_vars; with_reducible refine shb (fun _ _ => ?_)))) hM
                refine aw_iinc (v := (r1014.2.2.1 + (-1 : Int32))) hC 3 [(3, .int _), (0, .ref 64), (1, .int _), (2, .int _), (4, .int _), (5, .int _)] dX12_seekRows_165 rfl rfl (by decide) rfl ?_
                subst eS1018
                simp only [bd_def, if_pos c1015] at Jc1015 ⊢
                exact Jc1015
              · refine aw_if_ne hC 165 dX12_seekRows_157 (by decide) (fun c1016 => ?_) (fun c1016 => ?_)
                · simp only [bd_def, if_neg c1016] at Jc1016 ⊢
                  exact Jc1016
                · refine aw_aload_n hC 0 dX12_seekRows_160 rfl rfl ?_
                  refine aw_iload_n hC 3 dX12_seekRows_161 rfl rfl ?_
                  refine aw_cV1v hC hSt (t_X12_lookRow G l hM _ (h4 c1008 r1009 er1009 x1011 ex1011 x1013 ex1013 r1014 er1014 c1015 c1016)) w_1213 w_1225 w_1226 w_1227 w_953 rfl rfl (by decide +kernel) ⟨Nat.le_of_ble_eq_true rfl, Nat.le_of_ble_eq_true rfl⟩ (ms_lt 64 (by decide) hM) (ms_k 64 12 0 (by decide) hM) rfl (Nat.le_of_ble_eq_true rfl) dX12_seekRows_162 ⟨Nat.zero_le _, Nat.zero_le _⟩ ?_
                  generalize er1017 : f_X12_lookRow r1009 64 r1014.2.2.1 = r1017
                  have hM : MS r1017 := MS.of (by rw [← er1017]; exact q_X12_lookRow _ _ _) hM
                  subst er1017
                  simp only [bd_def, if_pos c1016] at Jc1016 ⊢
                  exact Jc1016
            · refine aw_aload_n hC 0 dX12_seekRows_127 rfl rfl ?_
              refine aw_getP (b := 73) hC hSt 34 (ms_lt 64 (by decide) hM) (ms_k 64 12 0 (by decide) hM) rfl (by decide) w_927 rfl (ms_p 34 73 (by decide) hM) dX12_seekRows_128 ?_
              refine aw_iload_n hC 3 dX12_seekRows_131 rfl rfl ?_
              refine aw_iload hC 5 dX12_seekRows_132 rfl ?_
              refine aw_iast hC hSt (ms_lt 73 (by decide) hM) (ms_k 73 14 6 (by decide) hM) (vp_len (n := 6) (ms_l 73 14 6 (by decide) hM) (h5 c1008 r1009 er1009 x1011 ex1011 x1013 ex1013 r1014 er1014 c1015)) dX12_seekRows_134 ?_
              generalize eS1019 : (sI r1009 73 r1014.2.2.1.toNatClampNeg r1014.2.2.2.2) = S1019
              have hM : MS S1019 := MS.of (by rw [← eS1019]; exact shp_sI _ _ _ _) hM
              refine aw_aload_n hC 0 dX12_seekRows_135 rfl rfl ?_
              refine aw_iload hC 5 dX12_seekRows_136 rfl ?_
              refine aw_iload_n hC 3 dX12_seekRows_138 rfl rfl ?_
              refine aw_cV2v hC hSt (t_X12_doMove G l hM _ _ (h6 c1008 r1009 er1009 x1011 ex1011 x1013 ex1013 r1014 er1014 c1015 S1019 eS1019)) w_1212 w_1222 w_1223 w_1224 w_953 rfl rfl (by decide +kernel) ⟨Nat.le_of_ble_eq_true rfl, Nat.le_of_ble_eq_true rfl⟩ (ms_lt 64 (by decide) hM) (ms_k 64 12 0 (by decide) hM) rfl (Nat.le_of_ble_eq_true rfl) dX12_seekRows_139 ⟨Nat.zero_le _, Nat.zero_le _⟩ ?_
              generalize er1020 : f_X12_doMove S1019 64 r1014.2.2.2.2 r1014.2.2.1 = r1020
              have hM : MS r1020 := MS.of (by rw [← er1020]; exact q_X12_doMove _ _ _ _) hM
              refine aw_iinc (v := (r1014.2.2.1 + (1 : Int32))) hC 3 [(3, .int _), (0, .ref 64), (1, .int _), (2, .int _), (4, .int _), (5, .int _)] dX12_seekRows_142 rfl rfl (by decide) rfl ?_
              refine aw_aload_n hC 1 dX12_seekRows_145 rfl rfl ?_
              refine aw_getP (b := 73) hC hSt 34 (ms_lt 64 (by decide) hM) (ms_k 64 12 0 (by decide) hM) rfl (by decide) w_927 rfl (ms_p 34 73 (by decide) hM) dX12_seekRows_146 ?_
              refine aw_iload_n hC 0 dX12_seekRows_149 rfl rfl ?_
              refine aw_iconst (v := -1) hC dX12_seekRows_150 (by decide) ?_
              refine aw_iast hC hSt (ms_lt 73 (by decide) hM) (ms_k 73 14 6 (by decide) hM) (vp_len (n := 6) (ms_l 73 14 6 (by decide) hM) (h7 c1008 r1009 er1009 x1011 ex1011 x1013 ex1013 r1014 er1014 c1015 S1019 eS1019 r1020 er1020)) dX12_seekRows_151 ?_
              generalize eS1021 : (sI r1020 73 (r1014.2.2.1 + (1 : Int32)).toNatClampNeg (-1 : Int32)) = S1021
              have hM : MS S1021 := MS.of (by rw [← eS1021]; exact shp_sI _ _ _ _) hM
              refine aw_goto hC 168 dX12_seekRows_152 (by decide) ?_
              subst eS1021
              subst er1020
              subst eS1019
              simp only [bd_def, if_neg c1015] at Jc1015 ⊢
              exact Jc1015
        · refine aw_icmp_ne hC 84 dX12_seekRows_77 (by decide) (fun c1012 => ?_) (fun c1012 => ?_)
          · refine aw_aload_n hC 1 dX12_seekRows_84 rfl rfl ?_
            refine aw_getP (b := 73) hC hSt 34 (ms_lt 64 (by decide) hM) (ms_k 64 12 0 (by decide) hM) rfl (by decide) w_927 rfl (ms_p 34 73 (by decide) hM) dX12_seekRows_85 ?_
            refine aw_iload_n hC 4 dX12_seekRows_88 rfl rfl ?_
            refine aw_iald hC hSt (ms_lt 73 (by decide) hM) (ms_k 73 14 6 (by decide) hM) (vp_len (n := 6) (ms_l 73 14 6 (by decide) hM) (h2 c1008 r1009 er1009 x1011 ex1011 c1012)) dX12_seekRows_89 ?_
            refine aw_iconst (v := 1) hC dX12_seekRows_90 (by decide) ?_
            refine aw_iadd hC dX12_seekRows_91 ?_
            simp only [bd_def, if_neg c1012] at Jc1012 ⊢
            exact Jc1012
          · refine aw_iload_n hC 3 dX12_seekRows_80 rfl rfl ?_
            refine aw_goto hC 92 dX12_seekRows_81 (by decide) ?_
            simp only [bd_def, if_pos c1012] at Jc1012 ⊢
            exact Jc1012
      · refine aw_if_lt hC 72 dX12_seekRows_65 (by decide) (fun c1010 => ?_) (fun c1010 => ?_)
        · refine aw_iconst (v := 0) hC dX12_seekRows_72 (by decide) ?_
          simp only [bd_def, if_pos c1010] at Jc1010 ⊢
          exact Jc1010
        · refine aw_iconst (v := 1) hC dX12_seekRows_68 (by decide) ?_
          refine aw_goto hC 73 dX12_seekRows_69 (by decide) ?_
          simp only [bd_def, if_neg c1010] at Jc1010 ⊢
          exact Jc1010
noncomputable def f_X12_seekRows (S : HSt) (_o : Nat) (a1 : Int32) : HSt := bd (((6 : Int32) + ((2 : Int32) * (gI S 68 (2 : Int32).toNatClampNeg)))) fun x1 => bd ((sI S 64 38 (-1000000 : Int32))) fun S2 => bd (f_X12_layLive S2 64) fun r3 => bd (f_X12_keepPath r3 64 (0 : Int32)) fun r4 => bd ((sI r4 74 (0 : Int32).toNatClampNeg (0 : Int32))) fun S5 => bd ((sI S5 75 (0 : Int32).toNatClampNeg (0 : Int32))) fun S6 => bd ((sI S6 73 (0 : Int32).toNatClampNeg (-1 : Int32))) fun S7 => bd (L_X12_seekRows_50 FU S7 a1 x1 (0 : Int32)) fun r8 => r8.2.2.2
def p_X12_seekRows (S : HSt) (_o : Nat) (a1 : Int32) : Prop := (∀ x1 : Int32, ((6 : Int32) + ((2 : Int32) * (gI S 68 (2 : Int32).toNatClampNeg))) = x1 → ∀ S2 : HSt, (sI S 64 38 (-1000000 : Int32)) = S2 → ∀ r3, f_X12_layLive S2 64 = r3 → p_X12_keepPath r3 64 (0 : Int32)) ∧ (∀ x1 : Int32, ((6 : Int32) + ((2 : Int32) * (gI S 68 (2 : Int32).toNatClampNeg))) = x1 → ∀ S2 : HSt, (sI S 64 38 (-1000000 : Int32)) = S2 → ∀ r3, f_X12_layLive S2 64 = r3 → ∀ r4, f_X12_keepPath r3 64 (0 : Int32) = r4 → ∀ S5 : HSt, (sI r4 74 (0 : Int32).toNatClampNeg (0 : Int32)) = S5 → ∀ S6 : HSt, (sI S5 75 (0 : Int32).toNatClampNeg (0 : Int32)) = S6 → ∀ S7 : HSt, (sI S6 73 (0 : Int32).toNatClampNeg (-1 : Int32)) = S7 → T_X12_seekRows_50 FU S7 a1 x1 (0 : Int32))
set_option maxRecDepth 100000 in
theorem t_X12_seekRows (G : GG) (l : Launch) {S : HSt} (hM : MS S) (a1 : Int32) (hp : p_X12_seekRows S 64 a1) : AM G l yX12_seekRows cX12_seekRows 6 none (rmD 6 0 0) 0 0 [.ref 64, .int a1] S (FP none (f_X12_seekRows S 64 a1)) := by
  obtain ⟨h0, h1⟩ := hp
  refine AM.mk (by decide) (Nat.le_of_ble_eq_true rfl) ?_
  intro p e s m below meth c hC hSt _
  refine aw_bipush (v := 6) hC dX12_seekRows_0 (by decide) ?_
  refine aw_iconst (v := 2) hC dX12_seekRows_2 (by decide) ?_
  refine aw_aload_n hC 0 dX12_seekRows_3 rfl rfl ?_
  refine aw_getP (b := 68) hC hSt 5 (ms_lt 64 (by decide) hM) (ms_k 64 12 0 (by decide) hM) rfl (by decide) w_920 rfl (ms_p 5 68 (by decide) hM) dX12_seekRows_4 ?_
  refine aw_iconst (v := 2) hC dX12_seekRows_7 (by decide) ?_
  refine aw_iald hC hSt (ms_lt 68 (by decide) hM) (ms_k 68 14 172 (by decide) hM) (vp_len (n := 172) (ms_l 68 14 172 (by decide) hM) (by unfold vp_in; decide)) dX12_seekRows_8 ?_
  refine aw_imul hC dX12_seekRows_9 ?_
  refine aw_iadd hC dX12_seekRows_10 ?_
  refine aw_istore_n hC [(2, .int _), (0, .ref 64), (1, .int _)] dX12_seekRows_11 rfl (by decide) rfl ?_
  generalize ex1 : ((6 : Int32) + ((2 : Int32) * (gI S 68 (2 : Int32).toNatClampNeg))) = x1
  refine aw_iconst (v := 0) hC dX12_seekRows_12 (by decide) ?_
  refine aw_istore_n hC [(3, .int _), (2, .int _), (0, .ref 64), (1, .int _)] dX12_seekRows_13 rfl (by decide) rfl ?_
  refine aw_aload_n hC 2 dX12_seekRows_14 rfl rfl ?_
  refine aw_ldc (v := -1000000) hC w_923 dX12_seekRows_15 ?_
  refine aw_putI hC hSt 38 (ms_lt 64 (by decide) hM) (ms_k 64 12 0 (by decide) hM) rfl (by decide) w_1214 rfl rfl rfl rfl dX12_seekRows_17 ?_
  generalize eS2 : (sI S 64 38 (-1000000 : Int32)) = S2
  have hM : MS S2 := MS.of (by rw [← eS2]; exact shp_sI _ _ _ _) hM
  refine aw_aload_n hC 2 dX12_seekRows_20 rfl rfl ?_
  refine aw_cV0v hC hSt (t_X12_layLive G l hM ) w_1091 w_1152 w_1153 w_1154 w_953 rfl rfl (by decide +kernel) ⟨Nat.le_of_ble_eq_true rfl, Nat.le_of_ble_eq_true rfl⟩ (ms_lt 64 (by decide) hM) (ms_k 64 12 0 (by decide) hM) rfl (Nat.le_of_ble_eq_true rfl) dX12_seekRows_21 ⟨Nat.zero_le _, Nat.zero_le _⟩ ?_
  generalize er3 : f_X12_layLive S2 64 = r3
  have hM : MS r3 := MS.of (by rw [← er3]; exact q_X12_layLive _ _) hM
  refine aw_aload_n hC 2 dX12_seekRows_24 rfl rfl ?_
  refine aw_iconst (v := 0) hC dX12_seekRows_25 (by decide) ?_
  refine aw_cV1v hC hSt (t_X12_keepPath G l hM _ (h0 x1 ex1 S2 eS2 r3 er3)) w_1207 w_1209 w_1210 w_1211 w_953 rfl rfl (by decide +kernel) ⟨Nat.le_of_ble_eq_true rfl, Nat.le_of_ble_eq_true rfl⟩ (ms_lt 64 (by decide) hM) (ms_k 64 12 0 (by decide) hM) rfl (Nat.le_of_ble_eq_true rfl) dX12_seekRows_26 ⟨Nat.zero_le _, Nat.zero_le _⟩ ?_
  generalize er4 : f_X12_keepPath r3 64 (0 : Int32) = r4
  have hM : MS r4 := MS.of (by rw [← er4]; exact q_X12_keepPath _ _ _) hM
  refine aw_aload_n hC 2 dX12_seekRows_29 rfl rfl ?_
  refine aw_getP (b := 74) hC hSt 35 (ms_lt 64 (by decide) hM) (ms_k 64 12 0 (by decide) hM) rfl (by decide) w_928 rfl (ms_p 35 74 (by decide) hM) dX12_seekRows_30 ?_
  refine aw_iconst (v := 0) hC dX12_seekRows_33 (by decide) ?_
  refine aw_iconst (v := 0) hC dX12_seekRows_34 (by decide) ?_
  refine aw_iast hC hSt (ms_lt 74 (by decide) hM) (ms_k 74 14 6 (by decide) hM) (vp_len (n := 6) (ms_l 74 14 6 (by decide) hM) (by unfold vp_in; decide)) dX12_seekRows_35 ?_
  generalize eS5 : (sI r4 74 (0 : Int32).toNatClampNeg (0 : Int32)) = S5
  have hM : MS S5 := MS.of (by rw [← eS5]; exact shp_sI _ _ _ _) hM
  refine aw_aload_n hC 2 dX12_seekRows_36 rfl rfl ?_
  refine aw_getP (b := 75) hC hSt 36 (ms_lt 64 (by decide) hM) (ms_k 64 12 0 (by decide) hM) rfl (by decide) w_929 rfl (ms_p 36 75 (by decide) hM) dX12_seekRows_37 ?_
  refine aw_iconst (v := 0) hC dX12_seekRows_40 (by decide) ?_
  refine aw_iconst (v := 0) hC dX12_seekRows_41 (by decide) ?_
  refine aw_iast hC hSt (ms_lt 75 (by decide) hM) (ms_k 75 14 6 (by decide) hM) (vp_len (n := 6) (ms_l 75 14 6 (by decide) hM) (by unfold vp_in; decide)) dX12_seekRows_42 ?_
  generalize eS6 : (sI S5 75 (0 : Int32).toNatClampNeg (0 : Int32)) = S6
  have hM : MS S6 := MS.of (by rw [← eS6]; exact shp_sI _ _ _ _) hM
  refine aw_aload_n hC 2 dX12_seekRows_43 rfl rfl ?_
  refine aw_getP (b := 73) hC hSt 34 (ms_lt 64 (by decide) hM) (ms_k 64 12 0 (by decide) hM) rfl (by decide) w_927 rfl (ms_p 34 73 (by decide) hM) dX12_seekRows_44 ?_
  refine aw_iconst (v := 0) hC dX12_seekRows_47 (by decide) ?_
  refine aw_iconst (v := -1) hC dX12_seekRows_48 (by decide) ?_
  refine aw_iast hC hSt (ms_lt 73 (by decide) hM) (ms_k 73 14 6 (by decide) hM) (vp_len (n := 6) (ms_l 73 14 6 (by decide) hM) (by unfold vp_in; decide)) dX12_seekRows_49 ?_
  generalize eS7 : (sI S6 73 (0 : Int32).toNatClampNeg (-1 : Int32)) = S7
  have hM : MS S7 := MS.of (by rw [← eS7]; exact shp_sI _ _ _ _) hM
  refine aw_sub [2, 3, 1, 0] rfl ?_
  refine l_X12_seekRows_50 hC hSt FU _ _ _ _ hM (h1 x1 ex1 S2 eS2 r3 er3 r4 er4 S5 eS5 S6 eS6 S7 eS7) ?_
  generalize er8 : L_X12_seekRows_50 FU S7 a1 x1 (0 : Int32) = r8
  have hM : MS r8.2.2.2 := MS.of (by rw [← er8]; exact qL_X12_seekRows_50 _ _ _ _ _) hM
  refine aw_vret hC dX12_seekRows_171 (Nat.le_refl _) (Nat.le_refl _) ?_
  exact FP.qV ((bd_eq ex1).trans ((bd_eq eS2).trans ((bd_eq er3).trans ((bd_eq er4).trans ((bd_eq eS5).trans ((bd_eq eS6).trans ((bd_eq eS7).trans ((bd_eq er8).trans (rfl)))))))))
theorem q_X12_seekRows (S : HSt) (_o : Nat) (a1 : Int32) : shp (f_X12_seekRows S _o a1) = shp S := by
  unfold f_X12_seekRows
  repeat' (first | with_reducible rfl | with_reducible refine (q_X12_doMove _ _ _ _).trans ?_ | with_reducible refine (q_X12_keepPath _ _ _).trans ?_ | with_reducible refine (q_X12_layLive _ _).trans ?_ | with_reducible refine (q_X12_layPath _ _ _).trans ?_ | with_reducible refine (q_X12_lookRow _ _ _).trans ?_ | with_reducible refine (qL_X12_seekRows_50 _ _ _ _ _).trans ?_ | with_reducible refine (shp_sI _ _ _ _).trans ?_ | with_reducible refine (shp_sJ _ _ _ _).trans ?_ | with_reducible refine shi ?_ ?_ | with_reducible refine shb (fun _ _ => ?_) | (subst_vars; with_reducible rfl) | (subst_vars; with_reducible refine (q_X12_doMove _ _ _ _).trans ?_) | (subst_vars; with_reducible refine (q_X12_keepPath _ _ _).trans ?_) | (subst_vars; with_reducible refine (q_X12_layLive _ _).trans ?_) | (subst_vars; with_reducible refine (q_X12_layPath _ _ _).trans ?_) | (subst_vars; with_reducible refine (q_X12_lookRow _ _ _).trans ?_) | (subst_vars; with_reducible refine (qL_X12_seekRows_50 _ _ _ _ _).trans ?_) | (subst_vars; with_reducible refine (shp_sI _ _ _ _).trans ?_) | (subst_vars; with_reducible refine (shp_sJ _ _ _ _).trans ?_) | (subst_vars; with_reducible refine shi ?_ ?_) | (subst_vars; with_reducible refine shb (fun _ _ => ?_)))
theorem v_X12_seekRows (S : HSt) (_o : Nat) (a1 : Int32) : Fr [(64, 20), (64, 21), (64, 22), (64, 23), (64, 24), (64, 25), (64, 26), (64, 28), (64, 38), (64, 39), (72, 1000), (73, 1000), (74, 1000), (75, 1000), (76, 1000)] S (f_X12_seekRows S _o a1) := by
  unfold f_X12_seekRows
  repeat' (first | with_reducible exact Fr.refl _ _ | with_reducible refine Fr.l1 (fun _ _ => ?_) | with_reducible refine Fr.ite ?_ ?_ | with_reducible refine Fr.sE (by assumption) (by first | decide | simp only [List.mem_cons, List.not_mem_nil, or_false, true_or, or_true, eq_self_iff_true]) ?_ | with_reducible refine Fr.jE (by assumption) ?_ | with_reducible refine Fr.rE (by assumption) (by first | decide | simp only [List.mem_cons, List.not_mem_nil, or_false, true_or, or_true, eq_self_iff_true]) ?_ | with_reducible refine Fr.iE (by assumption) ?_ ?_ | with_reducible refine Fr.tr (w_X12_doMove _ _ _ _ _ (by assumption)) (by first | decide | simp only [List.mem_cons, List.not_mem_nil, or_false, forall_eq_or_imp, forall_eq, true_or, or_true, and_self, eq_self_iff_true]) ?_ | with_reducible refine Fr.tr (w_X12_keepPath _ _ _ _ (by assumption)) (by first | decide | simp only [List.mem_cons, List.not_mem_nil, or_false, forall_eq_or_imp, forall_eq, true_or, or_true, and_self, eq_self_iff_true]) ?_ | with_reducible refine Fr.tr (w_X12_layLive _ _ _ (by assumption)) (by first | decide | simp only [List.mem_cons, List.not_mem_nil, or_false, forall_eq_or_imp, forall_eq, true_or, or_true, and_self, eq_self_iff_true]) ?_ | with_reducible refine Fr.tr (w_X12_layPath _ _ _ _ (by assumption)) (by first | decide | simp only [List.mem_cons, List.not_mem_nil, or_false, forall_eq_or_imp, forall_eq, true_or, or_true, and_self, eq_self_iff_true]) ?_ | with_reducible refine Fr.tr (w_X12_lookRow _ _ _ _ (by assumption)) (by first | decide | simp only [List.mem_cons, List.not_mem_nil, or_false, forall_eq_or_imp, forall_eq, true_or, or_true, and_self, eq_self_iff_true]) ?_ | with_reducible refine Fr.tr (wL_X12_seekRows_50 _ _ _ _ _ _ (by assumption)) (by first | decide | simp only [List.mem_cons, List.not_mem_nil, or_false, forall_eq_or_imp, forall_eq, true_or, or_true, and_self, eq_self_iff_true]) ?_)
theorem w_X12_seekRows (S : HSt) (_o : Nat) (a1 : Int32) (r : HSt) (e : f_X12_seekRows S _o a1 = r) : Fr [(64, 20), (64, 21), (64, 22), (64, 23), (64, 24), (64, 25), (64, 26), (64, 28), (64, 38), (64, 39), (72, 1000), (73, 1000), (74, 1000), (75, 1000), (76, 1000)] S r := by
  rw [← e]
  exact v_X12_seekRows S _o a1
noncomputable def f_X12_moves (S : HSt) (_o : Nat) (a1 : Int32) (a2 : Int32) : Int64 × HSt := bd ((sI S 64 0 (0 : Int32))) fun S1 => if (f_X12_in S1 a1.toInt64 (1 : Int64) (5 : Int64)) = 0 then (pr ((-9000000000000000001 : Int64)) (S1)) else (if (-1 : Int32) ≤ a2 then (if (gI S1 64 7) = 0 then (pr ((-9000000000000000002 : Int64)) (S1)) else (bd (f_X12_seekRows S1 64 a1) fun r5 => bd ((if a2 = (-1 : Int32) then (gI r5 64 39).toInt64 else (if (gI r5 64 38) ≤ a2 then (-1000000 : Int64) else (gI r5 76 a2.toNatClampNeg).toInt64))) fun x8 => pr (x8) (r5))) else (pr ((-9000000000000000001 : Int64)) (S1)))
def p_X12_moves (S : HSt) (_o : Nat) (a1 : Int32) (a2 : Int32) : Prop := (∀ S1 : HSt, (sI S 64 0 (0 : Int32)) = S1 → (¬ (f_X12_in S1 a1.toInt64 (1 : Int64) (5 : Int64)) = 0) → ((-1 : Int32) ≤ a2) → (¬ (gI S1 64 7) = 0) → p_X12_seekRows S1 64 a1) ∧ (∀ S1 : HSt, (sI S 64 0 (0 : Int32)) = S1 → (¬ (f_X12_in S1 a1.toInt64 (1 : Int64) (5 : Int64)) = 0) → ((-1 : Int32) ≤ a2) → (¬ (gI S1 64 7) = 0) → ∀ r5, f_X12_seekRows S1 64 a1 = r5 → (¬ a2 = (-1 : Int32)) → (¬ (gI r5 64 38) ≤ a2) → vp_in a2 5)
set_option maxRecDepth 100000 in
theorem t_X12_moves (G : GG) (l : Launch) {S : HSt} (hM : MS S) (a1 : Int32) (a2 : Int32) (hp : p_X12_moves S 64 a1 a2) : AM G l yX12_moves cX12_moves 3 (some .long) (rmD 7 0 0) 0 0 [.ref 64, .int a1, .int a2] S (FP (some (.long (f_X12_moves S 64 a1 a2).1)) ((f_X12_moves S 64 a1 a2).2)) := by
  obtain ⟨h0, h1⟩ := hp
  refine AM.mk (by decide) (Nat.le_of_ble_eq_true rfl) ?_
  intro p e s m below meth c hC hSt _
  refine aw_aload_n hC 0 dX12_moves_0 rfl rfl ?_
  refine aw_iconst (v := 0) hC dX12_moves_1 (by decide) ?_
  refine aw_putI hC hSt 0 (ms_lt 64 (by decide) hM) (ms_k 64 12 0 (by decide) hM) rfl (by decide) w_955 rfl rfl rfl rfl dX12_moves_2 ?_
  generalize eS1 : (sI S 64 0 (0 : Int32)) = S1
  have hM : MS S1 := MS.of (by rw [← eS1]; exact shp_sI _ _ _ _) hM
  refine aw_iload_n hC 1 dX12_moves_5 rfl rfl ?_
  refine aw_i2l hC dX12_moves_6 ?_
  refine aw_lconst (v := 1) hC dX12_moves_7 (by decide) ?_
  refine aw_ldc2 (v := 5) hC w_1229 dX12_moves_8 ?_
  refine aw_cS3r hC hSt (t_X12_in G l  _ _ _) w_945 w_951 w_952 w_953 rfl rfl (by decide +kernel) ⟨Nat.le_of_ble_eq_true rfl, Nat.le_of_ble_eq_true rfl⟩ (Nat.le_of_ble_eq_true rfl) dX12_moves_11 ⟨Nat.zero_le _, Nat.zero_le _⟩ ?_
  refine aw_if_eq hC 22 dX12_moves_14 (by decide) (fun c2 => ?_) (fun c2 => ?_)
  · refine aw_ldc2 (v := -9000000000000000001) hC w_957 dX12_moves_22 ?_
    refine aw_lret hC dX12_moves_25 (Nat.le_refl _) (Nat.le_refl _) ?_
    exact FP.qJ ((bd_eq eS1).trans ((if_pos c2).trans (rfl)))
  · refine aw_iload_n hC 2 dX12_moves_17 rfl rfl ?_
    refine aw_iconst (v := -1) hC dX12_moves_18 (by decide) ?_
    refine aw_icmp_ge hC 26 dX12_moves_19 (by decide) (fun c3 => ?_) (fun c3 => ?_)
    · refine aw_aload_n hC 0 dX12_moves_26 rfl rfl ?_
      refine aw_getI hC hSt 7 (ms_lt 64 (by decide) hM) (ms_k 64 12 0 (by decide) hM) rfl (by decide) w_1051 rfl dX12_moves_27 ?_
      refine aw_if_ne hC 37 dX12_moves_30 (by decide) (fun c4 => ?_) (fun c4 => ?_)
      · refine aw_aload_n hC 0 dX12_moves_37 rfl rfl ?_
        refine aw_iload_n hC 1 dX12_moves_38 rfl rfl ?_
        refine aw_cV1v hC hSt (t_X12_seekRows G l hM _ (h0 S1 eS1 c2 c3 c4)) w_1228 w_1230 w_1231 w_1232 w_953 rfl rfl (by decide +kernel) ⟨Nat.le_of_ble_eq_true rfl, Nat.le_of_ble_eq_true rfl⟩ (ms_lt 64 (by decide) hM) (ms_k 64 12 0 (by decide) hM) rfl (Nat.le_of_ble_eq_true rfl) dX12_moves_39 ⟨Nat.zero_le _, Nat.zero_le _⟩ ?_
        generalize er5 : f_X12_seekRows S1 64 a1 = r5
        have hM : MS r5 := MS.of (by rw [← er5]; exact q_X12_seekRows _ _ _) hM
        refine aw_iload_n hC 2 dX12_moves_42 rfl rfl ?_
        refine aw_iconst (v := -1) hC dX12_moves_43 (by decide) ?_
        refine aw_cut (S' := r5) (pc' := 76) (lv' := [(0, .ref 64), (1, .int a1), (2, .int a2)]) (st' := [.long (if a2 = (-1 : Int32) then (gI r5 64 39).toInt64 else (if (gI r5 64 38) ≤ a2 then (-1000000 : Int64) else (gI r5 76 a2.toNatClampNeg).toInt64))]) ?_ (fun Jc6 => ?_)
        · generalize ex8 : (if a2 = (-1 : Int32) then (gI r5 64 39).toInt64 else (if (gI r5 64 38) ≤ a2 then (-1000000 : Int64) else (gI r5 76 a2.toNatClampNeg).toInt64)) = x8
          refine aw_lret hC dX12_moves_76 (Nat.le_refl _) (Nat.le_refl _) ?_
          exact FP.qJ ((bd_eq eS1).trans ((if_neg c2).trans ((if_pos c3).trans ((if_neg c4).trans ((bd_eq er5).trans ((bd_eq ex8).trans (rfl)))))))
        · refine aw_icmp_ne hC 55 dX12_moves_44 (by decide) (fun c6 => ?_) (fun c6 => ?_)
          · refine aw_iload_n hC 2 dX12_moves_55 rfl rfl ?_
            refine aw_aload_n hC 0 dX12_moves_56 rfl rfl ?_
            refine aw_getI hC hSt 38 (ms_lt 64 (by decide) hM) (ms_k 64 12 0 (by decide) hM) rfl (by decide) w_1214 rfl dX12_moves_57 ?_
            refine aw_icmp_ge hC 73 dX12_moves_60 (by decide) (fun c7 => ?_) (fun c7 => ?_)
            · refine aw_ldc2 (v := -1000000) hC w_1176 dX12_moves_73 ?_
              simp only [bd_def, if_neg c6, if_pos c7] at Jc6 ⊢
              exact Jc6
            · refine aw_aload_n hC 0 dX12_moves_63 rfl rfl ?_
              refine aw_getP (b := 76) hC hSt 37 (ms_lt 64 (by decide) hM) (ms_k 64 12 0 (by decide) hM) rfl (by decide) w_930 rfl (ms_p 37 76 (by decide) hM) dX12_moves_64 ?_
              refine aw_iload_n hC 2 dX12_moves_67 rfl rfl ?_
              refine aw_iald hC hSt (ms_lt 76 (by decide) hM) (ms_k 76 14 5 (by decide) hM) (vp_len (n := 5) (ms_l 76 14 5 (by decide) hM) (h1 S1 eS1 c2 c3 c4 r5 er5 c6 c7)) dX12_moves_68 ?_
              refine aw_i2l hC dX12_moves_69 ?_
              refine aw_goto hC 76 dX12_moves_70 (by decide) ?_
              simp only [bd_def, if_neg c6, if_neg c7] at Jc6 ⊢
              exact Jc6
          · refine aw_aload_n hC 0 dX12_moves_47 rfl rfl ?_
            refine aw_getI hC hSt 39 (ms_lt 64 (by decide) hM) (ms_k 64 12 0 (by decide) hM) rfl (by decide) w_1215 rfl dX12_moves_48 ?_
            refine aw_i2l hC dX12_moves_51 ?_
            refine aw_goto hC 76 dX12_moves_52 (by decide) ?_
            simp only [bd_def, if_pos c6] at Jc6 ⊢
            exact Jc6
      · refine aw_ldc2 (v := -9000000000000000002) hC w_1151 dX12_moves_33 ?_
        refine aw_lret hC dX12_moves_36 (Nat.le_refl _) (Nat.le_refl _) ?_
        exact FP.qJ ((bd_eq eS1).trans ((if_neg c2).trans ((if_pos c3).trans ((if_pos c4).trans (rfl)))))
    · refine aw_ldc2 (v := -9000000000000000001) hC w_957 dX12_moves_22 ?_
      refine aw_lret hC dX12_moves_25 (Nat.le_refl _) (Nat.le_refl _) ?_
      exact FP.qJ ((bd_eq eS1).trans ((if_neg c2).trans ((if_neg c3).trans (rfl))))
theorem q_X12_moves (S : HSt) (_o : Nat) (a1 : Int32) (a2 : Int32) : shp ((f_X12_moves S _o a1 a2).2) = shp S := by
  unfold f_X12_moves
  repeat' (first | with_reducible refine shpr1 ?_ | with_reducible rfl | with_reducible refine (q_X12_seekRows _ _ _).trans ?_ | with_reducible refine (shp_sI _ _ _ _).trans ?_ | with_reducible refine (shp_sJ _ _ _ _).trans ?_ | with_reducible refine shi ?_ ?_ | with_reducible refine shb (fun _ _ => ?_) | with_reducible refine shiP (fun q : Int64 × HSt => q.2) ?_ ?_ | with_reducible refine shbP (fun q : Int64 × HSt => q.2) (fun _ _ => ?_) | (subst_vars; with_reducible rfl) | (subst_vars; with_reducible refine (q_X12_seekRows _ _ _).trans ?_) | (subst_vars; with_reducible refine (shp_sI _ _ _ _).trans ?_) | (subst_vars; with_reducible refine (shp_sJ _ _ _ _).trans ?_) | (subst_vars; with_reducible refine shi ?_ ?_) | (subst_vars; with_reducible refine shb (fun _ _ => ?_)))
theorem v_X12_moves (S : HSt) (_o : Nat) (a1 : Int32) (a2 : Int32) : Fr [(64, 0), (64, 20), (64, 21), (64, 22), (64, 23), (64, 24), (64, 25), (64, 26), (64, 28), (64, 38), (64, 39), (72, 1000), (73, 1000), (74, 1000), (75, 1000), (76, 1000)] S ((f_X12_moves S _o a1 a2).2) := by
  unfold f_X12_moves
  repeat' (first | with_reducible refine frpr1 ?_ | with_reducible exact Fr.refl _ _ | with_reducible refine Fr.lP (fun q : Int64 × HSt => q.2) (fun _ _ => ?_) | with_reducible refine Fr.iteP (fun q : Int64 × HSt => q.2) ?_ ?_ | with_reducible refine Fr.l1 (fun _ _ => ?_) | with_reducible refine Fr.ite ?_ ?_ | with_reducible refine Fr.sE (by assumption) (by first | decide | simp only [List.mem_cons, List.not_mem_nil, or_false, true_or, or_true, eq_self_iff_true]) ?_ | with_reducible refine Fr.jE (by assumption) ?_ | with_reducible refine Fr.rE (by assumption) (by first | decide | simp only [List.mem_cons, List.not_mem_nil, or_false, true_or, or_true, eq_self_iff_true]) ?_ | with_reducible refine Fr.iE (by assumption) ?_ ?_ | with_reducible refine Fr.tr (w_X12_seekRows _ _ _ _ (by assumption)) (by first | decide | simp only [List.mem_cons, List.not_mem_nil, or_false, forall_eq_or_imp, forall_eq, true_or, or_true, and_self, eq_self_iff_true]) ?_)
theorem w_X12_moves (S : HSt) (_o : Nat) (a1 : Int32) (a2 : Int32) (r : Int64 × HSt) (e : f_X12_moves S _o a1 a2 = r) : Fr [(64, 0), (64, 20), (64, 21), (64, 22), (64, 23), (64, 24), (64, 25), (64, 26), (64, 28), (64, 38), (64, 39), (72, 1000), (73, 1000), (74, 1000), (75, 1000), (76, 1000)] S r.2 := by
  rw [← e]
  exact v_X12_moves S _o a1 a2
noncomputable def F_X12_placeOf (S : HSt) (a1 : Int32) (a2 : Int32) (a3 : Int32) : Int32 × HSt := pr ((((((16 : Int32) * a1) + a2) * (201 : Int32)) + a3)) (S)
noncomputable def f_X12_placeOf (S : HSt) (a1 : Int32) (a2 : Int32) (a3 : Int32) : Int32 := (F_X12_placeOf S a1 a2 a3).1
set_option maxRecDepth 100000 in
theorem t_X12_placeOf (G : GG) (l : Launch) {S : HSt} (a1 : Int32) (a2 : Int32) (a3 : Int32)  : AM G l yX12_placeOf cX12_placeOf 3 (some .int) (rmD 0 0 0) 0 0 [.int a1, .int a2, .int a3] S (FP (some (.int (f_X12_placeOf S a1 a2 a3))) (S)) := by
  refine AM.mk (by decide) (Nat.le_of_ble_eq_true rfl) ?_
  intro p e s m below meth c hC hSt _
  refine aw_bipush (v := 16) hC dX12_placeOf_0 (by decide) ?_
  refine aw_iload_n hC 0 dX12_placeOf_2 rfl rfl ?_
  refine aw_imul hC dX12_placeOf_3 ?_
  refine aw_iload_n hC 1 dX12_placeOf_4 rfl rfl ?_
  refine aw_iadd hC dX12_placeOf_5 ?_
  refine aw_sipush (v := 201) hC dX12_placeOf_6 (by decide) ?_
  refine aw_imul hC dX12_placeOf_9 ?_
  refine aw_iload_n hC 2 dX12_placeOf_10 rfl rfl ?_
  refine aw_iadd hC dX12_placeOf_11 ?_
  refine aw_iret hC dX12_placeOf_12 (Nat.le_refl _) (Nat.le_refl _) ?_
  exact FP.pI (rfl)
noncomputable def L_X12_goOn_12 : Nat → HSt → Int32 → Int32 → Int32 → Int32 → Int32 × Int32 × Int32 × Int32 × HSt
  | 0, S, v1, v2, v3, v4 => (v1, v2, v3, v4, S)
  | n + 1, S, v1, v2, v3, v4 =>
    if (582096 : Int32) ≤ v4 then ((pr (v1) (pr (v2) (pr (v3) (pr (v4) (S)))))) else (bd ((sI S 78 v4.toNatClampNeg (vp_nar .boolean (0 : Int32)))) fun S1003 => L_X12_goOn_12 n S1003 v1 v2 v3 (v4 + (1 : Int32)))
def T_X12_goOn_12 : Nat → HSt → Int32 → Int32 → Int32 → Int32 → Prop
  | 0, _, _, _, _, _ => False
  | n + 1, S, v1, v2, v3, v4 => ((¬ (582096 : Int32) ≤ v4) → vp_in v4 582096) ∧ ((¬ (582096 : Int32) ≤ v4) → ∀ S1003 : HSt, (sI S 78 v4.toNatClampNeg (vp_nar .boolean (0 : Int32))) = S1003 → T_X12_goOn_12 n S1003 v1 v2 v3 (v4 + (1 : Int32)))
theorem qL_X12_goOn_12 : ∀ (n : Nat) (S : HSt) (v1 : Int32) (v2 : Int32) (v3 : Int32) (v4 : Int32), shp (L_X12_goOn_12 n S v1 v2 v3 v4).2.2.2.2 = shp S := by
  intro n
  induction n with
  | zero => intros; rfl
  | succ n ih =>
    intro S v1 v2 v3 v4
    unfold L_X12_goOn_12
    repeat' (first | with_reducible refine shpr4 ?_ | with_reducible rfl | with_reducible refine (ih _ _ _ _ _).trans ?_ | with_reducible refine (q_X12_doTick _ _ _ _ _ _).trans ?_ | with_reducible refine (shp_sI _ _ _ _).trans ?_ | with_reducible refine (shp_sJ _ _ _ _).trans ?_ | with_reducible refine shi ?_ ?_ | with_reducible refine shb (fun _ _ => ?_) | with_reducible refine shiP (fun q : Int32 × Int32 × Int32 × Int32 × HSt => q.2.2.2.2) ?_ ?_ | with_reducible refine shbP (fun q : Int32 × Int32 × Int32 × Int32 × HSt => q.2.2.2.2) (fun _ _ => ?_) | (subst_vars; with_reducible rfl) | (subst_vars; with_reducible refine (ih _ _ _ _ _).trans ?_) | (subst_vars; with_reducible refine (q_X12_doTick _ _ _ _ _ _).trans ?_) | (subst_vars; with_reducible refine (shp_sI _ _ _ _).trans ?_) | (subst_vars; with_reducible refine (shp_sJ _ _ _ _).trans ?_) | (subst_vars; with_reducible refine shi ?_ ?_) | (subst_vars; with_reducible refine shb (fun _ _ => ?_)))
theorem vL_X12_goOn_12 : ∀ (n : Nat) (S : HSt) (v1 : Int32) (v2 : Int32) (v3 : Int32) (v4 : Int32), Fr [(78, 1000)] S (L_X12_goOn_12 n S v1 v2 v3 v4).2.2.2.2 := by
  intro n
  induction n with
  | zero => intros; exact Fr.refl _ _
  | succ n ih =>
    intro S v1 v2 v3 v4
    unfold L_X12_goOn_12
    repeat' (first | with_reducible refine frpr4 ?_ | with_reducible exact Fr.refl _ _ | with_reducible refine Fr.lP (fun q : Int32 × Int32 × Int32 × Int32 × HSt => q.2.2.2.2) (fun _ _ => ?_) | with_reducible refine Fr.iteP (fun q : Int32 × Int32 × Int32 × Int32 × HSt => q.2.2.2.2) ?_ ?_ | with_reducible refine Fr.l1 (fun _ _ => ?_) | with_reducible refine Fr.ite ?_ ?_ | with_reducible refine Fr.sE (by assumption) (by first | decide | simp only [List.mem_cons, List.not_mem_nil, or_false, true_or, or_true, eq_self_iff_true]) ?_ | with_reducible refine Fr.jE (by assumption) ?_ | with_reducible refine Fr.rE (by assumption) (by first | decide | simp only [List.mem_cons, List.not_mem_nil, or_false, true_or, or_true, eq_self_iff_true]) ?_ | with_reducible refine Fr.iE (by assumption) ?_ ?_ | with_reducible refine Fr.tr (ih _ _ _ _ _) (by first | decide | simp only [List.mem_cons, List.not_mem_nil, or_false, forall_eq_or_imp, forall_eq, true_or, or_true, and_self, eq_self_iff_true]) ?_ | with_reducible refine Fr.tr (w_X12_doTick _ _ _ _ _ _ _ (by assumption)) (by first | decide | simp only [List.mem_cons, List.not_mem_nil, or_false, forall_eq_or_imp, forall_eq, true_or, or_true, and_self, eq_self_iff_true]) ?_)
theorem wL_X12_goOn_12 (n : Nat) (S : HSt) (v1 : Int32) (v2 : Int32) (v3 : Int32) (v4 : Int32) (r : Int32 × Int32 × Int32 × Int32 × HSt) (e : L_X12_goOn_12 n S v1 v2 v3 v4 = r) : Fr [(78, 1000)] S r.2.2.2.2 := by
  rw [← e]
  exact vL_X12_goOn_12 n S v1 v2 v3 v4
set_option maxRecDepth 100000 in
theorem l_X12_goOn_12 {p : Program} {l : Launch} {e : Env} {s : State} {m : MethodId} {args : Array Value} {below : List Frame} {meth : Method} {c : Code} {G : GG} {Q : State → Prop} (hC : ACx p s m args meth c cX12_goOn RX12 8 (some .int)) (hSt : St G s)  : ∀ (n : Nat) (S : HSt) (v1 : Int32) (v2 : Int32) (v3 : Int32) (v4 : Int32), MS S → T_X12_goOn_12 n S v1 v2 v3 v4 → AW p l e (rmD 3 0 0) s m args below meth c G 8 Q (L_X12_goOn_12 n S v1 v2 v3 v4).2.2.2.2 0 0 33 [(0, .ref 64), (1, .int (L_X12_goOn_12 n S v1 v2 v3 v4).1), (2, .int (L_X12_goOn_12 n S v1 v2 v3 v4).2.1), (3, .int (L_X12_goOn_12 n S v1 v2 v3 v4).2.2.1), (4, .int (L_X12_goOn_12 n S v1 v2 v3 v4).2.2.2.1)] [] → AW p l e (rmD 3 0 0) s m args below meth c G 8 Q S 0 0 12 [(0, .ref 64), (1, .int v1), (2, .int v2), (3, .int v3), (4, .int v4)] [] := by
  intro n
  induction n with
  | zero => intro S v1 v2 v3 v4 _ hT; exact hT.elim
  | succ n ih =>
    intro S v1 v2 v3 v4 hM hT hk
    unfold T_X12_goOn_12 at hT
    obtain ⟨h0, h1⟩ := hT
    refine aw_iload hC 4 dX12_goOn_12 rfl ?_
    refine aw_ldc (v := 582096) hC w_931 dX12_goOn_14 ?_
    refine aw_icmp_ge hC 33 dX12_goOn_16 (by decide) (fun c1002 => ?_) (fun c1002 => ?_)
    · refine aw_sub [0, 1, 2, 3, 4] rfl ?_
      have E : L_X12_goOn_12 (n + 1) S v1 v2 v3 v4 = _ := (if_pos c1002).trans (rfl)
      rw [E] at hk
      exact hk
    · refine aw_aload_n hC 0 dX12_goOn_19 rfl rfl ?_
      refine aw_getP (b := 78) hC hSt 41 (ms_lt 64 (by decide) hM) (ms_k 64 12 0 (by decide) hM) rfl (by decide) w_934 rfl (ms_p 41 78 (by decide) hM) dX12_goOn_20 ?_
      refine aw_iload hC 4 dX12_goOn_23 rfl ?_
      refine aw_iconst (v := 0) hC dX12_goOn_25 (by decide) ?_
      refine aw_zast hC hSt (ms_lt 78 (by decide) hM) (ms_k 78 16 582096 (by decide) hM) (vp_len (n := 582096) (ms_l 78 16 582096 (by decide) hM) (h0 c1002)) dX12_goOn_26 ?_
      generalize eS1003 : (sI S 78 v4.toNatClampNeg (vp_nar .boolean (0 : Int32))) = S1003
      have hM : MS S1003 := MS.of (by rw [← eS1003]; exact shp_sI _ _ _ _) hM
      refine aw_iinc (v := (v4 + (1 : Int32))) hC 4 [(4, .int _), (0, .ref 64), (1, .int _), (2, .int _), (3, .int _)] dX12_goOn_27 rfl rfl (by decide) rfl ?_
      refine aw_goto hC 12 dX12_goOn_30 (by decide) ?_
      refine aw_sub [1, 2, 3, 4, 0] rfl ?_
      have hTn := (h1 c1002 S1003 eS1003)
      have hMn : MS S1003 := hM
      have E : L_X12_goOn_12 (n + 1) S v1 v2 v3 v4 = _ := (if_neg c1002).trans ((bd_eq eS1003).trans (rfl))
      rw [E] at hk
      exact ih _ _ _ _ _ hMn hTn hk
noncomputable def L_X12_goOn_86 : Nat → HSt → Int32 → Int32 → Int32 → Int32 → Int32 → Int32 → Int32 → Int32 × Int32 × Int32 × Int32 × Int32 × Int32 × Int32 × HSt
  | 0, S, v1, v2, v3, v4, v5, v6, v7 => (v1, v2, v3, v4, v5, v6, v7, S)
  | n + 1, S, v1, v2, v3, v4, v5, v6, v7 =>
    if (6 : Int32) ≤ v7 then ((pr (v1) (pr (v2) (pr (v3) (pr (v4) (pr (v5) (pr (v6) (pr (v7) (S))))))))) else (bd ((sI S 64 20 v6)) fun S4008 => bd ((sI S4008 64 21 v5)) fun S4009 => bd ((sI S4009 64 23 (v2 + v4))) fun S4010 => bd ((sI S4010 64 22 (0 : Int32))) fun S4011 => bd ((if (v7 - v7 / (2 : Int32) * (2 : Int32)) = 0 then (4 : Int32) else (8 : Int32))) fun x4013 => bd (f_X12_doTick S4011 64 (0 : Int32) ((v7 / (2 : Int32)) + (1 : Int32)) x4013 (-1000000 : Int32)) fun r4014 => bd ((sI r4014 78 (f_X12_placeOf r4014 ((gI r4014 64 23) - v2) (gI r4014 64 21) (gI r4014 64 20)).toNatClampNeg (vp_nar .boolean (1 : Int32)))) fun S4015 => bd ((if (gI S4015 64 20) ≤ v3 then v3 else (gI S4015 64 20))) fun x4017 => L_X12_goOn_86 n S4015 v1 v2 x4017 v4 v5 v6 (v7 + (1 : Int32)))
def T_X12_goOn_86 : Nat → HSt → Int32 → Int32 → Int32 → Int32 → Int32 → Int32 → Int32 → Prop
  | 0, _, _, _, _, _, _, _, _ => False
  | n + 1, S, v1, v2, v3, v4, v5, v6, v7 => ((¬ (6 : Int32) ≤ v7) → ∀ S4008 : HSt, (sI S 64 20 v6) = S4008 → ∀ S4009 : HSt, (sI S4008 64 21 v5) = S4009 → ∀ S4010 : HSt, (sI S4009 64 23 (v2 + v4)) = S4010 → ∀ S4011 : HSt, (sI S4010 64 22 (0 : Int32)) = S4011 → ∀ x4013 : Int32, (if (v7 - v7 / (2 : Int32) * (2 : Int32)) = 0 then (4 : Int32) else (8 : Int32)) = x4013 → p_X12_doTick S4011 64 (0 : Int32) ((v7 / (2 : Int32)) + (1 : Int32)) x4013 (-1000000 : Int32)) ∧ ((¬ (6 : Int32) ≤ v7) → ∀ S4008 : HSt, (sI S 64 20 v6) = S4008 → ∀ S4009 : HSt, (sI S4008 64 21 v5) = S4009 → ∀ S4010 : HSt, (sI S4009 64 23 (v2 + v4)) = S4010 → ∀ S4011 : HSt, (sI S4010 64 22 (0 : Int32)) = S4011 → ∀ x4013 : Int32, (if (v7 - v7 / (2 : Int32) * (2 : Int32)) = 0 then (4 : Int32) else (8 : Int32)) = x4013 → ∀ r4014, f_X12_doTick S4011 64 (0 : Int32) ((v7 / (2 : Int32)) + (1 : Int32)) x4013 (-1000000 : Int32) = r4014 → vp_in (f_X12_placeOf r4014 ((gI r4014 64 23) - v2) (gI r4014 64 21) (gI r4014 64 20)) 582096) ∧ ((¬ (6 : Int32) ≤ v7) → ∀ S4008 : HSt, (sI S 64 20 v6) = S4008 → ∀ S4009 : HSt, (sI S4008 64 21 v5) = S4009 → ∀ S4010 : HSt, (sI S4009 64 23 (v2 + v4)) = S4010 → ∀ S4011 : HSt, (sI S4010 64 22 (0 : Int32)) = S4011 → ∀ x4013 : Int32, (if (v7 - v7 / (2 : Int32) * (2 : Int32)) = 0 then (4 : Int32) else (8 : Int32)) = x4013 → ∀ r4014, f_X12_doTick S4011 64 (0 : Int32) ((v7 / (2 : Int32)) + (1 : Int32)) x4013 (-1000000 : Int32) = r4014 → ∀ S4015 : HSt, (sI r4014 78 (f_X12_placeOf r4014 ((gI r4014 64 23) - v2) (gI r4014 64 21) (gI r4014 64 20)).toNatClampNeg (vp_nar .boolean (1 : Int32))) = S4015 → ∀ x4017 : Int32, (if (gI S4015 64 20) ≤ v3 then v3 else (gI S4015 64 20)) = x4017 → T_X12_goOn_86 n S4015 v1 v2 x4017 v4 v5 v6 (v7 + (1 : Int32)))
theorem qL_X12_goOn_86 : ∀ (n : Nat) (S : HSt) (v1 : Int32) (v2 : Int32) (v3 : Int32) (v4 : Int32) (v5 : Int32) (v6 : Int32) (v7 : Int32), shp (L_X12_goOn_86 n S v1 v2 v3 v4 v5 v6 v7).2.2.2.2.2.2.2 = shp S := by
  intro n
  induction n with
  | zero => intros; rfl
  | succ n ih =>
    intro S v1 v2 v3 v4 v5 v6 v7
    unfold L_X12_goOn_86
    repeat' (first | with_reducible refine shpr7 ?_ | with_reducible rfl | with_reducible refine (ih _ _ _ _ _ _ _ _).trans ?_ | with_reducible refine (q_X12_doTick _ _ _ _ _ _).trans ?_ | with_reducible refine (qL_X12_goOn_12 _ _ _ _ _ _).trans ?_ | with_reducible refine (shp_sI _ _ _ _).trans ?_ | with_reducible refine (shp_sJ _ _ _ _).trans ?_ | with_reducible refine shi ?_ ?_ | with_reducible refine shb (fun _ _ => ?_) | with_reducible refine shiP (fun q : Int32 × Int32 × Int32 × Int32 × Int32 × Int32 × Int32 × HSt => q.2.2.2.2.2.2.2) ?_ ?_ | with_reducible refine shbP (fun q : Int32 × Int32 × Int32 × Int32 × Int32 × Int32 × Int32 × HSt => q.2.2.2.2.2.2.2) (fun _ _ => ?_) | (subst_vars; with_reducible rfl) | (subst_vars; with_reducible refine (ih _ _ _ _ _ _ _ _).trans ?_) | (subst_vars; with_reducible refine (q_X12_doTick _ _ _ _ _ _).trans ?_) | (subst_vars; with_reducible refine (qL_X12_goOn_12 _ _ _ _ _ _).trans ?_) | (subst_vars; with_reducible refine (shp_sI _ _ _ _).trans ?_) | (subst_vars; with_reducible refine (shp_sJ _ _ _ _).trans ?_) | (subst_vars; with_reducible refine shi ?_ ?_) | (subst_vars; with_reducible refine shb (fun _ _ => ?_)))
theorem vL_X12_goOn_86 : ∀ (n : Nat) (S : HSt) (v1 : Int32) (v2 : Int32) (v3 : Int32) (v4 : Int32) (v5 : Int32) (v6 : Int32) (v7 : Int32), Fr [(64, 20), (64, 21), (64, 22), (64, 23), (64, 24), (64, 25), (64, 26), (78, 1000)] S (L_X12_goOn_86 n S v1 v2 v3 v4 v5 v6 v7).2.2.2.2.2.2.2 := by
  intro n
  induction n with
  | zero => intros; exact Fr.refl _ _
  | succ n ih =>
    intro S v1 v2 v3 v4 v5 v6 v7
    unfold L_X12_goOn_86
    repeat' (first | with_reducible refine frpr7 ?_ | with_reducible exact Fr.refl _ _ | with_reducible refine Fr.lP (fun q : Int32 × Int32 × Int32 × Int32 × Int32 × Int32 × Int32 × HSt => q.2.2.2.2.2.2.2) (fun _ _ => ?_) | with_reducible refine Fr.iteP (fun q : Int32 × Int32 × Int32 × Int32 × Int32 × Int32 × Int32 × HSt => q.2.2.2.2.2.2.2) ?_ ?_ | with_reducible refine Fr.l1 (fun _ _ => ?_) | with_reducible refine Fr.ite ?_ ?_ | with_reducible refine Fr.sE (by assumption) (by first | decide | simp only [List.mem_cons, List.not_mem_nil, or_false, true_or, or_true, eq_self_iff_true]) ?_ | with_reducible refine Fr.jE (by assumption) ?_ | with_reducible refine Fr.rE (by assumption) (by first | decide | simp only [List.mem_cons, List.not_mem_nil, or_false, true_or, or_true, eq_self_iff_true]) ?_ | with_reducible refine Fr.iE (by assumption) ?_ ?_ | with_reducible refine Fr.tr (ih _ _ _ _ _ _ _ _) (by first | decide | simp only [List.mem_cons, List.not_mem_nil, or_false, forall_eq_or_imp, forall_eq, true_or, or_true, and_self, eq_self_iff_true]) ?_ | with_reducible refine Fr.tr (w_X12_doTick _ _ _ _ _ _ _ (by assumption)) (by first | decide | simp only [List.mem_cons, List.not_mem_nil, or_false, forall_eq_or_imp, forall_eq, true_or, or_true, and_self, eq_self_iff_true]) ?_ | with_reducible refine Fr.tr (wL_X12_goOn_12 _ _ _ _ _ _ _ (by assumption)) (by first | decide | simp only [List.mem_cons, List.not_mem_nil, or_false, forall_eq_or_imp, forall_eq, true_or, or_true, and_self, eq_self_iff_true]) ?_)
theorem wL_X12_goOn_86 (n : Nat) (S : HSt) (v1 : Int32) (v2 : Int32) (v3 : Int32) (v4 : Int32) (v5 : Int32) (v6 : Int32) (v7 : Int32) (r : Int32 × Int32 × Int32 × Int32 × Int32 × Int32 × Int32 × HSt) (e : L_X12_goOn_86 n S v1 v2 v3 v4 v5 v6 v7 = r) : Fr [(64, 20), (64, 21), (64, 22), (64, 23), (64, 24), (64, 25), (64, 26), (78, 1000)] S r.2.2.2.2.2.2.2 := by
  rw [← e]
  exact vL_X12_goOn_86 n S v1 v2 v3 v4 v5 v6 v7
set_option maxRecDepth 100000 in
theorem l_X12_goOn_86 {p : Program} {l : Launch} {e : Env} {s : State} {m : MethodId} {args : Array Value} {below : List Frame} {meth : Method} {c : Code} {G : GG} {Q : State → Prop} (hC : ACx p s m args meth c cX12_goOn RX12 8 (some .int)) (hSt : St G s)  : ∀ (n : Nat) (S : HSt) (v1 : Int32) (v2 : Int32) (v3 : Int32) (v4 : Int32) (v5 : Int32) (v6 : Int32) (v7 : Int32), MS S → T_X12_goOn_86 n S v1 v2 v3 v4 v5 v6 v7 → AW p l e (rmD 3 0 0) s m args below meth c G 8 Q (L_X12_goOn_86 n S v1 v2 v3 v4 v5 v6 v7).2.2.2.2.2.2.2 0 0 190 [(0, .ref 64), (1, .int (L_X12_goOn_86 n S v1 v2 v3 v4 v5 v6 v7).1), (2, .int (L_X12_goOn_86 n S v1 v2 v3 v4 v5 v6 v7).2.1), (3, .int (L_X12_goOn_86 n S v1 v2 v3 v4 v5 v6 v7).2.2.1), (4, .int (L_X12_goOn_86 n S v1 v2 v3 v4 v5 v6 v7).2.2.2.1), (5, .int (L_X12_goOn_86 n S v1 v2 v3 v4 v5 v6 v7).2.2.2.2.1), (6, .int (L_X12_goOn_86 n S v1 v2 v3 v4 v5 v6 v7).2.2.2.2.2.1), (7, .int (L_X12_goOn_86 n S v1 v2 v3 v4 v5 v6 v7).2.2.2.2.2.2.1)] [] → AW p l e (rmD 3 0 0) s m args below meth c G 8 Q S 0 0 86 [(0, .ref 64), (1, .int v1), (2, .int v2), (3, .int v3), (4, .int v4), (5, .int v5), (6, .int v6), (7, .int v7)] [] := by
  intro n
  induction n with
  | zero => intro S v1 v2 v3 v4 v5 v6 v7 _ hT; exact hT.elim
  | succ n ih =>
    intro S v1 v2 v3 v4 v5 v6 v7 hM hT hk
    unfold T_X12_goOn_86 at hT
    obtain ⟨h0, h1, h2⟩ := hT
    refine aw_iload hC 7 dX12_goOn_86 rfl ?_
    refine aw_bipush (v := 6) hC dX12_goOn_88 (by decide) ?_
    refine aw_icmp_ge hC 190 dX12_goOn_90 (by decide) (fun c4007 => ?_) (fun c4007 => ?_)
    · refine aw_sub [0, 1, 2, 3, 4, 5, 6, 7] rfl ?_
      have E : L_X12_goOn_86 (n + 1) S v1 v2 v3 v4 v5 v6 v7 = _ := (if_pos c4007).trans (rfl)
      rw [E] at hk
      exact hk
    · refine aw_aload_n hC 0 dX12_goOn_93 rfl rfl ?_
      refine aw_iload hC 6 dX12_goOn_94 rfl ?_
      refine aw_putI hC hSt 20 (ms_lt 64 (by decide) hM) (ms_k 64 12 0 (by decide) hM) rfl (by decide) w_1032 rfl rfl rfl rfl dX12_goOn_96 ?_
      generalize eS4008 : (sI S 64 20 v6) = S4008
      have hM : MS S4008 := MS.of (by rw [← eS4008]; exact shp_sI _ _ _ _) hM
      refine aw_aload_n hC 0 dX12_goOn_99 rfl rfl ?_
      refine aw_iload hC 5 dX12_goOn_100 rfl ?_
      refine aw_putI hC hSt 21 (ms_lt 64 (by decide) hM) (ms_k 64 12 0 (by decide) hM) rfl (by decide) w_1033 rfl rfl rfl rfl dX12_goOn_102 ?_
      generalize eS4009 : (sI S4008 64 21 v5) = S4009
      have hM : MS S4009 := MS.of (by rw [← eS4009]; exact shp_sI _ _ _ _) hM
      refine aw_aload_n hC 0 dX12_goOn_105 rfl rfl ?_
      refine aw_iload_n hC 2 dX12_goOn_106 rfl rfl ?_
      refine aw_iload hC 4 dX12_goOn_107 rfl ?_
      refine aw_iadd hC dX12_goOn_109 ?_
      refine aw_putI hC hSt 23 (ms_lt 64 (by decide) hM) (ms_k 64 12 0 (by decide) hM) rfl (by decide) w_1035 rfl rfl rfl rfl dX12_goOn_110 ?_
      generalize eS4010 : (sI S4009 64 23 (v2 + v4)) = S4010
      have hM : MS S4010 := MS.of (by rw [← eS4010]; exact shp_sI _ _ _ _) hM
      refine aw_aload_n hC 0 dX12_goOn_113 rfl rfl ?_
      refine aw_iconst (v := 0) hC dX12_goOn_114 (by decide) ?_
      refine aw_putI hC hSt 22 (ms_lt 64 (by decide) hM) (ms_k 64 12 0 (by decide) hM) rfl (by decide) w_1034 rfl rfl rfl rfl dX12_goOn_115 ?_
      generalize eS4011 : (sI S4010 64 22 (0 : Int32)) = S4011
      have hM : MS S4011 := MS.of (by rw [← eS4011]; exact shp_sI _ _ _ _) hM
      refine aw_aload_n hC 0 dX12_goOn_118 rfl rfl ?_
      refine aw_iconst (v := 0) hC dX12_goOn_119 (by decide) ?_
      refine aw_iload hC 7 dX12_goOn_120 rfl ?_
      refine aw_iconst (v := 2) hC dX12_goOn_122 (by decide) ?_
      refine aw_idiv hC dX12_goOn_123 (by decide) ?_
      refine aw_iconst (v := 1) hC dX12_goOn_124 (by decide) ?_
      refine aw_iadd hC dX12_goOn_125 ?_
      refine aw_iload hC 7 dX12_goOn_126 rfl ?_
      refine aw_iconst (v := 2) hC dX12_goOn_128 (by decide) ?_
      refine aw_irem hC dX12_goOn_129 (by decide) ?_
      refine aw_cut (S' := S4011) (pc' := 139) (lv' := [(0, .ref 64), (1, .int v1), (2, .int v2), (3, .int v3), (4, .int v4), (5, .int v5), (6, .int v6), (7, .int v7)]) (st' := [.int (if (v7 - v7 / (2 : Int32) * (2 : Int32)) = 0 then (4 : Int32) else (8 : Int32)), .int ((v7 / (2 : Int32)) + (1 : Int32)), .int (0 : Int32), .ref 64]) ?_ (fun Jc4012 => ?_)
      · generalize ex4013 : (if (v7 - v7 / (2 : Int32) * (2 : Int32)) = 0 then (4 : Int32) else (8 : Int32)) = x4013
        refine aw_ldc (v := -1000000) hC w_923 dX12_goOn_139 ?_
        refine aw_cV4v hC hSt (t_X12_doTick G l hM _ _ _ _ (h0 c4007 S4008 eS4008 S4009 eS4009 S4010 eS4010 S4011 eS4011 x4013 ex4013)) w_1110 w_1155 w_1156 w_1157 w_953 rfl rfl (by decide +kernel) ⟨Nat.le_of_ble_eq_true rfl, Nat.le_of_ble_eq_true rfl⟩ (ms_lt 64 (by decide) hM) (ms_k 64 12 0 (by decide) hM) rfl (Nat.le_of_ble_eq_true rfl) dX12_goOn_141 ⟨Nat.zero_le _, Nat.zero_le _⟩ ?_
        generalize er4014 : f_X12_doTick S4011 64 (0 : Int32) ((v7 / (2 : Int32)) + (1 : Int32)) x4013 (-1000000 : Int32) = r4014
        have hM : MS r4014 := MS.of (by rw [← er4014]; exact q_X12_doTick _ _ _ _ _ _) hM
        refine aw_aload_n hC 0 dX12_goOn_144 rfl rfl ?_
        refine aw_getP (b := 78) hC hSt 41 (ms_lt 64 (by decide) hM) (ms_k 64 12 0 (by decide) hM) rfl (by decide) w_934 rfl (ms_p 41 78 (by decide) hM) dX12_goOn_145 ?_
        refine aw_aload_n hC 0 dX12_goOn_148 rfl rfl ?_
        refine aw_getI hC hSt 23 (ms_lt 64 (by decide) hM) (ms_k 64 12 0 (by decide) hM) rfl (by decide) w_1035 rfl dX12_goOn_149 ?_
        refine aw_iload_n hC 2 dX12_goOn_152 rfl rfl ?_
        refine aw_isub hC dX12_goOn_153 ?_
        refine aw_aload_n hC 0 dX12_goOn_154 rfl rfl ?_
        refine aw_getI hC hSt 21 (ms_lt 64 (by decide) hM) (ms_k 64 12 0 (by decide) hM) rfl (by decide) w_1033 rfl dX12_goOn_155 ?_
        refine aw_aload_n hC 0 dX12_goOn_158 rfl rfl ?_
        refine aw_getI hC hSt 20 (ms_lt 64 (by decide) hM) (ms_k 64 12 0 (by decide) hM) rfl (by decide) w_1032 rfl dX12_goOn_159 ?_
        refine aw_cS3r hC hSt (t_X12_placeOf G l  _ _ _) w_1234 w_1235 w_1236 w_953 rfl rfl (by decide +kernel) ⟨Nat.le_of_ble_eq_true rfl, Nat.le_of_ble_eq_true rfl⟩ (Nat.le_of_ble_eq_true rfl) dX12_goOn_162 ⟨Nat.zero_le _, Nat.zero_le _⟩ ?_
        refine aw_iconst (v := 1) hC dX12_goOn_165 (by decide) ?_
        refine aw_zast hC hSt (ms_lt 78 (by decide) hM) (ms_k 78 16 582096 (by decide) hM) (vp_len (n := 582096) (ms_l 78 16 582096 (by decide) hM) (h1 c4007 S4008 eS4008 S4009 eS4009 S4010 eS4010 S4011 eS4011 x4013 ex4013 r4014 er4014)) dX12_goOn_166 ?_
        generalize eS4015 : (sI r4014 78 (f_X12_placeOf r4014 ((gI r4014 64 23) - v2) (gI r4014 64 21) (gI r4014 64 20)).toNatClampNeg (vp_nar .boolean (1 : Int32))) = S4015
        have hM : MS S4015 := MS.of (by rw [← eS4015]; exact shp_sI _ _ _ _) hM
        refine aw_aload_n hC 0 dX12_goOn_167 rfl rfl ?_
        refine aw_getI hC hSt 20 (ms_lt 64 (by decide) hM) (ms_k 64 12 0 (by decide) hM) rfl (by decide) w_1032 rfl dX12_goOn_168 ?_
        refine aw_iload_n hC 3 dX12_goOn_171 rfl rfl ?_
        refine aw_cut (S' := S4015) (pc' := 183) (lv' := [(0, .ref 64), (1, .int v1), (2, .int v2), (3, .int v3), (4, .int v4), (5, .int v5), (6, .int v6), (7, .int v7)]) (st' := [.int (if (gI S4015 64 20) ≤ v3 then v3 else (gI S4015 64 20))]) ?_ (fun Jc4016 => ?_)
        · generalize ex4017 : (if (gI S4015 64 20) ≤ v3 then v3 else (gI S4015 64 20)) = x4017
          refine aw_istore_n hC [(3, .int _), (0, .ref 64), (1, .int _), (2, .int _), (4, .int _), (5, .int _), (6, .int _), (7, .int _)] dX12_goOn_183 rfl (by decide) rfl ?_
          refine aw_iinc (v := (v7 + (1 : Int32))) hC 7 [(7, .int _), (3, .int _), (0, .ref 64), (1, .int _), (2, .int _), (4, .int _), (5, .int _), (6, .int _)] dX12_goOn_184 rfl rfl (by decide) rfl ?_
          refine aw_goto hC 86 dX12_goOn_187 (by decide) ?_
          refine aw_sub [2, 3, 4, 1, 5, 6, 7, 0] rfl ?_
          have hTn := (h2 c4007 S4008 eS4008 S4009 eS4009 S4010 eS4010 S4011 eS4011 x4013 ex4013 r4014 er4014 S4015 eS4015 x4017 ex4017)
          have hMn : MS S4015 := hM
          have E : L_X12_goOn_86 (n + 1) S v1 v2 v3 v4 v5 v6 v7 = _ := (if_neg c4007).trans ((bd_eq eS4008).trans ((bd_eq eS4009).trans ((bd_eq eS4010).trans ((bd_eq eS4011).trans ((bd_eq ex4013).trans ((bd_eq er4014).trans ((bd_eq eS4015).trans ((bd_eq ex4017).trans (rfl)))))))))
          rw [E] at hk
          exact ih _ _ _ _ _ _ _ _ hMn hTn hk
        · refine aw_icmp_le hC 182 dX12_goOn_172 (by decide) (fun c4016 => ?_) (fun c4016 => ?_)
          · refine aw_iload_n hC 3 dX12_goOn_182 rfl rfl ?_
            simp only [bd_def, if_pos c4016] at Jc4016 ⊢
            exact Jc4016
          · refine aw_aload_n hC 0 dX12_goOn_175 rfl rfl ?_
            refine aw_getI hC hSt 20 (ms_lt 64 (by decide) hM) (ms_k 64 12 0 (by decide) hM) rfl (by decide) w_1032 rfl dX12_goOn_176 ?_
            refine aw_goto hC 183 dX12_goOn_179 (by decide) ?_
            simp only [bd_def, if_neg c4016] at Jc4016 ⊢
            exact Jc4016
      · refine aw_if_ne hC 137 dX12_goOn_130 (by decide) (fun c4012 => ?_) (fun c4012 => ?_)
        · refine aw_bipush (v := 8) hC dX12_goOn_137 (by decide) ?_
          simp only [bd_def, if_neg c4012] at Jc4012 ⊢
          exact Jc4012
        · refine aw_iconst (v := 4) hC dX12_goOn_133 (by decide) ?_
          refine aw_goto hC 139 dX12_goOn_134 (by decide) ?_
          simp only [bd_def, if_pos c4012] at Jc4012 ⊢
          exact Jc4012
noncomputable def L_X12_goOn_58 : Nat → HSt → Int32 → Int32 → Int32 → Int32 → Int32 → Int32 → Int32 × Int32 × Int32 × Int32 × Int32 × Int32 × HSt
  | 0, S, v1, v2, v3, v4, v5, v6 => (v1, v2, v3, v4, v5, v6, S)
  | n + 1, S, v1, v2, v3, v4, v5, v6 =>
    if (201 : Int32) ≤ v6 then ((pr (v1) (pr (v2) (pr (v3) (pr (v4) (pr (v5) (pr (v6) (S)))))))) else (bd ((if (gI S 77 (f_X12_placeOf S v4 v5 v6).toNatClampNeg) = 0 then v1 else (bd (L_X12_goOn_86 1000 S v1 v2 v3 v4 v5 v6 (0 : Int32)) fun r3007 => r3007.1))) fun x3008 => bd ((if (gI S 77 (f_X12_placeOf S v4 v5 v6).toNatClampNeg) = 0 then v2 else (bd (L_X12_goOn_86 1000 S v1 v2 v3 v4 v5 v6 (0 : Int32)) fun r3007 => r3007.2.1))) fun x3009 => bd ((if (gI S 77 (f_X12_placeOf S v4 v5 v6).toNatClampNeg) = 0 then v3 else (bd (L_X12_goOn_86 1000 S v1 v2 v3 v4 v5 v6 (0 : Int32)) fun r3007 => r3007.2.2.1))) fun x3010 => bd ((if (gI S 77 (f_X12_placeOf S v4 v5 v6).toNatClampNeg) = 0 then v4 else (bd (L_X12_goOn_86 1000 S v1 v2 v3 v4 v5 v6 (0 : Int32)) fun r3007 => r3007.2.2.2.1))) fun x3011 => bd ((if (gI S 77 (f_X12_placeOf S v4 v5 v6).toNatClampNeg) = 0 then v5 else (bd (L_X12_goOn_86 1000 S v1 v2 v3 v4 v5 v6 (0 : Int32)) fun r3007 => r3007.2.2.2.2.1))) fun x3012 => bd ((if (gI S 77 (f_X12_placeOf S v4 v5 v6).toNatClampNeg) = 0 then v6 else (bd (L_X12_goOn_86 1000 S v1 v2 v3 v4 v5 v6 (0 : Int32)) fun r3007 => r3007.2.2.2.2.2.1))) fun x3013 => bd ((if (gI S 77 (f_X12_placeOf S v4 v5 v6).toNatClampNeg) = 0 then S else (bd (L_X12_goOn_86 1000 S v1 v2 v3 v4 v5 v6 (0 : Int32)) fun r3007 => r3007.2.2.2.2.2.2.2))) fun S3014 => L_X12_goOn_58 n S3014 x3008 x3009 x3010 x3011 x3012 (x3013 + (1 : Int32)))
def T_X12_goOn_58 : Nat → HSt → Int32 → Int32 → Int32 → Int32 → Int32 → Int32 → Prop
  | 0, _, _, _, _, _, _, _ => False
  | n + 1, S, v1, v2, v3, v4, v5, v6 => ((¬ (201 : Int32) ≤ v6) → vp_in (f_X12_placeOf S v4 v5 v6) 582096) ∧ ((¬ (201 : Int32) ≤ v6) → (¬ (gI S 77 (f_X12_placeOf S v4 v5 v6).toNatClampNeg) = 0) → T_X12_goOn_86 1000 S v1 v2 v3 v4 v5 v6 (0 : Int32)) ∧ ((¬ (201 : Int32) ≤ v6) → ∀ x3008 : Int32, (if (gI S 77 (f_X12_placeOf S v4 v5 v6).toNatClampNeg) = 0 then v1 else (bd (L_X12_goOn_86 1000 S v1 v2 v3 v4 v5 v6 (0 : Int32)) fun r3007 => r3007.1)) = x3008 → ∀ x3009 : Int32, (if (gI S 77 (f_X12_placeOf S v4 v5 v6).toNatClampNeg) = 0 then v2 else (bd (L_X12_goOn_86 1000 S v1 v2 v3 v4 v5 v6 (0 : Int32)) fun r3007 => r3007.2.1)) = x3009 → ∀ x3010 : Int32, (if (gI S 77 (f_X12_placeOf S v4 v5 v6).toNatClampNeg) = 0 then v3 else (bd (L_X12_goOn_86 1000 S v1 v2 v3 v4 v5 v6 (0 : Int32)) fun r3007 => r3007.2.2.1)) = x3010 → ∀ x3011 : Int32, (if (gI S 77 (f_X12_placeOf S v4 v5 v6).toNatClampNeg) = 0 then v4 else (bd (L_X12_goOn_86 1000 S v1 v2 v3 v4 v5 v6 (0 : Int32)) fun r3007 => r3007.2.2.2.1)) = x3011 → ∀ x3012 : Int32, (if (gI S 77 (f_X12_placeOf S v4 v5 v6).toNatClampNeg) = 0 then v5 else (bd (L_X12_goOn_86 1000 S v1 v2 v3 v4 v5 v6 (0 : Int32)) fun r3007 => r3007.2.2.2.2.1)) = x3012 → ∀ x3013 : Int32, (if (gI S 77 (f_X12_placeOf S v4 v5 v6).toNatClampNeg) = 0 then v6 else (bd (L_X12_goOn_86 1000 S v1 v2 v3 v4 v5 v6 (0 : Int32)) fun r3007 => r3007.2.2.2.2.2.1)) = x3013 → ∀ S3014 : HSt, (if (gI S 77 (f_X12_placeOf S v4 v5 v6).toNatClampNeg) = 0 then S else (bd (L_X12_goOn_86 1000 S v1 v2 v3 v4 v5 v6 (0 : Int32)) fun r3007 => r3007.2.2.2.2.2.2.2)) = S3014 → T_X12_goOn_58 n S3014 x3008 x3009 x3010 x3011 x3012 (x3013 + (1 : Int32)))
theorem qL_X12_goOn_58 : ∀ (n : Nat) (S : HSt) (v1 : Int32) (v2 : Int32) (v3 : Int32) (v4 : Int32) (v5 : Int32) (v6 : Int32), shp (L_X12_goOn_58 n S v1 v2 v3 v4 v5 v6).2.2.2.2.2.2 = shp S := by
  intro n
  induction n with
  | zero => intros; rfl
  | succ n ih =>
    intro S v1 v2 v3 v4 v5 v6
    unfold L_X12_goOn_58
    repeat' (first | with_reducible refine shpr6 ?_ | with_reducible rfl | with_reducible refine (ih _ _ _ _ _ _ _).trans ?_ | with_reducible refine (q_X12_doTick _ _ _ _ _ _).trans ?_ | with_reducible refine (qL_X12_goOn_12 _ _ _ _ _ _).trans ?_ | with_reducible refine (qL_X12_goOn_86 _ _ _ _ _ _ _ _ _).trans ?_ | with_reducible refine (shp_sI _ _ _ _).trans ?_ | with_reducible refine (shp_sJ _ _ _ _).trans ?_ | with_reducible refine shi ?_ ?_ | with_reducible refine shb (fun _ _ => ?_) | with_reducible refine shiP (fun q : Int32 × Int32 × Int32 × Int32 × Int32 × Int32 × HSt => q.2.2.2.2.2.2) ?_ ?_ | with_reducible refine shbP (fun q : Int32 × Int32 × Int32 × Int32 × Int32 × Int32 × HSt => q.2.2.2.2.2.2) (fun _ _ => ?_) | (subst_vars; with_reducible rfl) | (subst_vars; with_reducible refine (ih _ _ _ _ _ _ _).trans ?_) | (subst_vars; with_reducible refine (q_X12_doTick _ _ _ _ _ _).trans ?_) | (subst_vars; with_reducible refine (qL_X12_goOn_12 _ _ _ _ _ _).trans ?_) | (subst_vars; with_reducible refine (qL_X12_goOn_86 _ _ _ _ _ _ _ _ _).trans ?_) | (subst_vars; with_reducible refine (shp_sI _ _ _ _).trans ?_) | (subst_vars; with_reducible refine (shp_sJ _ _ _ _).trans ?_) | (subst_vars; with_reducible refine shi ?_ ?_) | (subst_vars; with_reducible refine shb (fun _ _ => ?_)))
theorem vL_X12_goOn_58 : ∀ (n : Nat) (S : HSt) (v1 : Int32) (v2 : Int32) (v3 : Int32) (v4 : Int32) (v5 : Int32) (v6 : Int32), Fr [(64, 20), (64, 21), (64, 22), (64, 23), (64, 24), (64, 25), (64, 26), (78, 1000)] S (L_X12_goOn_58 n S v1 v2 v3 v4 v5 v6).2.2.2.2.2.2 := by
  intro n
  induction n with
  | zero => intros; exact Fr.refl _ _
  | succ n ih =>
    intro S v1 v2 v3 v4 v5 v6
    unfold L_X12_goOn_58
    repeat' (first | with_reducible refine frpr6 ?_ | with_reducible exact Fr.refl _ _ | with_reducible refine Fr.lP (fun q : Int32 × Int32 × Int32 × Int32 × Int32 × Int32 × HSt => q.2.2.2.2.2.2) (fun _ _ => ?_) | with_reducible refine Fr.iteP (fun q : Int32 × Int32 × Int32 × Int32 × Int32 × Int32 × HSt => q.2.2.2.2.2.2) ?_ ?_ | with_reducible refine Fr.l1 (fun _ _ => ?_) | with_reducible refine Fr.ite ?_ ?_ | with_reducible refine Fr.sE (by assumption) (by first | decide | simp only [List.mem_cons, List.not_mem_nil, or_false, true_or, or_true, eq_self_iff_true]) ?_ | with_reducible refine Fr.jE (by assumption) ?_ | with_reducible refine Fr.rE (by assumption) (by first | decide | simp only [List.mem_cons, List.not_mem_nil, or_false, true_or, or_true, eq_self_iff_true]) ?_ | with_reducible refine Fr.iE (by assumption) ?_ ?_ | with_reducible refine Fr.tr (ih _ _ _ _ _ _ _) (by first | decide | simp only [List.mem_cons, List.not_mem_nil, or_false, forall_eq_or_imp, forall_eq, true_or, or_true, and_self, eq_self_iff_true]) ?_ | with_reducible refine Fr.tr (w_X12_doTick _ _ _ _ _ _ _ (by assumption)) (by first | decide | simp only [List.mem_cons, List.not_mem_nil, or_false, forall_eq_or_imp, forall_eq, true_or, or_true, and_self, eq_self_iff_true]) ?_ | with_reducible refine Fr.tr (wL_X12_goOn_12 _ _ _ _ _ _ _ (by assumption)) (by first | decide | simp only [List.mem_cons, List.not_mem_nil, or_false, forall_eq_or_imp, forall_eq, true_or, or_true, and_self, eq_self_iff_true]) ?_ | with_reducible refine Fr.tr (wL_X12_goOn_86 _ _ _ _ _ _ _ _ _ _ (by assumption)) (by first | decide | simp only [List.mem_cons, List.not_mem_nil, or_false, forall_eq_or_imp, forall_eq, true_or, or_true, and_self, eq_self_iff_true]) ?_)
theorem wL_X12_goOn_58 (n : Nat) (S : HSt) (v1 : Int32) (v2 : Int32) (v3 : Int32) (v4 : Int32) (v5 : Int32) (v6 : Int32) (r : Int32 × Int32 × Int32 × Int32 × Int32 × Int32 × HSt) (e : L_X12_goOn_58 n S v1 v2 v3 v4 v5 v6 = r) : Fr [(64, 20), (64, 21), (64, 22), (64, 23), (64, 24), (64, 25), (64, 26), (78, 1000)] S r.2.2.2.2.2.2 := by
  rw [← e]
  exact vL_X12_goOn_58 n S v1 v2 v3 v4 v5 v6
set_option maxRecDepth 100000 in
theorem l_X12_goOn_58 {p : Program} {l : Launch} {e : Env} {s : State} {m : MethodId} {args : Array Value} {below : List Frame} {meth : Method} {c : Code} {G : GG} {Q : State → Prop} (hC : ACx p s m args meth c cX12_goOn RX12 8 (some .int)) (hSt : St G s)  : ∀ (n : Nat) (S : HSt) (v1 : Int32) (v2 : Int32) (v3 : Int32) (v4 : Int32) (v5 : Int32) (v6 : Int32), MS S → T_X12_goOn_58 n S v1 v2 v3 v4 v5 v6 → AW p l e (rmD 3 0 0) s m args below meth c G 8 Q (L_X12_goOn_58 n S v1 v2 v3 v4 v5 v6).2.2.2.2.2.2 0 0 196 [(0, .ref 64), (1, .int (L_X12_goOn_58 n S v1 v2 v3 v4 v5 v6).1), (2, .int (L_X12_goOn_58 n S v1 v2 v3 v4 v5 v6).2.1), (3, .int (L_X12_goOn_58 n S v1 v2 v3 v4 v5 v6).2.2.1), (4, .int (L_X12_goOn_58 n S v1 v2 v3 v4 v5 v6).2.2.2.1), (5, .int (L_X12_goOn_58 n S v1 v2 v3 v4 v5 v6).2.2.2.2.1), (6, .int (L_X12_goOn_58 n S v1 v2 v3 v4 v5 v6).2.2.2.2.2.1)] [] → AW p l e (rmD 3 0 0) s m args below meth c G 8 Q S 0 0 58 [(0, .ref 64), (1, .int v1), (2, .int v2), (3, .int v3), (4, .int v4), (5, .int v5), (6, .int v6)] [] := by
  intro n
  induction n with
  | zero => intro S v1 v2 v3 v4 v5 v6 _ hT; exact hT.elim
  | succ n ih =>
    intro S v1 v2 v3 v4 v5 v6 hM hT hk
    unfold T_X12_goOn_58 at hT
    obtain ⟨h0, h1, h2⟩ := hT
    refine aw_iload hC 6 dX12_goOn_58 rfl ?_
    refine aw_sipush (v := 201) hC dX12_goOn_60 (by decide) ?_
    refine aw_icmp_ge hC 196 dX12_goOn_63 (by decide) (fun c3005 => ?_) (fun c3005 => ?_)
    · refine aw_sub [0, 1, 2, 3, 4, 5, 6] rfl ?_
      have E : L_X12_goOn_58 (n + 1) S v1 v2 v3 v4 v5 v6 = _ := (if_pos c3005).trans (rfl)
      rw [E] at hk
      exact hk
    · refine aw_aload_n hC 0 dX12_goOn_66 rfl rfl ?_
      refine aw_getP (b := 77) hC hSt 40 (ms_lt 64 (by decide) hM) (ms_k 64 12 0 (by decide) hM) rfl (by decide) w_933 rfl (ms_p 40 77 (by decide) hM) dX12_goOn_67 ?_
      refine aw_iload hC 4 dX12_goOn_70 rfl ?_
      refine aw_iload hC 5 dX12_goOn_72 rfl ?_
      refine aw_iload hC 6 dX12_goOn_74 rfl ?_
      refine aw_cS3r hC hSt (t_X12_placeOf G l  _ _ _) w_1234 w_1235 w_1236 w_953 rfl rfl (by decide +kernel) ⟨Nat.le_of_ble_eq_true rfl, Nat.le_of_ble_eq_true rfl⟩ (Nat.le_of_ble_eq_true rfl) dX12_goOn_76 ⟨Nat.zero_le _, Nat.zero_le _⟩ ?_
      refine aw_zald hC hSt (ms_lt 77 (by decide) hM) (ms_k 77 16 582096 (by decide) hM) (vp_len (n := 582096) (ms_l 77 16 582096 (by decide) hM) (h0 c3005)) dX12_goOn_79 ?_
      refine aw_cut (S' := (if (gI S 77 (f_X12_placeOf S v4 v5 v6).toNatClampNeg) = 0 then S else (bd (L_X12_goOn_86 1000 S v1 v2 v3 v4 v5 v6 (0 : Int32)) fun r3007 => r3007.2.2.2.2.2.2.2))) (pc' := 190) (lv' := [(0, .ref 64), (1, .int (if (gI S 77 (f_X12_placeOf S v4 v5 v6).toNatClampNeg) = 0 then v1 else (bd (L_X12_goOn_86 1000 S v1 v2 v3 v4 v5 v6 (0 : Int32)) fun r3007 => r3007.1))), (2, .int (if (gI S 77 (f_X12_placeOf S v4 v5 v6).toNatClampNeg) = 0 then v2 else (bd (L_X12_goOn_86 1000 S v1 v2 v3 v4 v5 v6 (0 : Int32)) fun r3007 => r3007.2.1))), (3, .int (if (gI S 77 (f_X12_placeOf S v4 v5 v6).toNatClampNeg) = 0 then v3 else (bd (L_X12_goOn_86 1000 S v1 v2 v3 v4 v5 v6 (0 : Int32)) fun r3007 => r3007.2.2.1))), (4, .int (if (gI S 77 (f_X12_placeOf S v4 v5 v6).toNatClampNeg) = 0 then v4 else (bd (L_X12_goOn_86 1000 S v1 v2 v3 v4 v5 v6 (0 : Int32)) fun r3007 => r3007.2.2.2.1))), (5, .int (if (gI S 77 (f_X12_placeOf S v4 v5 v6).toNatClampNeg) = 0 then v5 else (bd (L_X12_goOn_86 1000 S v1 v2 v3 v4 v5 v6 (0 : Int32)) fun r3007 => r3007.2.2.2.2.1))), (6, .int (if (gI S 77 (f_X12_placeOf S v4 v5 v6).toNatClampNeg) = 0 then v6 else (bd (L_X12_goOn_86 1000 S v1 v2 v3 v4 v5 v6 (0 : Int32)) fun r3007 => r3007.2.2.2.2.2.1)))]) (st' := []) ?_ (fun Jc3006 => ?_)
      · generalize ex3008 : (if (gI S 77 (f_X12_placeOf S v4 v5 v6).toNatClampNeg) = 0 then v1 else (bd (L_X12_goOn_86 1000 S v1 v2 v3 v4 v5 v6 (0 : Int32)) fun r3007 => r3007.1)) = x3008
        generalize ex3009 : (if (gI S 77 (f_X12_placeOf S v4 v5 v6).toNatClampNeg) = 0 then v2 else (bd (L_X12_goOn_86 1000 S v1 v2 v3 v4 v5 v6 (0 : Int32)) fun r3007 => r3007.2.1)) = x3009
        generalize ex3010 : (if (gI S 77 (f_X12_placeOf S v4 v5 v6).toNatClampNeg) = 0 then v3 else (bd (L_X12_goOn_86 1000 S v1 v2 v3 v4 v5 v6 (0 : Int32)) fun r3007 => r3007.2.2.1)) = x3010
        generalize ex3011 : (if (gI S 77 (f_X12_placeOf S v4 v5 v6).toNatClampNeg) = 0 then v4 else (bd (L_X12_goOn_86 1000 S v1 v2 v3 v4 v5 v6 (0 : Int32)) fun r3007 => r3007.2.2.2.1)) = x3011
        generalize ex3012 : (if (gI S 77 (f_X12_placeOf S v4 v5 v6).toNatClampNeg) = 0 then v5 else (bd (L_X12_goOn_86 1000 S v1 v2 v3 v4 v5 v6 (0 : Int32)) fun r3007 => r3007.2.2.2.2.1)) = x3012
        generalize ex3013 : (if (gI S 77 (f_X12_placeOf S v4 v5 v6).toNatClampNeg) = 0 then v6 else (bd (L_X12_goOn_86 1000 S v1 v2 v3 v4 v5 v6 (0 : Int32)) fun r3007 => r3007.2.2.2.2.2.1)) = x3013
        generalize eS3014 : (if (gI S 77 (f_X12_placeOf S v4 v5 v6).toNatClampNeg) = 0 then S else (bd (L_X12_goOn_86 1000 S v1 v2 v3 v4 v5 v6 (0 : Int32)) fun r3007 => r3007.2.2.2.2.2.2.2)) = S3014
        have hM : MS S3014 := MS.of (by rw [← eS3014]; repeat' (first | with_reducible rfl | with_reducible refine (qL_X12_goOn_86 _ _ _ _ _ _ _ _ _).trans ?_ | with_reducible refine (shp_sI _ _ _ _).trans ?_ | with_reducible refine (shp_sJ _ _ _ _).trans ?_ | with_reducible refine shi ?_ ?_ | with_reducible refine shb (fun _ _ => ?_) | (subst_vars; with_reducible rfl) | (subst_vars; with_reducible refine (qL_X12_goOn_86 _ _ _ _ _ _ _ _ _).trans ?_) | (subst_vars; with_reducible refine (shp_sI _ _ _ _).trans ?_) | (subst_vars; with_reducible refine (shp_sJ _ _ _ _).trans ?_) | (subst_vars; with_reducible refine shi ?_ ?_) | (subst_vars; with_reducible refine shb (fun _ _ => ?_)))) hM
        refine aw_iinc (v := (x3013 + (1 : Int32))) hC 6 [(6, .int _), (0, .ref 64), (1, .int _), (2, .int _), (3, .int _), (4, .int _), (5, .int _)] dX12_goOn_190 rfl rfl (by decide) rfl ?_
        refine aw_goto hC 58 dX12_goOn_193 (by decide) ?_
        refine aw_sub [1, 2, 3, 4, 5, 6, 0] rfl ?_
        have hTn := (h2 c3005 x3008 ex3008 x3009 ex3009 x3010 ex3010 x3011 ex3011 x3012 ex3012 x3013 ex3013 S3014 eS3014)
        have hMn : MS S3014 := hM
        have E : L_X12_goOn_58 (n + 1) S v1 v2 v3 v4 v5 v6 = _ := (if_neg c3005).trans ((bd_eq ex3008).trans ((bd_eq ex3009).trans ((bd_eq ex3010).trans ((bd_eq ex3011).trans ((bd_eq ex3012).trans ((bd_eq ex3013).trans ((bd_eq eS3014).trans (rfl))))))))
        rw [E] at hk
        exact ih _ _ _ _ _ _ _ hMn hTn hk
      · refine aw_if_eq hC 190 dX12_goOn_80 (by decide) (fun c3006 => ?_) (fun c3006 => ?_)
        · simp only [bd_def, if_pos c3006] at Jc3006 ⊢
          exact Jc3006
        · refine aw_iconst (v := 0) hC dX12_goOn_83 (by decide) ?_
          refine aw_istore hC [(7, .int _), (0, .ref 64), (1, .int _), (2, .int _), (3, .int _), (4, .int _), (5, .int _), (6, .int _)] dX12_goOn_84 (by decide) rfl ?_
          refine aw_sub [1, 2, 3, 4, 5, 6, 7, 0] rfl ?_
          refine l_X12_goOn_86 hC hSt 1000 _ _ _ _ _ _ _ _ hM (h1 c3005 c3006) ?_
          generalize er3007 : L_X12_goOn_86 1000 S v1 v2 v3 v4 v5 v6 (0 : Int32) = r3007
          have hM : MS r3007.2.2.2.2.2.2.2 := MS.of (by rw [← er3007]; exact qL_X12_goOn_86 _ _ _ _ _ _ _ _ _) hM
          refine aw_sub [0, 1, 2, 3, 4, 5, 6] rfl ?_
          subst er3007
          simp only [bd_def, if_neg c3006] at Jc3006 ⊢
          exact Jc3006
noncomputable def L_X12_goOn_48 : Nat → HSt → Int32 → Int32 → Int32 → Int32 → Int32 → Int32 × Int32 × Int32 × Int32 × Int32 × HSt
  | 0, S, v1, v2, v3, v4, v5 => (v1, v2, v3, v4, v5, S)
  | n + 1, S, v1, v2, v3, v4, v5 =>
    if (16 : Int32) ≤ v5 then ((pr (v1) (pr (v2) (pr (v3) (pr (v4) (pr (v5) (S))))))) else (bd (L_X12_goOn_58 1000 S v1 v2 v3 v4 v5 (1 : Int32)) fun r2005 => L_X12_goOn_48 n r2005.2.2.2.2.2.2 r2005.1 r2005.2.1 r2005.2.2.1 r2005.2.2.2.1 (r2005.2.2.2.2.1 + (1 : Int32)))
def T_X12_goOn_48 : Nat → HSt → Int32 → Int32 → Int32 → Int32 → Int32 → Prop
  | 0, _, _, _, _, _, _ => False
  | n + 1, S, v1, v2, v3, v4, v5 => ((¬ (16 : Int32) ≤ v5) → T_X12_goOn_58 1000 S v1 v2 v3 v4 v5 (1 : Int32)) ∧ ((¬ (16 : Int32) ≤ v5) → ∀ r2005, L_X12_goOn_58 1000 S v1 v2 v3 v4 v5 (1 : Int32) = r2005 → T_X12_goOn_48 n r2005.2.2.2.2.2.2 r2005.1 r2005.2.1 r2005.2.2.1 r2005.2.2.2.1 (r2005.2.2.2.2.1 + (1 : Int32)))
theorem qL_X12_goOn_48 : ∀ (n : Nat) (S : HSt) (v1 : Int32) (v2 : Int32) (v3 : Int32) (v4 : Int32) (v5 : Int32), shp (L_X12_goOn_48 n S v1 v2 v3 v4 v5).2.2.2.2.2 = shp S := by
  intro n
  induction n with
  | zero => intros; rfl
  | succ n ih =>
    intro S v1 v2 v3 v4 v5
    unfold L_X12_goOn_48
    repeat' (first | with_reducible refine shpr5 ?_ | with_reducible rfl | with_reducible refine (ih _ _ _ _ _ _).trans ?_ | with_reducible refine (q_X12_doTick _ _ _ _ _ _).trans ?_ | with_reducible refine (qL_X12_goOn_12 _ _ _ _ _ _).trans ?_ | with_reducible refine (qL_X12_goOn_58 _ _ _ _ _ _ _ _).trans ?_ | with_reducible refine (qL_X12_goOn_86 _ _ _ _ _ _ _ _ _).trans ?_ | with_reducible refine (shp_sI _ _ _ _).trans ?_ | with_reducible refine (shp_sJ _ _ _ _).trans ?_ | with_reducible refine shi ?_ ?_ | with_reducible refine shb (fun _ _ => ?_) | with_reducible refine shiP (fun q : Int32 × Int32 × Int32 × Int32 × Int32 × HSt => q.2.2.2.2.2) ?_ ?_ | with_reducible refine shbP (fun q : Int32 × Int32 × Int32 × Int32 × Int32 × HSt => q.2.2.2.2.2) (fun _ _ => ?_) | (subst_vars; with_reducible rfl) | (subst_vars; with_reducible refine (ih _ _ _ _ _ _).trans ?_) | (subst_vars; with_reducible refine (q_X12_doTick _ _ _ _ _ _).trans ?_) | (subst_vars; with_reducible refine (qL_X12_goOn_12 _ _ _ _ _ _).trans ?_) | (subst_vars; with_reducible refine (qL_X12_goOn_58 _ _ _ _ _ _ _ _).trans ?_) | (subst_vars; with_reducible refine (qL_X12_goOn_86 _ _ _ _ _ _ _ _ _).trans ?_) | (subst_vars; with_reducible refine (shp_sI _ _ _ _).trans ?_) | (subst_vars; with_reducible refine (shp_sJ _ _ _ _).trans ?_) | (subst_vars; with_reducible refine shi ?_ ?_) | (subst_vars; with_reducible refine shb (fun _ _ => ?_)))
theorem vL_X12_goOn_48 : ∀ (n : Nat) (S : HSt) (v1 : Int32) (v2 : Int32) (v3 : Int32) (v4 : Int32) (v5 : Int32), Fr [(64, 20), (64, 21), (64, 22), (64, 23), (64, 24), (64, 25), (64, 26), (78, 1000)] S (L_X12_goOn_48 n S v1 v2 v3 v4 v5).2.2.2.2.2 := by
  intro n
  induction n with
  | zero => intros; exact Fr.refl _ _
  | succ n ih =>
    intro S v1 v2 v3 v4 v5
    unfold L_X12_goOn_48
    repeat' (first | with_reducible refine frpr5 ?_ | with_reducible exact Fr.refl _ _ | with_reducible refine Fr.lP (fun q : Int32 × Int32 × Int32 × Int32 × Int32 × HSt => q.2.2.2.2.2) (fun _ _ => ?_) | with_reducible refine Fr.iteP (fun q : Int32 × Int32 × Int32 × Int32 × Int32 × HSt => q.2.2.2.2.2) ?_ ?_ | with_reducible refine Fr.l1 (fun _ _ => ?_) | with_reducible refine Fr.ite ?_ ?_ | with_reducible refine Fr.sE (by assumption) (by first | decide | simp only [List.mem_cons, List.not_mem_nil, or_false, true_or, or_true, eq_self_iff_true]) ?_ | with_reducible refine Fr.jE (by assumption) ?_ | with_reducible refine Fr.rE (by assumption) (by first | decide | simp only [List.mem_cons, List.not_mem_nil, or_false, true_or, or_true, eq_self_iff_true]) ?_ | with_reducible refine Fr.iE (by assumption) ?_ ?_ | with_reducible refine Fr.tr (ih _ _ _ _ _ _) (by first | decide | simp only [List.mem_cons, List.not_mem_nil, or_false, forall_eq_or_imp, forall_eq, true_or, or_true, and_self, eq_self_iff_true]) ?_ | with_reducible refine Fr.tr (w_X12_doTick _ _ _ _ _ _ _ (by assumption)) (by first | decide | simp only [List.mem_cons, List.not_mem_nil, or_false, forall_eq_or_imp, forall_eq, true_or, or_true, and_self, eq_self_iff_true]) ?_ | with_reducible refine Fr.tr (wL_X12_goOn_12 _ _ _ _ _ _ _ (by assumption)) (by first | decide | simp only [List.mem_cons, List.not_mem_nil, or_false, forall_eq_or_imp, forall_eq, true_or, or_true, and_self, eq_self_iff_true]) ?_ | with_reducible refine Fr.tr (wL_X12_goOn_58 _ _ _ _ _ _ _ _ _ (by assumption)) (by first | decide | simp only [List.mem_cons, List.not_mem_nil, or_false, forall_eq_or_imp, forall_eq, true_or, or_true, and_self, eq_self_iff_true]) ?_ | with_reducible refine Fr.tr (wL_X12_goOn_86 _ _ _ _ _ _ _ _ _ _ (by assumption)) (by first | decide | simp only [List.mem_cons, List.not_mem_nil, or_false, forall_eq_or_imp, forall_eq, true_or, or_true, and_self, eq_self_iff_true]) ?_)
theorem wL_X12_goOn_48 (n : Nat) (S : HSt) (v1 : Int32) (v2 : Int32) (v3 : Int32) (v4 : Int32) (v5 : Int32) (r : Int32 × Int32 × Int32 × Int32 × Int32 × HSt) (e : L_X12_goOn_48 n S v1 v2 v3 v4 v5 = r) : Fr [(64, 20), (64, 21), (64, 22), (64, 23), (64, 24), (64, 25), (64, 26), (78, 1000)] S r.2.2.2.2.2 := by
  rw [← e]
  exact vL_X12_goOn_48 n S v1 v2 v3 v4 v5
set_option maxRecDepth 100000 in
theorem l_X12_goOn_48 {p : Program} {l : Launch} {e : Env} {s : State} {m : MethodId} {args : Array Value} {below : List Frame} {meth : Method} {c : Code} {G : GG} {Q : State → Prop} (hC : ACx p s m args meth c cX12_goOn RX12 8 (some .int)) (hSt : St G s)  : ∀ (n : Nat) (S : HSt) (v1 : Int32) (v2 : Int32) (v3 : Int32) (v4 : Int32) (v5 : Int32), MS S → T_X12_goOn_48 n S v1 v2 v3 v4 v5 → AW p l e (rmD 3 0 0) s m args below meth c G 8 Q (L_X12_goOn_48 n S v1 v2 v3 v4 v5).2.2.2.2.2 0 0 202 [(0, .ref 64), (1, .int (L_X12_goOn_48 n S v1 v2 v3 v4 v5).1), (2, .int (L_X12_goOn_48 n S v1 v2 v3 v4 v5).2.1), (3, .int (L_X12_goOn_48 n S v1 v2 v3 v4 v5).2.2.1), (4, .int (L_X12_goOn_48 n S v1 v2 v3 v4 v5).2.2.2.1), (5, .int (L_X12_goOn_48 n S v1 v2 v3 v4 v5).2.2.2.2.1)] [] → AW p l e (rmD 3 0 0) s m args below meth c G 8 Q S 0 0 48 [(0, .ref 64), (1, .int v1), (2, .int v2), (3, .int v3), (4, .int v4), (5, .int v5)] [] := by
  intro n
  induction n with
  | zero => intro S v1 v2 v3 v4 v5 _ hT; exact hT.elim
  | succ n ih =>
    intro S v1 v2 v3 v4 v5 hM hT hk
    unfold T_X12_goOn_48 at hT
    obtain ⟨h0, h1⟩ := hT
    refine aw_iload hC 5 dX12_goOn_48 rfl ?_
    refine aw_bipush (v := 16) hC dX12_goOn_50 (by decide) ?_
    refine aw_icmp_ge hC 202 dX12_goOn_52 (by decide) (fun c2004 => ?_) (fun c2004 => ?_)
    · refine aw_sub [0, 1, 2, 3, 4, 5] rfl ?_
      have E : L_X12_goOn_48 (n + 1) S v1 v2 v3 v4 v5 = _ := (if_pos c2004).trans (rfl)
      rw [E] at hk
      exact hk
    · refine aw_iconst (v := 1) hC dX12_goOn_55 (by decide) ?_
      refine aw_istore hC [(6, .int _), (0, .ref 64), (1, .int _), (2, .int _), (3, .int _), (4, .int _), (5, .int _)] dX12_goOn_56 (by decide) rfl ?_
      refine aw_sub [1, 2, 3, 4, 5, 6, 0] rfl ?_
      refine l_X12_goOn_58 hC hSt 1000 _ _ _ _ _ _ _ hM (h0 c2004) ?_
      generalize er2005 : L_X12_goOn_58 1000 S v1 v2 v3 v4 v5 (1 : Int32) = r2005
      have hM : MS r2005.2.2.2.2.2.2 := MS.of (by rw [← er2005]; exact qL_X12_goOn_58 _ _ _ _ _ _ _ _) hM
      refine aw_iinc (v := (r2005.2.2.2.2.1 + (1 : Int32))) hC 5 [(5, .int _), (0, .ref 64), (1, .int _), (2, .int _), (3, .int _), (4, .int _), (6, .int _)] dX12_goOn_196 rfl rfl (by decide) rfl ?_
      refine aw_goto hC 48 dX12_goOn_199 (by decide) ?_
      refine aw_sub [1, 2, 3, 4, 5, 0] rfl ?_
      have hTn := (h1 c2004 r2005 er2005)
      have hMn : MS r2005.2.2.2.2.2.2 := hM
      have E : L_X12_goOn_48 (n + 1) S v1 v2 v3 v4 v5 = _ := (if_neg c2004).trans ((bd_eq er2005).trans (rfl))
      rw [E] at hk
      exact ih _ _ _ _ _ _ hMn hTn hk
noncomputable def L_X12_goOn_36 : Nat → HSt → Int32 → Int32 → Int32 → Int32 → Int32 × Int32 × Int32 × Int32 × HSt
  | 0, S, v1, v2, v3, v4 => (v1, v2, v3, v4, S)
  | n + 1, S, v1, v2, v3, v4 =>
    if ((15 : Int32) * v1) < v4 then ((pr (v1) (pr (v2) (pr (v3) (pr (v4) (S)))))) else (bd (L_X12_goOn_48 1000 S v1 v2 v3 v4 (0 : Int32)) fun r1004 => L_X12_goOn_36 n r1004.2.2.2.2.2 r1004.1 r1004.2.1 r1004.2.2.1 (r1004.2.2.2.1 + (1 : Int32)))
def T_X12_goOn_36 : Nat → HSt → Int32 → Int32 → Int32 → Int32 → Prop
  | 0, _, _, _, _, _ => False
  | n + 1, S, v1, v2, v3, v4 => ((¬ ((15 : Int32) * v1) < v4) → T_X12_goOn_48 1000 S v1 v2 v3 v4 (0 : Int32)) ∧ ((¬ ((15 : Int32) * v1) < v4) → ∀ r1004, L_X12_goOn_48 1000 S v1 v2 v3 v4 (0 : Int32) = r1004 → T_X12_goOn_36 n r1004.2.2.2.2.2 r1004.1 r1004.2.1 r1004.2.2.1 (r1004.2.2.2.1 + (1 : Int32)))
theorem qL_X12_goOn_36 : ∀ (n : Nat) (S : HSt) (v1 : Int32) (v2 : Int32) (v3 : Int32) (v4 : Int32), shp (L_X12_goOn_36 n S v1 v2 v3 v4).2.2.2.2 = shp S := by
  intro n
  induction n with
  | zero => intros; rfl
  | succ n ih =>
    intro S v1 v2 v3 v4
    unfold L_X12_goOn_36
    repeat' (first | with_reducible refine shpr4 ?_ | with_reducible rfl | with_reducible refine (ih _ _ _ _ _).trans ?_ | with_reducible refine (q_X12_doTick _ _ _ _ _ _).trans ?_ | with_reducible refine (qL_X12_goOn_12 _ _ _ _ _ _).trans ?_ | with_reducible refine (qL_X12_goOn_48 _ _ _ _ _ _ _).trans ?_ | with_reducible refine (qL_X12_goOn_58 _ _ _ _ _ _ _ _).trans ?_ | with_reducible refine (qL_X12_goOn_86 _ _ _ _ _ _ _ _ _).trans ?_ | with_reducible refine (shp_sI _ _ _ _).trans ?_ | with_reducible refine (shp_sJ _ _ _ _).trans ?_ | with_reducible refine shi ?_ ?_ | with_reducible refine shb (fun _ _ => ?_) | with_reducible refine shiP (fun q : Int32 × Int32 × Int32 × Int32 × HSt => q.2.2.2.2) ?_ ?_ | with_reducible refine shbP (fun q : Int32 × Int32 × Int32 × Int32 × HSt => q.2.2.2.2) (fun _ _ => ?_) | (subst_vars; with_reducible rfl) | (subst_vars; with_reducible refine (ih _ _ _ _ _).trans ?_) | (subst_vars; with_reducible refine (q_X12_doTick _ _ _ _ _ _).trans ?_) | (subst_vars; with_reducible refine (qL_X12_goOn_12 _ _ _ _ _ _).trans ?_) | (subst_vars; with_reducible refine (qL_X12_goOn_48 _ _ _ _ _ _ _).trans ?_) | (subst_vars; with_reducible refine (qL_X12_goOn_58 _ _ _ _ _ _ _ _).trans ?_) | (subst_vars; with_reducible refine (qL_X12_goOn_86 _ _ _ _ _ _ _ _ _).trans ?_) | (subst_vars; with_reducible refine (shp_sI _ _ _ _).trans ?_) | (subst_vars; with_reducible refine (shp_sJ _ _ _ _).trans ?_) | (subst_vars; with_reducible refine shi ?_ ?_) | (subst_vars; with_reducible refine shb (fun _ _ => ?_)))
theorem vL_X12_goOn_36 : ∀ (n : Nat) (S : HSt) (v1 : Int32) (v2 : Int32) (v3 : Int32) (v4 : Int32), Fr [(64, 20), (64, 21), (64, 22), (64, 23), (64, 24), (64, 25), (64, 26), (78, 1000)] S (L_X12_goOn_36 n S v1 v2 v3 v4).2.2.2.2 := by
  intro n
  induction n with
  | zero => intros; exact Fr.refl _ _
  | succ n ih =>
    intro S v1 v2 v3 v4
    unfold L_X12_goOn_36
    repeat' (first | with_reducible refine frpr4 ?_ | with_reducible exact Fr.refl _ _ | with_reducible refine Fr.lP (fun q : Int32 × Int32 × Int32 × Int32 × HSt => q.2.2.2.2) (fun _ _ => ?_) | with_reducible refine Fr.iteP (fun q : Int32 × Int32 × Int32 × Int32 × HSt => q.2.2.2.2) ?_ ?_ | with_reducible refine Fr.l1 (fun _ _ => ?_) | with_reducible refine Fr.ite ?_ ?_ | with_reducible refine Fr.sE (by assumption) (by first | decide | simp only [List.mem_cons, List.not_mem_nil, or_false, true_or, or_true, eq_self_iff_true]) ?_ | with_reducible refine Fr.jE (by assumption) ?_ | with_reducible refine Fr.rE (by assumption) (by first | decide | simp only [List.mem_cons, List.not_mem_nil, or_false, true_or, or_true, eq_self_iff_true]) ?_ | with_reducible refine Fr.iE (by assumption) ?_ ?_ | with_reducible refine Fr.tr (ih _ _ _ _ _) (by first | decide | simp only [List.mem_cons, List.not_mem_nil, or_false, forall_eq_or_imp, forall_eq, true_or, or_true, and_self, eq_self_iff_true]) ?_ | with_reducible refine Fr.tr (w_X12_doTick _ _ _ _ _ _ _ (by assumption)) (by first | decide | simp only [List.mem_cons, List.not_mem_nil, or_false, forall_eq_or_imp, forall_eq, true_or, or_true, and_self, eq_self_iff_true]) ?_ | with_reducible refine Fr.tr (wL_X12_goOn_12 _ _ _ _ _ _ _ (by assumption)) (by first | decide | simp only [List.mem_cons, List.not_mem_nil, or_false, forall_eq_or_imp, forall_eq, true_or, or_true, and_self, eq_self_iff_true]) ?_ | with_reducible refine Fr.tr (wL_X12_goOn_48 _ _ _ _ _ _ _ _ (by assumption)) (by first | decide | simp only [List.mem_cons, List.not_mem_nil, or_false, forall_eq_or_imp, forall_eq, true_or, or_true, and_self, eq_self_iff_true]) ?_ | with_reducible refine Fr.tr (wL_X12_goOn_58 _ _ _ _ _ _ _ _ _ (by assumption)) (by first | decide | simp only [List.mem_cons, List.not_mem_nil, or_false, forall_eq_or_imp, forall_eq, true_or, or_true, and_self, eq_self_iff_true]) ?_ | with_reducible refine Fr.tr (wL_X12_goOn_86 _ _ _ _ _ _ _ _ _ _ (by assumption)) (by first | decide | simp only [List.mem_cons, List.not_mem_nil, or_false, forall_eq_or_imp, forall_eq, true_or, or_true, and_self, eq_self_iff_true]) ?_)
theorem wL_X12_goOn_36 (n : Nat) (S : HSt) (v1 : Int32) (v2 : Int32) (v3 : Int32) (v4 : Int32) (r : Int32 × Int32 × Int32 × Int32 × HSt) (e : L_X12_goOn_36 n S v1 v2 v3 v4 = r) : Fr [(64, 20), (64, 21), (64, 22), (64, 23), (64, 24), (64, 25), (64, 26), (78, 1000)] S r.2.2.2.2 := by
  rw [← e]
  exact vL_X12_goOn_36 n S v1 v2 v3 v4
set_option maxRecDepth 100000 in
theorem l_X12_goOn_36 {p : Program} {l : Launch} {e : Env} {s : State} {m : MethodId} {args : Array Value} {below : List Frame} {meth : Method} {c : Code} {G : GG} {Q : State → Prop} (hC : ACx p s m args meth c cX12_goOn RX12 8 (some .int)) (hSt : St G s)  : ∀ (n : Nat) (S : HSt) (v1 : Int32) (v2 : Int32) (v3 : Int32) (v4 : Int32), MS S → T_X12_goOn_36 n S v1 v2 v3 v4 → AW p l e (rmD 3 0 0) s m args below meth c G 8 Q (L_X12_goOn_36 n S v1 v2 v3 v4).2.2.2.2 0 0 208 [(0, .ref 64), (1, .int (L_X12_goOn_36 n S v1 v2 v3 v4).1), (2, .int (L_X12_goOn_36 n S v1 v2 v3 v4).2.1), (3, .int (L_X12_goOn_36 n S v1 v2 v3 v4).2.2.1), (4, .int (L_X12_goOn_36 n S v1 v2 v3 v4).2.2.2.1)] [] → AW p l e (rmD 3 0 0) s m args below meth c G 8 Q S 0 0 36 [(0, .ref 64), (1, .int v1), (2, .int v2), (3, .int v3), (4, .int v4)] [] := by
  intro n
  induction n with
  | zero => intro S v1 v2 v3 v4 _ hT; exact hT.elim
  | succ n ih =>
    intro S v1 v2 v3 v4 hM hT hk
    unfold T_X12_goOn_36 at hT
    obtain ⟨h0, h1⟩ := hT
    refine aw_iload hC 4 dX12_goOn_36 rfl ?_
    refine aw_bipush (v := 15) hC dX12_goOn_38 (by decide) ?_
    refine aw_iload_n hC 1 dX12_goOn_40 rfl rfl ?_
    refine aw_imul hC dX12_goOn_41 ?_
    refine aw_icmp_gt hC 208 dX12_goOn_42 (by decide) (fun c1003 => ?_) (fun c1003 => ?_)
    · refine aw_sub [0, 1, 2, 3, 4] rfl ?_
      have E : L_X12_goOn_36 (n + 1) S v1 v2 v3 v4 = _ := (if_pos c1003).trans (rfl)
      rw [E] at hk
      exact hk
    · refine aw_iconst (v := 0) hC dX12_goOn_45 (by decide) ?_
      refine aw_istore hC [(5, .int _), (0, .ref 64), (1, .int _), (2, .int _), (3, .int _), (4, .int _)] dX12_goOn_46 (by decide) rfl ?_
      refine aw_sub [1, 2, 3, 4, 5, 0] rfl ?_
      refine l_X12_goOn_48 hC hSt 1000 _ _ _ _ _ _ hM (h0 c1003) ?_
      generalize er1004 : L_X12_goOn_48 1000 S v1 v2 v3 v4 (0 : Int32) = r1004
      have hM : MS r1004.2.2.2.2.2 := MS.of (by rw [← er1004]; exact qL_X12_goOn_48 _ _ _ _ _ _ _) hM
      refine aw_iinc (v := (r1004.2.2.2.1 + (1 : Int32))) hC 4 [(4, .int _), (0, .ref 64), (1, .int _), (2, .int _), (3, .int _), (5, .int _)] dX12_goOn_202 rfl rfl (by decide) rfl ?_
      refine aw_goto hC 36 dX12_goOn_205 (by decide) ?_
      refine aw_sub [1, 2, 3, 4, 0] rfl ?_
      have hTn := (h1 c1003 r1004 er1004)
      have hMn : MS r1004.2.2.2.2.2 := hM
      have E : L_X12_goOn_36 (n + 1) S v1 v2 v3 v4 = _ := (if_neg c1003).trans ((bd_eq er1004).trans (rfl))
      rw [E] at hk
      exact ih _ _ _ _ _ hMn hTn hk
noncomputable def L_X12_goOn_211 : Nat → HSt → Int32 → Int32 → Int32 → Int32 → Int32 × Int32 × Int32 × Int32 × HSt
  | 0, S, v1, v2, v3, v4 => (v1, v2, v3, v4, S)
  | n + 1, S, v1, v2, v3, v4 =>
    if (582096 : Int32) ≤ v4 then ((pr (v1) (pr (v2) (pr (v3) (pr (v4) (S)))))) else (bd ((sI S 77 v4.toNatClampNeg (vp_nar .boolean (gI S 78 v4.toNatClampNeg)))) fun S1005 => L_X12_goOn_211 n S1005 v1 v2 v3 (v4 + (1 : Int32)))
def T_X12_goOn_211 : Nat → HSt → Int32 → Int32 → Int32 → Int32 → Prop
  | 0, _, _, _, _, _ => False
  | n + 1, S, v1, v2, v3, v4 => ((¬ (582096 : Int32) ≤ v4) → vp_in v4 582096) ∧ ((¬ (582096 : Int32) ≤ v4) → vp_in v4 582096) ∧ ((¬ (582096 : Int32) ≤ v4) → ∀ S1005 : HSt, (sI S 77 v4.toNatClampNeg (vp_nar .boolean (gI S 78 v4.toNatClampNeg))) = S1005 → T_X12_goOn_211 n S1005 v1 v2 v3 (v4 + (1 : Int32)))
theorem qL_X12_goOn_211 : ∀ (n : Nat) (S : HSt) (v1 : Int32) (v2 : Int32) (v3 : Int32) (v4 : Int32), shp (L_X12_goOn_211 n S v1 v2 v3 v4).2.2.2.2 = shp S := by
  intro n
  induction n with
  | zero => intros; rfl
  | succ n ih =>
    intro S v1 v2 v3 v4
    unfold L_X12_goOn_211
    repeat' (first | with_reducible refine shpr4 ?_ | with_reducible rfl | with_reducible refine (ih _ _ _ _ _).trans ?_ | with_reducible refine (q_X12_doTick _ _ _ _ _ _).trans ?_ | with_reducible refine (qL_X12_goOn_12 _ _ _ _ _ _).trans ?_ | with_reducible refine (qL_X12_goOn_36 _ _ _ _ _ _).trans ?_ | with_reducible refine (qL_X12_goOn_48 _ _ _ _ _ _ _).trans ?_ | with_reducible refine (qL_X12_goOn_58 _ _ _ _ _ _ _ _).trans ?_ | with_reducible refine (qL_X12_goOn_86 _ _ _ _ _ _ _ _ _).trans ?_ | with_reducible refine (shp_sI _ _ _ _).trans ?_ | with_reducible refine (shp_sJ _ _ _ _).trans ?_ | with_reducible refine shi ?_ ?_ | with_reducible refine shb (fun _ _ => ?_) | with_reducible refine shiP (fun q : Int32 × Int32 × Int32 × Int32 × HSt => q.2.2.2.2) ?_ ?_ | with_reducible refine shbP (fun q : Int32 × Int32 × Int32 × Int32 × HSt => q.2.2.2.2) (fun _ _ => ?_) | (subst_vars; with_reducible rfl) | (subst_vars; with_reducible refine (ih _ _ _ _ _).trans ?_) | (subst_vars; with_reducible refine (q_X12_doTick _ _ _ _ _ _).trans ?_) | (subst_vars; with_reducible refine (qL_X12_goOn_12 _ _ _ _ _ _).trans ?_) | (subst_vars; with_reducible refine (qL_X12_goOn_36 _ _ _ _ _ _).trans ?_) | (subst_vars; with_reducible refine (qL_X12_goOn_48 _ _ _ _ _ _ _).trans ?_) | (subst_vars; with_reducible refine (qL_X12_goOn_58 _ _ _ _ _ _ _ _).trans ?_) | (subst_vars; with_reducible refine (qL_X12_goOn_86 _ _ _ _ _ _ _ _ _).trans ?_) | (subst_vars; with_reducible refine (shp_sI _ _ _ _).trans ?_) | (subst_vars; with_reducible refine (shp_sJ _ _ _ _).trans ?_) | (subst_vars; with_reducible refine shi ?_ ?_) | (subst_vars; with_reducible refine shb (fun _ _ => ?_)))
theorem vL_X12_goOn_211 : ∀ (n : Nat) (S : HSt) (v1 : Int32) (v2 : Int32) (v3 : Int32) (v4 : Int32), Fr [(77, 1000)] S (L_X12_goOn_211 n S v1 v2 v3 v4).2.2.2.2 := by
  intro n
  induction n with
  | zero => intros; exact Fr.refl _ _
  | succ n ih =>
    intro S v1 v2 v3 v4
    unfold L_X12_goOn_211
    repeat' (first | with_reducible refine frpr4 ?_ | with_reducible exact Fr.refl _ _ | with_reducible refine Fr.lP (fun q : Int32 × Int32 × Int32 × Int32 × HSt => q.2.2.2.2) (fun _ _ => ?_) | with_reducible refine Fr.iteP (fun q : Int32 × Int32 × Int32 × Int32 × HSt => q.2.2.2.2) ?_ ?_ | with_reducible refine Fr.l1 (fun _ _ => ?_) | with_reducible refine Fr.ite ?_ ?_ | with_reducible refine Fr.sE (by assumption) (by first | decide | simp only [List.mem_cons, List.not_mem_nil, or_false, true_or, or_true, eq_self_iff_true]) ?_ | with_reducible refine Fr.jE (by assumption) ?_ | with_reducible refine Fr.rE (by assumption) (by first | decide | simp only [List.mem_cons, List.not_mem_nil, or_false, true_or, or_true, eq_self_iff_true]) ?_ | with_reducible refine Fr.iE (by assumption) ?_ ?_ | with_reducible refine Fr.tr (ih _ _ _ _ _) (by first | decide | simp only [List.mem_cons, List.not_mem_nil, or_false, forall_eq_or_imp, forall_eq, true_or, or_true, and_self, eq_self_iff_true]) ?_ | with_reducible refine Fr.tr (w_X12_doTick _ _ _ _ _ _ _ (by assumption)) (by first | decide | simp only [List.mem_cons, List.not_mem_nil, or_false, forall_eq_or_imp, forall_eq, true_or, or_true, and_self, eq_self_iff_true]) ?_ | with_reducible refine Fr.tr (wL_X12_goOn_12 _ _ _ _ _ _ _ (by assumption)) (by first | decide | simp only [List.mem_cons, List.not_mem_nil, or_false, forall_eq_or_imp, forall_eq, true_or, or_true, and_self, eq_self_iff_true]) ?_ | with_reducible refine Fr.tr (wL_X12_goOn_36 _ _ _ _ _ _ _ (by assumption)) (by first | decide | simp only [List.mem_cons, List.not_mem_nil, or_false, forall_eq_or_imp, forall_eq, true_or, or_true, and_self, eq_self_iff_true]) ?_ | with_reducible refine Fr.tr (wL_X12_goOn_48 _ _ _ _ _ _ _ _ (by assumption)) (by first | decide | simp only [List.mem_cons, List.not_mem_nil, or_false, forall_eq_or_imp, forall_eq, true_or, or_true, and_self, eq_self_iff_true]) ?_ | with_reducible refine Fr.tr (wL_X12_goOn_58 _ _ _ _ _ _ _ _ _ (by assumption)) (by first | decide | simp only [List.mem_cons, List.not_mem_nil, or_false, forall_eq_or_imp, forall_eq, true_or, or_true, and_self, eq_self_iff_true]) ?_ | with_reducible refine Fr.tr (wL_X12_goOn_86 _ _ _ _ _ _ _ _ _ _ (by assumption)) (by first | decide | simp only [List.mem_cons, List.not_mem_nil, or_false, forall_eq_or_imp, forall_eq, true_or, or_true, and_self, eq_self_iff_true]) ?_)
theorem wL_X12_goOn_211 (n : Nat) (S : HSt) (v1 : Int32) (v2 : Int32) (v3 : Int32) (v4 : Int32) (r : Int32 × Int32 × Int32 × Int32 × HSt) (e : L_X12_goOn_211 n S v1 v2 v3 v4 = r) : Fr [(77, 1000)] S r.2.2.2.2 := by
  rw [← e]
  exact vL_X12_goOn_211 n S v1 v2 v3 v4
set_option maxRecDepth 100000 in
theorem l_X12_goOn_211 {p : Program} {l : Launch} {e : Env} {s : State} {m : MethodId} {args : Array Value} {below : List Frame} {meth : Method} {c : Code} {G : GG} {Q : State → Prop} (hC : ACx p s m args meth c cX12_goOn RX12 8 (some .int)) (hSt : St G s)  : ∀ (n : Nat) (S : HSt) (v1 : Int32) (v2 : Int32) (v3 : Int32) (v4 : Int32), MS S → T_X12_goOn_211 n S v1 v2 v3 v4 → AW p l e (rmD 3 0 0) s m args below meth c G 8 Q (L_X12_goOn_211 n S v1 v2 v3 v4).2.2.2.2 0 0 238 [(0, .ref 64), (1, .int (L_X12_goOn_211 n S v1 v2 v3 v4).1), (2, .int (L_X12_goOn_211 n S v1 v2 v3 v4).2.1), (3, .int (L_X12_goOn_211 n S v1 v2 v3 v4).2.2.1), (4, .int (L_X12_goOn_211 n S v1 v2 v3 v4).2.2.2.1)] [] → AW p l e (rmD 3 0 0) s m args below meth c G 8 Q S 0 0 211 [(0, .ref 64), (1, .int v1), (2, .int v2), (3, .int v3), (4, .int v4)] [] := by
  intro n
  induction n with
  | zero => intro S v1 v2 v3 v4 _ hT; exact hT.elim
  | succ n ih =>
    intro S v1 v2 v3 v4 hM hT hk
    unfold T_X12_goOn_211 at hT
    obtain ⟨h0, h1, h2⟩ := hT
    refine aw_iload hC 4 dX12_goOn_211 rfl ?_
    refine aw_ldc (v := 582096) hC w_931 dX12_goOn_213 ?_
    refine aw_icmp_ge hC 238 dX12_goOn_215 (by decide) (fun c1004 => ?_) (fun c1004 => ?_)
    · refine aw_sub [0, 1, 2, 3, 4] rfl ?_
      have E : L_X12_goOn_211 (n + 1) S v1 v2 v3 v4 = _ := (if_pos c1004).trans (rfl)
      rw [E] at hk
      exact hk
    · refine aw_aload_n hC 0 dX12_goOn_218 rfl rfl ?_
      refine aw_getP (b := 77) hC hSt 40 (ms_lt 64 (by decide) hM) (ms_k 64 12 0 (by decide) hM) rfl (by decide) w_933 rfl (ms_p 40 77 (by decide) hM) dX12_goOn_219 ?_
      refine aw_iload hC 4 dX12_goOn_222 rfl ?_
      refine aw_aload_n hC 0 dX12_goOn_224 rfl rfl ?_
      refine aw_getP (b := 78) hC hSt 41 (ms_lt 64 (by decide) hM) (ms_k 64 12 0 (by decide) hM) rfl (by decide) w_934 rfl (ms_p 41 78 (by decide) hM) dX12_goOn_225 ?_
      refine aw_iload hC 4 dX12_goOn_228 rfl ?_
      refine aw_zald hC hSt (ms_lt 78 (by decide) hM) (ms_k 78 16 582096 (by decide) hM) (vp_len (n := 582096) (ms_l 78 16 582096 (by decide) hM) (h0 c1004)) dX12_goOn_230 ?_
      refine aw_zast hC hSt (ms_lt 77 (by decide) hM) (ms_k 77 16 582096 (by decide) hM) (vp_len (n := 582096) (ms_l 77 16 582096 (by decide) hM) (h1 c1004)) dX12_goOn_231 ?_
      generalize eS1005 : (sI S 77 v4.toNatClampNeg (vp_nar .boolean (gI S 78 v4.toNatClampNeg))) = S1005
      have hM : MS S1005 := MS.of (by rw [← eS1005]; exact shp_sI _ _ _ _) hM
      refine aw_iinc (v := (v4 + (1 : Int32))) hC 4 [(4, .int _), (0, .ref 64), (1, .int _), (2, .int _), (3, .int _)] dX12_goOn_232 rfl rfl (by decide) rfl ?_
      refine aw_goto hC 211 dX12_goOn_235 (by decide) ?_
      refine aw_sub [1, 2, 3, 4, 0] rfl ?_
      have hTn := (h2 c1004 S1005 eS1005)
      have hMn : MS S1005 := hM
      have E : L_X12_goOn_211 (n + 1) S v1 v2 v3 v4 = _ := (if_neg c1004).trans ((bd_eq eS1005).trans (rfl))
      rw [E] at hk
      exact ih _ _ _ _ _ hMn hTn hk
noncomputable def f_X12_goOn (S : HSt) (_o : Nat) (a1 : Int32) : Int32 × HSt := bd ((gI S 71 (3 : Int32).toNatClampNeg)) fun x1 => bd (L_X12_goOn_12 FU S a1 x1 (0 : Int32) (0 : Int32)) fun r2 => bd (L_X12_goOn_36 1000 r2.2.2.2.2 r2.1 r2.2.1 r2.2.2.1 (0 : Int32)) fun r3 => bd (L_X12_goOn_211 FU r3.2.2.2.2 r3.1 r3.2.1 r3.2.2.1 (0 : Int32)) fun r4 => pr (r4.2.2.1) (r4.2.2.2.2)
def p_X12_goOn (S : HSt) (_o : Nat) (a1 : Int32) : Prop := (∀ x1 : Int32, (gI S 71 (3 : Int32).toNatClampNeg) = x1 → T_X12_goOn_12 FU S a1 x1 (0 : Int32) (0 : Int32)) ∧ (∀ x1 : Int32, (gI S 71 (3 : Int32).toNatClampNeg) = x1 → ∀ r2, L_X12_goOn_12 FU S a1 x1 (0 : Int32) (0 : Int32) = r2 → T_X12_goOn_36 1000 r2.2.2.2.2 r2.1 r2.2.1 r2.2.2.1 (0 : Int32)) ∧ (∀ x1 : Int32, (gI S 71 (3 : Int32).toNatClampNeg) = x1 → ∀ r2, L_X12_goOn_12 FU S a1 x1 (0 : Int32) (0 : Int32) = r2 → ∀ r3, L_X12_goOn_36 1000 r2.2.2.2.2 r2.1 r2.2.1 r2.2.2.1 (0 : Int32) = r3 → T_X12_goOn_211 FU r3.2.2.2.2 r3.1 r3.2.1 r3.2.2.1 (0 : Int32))
set_option maxRecDepth 100000 in
theorem t_X12_goOn (G : GG) (l : Launch) {S : HSt} (hM : MS S) (a1 : Int32) (hp : p_X12_goOn S 64 a1) : AM G l yX12_goOn cX12_goOn 8 (some .int) (rmD 3 0 0) 0 0 [.ref 64, .int a1] S (FP (some (.int (f_X12_goOn S 64 a1).1)) ((f_X12_goOn S 64 a1).2)) := by
  obtain ⟨h0, h1, h2⟩ := hp
  refine AM.mk (by decide) (Nat.le_of_ble_eq_true rfl) ?_
  intro p e s m below meth c hC hSt _
  refine aw_aload_n hC 0 dX12_goOn_0 rfl rfl ?_
  refine aw_getP (b := 71) hC hSt 27 (ms_lt 64 (by decide) hM) (ms_k 64 12 0 (by decide) hM) rfl (by decide) w_925 rfl (ms_p 27 71 (by decide) hM) dX12_goOn_1 ?_
  refine aw_iconst (v := 3) hC dX12_goOn_4 (by decide) ?_
  refine aw_iald hC hSt (ms_lt 71 (by decide) hM) (ms_k 71 14 7 (by decide) hM) (vp_len (n := 7) (ms_l 71 14 7 (by decide) hM) (by unfold vp_in; decide)) dX12_goOn_5 ?_
  refine aw_istore_n hC [(2, .int _), (0, .ref 64), (1, .int _)] dX12_goOn_6 rfl (by decide) rfl ?_
  generalize ex1 : (gI S 71 (3 : Int32).toNatClampNeg) = x1
  refine aw_iconst (v := 0) hC dX12_goOn_7 (by decide) ?_
  refine aw_istore_n hC [(3, .int _), (2, .int _), (0, .ref 64), (1, .int _)] dX12_goOn_8 rfl (by decide) rfl ?_
  refine aw_iconst (v := 0) hC dX12_goOn_9 (by decide) ?_
  refine aw_istore hC [(4, .int _), (3, .int _), (2, .int _), (0, .ref 64), (1, .int _)] dX12_goOn_10 (by decide) rfl ?_
  refine aw_sub [3, 4, 2, 1, 0] rfl ?_
  refine l_X12_goOn_12 hC hSt FU _ _ _ _ _ hM (h0 x1 ex1) ?_
  generalize er2 : L_X12_goOn_12 FU S a1 x1 (0 : Int32) (0 : Int32) = r2
  have hM : MS r2.2.2.2.2 := MS.of (by rw [← er2]; exact qL_X12_goOn_12 _ _ _ _ _ _) hM
  refine aw_iconst (v := 0) hC dX12_goOn_33 (by decide) ?_
  refine aw_istore hC [(4, .int _), (0, .ref 64), (1, .int _), (2, .int _), (3, .int _)] dX12_goOn_34 (by decide) rfl ?_
  refine aw_sub [1, 2, 3, 4, 0] rfl ?_
  refine l_X12_goOn_36 hC hSt 1000 _ _ _ _ _ hM (h1 x1 ex1 r2 er2) ?_
  generalize er3 : L_X12_goOn_36 1000 r2.2.2.2.2 r2.1 r2.2.1 r2.2.2.1 (0 : Int32) = r3
  have hM : MS r3.2.2.2.2 := MS.of (by rw [← er3]; exact qL_X12_goOn_36 _ _ _ _ _ _) hM
  refine aw_iconst (v := 0) hC dX12_goOn_208 (by decide) ?_
  refine aw_istore hC [(4, .int _), (0, .ref 64), (1, .int _), (2, .int _), (3, .int _)] dX12_goOn_209 (by decide) rfl ?_
  refine aw_sub [1, 2, 3, 4, 0] rfl ?_
  refine l_X12_goOn_211 hC hSt FU _ _ _ _ _ hM (h2 x1 ex1 r2 er2 r3 er3) ?_
  generalize er4 : L_X12_goOn_211 FU r3.2.2.2.2 r3.1 r3.2.1 r3.2.2.1 (0 : Int32) = r4
  have hM : MS r4.2.2.2.2 := MS.of (by rw [← er4]; exact qL_X12_goOn_211 _ _ _ _ _ _) hM
  refine aw_iload_n hC 3 dX12_goOn_238 rfl rfl ?_
  refine aw_iret hC dX12_goOn_239 (Nat.le_refl _) (Nat.le_refl _) ?_
  exact FP.qI ((bd_eq ex1).trans ((bd_eq er2).trans ((bd_eq er3).trans ((bd_eq er4).trans (rfl)))))
theorem q_X12_goOn (S : HSt) (_o : Nat) (a1 : Int32) : shp ((f_X12_goOn S _o a1).2) = shp S := by
  unfold f_X12_goOn
  repeat' (first | with_reducible refine shpr1 ?_ | with_reducible rfl | with_reducible refine (q_X12_doTick _ _ _ _ _ _).trans ?_ | with_reducible refine (qL_X12_goOn_12 _ _ _ _ _ _).trans ?_ | with_reducible refine (qL_X12_goOn_36 _ _ _ _ _ _).trans ?_ | with_reducible refine (qL_X12_goOn_48 _ _ _ _ _ _ _).trans ?_ | with_reducible refine (qL_X12_goOn_58 _ _ _ _ _ _ _ _).trans ?_ | with_reducible refine (qL_X12_goOn_86 _ _ _ _ _ _ _ _ _).trans ?_ | with_reducible refine (qL_X12_goOn_211 _ _ _ _ _ _).trans ?_ | with_reducible refine (shp_sI _ _ _ _).trans ?_ | with_reducible refine (shp_sJ _ _ _ _).trans ?_ | with_reducible refine shi ?_ ?_ | with_reducible refine shb (fun _ _ => ?_) | with_reducible refine shiP (fun q : Int32 × HSt => q.2) ?_ ?_ | with_reducible refine shbP (fun q : Int32 × HSt => q.2) (fun _ _ => ?_) | (subst_vars; with_reducible rfl) | (subst_vars; with_reducible refine (q_X12_doTick _ _ _ _ _ _).trans ?_) | (subst_vars; with_reducible refine (qL_X12_goOn_12 _ _ _ _ _ _).trans ?_) | (subst_vars; with_reducible refine (qL_X12_goOn_36 _ _ _ _ _ _).trans ?_) | (subst_vars; with_reducible refine (qL_X12_goOn_48 _ _ _ _ _ _ _).trans ?_) | (subst_vars; with_reducible refine (qL_X12_goOn_58 _ _ _ _ _ _ _ _).trans ?_) | (subst_vars; with_reducible refine (qL_X12_goOn_86 _ _ _ _ _ _ _ _ _).trans ?_) | (subst_vars; with_reducible refine (qL_X12_goOn_211 _ _ _ _ _ _).trans ?_) | (subst_vars; with_reducible refine (shp_sI _ _ _ _).trans ?_) | (subst_vars; with_reducible refine (shp_sJ _ _ _ _).trans ?_) | (subst_vars; with_reducible refine shi ?_ ?_) | (subst_vars; with_reducible refine shb (fun _ _ => ?_)))
theorem v_X12_goOn (S : HSt) (_o : Nat) (a1 : Int32) : Fr [(64, 20), (64, 21), (64, 22), (64, 23), (64, 24), (64, 25), (64, 26), (77, 1000), (78, 1000)] S ((f_X12_goOn S _o a1).2) := by
  unfold f_X12_goOn
  repeat' (first | with_reducible refine frpr1 ?_ | with_reducible exact Fr.refl _ _ | with_reducible refine Fr.lP (fun q : Int32 × HSt => q.2) (fun _ _ => ?_) | with_reducible refine Fr.iteP (fun q : Int32 × HSt => q.2) ?_ ?_ | with_reducible refine Fr.l1 (fun _ _ => ?_) | with_reducible refine Fr.ite ?_ ?_ | with_reducible refine Fr.sE (by assumption) (by first | decide | simp only [List.mem_cons, List.not_mem_nil, or_false, true_or, or_true, eq_self_iff_true]) ?_ | with_reducible refine Fr.jE (by assumption) ?_ | with_reducible refine Fr.rE (by assumption) (by first | decide | simp only [List.mem_cons, List.not_mem_nil, or_false, true_or, or_true, eq_self_iff_true]) ?_ | with_reducible refine Fr.iE (by assumption) ?_ ?_ | with_reducible refine Fr.tr (w_X12_doTick _ _ _ _ _ _ _ (by assumption)) (by first | decide | simp only [List.mem_cons, List.not_mem_nil, or_false, forall_eq_or_imp, forall_eq, true_or, or_true, and_self, eq_self_iff_true]) ?_ | with_reducible refine Fr.tr (wL_X12_goOn_12 _ _ _ _ _ _ _ (by assumption)) (by first | decide | simp only [List.mem_cons, List.not_mem_nil, or_false, forall_eq_or_imp, forall_eq, true_or, or_true, and_self, eq_self_iff_true]) ?_ | with_reducible refine Fr.tr (wL_X12_goOn_36 _ _ _ _ _ _ _ (by assumption)) (by first | decide | simp only [List.mem_cons, List.not_mem_nil, or_false, forall_eq_or_imp, forall_eq, true_or, or_true, and_self, eq_self_iff_true]) ?_ | with_reducible refine Fr.tr (wL_X12_goOn_48 _ _ _ _ _ _ _ _ (by assumption)) (by first | decide | simp only [List.mem_cons, List.not_mem_nil, or_false, forall_eq_or_imp, forall_eq, true_or, or_true, and_self, eq_self_iff_true]) ?_ | with_reducible refine Fr.tr (wL_X12_goOn_58 _ _ _ _ _ _ _ _ _ (by assumption)) (by first | decide | simp only [List.mem_cons, List.not_mem_nil, or_false, forall_eq_or_imp, forall_eq, true_or, or_true, and_self, eq_self_iff_true]) ?_ | with_reducible refine Fr.tr (wL_X12_goOn_86 _ _ _ _ _ _ _ _ _ _ (by assumption)) (by first | decide | simp only [List.mem_cons, List.not_mem_nil, or_false, forall_eq_or_imp, forall_eq, true_or, or_true, and_self, eq_self_iff_true]) ?_ | with_reducible refine Fr.tr (wL_X12_goOn_211 _ _ _ _ _ _ _ (by assumption)) (by first | decide | simp only [List.mem_cons, List.not_mem_nil, or_false, forall_eq_or_imp, forall_eq, true_or, or_true, and_self, eq_self_iff_true]) ?_)
theorem w_X12_goOn (S : HSt) (_o : Nat) (a1 : Int32) (r : Int32 × HSt) (e : f_X12_goOn S _o a1 = r) : Fr [(64, 20), (64, 21), (64, 22), (64, 23), (64, 24), (64, 25), (64, 26), (77, 1000), (78, 1000)] S r.2 := by
  rw [← e]
  exact v_X12_goOn S _o a1
noncomputable def L_X12_fewest_81 : Nat → HSt → Int32 → Int32 → Int32 → Int32 × Int32 × Int32 × HSt
  | 0, S, v1, v2, v3 => (v1, v2, v3, S)
  | n + 1, S, v1, v2, v3 =>
    if (582096 : Int32) ≤ v3 then ((pr (v1) (pr (v2) (pr (v3) (S))))) else (bd ((sI S 77 v3.toNatClampNeg (vp_nar .boolean (0 : Int32)))) fun S1009 => L_X12_fewest_81 n S1009 v1 v2 (v3 + (1 : Int32)))
def T_X12_fewest_81 : Nat → HSt → Int32 → Int32 → Int32 → Prop
  | 0, _, _, _, _ => False
  | n + 1, S, v1, v2, v3 => ((¬ (582096 : Int32) ≤ v3) → vp_in v3 582096) ∧ ((¬ (582096 : Int32) ≤ v3) → ∀ S1009 : HSt, (sI S 77 v3.toNatClampNeg (vp_nar .boolean (0 : Int32))) = S1009 → T_X12_fewest_81 n S1009 v1 v2 (v3 + (1 : Int32)))
theorem qL_X12_fewest_81 : ∀ (n : Nat) (S : HSt) (v1 : Int32) (v2 : Int32) (v3 : Int32), shp (L_X12_fewest_81 n S v1 v2 v3).2.2.2 = shp S := by
  intro n
  induction n with
  | zero => intros; rfl
  | succ n ih =>
    intro S v1 v2 v3
    unfold L_X12_fewest_81
    repeat' (first | with_reducible refine shpr3 ?_ | with_reducible rfl | with_reducible refine (ih _ _ _ _).trans ?_ | with_reducible refine (q_X12_goOn _ _ _).trans ?_ | with_reducible refine (shp_sI _ _ _ _).trans ?_ | with_reducible refine (shp_sJ _ _ _ _).trans ?_ | with_reducible refine shi ?_ ?_ | with_reducible refine shb (fun _ _ => ?_) | with_reducible refine shiP (fun q : Int32 × Int32 × Int32 × HSt => q.2.2.2) ?_ ?_ | with_reducible refine shbP (fun q : Int32 × Int32 × Int32 × HSt => q.2.2.2) (fun _ _ => ?_) | (subst_vars; with_reducible rfl) | (subst_vars; with_reducible refine (ih _ _ _ _).trans ?_) | (subst_vars; with_reducible refine (q_X12_goOn _ _ _).trans ?_) | (subst_vars; with_reducible refine (shp_sI _ _ _ _).trans ?_) | (subst_vars; with_reducible refine (shp_sJ _ _ _ _).trans ?_) | (subst_vars; with_reducible refine shi ?_ ?_) | (subst_vars; with_reducible refine shb (fun _ _ => ?_)))
theorem vL_X12_fewest_81 : ∀ (n : Nat) (S : HSt) (v1 : Int32) (v2 : Int32) (v3 : Int32), Fr [(77, 1000)] S (L_X12_fewest_81 n S v1 v2 v3).2.2.2 := by
  intro n
  induction n with
  | zero => intros; exact Fr.refl _ _
  | succ n ih =>
    intro S v1 v2 v3
    unfold L_X12_fewest_81
    repeat' (first | with_reducible refine frpr3 ?_ | with_reducible exact Fr.refl _ _ | with_reducible refine Fr.lP (fun q : Int32 × Int32 × Int32 × HSt => q.2.2.2) (fun _ _ => ?_) | with_reducible refine Fr.iteP (fun q : Int32 × Int32 × Int32 × HSt => q.2.2.2) ?_ ?_ | with_reducible refine Fr.l1 (fun _ _ => ?_) | with_reducible refine Fr.ite ?_ ?_ | with_reducible refine Fr.sE (by assumption) (by first | decide | simp only [List.mem_cons, List.not_mem_nil, or_false, true_or, or_true, eq_self_iff_true]) ?_ | with_reducible refine Fr.jE (by assumption) ?_ | with_reducible refine Fr.rE (by assumption) (by first | decide | simp only [List.mem_cons, List.not_mem_nil, or_false, true_or, or_true, eq_self_iff_true]) ?_ | with_reducible refine Fr.iE (by assumption) ?_ ?_ | with_reducible refine Fr.tr (ih _ _ _ _) (by first | decide | simp only [List.mem_cons, List.not_mem_nil, or_false, forall_eq_or_imp, forall_eq, true_or, or_true, and_self, eq_self_iff_true]) ?_ | with_reducible refine Fr.tr (w_X12_goOn _ _ _ _ (by assumption)) (by first | decide | simp only [List.mem_cons, List.not_mem_nil, or_false, forall_eq_or_imp, forall_eq, true_or, or_true, and_self, eq_self_iff_true]) ?_)
theorem wL_X12_fewest_81 (n : Nat) (S : HSt) (v1 : Int32) (v2 : Int32) (v3 : Int32) (r : Int32 × Int32 × Int32 × HSt) (e : L_X12_fewest_81 n S v1 v2 v3 = r) : Fr [(77, 1000)] S r.2.2.2 := by
  rw [← e]
  exact vL_X12_fewest_81 n S v1 v2 v3
set_option maxRecDepth 100000 in
theorem l_X12_fewest_81 {p : Program} {l : Launch} {e : Env} {s : State} {m : MethodId} {args : Array Value} {below : List Frame} {meth : Method} {c : Code} {G : GG} {Q : State → Prop} (hC : ACx p s m args meth c cX12_fewest RX12 4 (some .long)) (hSt : St G s)  : ∀ (n : Nat) (S : HSt) (v1 : Int32) (v2 : Int32) (v3 : Int32), MS S → T_X12_fewest_81 n S v1 v2 v3 → AW p l e (rmD 4 0 0) s m args below meth c G 4 Q (L_X12_fewest_81 n S v1 v2 v3).2.2.2 0 0 100 [(0, .ref 64), (1, .int (L_X12_fewest_81 n S v1 v2 v3).1), (2, .int (L_X12_fewest_81 n S v1 v2 v3).2.1), (3, .int (L_X12_fewest_81 n S v1 v2 v3).2.2.1)] [] → AW p l e (rmD 4 0 0) s m args below meth c G 4 Q S 0 0 81 [(0, .ref 64), (1, .int v1), (2, .int v2), (3, .int v3)] [] := by
  intro n
  induction n with
  | zero => intro S v1 v2 v3 _ hT; exact hT.elim
  | succ n ih =>
    intro S v1 v2 v3 hM hT hk
    unfold T_X12_fewest_81 at hT
    obtain ⟨h0, h1⟩ := hT
    refine aw_iload_n hC 3 dX12_fewest_81 rfl rfl ?_
    refine aw_ldc (v := 582096) hC w_931 dX12_fewest_82 ?_
    refine aw_icmp_ge hC 100 dX12_fewest_84 (by decide) (fun c1008 => ?_) (fun c1008 => ?_)
    · refine aw_sub [0, 1, 2, 3] rfl ?_
      have E : L_X12_fewest_81 (n + 1) S v1 v2 v3 = _ := (if_pos c1008).trans (rfl)
      rw [E] at hk
      exact hk
    · refine aw_aload_n hC 0 dX12_fewest_87 rfl rfl ?_
      refine aw_getP (b := 77) hC hSt 40 (ms_lt 64 (by decide) hM) (ms_k 64 12 0 (by decide) hM) rfl (by decide) w_933 rfl (ms_p 40 77 (by decide) hM) dX12_fewest_88 ?_
      refine aw_iload_n hC 3 dX12_fewest_91 rfl rfl ?_
      refine aw_iconst (v := 0) hC dX12_fewest_92 (by decide) ?_
      refine aw_zast hC hSt (ms_lt 77 (by decide) hM) (ms_k 77 16 582096 (by decide) hM) (vp_len (n := 582096) (ms_l 77 16 582096 (by decide) hM) (h0 c1008)) dX12_fewest_93 ?_
      generalize eS1009 : (sI S 77 v3.toNatClampNeg (vp_nar .boolean (0 : Int32))) = S1009
      have hM : MS S1009 := MS.of (by rw [← eS1009]; exact shp_sI _ _ _ _) hM
      refine aw_iinc (v := (v3 + (1 : Int32))) hC 3 [(3, .int _), (0, .ref 64), (1, .int _), (2, .int _)] dX12_fewest_94 rfl rfl (by decide) rfl ?_
      refine aw_goto hC 81 dX12_fewest_97 (by decide) ?_
      refine aw_sub [1, 2, 3, 0] rfl ?_
      have hTn := (h1 c1008 S1009 eS1009)
      have hMn : MS S1009 := hM
      have E : L_X12_fewest_81 (n + 1) S v1 v2 v3 = _ := (if_neg c1008).trans ((bd_eq eS1009).trans (rfl))
      rw [E] at hk
      exact ih _ _ _ _ hMn hTn hk
noncomputable def L_X12_fewest_124 : Nat → HSt → Int32 → Int32 → Int32 → Int32 × Int64 × Int32 × Int32 × Int32 × HSt
  | 0, S, v1, v2, v3 => ((1 : Int32), 0, v1, v2, v3, S)
  | n + 1, S, v1, v2, v3 =>
    if v2 ≤ v3 then ((pr ((0 : Int32)) (pr (0) (pr (v1) (pr (v2) (pr (v3) (S))))))) else (bd (f_X12_goOn S 64 v3) fun r1011 => if r1011.1 < v1 then (L_X12_fewest_124 n r1011.2 v1 v2 (v3 + (1 : Int32))) else ((pr ((1 : Int32)) (pr ((v3 + (1 : Int32)).toInt64) (pr (v1) (pr (v2) (pr (v3) (r1011.2))))))))
def T_X12_fewest_124 : Nat → HSt → Int32 → Int32 → Int32 → Prop
  | 0, _, _, _, _ => False
  | n + 1, S, v1, v2, v3 => ((¬ v2 ≤ v3) → p_X12_goOn S 64 v3) ∧ ((¬ v2 ≤ v3) → ∀ r1011, f_X12_goOn S 64 v3 = r1011 → (r1011.1 < v1) → T_X12_fewest_124 n r1011.2 v1 v2 (v3 + (1 : Int32)))
theorem qL_X12_fewest_124 : ∀ (n : Nat) (S : HSt) (v1 : Int32) (v2 : Int32) (v3 : Int32), shp (L_X12_fewest_124 n S v1 v2 v3).2.2.2.2.2 = shp S := by
  intro n
  induction n with
  | zero => intros; rfl
  | succ n ih =>
    intro S v1 v2 v3
    unfold L_X12_fewest_124
    repeat' (first | with_reducible refine shpr5 ?_ | with_reducible rfl | with_reducible refine (ih _ _ _ _).trans ?_ | with_reducible refine (q_X12_goOn _ _ _).trans ?_ | with_reducible refine (qL_X12_fewest_81 _ _ _ _ _).trans ?_ | with_reducible refine (shp_sI _ _ _ _).trans ?_ | with_reducible refine (shp_sJ _ _ _ _).trans ?_ | with_reducible refine shi ?_ ?_ | with_reducible refine shb (fun _ _ => ?_) | with_reducible refine shiP (fun q : Int32 × Int64 × Int32 × Int32 × Int32 × HSt => q.2.2.2.2.2) ?_ ?_ | with_reducible refine shbP (fun q : Int32 × Int64 × Int32 × Int32 × Int32 × HSt => q.2.2.2.2.2) (fun _ _ => ?_) | (subst_vars; with_reducible rfl) | (subst_vars; with_reducible refine (ih _ _ _ _).trans ?_) | (subst_vars; with_reducible refine (q_X12_goOn _ _ _).trans ?_) | (subst_vars; with_reducible refine (qL_X12_fewest_81 _ _ _ _ _).trans ?_) | (subst_vars; with_reducible refine (shp_sI _ _ _ _).trans ?_) | (subst_vars; with_reducible refine (shp_sJ _ _ _ _).trans ?_) | (subst_vars; with_reducible refine shi ?_ ?_) | (subst_vars; with_reducible refine shb (fun _ _ => ?_)))
theorem vL_X12_fewest_124 : ∀ (n : Nat) (S : HSt) (v1 : Int32) (v2 : Int32) (v3 : Int32), Fr [(64, 20), (64, 21), (64, 22), (64, 23), (64, 24), (64, 25), (64, 26), (77, 1000), (78, 1000)] S (L_X12_fewest_124 n S v1 v2 v3).2.2.2.2.2 := by
  intro n
  induction n with
  | zero => intros; exact Fr.refl _ _
  | succ n ih =>
    intro S v1 v2 v3
    unfold L_X12_fewest_124
    repeat' (first | with_reducible refine frpr5 ?_ | with_reducible exact Fr.refl _ _ | with_reducible refine Fr.lP (fun q : Int32 × Int64 × Int32 × Int32 × Int32 × HSt => q.2.2.2.2.2) (fun _ _ => ?_) | with_reducible refine Fr.iteP (fun q : Int32 × Int64 × Int32 × Int32 × Int32 × HSt => q.2.2.2.2.2) ?_ ?_ | with_reducible refine Fr.l1 (fun _ _ => ?_) | with_reducible refine Fr.ite ?_ ?_ | with_reducible refine Fr.sE (by assumption) (by first | decide | simp only [List.mem_cons, List.not_mem_nil, or_false, true_or, or_true, eq_self_iff_true]) ?_ | with_reducible refine Fr.jE (by assumption) ?_ | with_reducible refine Fr.rE (by assumption) (by first | decide | simp only [List.mem_cons, List.not_mem_nil, or_false, true_or, or_true, eq_self_iff_true]) ?_ | with_reducible refine Fr.iE (by assumption) ?_ ?_ | with_reducible refine Fr.tr (ih _ _ _ _) (by first | decide | simp only [List.mem_cons, List.not_mem_nil, or_false, forall_eq_or_imp, forall_eq, true_or, or_true, and_self, eq_self_iff_true]) ?_ | with_reducible refine Fr.tr (w_X12_goOn _ _ _ _ (by assumption)) (by first | decide | simp only [List.mem_cons, List.not_mem_nil, or_false, forall_eq_or_imp, forall_eq, true_or, or_true, and_self, eq_self_iff_true]) ?_ | with_reducible refine Fr.tr (wL_X12_fewest_81 _ _ _ _ _ _ (by assumption)) (by first | decide | simp only [List.mem_cons, List.not_mem_nil, or_false, forall_eq_or_imp, forall_eq, true_or, or_true, and_self, eq_self_iff_true]) ?_)
theorem wL_X12_fewest_124 (n : Nat) (S : HSt) (v1 : Int32) (v2 : Int32) (v3 : Int32) (r : Int32 × Int64 × Int32 × Int32 × Int32 × HSt) (e : L_X12_fewest_124 n S v1 v2 v3 = r) : Fr [(64, 20), (64, 21), (64, 22), (64, 23), (64, 24), (64, 25), (64, 26), (77, 1000), (78, 1000)] S r.2.2.2.2.2 := by
  rw [← e]
  exact vL_X12_fewest_124 n S v1 v2 v3
set_option maxRecDepth 100000 in
theorem l_X12_fewest_124 {p : Program} {l : Launch} {e : Env} {s : State} {m : MethodId} {args : Array Value} {below : List Frame} {meth : Method} {c : Code} {G : GG} {Post : Option Value → HSt → Prop} (hC : ACx p s m args meth c cX12_fewest RX12 4 (some .long)) (hSt : St G s)  : ∀ (n : Nat) (S : HSt) (v1 : Int32) (v2 : Int32) (v3 : Int32), MS S → T_X12_fewest_124 n S v1 v2 v3 → ((L_X12_fewest_124 n S v1 v2 v3).1 = 1 → Post (some (.long (L_X12_fewest_124 n S v1 v2 v3).2.1)) (L_X12_fewest_124 n S v1 v2 v3).2.2.2.2.2) → ((L_X12_fewest_124 n S v1 v2 v3).1 ≠ 1 → AW p l e (rmD 4 0 0) s m args below meth c G 4 (AQ G below args s 0 0 Post) (L_X12_fewest_124 n S v1 v2 v3).2.2.2.2.2 0 0 149 [(0, .ref 64), (1, .int (L_X12_fewest_124 n S v1 v2 v3).2.2.1), (2, .int (L_X12_fewest_124 n S v1 v2 v3).2.2.2.1), (3, .int (L_X12_fewest_124 n S v1 v2 v3).2.2.2.2.1)] []) → AW p l e (rmD 4 0 0) s m args below meth c G 4 (AQ G below args s 0 0 Post) S 0 0 124 [(0, .ref 64), (1, .int v1), (2, .int v2), (3, .int v3)] [] := by
  intro n
  induction n with
  | zero => intro S v1 v2 v3 _ hT; exact hT.elim
  | succ n ih =>
    intro S v1 v2 v3 hM hT hr hk
    unfold T_X12_fewest_124 at hT
    obtain ⟨h0, h1⟩ := hT
    refine aw_iload_n hC 3 dX12_fewest_124 rfl rfl ?_
    refine aw_iload_n hC 2 dX12_fewest_125 rfl rfl ?_
    refine aw_icmp_ge hC 149 dX12_fewest_126 (by decide) (fun c1010 => ?_) (fun c1010 => ?_)
    · refine aw_sub [0, 1, 2, 3] rfl ?_
      have E : L_X12_fewest_124 (n + 1) S v1 v2 v3 = _ := (if_pos c1010).trans (rfl)
      rw [E] at hk hr
      exact hk (by show ¬ (0 : Int32) = 1; decide)
    · refine aw_aload_n hC 0 dX12_fewest_129 rfl rfl ?_
      refine aw_iload_n hC 3 dX12_fewest_130 rfl rfl ?_
      refine aw_cV1r hC hSt (t_X12_goOn G l hM _ (h0 c1010)) w_1237 w_1239 w_1240 w_1241 w_953 rfl rfl (by decide +kernel) ⟨Nat.le_of_ble_eq_true rfl, Nat.le_of_ble_eq_true rfl⟩ (ms_lt 64 (by decide) hM) (ms_k 64 12 0 (by decide) hM) rfl (Nat.le_of_ble_eq_true rfl) dX12_fewest_131 ⟨Nat.zero_le _, Nat.zero_le _⟩ ?_
      generalize er1011 : f_X12_goOn S 64 v3 = r1011
      have hM : MS r1011.2 := MS.of (by rw [← er1011]; exact q_X12_goOn _ _ _) hM
      refine aw_iload_n hC 1 dX12_fewest_134 rfl rfl ?_
      refine aw_icmp_lt hC 143 dX12_fewest_135 (by decide) (fun c1012 => ?_) (fun c1012 => ?_)
      · refine aw_iinc (v := (v3 + (1 : Int32))) hC 3 [(3, .int _), (0, .ref 64), (1, .int _), (2, .int _)] dX12_fewest_143 rfl rfl (by decide) rfl ?_
        refine aw_goto hC 124 dX12_fewest_146 (by decide) ?_
        refine aw_sub [1, 2, 3, 0] rfl ?_
        have hTn := (h1 c1010 r1011 er1011 c1012)
        have hMn : MS r1011.2 := hM
        have E : L_X12_fewest_124 (n + 1) S v1 v2 v3 = _ := (if_neg c1010).trans ((bd_eq er1011).trans ((if_pos c1012).trans (rfl)))
        rw [E] at hk hr
        exact ih _ _ _ _ hMn hTn hr hk
      · refine aw_iload_n hC 3 dX12_fewest_138 rfl rfl ?_
        refine aw_iconst (v := 1) hC dX12_fewest_139 (by decide) ?_
        refine aw_iadd hC dX12_fewest_140 ?_
        refine aw_i2l hC dX12_fewest_141 ?_
        refine aw_lret hC dX12_fewest_142 (Nat.le_refl _) (Nat.le_refl _) ?_
        have E : L_X12_fewest_124 (n + 1) S v1 v2 v3 = _ := (if_neg c1010).trans ((bd_eq er1011).trans ((if_neg c1012).trans (rfl)))
        rw [E] at hr
        exact hr rfl
noncomputable def f_X12_fewest (S : HSt) (_o : Nat) (a1 : Int32) (a2 : Int32) : Int64 × HSt := bd ((sI S 64 0 (0 : Int32))) fun S1 => if (f_X12_in S1 a1.toInt64 (1 : Int64) (200 : Int64)) = 0 then (pr ((-9000000000000000001 : Int64)) (S1)) else (if (f_X12_in S1 a2.toInt64 (0 : Int64) (12 : Int64)) = 0 then (pr ((-9000000000000000001 : Int64)) (S1)) else (if (gI S1 64 7) = 0 then (pr ((-9000000000000000002 : Int64)) (S1)) else (if (gI S1 71 (0 : Int32).toNatClampNeg) < a1 then (if (gI S1 71 (5 : Int32).toNatClampNeg) = (1 : Int32) then (pr ((-1000000 : Int64)) (S1)) else (if (gI S1 71 (0 : Int32).toNatClampNeg) = 0 then (pr ((-1000000 : Int64)) (S1)) else (bd (L_X12_fewest_81 FU S1 a1 a2 (0 : Int32)) fun r8 => bd ((sI r8.2.2.2 77 (f_X12_placeOf r8.2.2.2 (0 : Int32) (gI r8.2.2.2 71 (1 : Int32).toNatClampNeg) (gI r8.2.2.2 71 (0 : Int32).toNatClampNeg)).toNatClampNeg (vp_nar .boolean (1 : Int32)))) fun S9 => bd (L_X12_fewest_124 1000 S9 r8.1 r8.2.1 (0 : Int32)) fun r10 => if r10.1 = 1 then (pr (r10.2.1) (r10.2.2.2.2.2)) else (pr ((-1000000 : Int64)) (r10.2.2.2.2.2))))) else (pr ((0 : Int64)) (S1)))))
def p_X12_fewest (S : HSt) (_o : Nat) (a1 : Int32) (a2 : Int32) : Prop := (∀ S1 : HSt, (sI S 64 0 (0 : Int32)) = S1 → (¬ (f_X12_in S1 a1.toInt64 (1 : Int64) (200 : Int64)) = 0) → (¬ (f_X12_in S1 a2.toInt64 (0 : Int64) (12 : Int64)) = 0) → (¬ (gI S1 64 7) = 0) → ((gI S1 71 (0 : Int32).toNatClampNeg) < a1) → (¬ (gI S1 71 (5 : Int32).toNatClampNeg) = (1 : Int32)) → (¬ (gI S1 71 (0 : Int32).toNatClampNeg) = 0) → T_X12_fewest_81 FU S1 a1 a2 (0 : Int32)) ∧ (∀ S1 : HSt, (sI S 64 0 (0 : Int32)) = S1 → (¬ (f_X12_in S1 a1.toInt64 (1 : Int64) (200 : Int64)) = 0) → (¬ (f_X12_in S1 a2.toInt64 (0 : Int64) (12 : Int64)) = 0) → (¬ (gI S1 64 7) = 0) → ((gI S1 71 (0 : Int32).toNatClampNeg) < a1) → (¬ (gI S1 71 (5 : Int32).toNatClampNeg) = (1 : Int32)) → (¬ (gI S1 71 (0 : Int32).toNatClampNeg) = 0) → ∀ r8, L_X12_fewest_81 FU S1 a1 a2 (0 : Int32) = r8 → vp_in (f_X12_placeOf r8.2.2.2 (0 : Int32) (gI r8.2.2.2 71 (1 : Int32).toNatClampNeg) (gI r8.2.2.2 71 (0 : Int32).toNatClampNeg)) 582096) ∧ (∀ S1 : HSt, (sI S 64 0 (0 : Int32)) = S1 → (¬ (f_X12_in S1 a1.toInt64 (1 : Int64) (200 : Int64)) = 0) → (¬ (f_X12_in S1 a2.toInt64 (0 : Int64) (12 : Int64)) = 0) → (¬ (gI S1 64 7) = 0) → ((gI S1 71 (0 : Int32).toNatClampNeg) < a1) → (¬ (gI S1 71 (5 : Int32).toNatClampNeg) = (1 : Int32)) → (¬ (gI S1 71 (0 : Int32).toNatClampNeg) = 0) → ∀ r8, L_X12_fewest_81 FU S1 a1 a2 (0 : Int32) = r8 → ∀ S9 : HSt, (sI r8.2.2.2 77 (f_X12_placeOf r8.2.2.2 (0 : Int32) (gI r8.2.2.2 71 (1 : Int32).toNatClampNeg) (gI r8.2.2.2 71 (0 : Int32).toNatClampNeg)).toNatClampNeg (vp_nar .boolean (1 : Int32))) = S9 → T_X12_fewest_124 1000 S9 r8.1 r8.2.1 (0 : Int32))
set_option maxRecDepth 100000 in
theorem t_X12_fewest (G : GG) (l : Launch) {S : HSt} (hM : MS S) (a1 : Int32) (a2 : Int32) (hp : p_X12_fewest S 64 a1 a2) : AM G l yX12_fewest cX12_fewest 4 (some .long) (rmD 4 0 0) 0 0 [.ref 64, .int a1, .int a2] S (FP (some (.long (f_X12_fewest S 64 a1 a2).1)) ((f_X12_fewest S 64 a1 a2).2)) := by
  obtain ⟨h0, h1, h2⟩ := hp
  refine AM.mk (by decide) (Nat.le_of_ble_eq_true rfl) ?_
  intro p e s m below meth c hC hSt _
  refine aw_aload_n hC 0 dX12_fewest_0 rfl rfl ?_
  refine aw_iconst (v := 0) hC dX12_fewest_1 (by decide) ?_
  refine aw_putI hC hSt 0 (ms_lt 64 (by decide) hM) (ms_k 64 12 0 (by decide) hM) rfl (by decide) w_955 rfl rfl rfl rfl dX12_fewest_2 ?_
  generalize eS1 : (sI S 64 0 (0 : Int32)) = S1
  have hM : MS S1 := MS.of (by rw [← eS1]; exact shp_sI _ _ _ _) hM
  refine aw_iload_n hC 1 dX12_fewest_5 rfl rfl ?_
  refine aw_i2l hC dX12_fewest_6 ?_
  refine aw_lconst (v := 1) hC dX12_fewest_7 (by decide) ?_
  refine aw_ldc2 (v := 200) hC w_1174 dX12_fewest_8 ?_
  refine aw_cS3r hC hSt (t_X12_in G l  _ _ _) w_945 w_951 w_952 w_953 rfl rfl (by decide +kernel) ⟨Nat.le_of_ble_eq_true rfl, Nat.le_of_ble_eq_true rfl⟩ (Nat.le_of_ble_eq_true rfl) dX12_fewest_11 ⟨Nat.zero_le _, Nat.zero_le _⟩ ?_
  refine aw_if_eq hC 29 dX12_fewest_14 (by decide) (fun c2 => ?_) (fun c2 => ?_)
  · refine aw_ldc2 (v := -9000000000000000001) hC w_957 dX12_fewest_29 ?_
    refine aw_lret hC dX12_fewest_32 (Nat.le_refl _) (Nat.le_refl _) ?_
    exact FP.qJ ((bd_eq eS1).trans ((if_pos c2).trans (rfl)))
  · refine aw_iload_n hC 2 dX12_fewest_17 rfl rfl ?_
    refine aw_i2l hC dX12_fewest_18 ?_
    refine aw_lconst (v := 0) hC dX12_fewest_19 (by decide) ?_
    refine aw_ldc2 (v := 12) hC w_1238 dX12_fewest_20 ?_
    refine aw_cS3r hC hSt (t_X12_in G l  _ _ _) w_945 w_951 w_952 w_953 rfl rfl (by decide +kernel) ⟨Nat.le_of_ble_eq_true rfl, Nat.le_of_ble_eq_true rfl⟩ (Nat.le_of_ble_eq_true rfl) dX12_fewest_23 ⟨Nat.zero_le _, Nat.zero_le _⟩ ?_
    refine aw_if_ne hC 33 dX12_fewest_26 (by decide) (fun c3 => ?_) (fun c3 => ?_)
    · refine aw_aload_n hC 0 dX12_fewest_33 rfl rfl ?_
      refine aw_getI hC hSt 7 (ms_lt 64 (by decide) hM) (ms_k 64 12 0 (by decide) hM) rfl (by decide) w_1051 rfl dX12_fewest_34 ?_
      refine aw_if_ne hC 44 dX12_fewest_37 (by decide) (fun c4 => ?_) (fun c4 => ?_)
      · refine aw_aload_n hC 0 dX12_fewest_44 rfl rfl ?_
        refine aw_getP (b := 71) hC hSt 27 (ms_lt 64 (by decide) hM) (ms_k 64 12 0 (by decide) hM) rfl (by decide) w_925 rfl (ms_p 27 71 (by decide) hM) dX12_fewest_45 ?_
        refine aw_iconst (v := 0) hC dX12_fewest_48 (by decide) ?_
        refine aw_iald hC hSt (ms_lt 71 (by decide) hM) (ms_k 71 14 7 (by decide) hM) (vp_len (n := 7) (ms_l 71 14 7 (by decide) hM) (by unfold vp_in; decide)) dX12_fewest_49 ?_
        refine aw_iload_n hC 1 dX12_fewest_50 rfl rfl ?_
        refine aw_icmp_lt hC 56 dX12_fewest_51 (by decide) (fun c5 => ?_) (fun c5 => ?_)
        · refine aw_aload_n hC 0 dX12_fewest_56 rfl rfl ?_
          refine aw_getP (b := 71) hC hSt 27 (ms_lt 64 (by decide) hM) (ms_k 64 12 0 (by decide) hM) rfl (by decide) w_925 rfl (ms_p 27 71 (by decide) hM) dX12_fewest_57 ?_
          refine aw_iconst (v := 5) hC dX12_fewest_60 (by decide) ?_
          refine aw_iald hC hSt (ms_lt 71 (by decide) hM) (ms_k 71 14 7 (by decide) hM) (vp_len (n := 7) (ms_l 71 14 7 (by decide) hM) (by unfold vp_in; decide)) dX12_fewest_61 ?_
          refine aw_iconst (v := 1) hC dX12_fewest_62 (by decide) ?_
          refine aw_icmp_eq hC 75 dX12_fewest_63 (by decide) (fun c6 => ?_) (fun c6 => ?_)
          · refine aw_ldc2 (v := -1000000) hC w_1176 dX12_fewest_75 ?_
            refine aw_lret hC dX12_fewest_78 (Nat.le_refl _) (Nat.le_refl _) ?_
            exact FP.qJ ((bd_eq eS1).trans ((if_neg c2).trans ((if_neg c3).trans ((if_neg c4).trans ((if_pos c5).trans ((if_pos c6).trans (rfl)))))))
          · refine aw_aload_n hC 0 dX12_fewest_66 rfl rfl ?_
            refine aw_getP (b := 71) hC hSt 27 (ms_lt 64 (by decide) hM) (ms_k 64 12 0 (by decide) hM) rfl (by decide) w_925 rfl (ms_p 27 71 (by decide) hM) dX12_fewest_67 ?_
            refine aw_iconst (v := 0) hC dX12_fewest_70 (by decide) ?_
            refine aw_iald hC hSt (ms_lt 71 (by decide) hM) (ms_k 71 14 7 (by decide) hM) (vp_len (n := 7) (ms_l 71 14 7 (by decide) hM) (by unfold vp_in; decide)) dX12_fewest_71 ?_
            refine aw_if_ne hC 79 dX12_fewest_72 (by decide) (fun c7 => ?_) (fun c7 => ?_)
            · refine aw_iconst (v := 0) hC dX12_fewest_79 (by decide) ?_
              refine aw_istore_n hC [(3, .int _), (0, .ref 64), (1, .int _), (2, .int _)] dX12_fewest_80 rfl (by decide) rfl ?_
              refine aw_sub [1, 2, 3, 0] rfl ?_
              refine l_X12_fewest_81 hC hSt FU _ _ _ _ hM (h0 S1 eS1 c2 c3 c4 c5 c6 c7) ?_
              generalize er8 : L_X12_fewest_81 FU S1 a1 a2 (0 : Int32) = r8
              have hM : MS r8.2.2.2 := MS.of (by rw [← er8]; exact qL_X12_fewest_81 _ _ _ _ _) hM
              refine aw_aload_n hC 0 dX12_fewest_100 rfl rfl ?_
              refine aw_getP (b := 77) hC hSt 40 (ms_lt 64 (by decide) hM) (ms_k 64 12 0 (by decide) hM) rfl (by decide) w_933 rfl (ms_p 40 77 (by decide) hM) dX12_fewest_101 ?_
              refine aw_iconst (v := 0) hC dX12_fewest_104 (by decide) ?_
              refine aw_aload_n hC 0 dX12_fewest_105 rfl rfl ?_
              refine aw_getP (b := 71) hC hSt 27 (ms_lt 64 (by decide) hM) (ms_k 64 12 0 (by decide) hM) rfl (by decide) w_925 rfl (ms_p 27 71 (by decide) hM) dX12_fewest_106 ?_
              refine aw_iconst (v := 1) hC dX12_fewest_109 (by decide) ?_
              refine aw_iald hC hSt (ms_lt 71 (by decide) hM) (ms_k 71 14 7 (by decide) hM) (vp_len (n := 7) (ms_l 71 14 7 (by decide) hM) (by unfold vp_in; decide)) dX12_fewest_110 ?_
              refine aw_aload_n hC 0 dX12_fewest_111 rfl rfl ?_
              refine aw_getP (b := 71) hC hSt 27 (ms_lt 64 (by decide) hM) (ms_k 64 12 0 (by decide) hM) rfl (by decide) w_925 rfl (ms_p 27 71 (by decide) hM) dX12_fewest_112 ?_
              refine aw_iconst (v := 0) hC dX12_fewest_115 (by decide) ?_
              refine aw_iald hC hSt (ms_lt 71 (by decide) hM) (ms_k 71 14 7 (by decide) hM) (vp_len (n := 7) (ms_l 71 14 7 (by decide) hM) (by unfold vp_in; decide)) dX12_fewest_116 ?_
              refine aw_cS3r hC hSt (t_X12_placeOf G l  _ _ _) w_1234 w_1235 w_1236 w_953 rfl rfl (by decide +kernel) ⟨Nat.le_of_ble_eq_true rfl, Nat.le_of_ble_eq_true rfl⟩ (Nat.le_of_ble_eq_true rfl) dX12_fewest_117 ⟨Nat.zero_le _, Nat.zero_le _⟩ ?_
              refine aw_iconst (v := 1) hC dX12_fewest_120 (by decide) ?_
              refine aw_zast hC hSt (ms_lt 77 (by decide) hM) (ms_k 77 16 582096 (by decide) hM) (vp_len (n := 582096) (ms_l 77 16 582096 (by decide) hM) (h1 S1 eS1 c2 c3 c4 c5 c6 c7 r8 er8)) dX12_fewest_121 ?_
              generalize eS9 : (sI r8.2.2.2 77 (f_X12_placeOf r8.2.2.2 (0 : Int32) (gI r8.2.2.2 71 (1 : Int32).toNatClampNeg) (gI r8.2.2.2 71 (0 : Int32).toNatClampNeg)).toNatClampNeg (vp_nar .boolean (1 : Int32))) = S9
              have hM : MS S9 := MS.of (by rw [← eS9]; exact shp_sI _ _ _ _) hM
              refine aw_iconst (v := 0) hC dX12_fewest_122 (by decide) ?_
              refine aw_istore_n hC [(3, .int _), (0, .ref 64), (1, .int _), (2, .int _)] dX12_fewest_123 rfl (by decide) rfl ?_
              refine aw_sub [1, 2, 3, 0] rfl ?_
              refine l_X12_fewest_124 hC hSt 1000 _ _ _ _ hM (h2 S1 eS1 c2 c3 c4 c5 c6 c7 r8 er8 S9 eS9) (fun c11 => ?_) (fun c11 => ?_)
              · revert c11
                generalize er10 : L_X12_fewest_124 1000 S9 r8.1 r8.2.1 (0 : Int32) = r10
                intro c11
                exact FP.qJ ((bd_eq eS1).trans ((if_neg c2).trans ((if_neg c3).trans ((if_neg c4).trans ((if_pos c5).trans ((if_neg c6).trans ((if_neg c7).trans ((bd_eq er8).trans ((bd_eq eS9).trans ((bd_eq er10).trans ((if_pos c11).trans (rfl))))))))))))
              · revert c11
                generalize er10 : L_X12_fewest_124 1000 S9 r8.1 r8.2.1 (0 : Int32) = r10
                have hM : MS r10.2.2.2.2.2 := MS.of (by rw [← er10]; exact qL_X12_fewest_124 _ _ _ _ _) hM
                intro c11
                refine aw_ldc2 (v := -1000000) hC w_1176 dX12_fewest_149 ?_
                refine aw_lret hC dX12_fewest_152 (Nat.le_refl _) (Nat.le_refl _) ?_
                exact FP.qJ ((bd_eq eS1).trans ((if_neg c2).trans ((if_neg c3).trans ((if_neg c4).trans ((if_pos c5).trans ((if_neg c6).trans ((if_neg c7).trans ((bd_eq er8).trans ((bd_eq eS9).trans ((bd_eq er10).trans ((if_neg c11).trans (rfl))))))))))))
            · refine aw_ldc2 (v := -1000000) hC w_1176 dX12_fewest_75 ?_
              refine aw_lret hC dX12_fewest_78 (Nat.le_refl _) (Nat.le_refl _) ?_
              exact FP.qJ ((bd_eq eS1).trans ((if_neg c2).trans ((if_neg c3).trans ((if_neg c4).trans ((if_pos c5).trans ((if_neg c6).trans ((if_pos c7).trans (rfl))))))))
        · refine aw_lconst (v := 0) hC dX12_fewest_54 (by decide) ?_
          refine aw_lret hC dX12_fewest_55 (Nat.le_refl _) (Nat.le_refl _) ?_
          exact FP.qJ ((bd_eq eS1).trans ((if_neg c2).trans ((if_neg c3).trans ((if_neg c4).trans ((if_neg c5).trans (rfl))))))
      · refine aw_ldc2 (v := -9000000000000000002) hC w_1151 dX12_fewest_40 ?_
        refine aw_lret hC dX12_fewest_43 (Nat.le_refl _) (Nat.le_refl _) ?_
        exact FP.qJ ((bd_eq eS1).trans ((if_neg c2).trans ((if_neg c3).trans ((if_pos c4).trans (rfl)))))
    · refine aw_ldc2 (v := -9000000000000000001) hC w_957 dX12_fewest_29 ?_
      refine aw_lret hC dX12_fewest_32 (Nat.le_refl _) (Nat.le_refl _) ?_
      exact FP.qJ ((bd_eq eS1).trans ((if_neg c2).trans ((if_pos c3).trans (rfl))))
theorem q_X12_fewest (S : HSt) (_o : Nat) (a1 : Int32) (a2 : Int32) : shp ((f_X12_fewest S _o a1 a2).2) = shp S := by
  unfold f_X12_fewest
  repeat' (first | with_reducible refine shpr1 ?_ | with_reducible rfl | with_reducible refine (q_X12_goOn _ _ _).trans ?_ | with_reducible refine (qL_X12_fewest_81 _ _ _ _ _).trans ?_ | with_reducible refine (qL_X12_fewest_124 _ _ _ _ _).trans ?_ | with_reducible refine (shp_sI _ _ _ _).trans ?_ | with_reducible refine (shp_sJ _ _ _ _).trans ?_ | with_reducible refine shi ?_ ?_ | with_reducible refine shb (fun _ _ => ?_) | with_reducible refine shiP (fun q : Int64 × HSt => q.2) ?_ ?_ | with_reducible refine shbP (fun q : Int64 × HSt => q.2) (fun _ _ => ?_) | (subst_vars; with_reducible rfl) | (subst_vars; with_reducible refine (q_X12_goOn _ _ _).trans ?_) | (subst_vars; with_reducible refine (qL_X12_fewest_81 _ _ _ _ _).trans ?_) | (subst_vars; with_reducible refine (qL_X12_fewest_124 _ _ _ _ _).trans ?_) | (subst_vars; with_reducible refine (shp_sI _ _ _ _).trans ?_) | (subst_vars; with_reducible refine (shp_sJ _ _ _ _).trans ?_) | (subst_vars; with_reducible refine shi ?_ ?_) | (subst_vars; with_reducible refine shb (fun _ _ => ?_)))
theorem v_X12_fewest (S : HSt) (_o : Nat) (a1 : Int32) (a2 : Int32) : Fr [(64, 0), (64, 20), (64, 21), (64, 22), (64, 23), (64, 24), (64, 25), (64, 26), (77, 1000), (78, 1000)] S ((f_X12_fewest S _o a1 a2).2) := by
  unfold f_X12_fewest
  repeat' (first | with_reducible refine frpr1 ?_ | with_reducible exact Fr.refl _ _ | with_reducible refine Fr.lP (fun q : Int64 × HSt => q.2) (fun _ _ => ?_) | with_reducible refine Fr.iteP (fun q : Int64 × HSt => q.2) ?_ ?_ | with_reducible refine Fr.l1 (fun _ _ => ?_) | with_reducible refine Fr.ite ?_ ?_ | with_reducible refine Fr.sE (by assumption) (by first | decide | simp only [List.mem_cons, List.not_mem_nil, or_false, true_or, or_true, eq_self_iff_true]) ?_ | with_reducible refine Fr.jE (by assumption) ?_ | with_reducible refine Fr.rE (by assumption) (by first | decide | simp only [List.mem_cons, List.not_mem_nil, or_false, true_or, or_true, eq_self_iff_true]) ?_ | with_reducible refine Fr.iE (by assumption) ?_ ?_ | with_reducible refine Fr.tr (w_X12_goOn _ _ _ _ (by assumption)) (by first | decide | simp only [List.mem_cons, List.not_mem_nil, or_false, forall_eq_or_imp, forall_eq, true_or, or_true, and_self, eq_self_iff_true]) ?_ | with_reducible refine Fr.tr (wL_X12_fewest_81 _ _ _ _ _ _ (by assumption)) (by first | decide | simp only [List.mem_cons, List.not_mem_nil, or_false, forall_eq_or_imp, forall_eq, true_or, or_true, and_self, eq_self_iff_true]) ?_ | with_reducible refine Fr.tr (wL_X12_fewest_124 _ _ _ _ _ _ (by assumption)) (by first | decide | simp only [List.mem_cons, List.not_mem_nil, or_false, forall_eq_or_imp, forall_eq, true_or, or_true, and_self, eq_self_iff_true]) ?_)
theorem w_X12_fewest (S : HSt) (_o : Nat) (a1 : Int32) (a2 : Int32) (r : Int64 × HSt) (e : f_X12_fewest S _o a1 a2 = r) : Fr [(64, 0), (64, 20), (64, 21), (64, 22), (64, 23), (64, 24), (64, 25), (64, 26), (77, 1000), (78, 1000)] S r.2 := by
  rw [← e]
  exact v_X12_fewest S _o a1 a2
noncomputable def F_X12_formOf (S : HSt) (_o : Nat) (a1 : Int32) (a2 : Int32) : Int32 × HSt := pr ((gI S 68 (((44 : Int32) + ((4 : Int32) * a1)) + a2).toNatClampNeg)) (S)
noncomputable def f_X12_formOf (S : HSt) (_o : Nat) (a1 : Int32) (a2 : Int32) : Int32 := (F_X12_formOf S _o a1 a2).1
def p_X12_formOf (S : HSt) (_o : Nat) (a1 : Int32) (a2 : Int32) : Prop := (vp_in (((44 : Int32) + ((4 : Int32) * a1)) + a2) 172)
set_option maxRecDepth 100000 in
theorem t_X12_formOf (G : GG) (l : Launch) {S : HSt} (hM : MS S) (a1 : Int32) (a2 : Int32) (hp : p_X12_formOf S 64 a1 a2) : AM G l yX12_formOf cX12_formOf 3 (some .int) (rmD 0 0 0) 0 0 [.ref 64, .int a1, .int a2] S (FP (some (.int (f_X12_formOf S 64 a1 a2))) (S)) := by
  have h0 := hp
  unfold p_X12_formOf at h0
  refine AM.mk (by decide) (Nat.le_of_ble_eq_true rfl) ?_
  intro p e s m below meth c hC hSt _
  refine aw_aload_n hC 0 dX12_formOf_0 rfl rfl ?_
  refine aw_getP (b := 68) hC hSt 5 (ms_lt 64 (by decide) hM) (ms_k 64 12 0 (by decide) hM) rfl (by decide) w_920 rfl (ms_p 5 68 (by decide) hM) dX12_formOf_1 ?_
  refine aw_bipush (v := 44) hC dX12_formOf_4 (by decide) ?_
  refine aw_iconst (v := 4) hC dX12_formOf_6 (by decide) ?_
  refine aw_iload_n hC 1 dX12_formOf_7 rfl rfl ?_
  refine aw_imul hC dX12_formOf_8 ?_
  refine aw_iadd hC dX12_formOf_9 ?_
  refine aw_iload_n hC 2 dX12_formOf_10 rfl rfl ?_
  refine aw_iadd hC dX12_formOf_11 ?_
  refine aw_iald hC hSt (ms_lt 68 (by decide) hM) (ms_k 68 14 172 (by decide) hM) (vp_len (n := 172) (ms_l 68 14 172 (by decide) hM) (h0)) dX12_formOf_12 ?_
  refine aw_iret hC dX12_formOf_13 (Nat.le_refl _) (Nat.le_refl _) ?_
  exact FP.pI (rfl)
noncomputable def F_X12_areNear (S : HSt) (a1 : Int32) (a2 : Int32) (a3 : Int32) (a4 : Int32) (a5 : Int32) : Int32 × HSt := bd ((if a5 < (a1 - a4) then (0 : Int32) else (if a5 < (a3 - a2) then (0 : Int32) else (1 : Int32)))) fun x3 => pr (x3) (S)
noncomputable def f_X12_areNear (S : HSt) (a1 : Int32) (a2 : Int32) (a3 : Int32) (a4 : Int32) (a5 : Int32) : Int32 := (F_X12_areNear S a1 a2 a3 a4 a5).1
set_option maxRecDepth 100000 in
theorem t_X12_areNear (G : GG) (l : Launch) {S : HSt} (a1 : Int32) (a2 : Int32) (a3 : Int32) (a4 : Int32) (a5 : Int32)  : AM G l yX12_areNear cX12_areNear 5 (some .boolean) (rmD 0 0 0) 0 0 [.int a1, .int a2, .int a3, .int a4, .int a5] S (FP (some (.int (f_X12_areNear S a1 a2 a3 a4 a5))) (S)) := by
  refine AM.mk (by decide) (Nat.le_of_ble_eq_true rfl) ?_
  intro p e s m below meth c hC hSt _
  refine aw_iload_n hC 0 dX12_areNear_0 rfl rfl ?_
  refine aw_iload_n hC 3 dX12_areNear_1 rfl rfl ?_
  refine aw_isub hC dX12_areNear_2 ?_
  refine aw_iload hC 4 dX12_areNear_3 rfl ?_
  refine aw_cut (S' := S) (pc' := 21) (lv' := [(0, .int a1), (1, .int a2), (2, .int a3), (3, .int a4), (4, .int a5)]) (st' := [.int (if a5 < (a1 - a4) then (0 : Int32) else (if a5 < (a3 - a2) then (0 : Int32) else (1 : Int32)))]) ?_ (fun Jc1 => ?_)
  · generalize ex3 : (if a5 < (a1 - a4) then (0 : Int32) else (if a5 < (a3 - a2) then (0 : Int32) else (1 : Int32))) = x3
    refine aw_zret hC dX12_areNear_21 (Nat.le_refl _) (Nat.le_refl _) (Bz.n (ex3 ▸ (Bz.ite (Or.inl rfl) (Bz.ite (Or.inl rfl) (Or.inr rfl))))) ?_
    exact FP.pI ((bd_eq ex3).trans (rfl))
  · refine aw_icmp_gt hC 20 dX12_areNear_5 (by decide) (fun c1 => ?_) (fun c1 => ?_)
    · refine aw_iconst (v := 0) hC dX12_areNear_20 (by decide) ?_
      simp only [bd_def, if_pos c1] at Jc1 ⊢
      exact Jc1
    · refine aw_iload_n hC 2 dX12_areNear_8 rfl rfl ?_
      refine aw_iload_n hC 1 dX12_areNear_9 rfl rfl ?_
      refine aw_isub hC dX12_areNear_10 ?_
      refine aw_iload hC 4 dX12_areNear_11 rfl ?_
      refine aw_icmp_gt hC 20 dX12_areNear_13 (by decide) (fun c2 => ?_) (fun c2 => ?_)
      · refine aw_iconst (v := 0) hC dX12_areNear_20 (by decide) ?_
        simp only [bd_def, if_neg c1, if_pos c2] at Jc1 ⊢
        exact Jc1
      · refine aw_iconst (v := 1) hC dX12_areNear_16 (by decide) ?_
        refine aw_goto hC 21 dX12_areNear_17 (by decide) ?_
        simp only [bd_def, if_neg c1, if_neg c2] at Jc1 ⊢
        exact Jc1
theorem b_X12_areNear (S : HSt) (a1 : Int32) (a2 : Int32) (a3 : Int32) (a4 : Int32) (a5 : Int32) : Bz (f_X12_areNear S a1 a2 a3 a4 a5) := by
  unfold f_X12_areNear F_X12_areNear
  (try dsimp only [bd])
  (repeat' split) <;> first | exact Or.inl rfl | exact Or.inr rfl
noncomputable def F_X12_goes (S : HSt) (_o : Nat) (a1 : Int32) (a2 : Int32) : Int32 × HSt := bd ((if (f_X12_areNear S (f_X12_formOf S 64 a1 (0 : Int32)) (f_X12_formOf S 64 a1 (1 : Int32)) (f_X12_formOf S 64 a2 (0 : Int32)) (f_X12_formOf S 64 a2 (1 : Int32)) (2 : Int32)) = 0 then (0 : Int32) else (if (f_X12_areNear S (f_X12_formOf S 64 a1 (2 : Int32)) (f_X12_formOf S 64 a1 (3 : Int32)) (f_X12_formOf S 64 a2 (2 : Int32)) (f_X12_formOf S 64 a2 (3 : Int32)) (20 : Int32)) = 0 then (0 : Int32) else (1 : Int32)))) fun x3 => pr (x3) (S)
noncomputable def f_X12_goes (S : HSt) (_o : Nat) (a1 : Int32) (a2 : Int32) : Int32 := (F_X12_goes S _o a1 a2).1
def p_X12_goes (S : HSt) (_o : Nat) (a1 : Int32) (a2 : Int32) : Prop := (p_X12_formOf S 64 a1 (0 : Int32)) ∧ (p_X12_formOf S 64 a1 (1 : Int32)) ∧ (p_X12_formOf S 64 a2 (0 : Int32)) ∧ (p_X12_formOf S 64 a2 (1 : Int32)) ∧ ((¬ (f_X12_areNear S (f_X12_formOf S 64 a1 (0 : Int32)) (f_X12_formOf S 64 a1 (1 : Int32)) (f_X12_formOf S 64 a2 (0 : Int32)) (f_X12_formOf S 64 a2 (1 : Int32)) (2 : Int32)) = 0) → p_X12_formOf S 64 a1 (2 : Int32)) ∧ ((¬ (f_X12_areNear S (f_X12_formOf S 64 a1 (0 : Int32)) (f_X12_formOf S 64 a1 (1 : Int32)) (f_X12_formOf S 64 a2 (0 : Int32)) (f_X12_formOf S 64 a2 (1 : Int32)) (2 : Int32)) = 0) → p_X12_formOf S 64 a1 (3 : Int32)) ∧ ((¬ (f_X12_areNear S (f_X12_formOf S 64 a1 (0 : Int32)) (f_X12_formOf S 64 a1 (1 : Int32)) (f_X12_formOf S 64 a2 (0 : Int32)) (f_X12_formOf S 64 a2 (1 : Int32)) (2 : Int32)) = 0) → p_X12_formOf S 64 a2 (2 : Int32)) ∧ ((¬ (f_X12_areNear S (f_X12_formOf S 64 a1 (0 : Int32)) (f_X12_formOf S 64 a1 (1 : Int32)) (f_X12_formOf S 64 a2 (0 : Int32)) (f_X12_formOf S 64 a2 (1 : Int32)) (2 : Int32)) = 0) → p_X12_formOf S 64 a2 (3 : Int32))
set_option maxRecDepth 100000 in
theorem t_X12_goes (G : GG) (l : Launch) {S : HSt} (hM : MS S) (a1 : Int32) (a2 : Int32) (hp : p_X12_goes S 64 a1 a2) : AM G l yX12_goes cX12_goes 3 (some .boolean) (rmD 1 0 0) 0 0 [.ref 64, .int a1, .int a2] S (FP (some (.int (f_X12_goes S 64 a1 a2))) (S)) := by
  obtain ⟨h0, h1, h2, h3, h4, h5, h6, h7⟩ := hp
  refine AM.mk (by decide) (Nat.le_of_ble_eq_true rfl) ?_
  intro p e s m below meth c hC hSt _
  refine aw_aload_n hC 0 dX12_goes_0 rfl rfl ?_
  refine aw_iload_n hC 1 dX12_goes_1 rfl rfl ?_
  refine aw_iconst (v := 0) hC dX12_goes_2 (by decide) ?_
  refine aw_cV2r hC hSt (t_X12_formOf G l hM _ _ (h0)) w_1243 w_1246 w_1247 w_1248 w_953 rfl rfl (by decide +kernel) ⟨Nat.le_of_ble_eq_true rfl, Nat.le_of_ble_eq_true rfl⟩ (ms_lt 64 (by decide) hM) (ms_k 64 12 0 (by decide) hM) rfl (Nat.le_of_ble_eq_true rfl) dX12_goes_3 ⟨Nat.zero_le _, Nat.zero_le _⟩ ?_
  refine aw_aload_n hC 0 dX12_goes_6 rfl rfl ?_
  refine aw_iload_n hC 1 dX12_goes_7 rfl rfl ?_
  refine aw_iconst (v := 1) hC dX12_goes_8 (by decide) ?_
  refine aw_cV2r hC hSt (t_X12_formOf G l hM _ _ (h1)) w_1243 w_1246 w_1247 w_1248 w_953 rfl rfl (by decide +kernel) ⟨Nat.le_of_ble_eq_true rfl, Nat.le_of_ble_eq_true rfl⟩ (ms_lt 64 (by decide) hM) (ms_k 64 12 0 (by decide) hM) rfl (Nat.le_of_ble_eq_true rfl) dX12_goes_9 ⟨Nat.zero_le _, Nat.zero_le _⟩ ?_
  refine aw_aload_n hC 0 dX12_goes_12 rfl rfl ?_
  refine aw_iload_n hC 2 dX12_goes_13 rfl rfl ?_
  refine aw_iconst (v := 0) hC dX12_goes_14 (by decide) ?_
  refine aw_cV2r hC hSt (t_X12_formOf G l hM _ _ (h2)) w_1243 w_1246 w_1247 w_1248 w_953 rfl rfl (by decide +kernel) ⟨Nat.le_of_ble_eq_true rfl, Nat.le_of_ble_eq_true rfl⟩ (ms_lt 64 (by decide) hM) (ms_k 64 12 0 (by decide) hM) rfl (Nat.le_of_ble_eq_true rfl) dX12_goes_15 ⟨Nat.zero_le _, Nat.zero_le _⟩ ?_
  refine aw_aload_n hC 0 dX12_goes_18 rfl rfl ?_
  refine aw_iload_n hC 2 dX12_goes_19 rfl rfl ?_
  refine aw_iconst (v := 1) hC dX12_goes_20 (by decide) ?_
  refine aw_cV2r hC hSt (t_X12_formOf G l hM _ _ (h3)) w_1243 w_1246 w_1247 w_1248 w_953 rfl rfl (by decide +kernel) ⟨Nat.le_of_ble_eq_true rfl, Nat.le_of_ble_eq_true rfl⟩ (ms_lt 64 (by decide) hM) (ms_k 64 12 0 (by decide) hM) rfl (Nat.le_of_ble_eq_true rfl) dX12_goes_21 ⟨Nat.zero_le _, Nat.zero_le _⟩ ?_
  refine aw_iconst (v := 2) hC dX12_goes_24 (by decide) ?_
  refine aw_cS5r hC hSt (t_X12_areNear G l  _ _ _ _ _) w_1244 w_1249 w_1250 w_953 rfl rfl (by decide +kernel) ⟨Nat.le_of_ble_eq_true rfl, Nat.le_of_ble_eq_true rfl⟩ (Nat.le_of_ble_eq_true rfl) dX12_goes_25 ⟨Nat.zero_le _, Nat.zero_le _⟩ ?_
  refine aw_cut (S' := S) (pc' := 68) (lv' := [(0, .ref 64), (1, .int a1), (2, .int a2)]) (st' := [.int (if (f_X12_areNear S (f_X12_formOf S 64 a1 (0 : Int32)) (f_X12_formOf S 64 a1 (1 : Int32)) (f_X12_formOf S 64 a2 (0 : Int32)) (f_X12_formOf S 64 a2 (1 : Int32)) (2 : Int32)) = 0 then (0 : Int32) else (if (f_X12_areNear S (f_X12_formOf S 64 a1 (2 : Int32)) (f_X12_formOf S 64 a1 (3 : Int32)) (f_X12_formOf S 64 a2 (2 : Int32)) (f_X12_formOf S 64 a2 (3 : Int32)) (20 : Int32)) = 0 then (0 : Int32) else (1 : Int32)))]) ?_ (fun Jc1 => ?_)
  · generalize ex3 : (if (f_X12_areNear S (f_X12_formOf S 64 a1 (0 : Int32)) (f_X12_formOf S 64 a1 (1 : Int32)) (f_X12_formOf S 64 a2 (0 : Int32)) (f_X12_formOf S 64 a2 (1 : Int32)) (2 : Int32)) = 0 then (0 : Int32) else (if (f_X12_areNear S (f_X12_formOf S 64 a1 (2 : Int32)) (f_X12_formOf S 64 a1 (3 : Int32)) (f_X12_formOf S 64 a2 (2 : Int32)) (f_X12_formOf S 64 a2 (3 : Int32)) (20 : Int32)) = 0 then (0 : Int32) else (1 : Int32))) = x3
    refine aw_zret hC dX12_goes_68 (Nat.le_refl _) (Nat.le_refl _) (Bz.n (ex3 ▸ (Bz.ite (Or.inl rfl) (Bz.ite (Or.inl rfl) (Or.inr rfl))))) ?_
    exact FP.pI ((bd_eq ex3).trans (rfl))
  · refine aw_if_eq hC 67 dX12_goes_28 (by decide) (fun c1 => ?_) (fun c1 => ?_)
    · refine aw_iconst (v := 0) hC dX12_goes_67 (by decide) ?_
      simp only [bd_def, if_pos c1] at Jc1 ⊢
      exact Jc1
    · refine aw_aload_n hC 0 dX12_goes_31 rfl rfl ?_
      refine aw_iload_n hC 1 dX12_goes_32 rfl rfl ?_
      refine aw_iconst (v := 2) hC dX12_goes_33 (by decide) ?_
      refine aw_cV2r hC hSt (t_X12_formOf G l hM _ _ (h4 c1)) w_1243 w_1246 w_1247 w_1248 w_953 rfl rfl (by decide +kernel) ⟨Nat.le_of_ble_eq_true rfl, Nat.le_of_ble_eq_true rfl⟩ (ms_lt 64 (by decide) hM) (ms_k 64 12 0 (by decide) hM) rfl (Nat.le_of_ble_eq_true rfl) dX12_goes_34 ⟨Nat.zero_le _, Nat.zero_le _⟩ ?_
      refine aw_aload_n hC 0 dX12_goes_37 rfl rfl ?_
      refine aw_iload_n hC 1 dX12_goes_38 rfl rfl ?_
      refine aw_iconst (v := 3) hC dX12_goes_39 (by decide) ?_
      refine aw_cV2r hC hSt (t_X12_formOf G l hM _ _ (h5 c1)) w_1243 w_1246 w_1247 w_1248 w_953 rfl rfl (by decide +kernel) ⟨Nat.le_of_ble_eq_true rfl, Nat.le_of_ble_eq_true rfl⟩ (ms_lt 64 (by decide) hM) (ms_k 64 12 0 (by decide) hM) rfl (Nat.le_of_ble_eq_true rfl) dX12_goes_40 ⟨Nat.zero_le _, Nat.zero_le _⟩ ?_
      refine aw_aload_n hC 0 dX12_goes_43 rfl rfl ?_
      refine aw_iload_n hC 2 dX12_goes_44 rfl rfl ?_
      refine aw_iconst (v := 2) hC dX12_goes_45 (by decide) ?_
      refine aw_cV2r hC hSt (t_X12_formOf G l hM _ _ (h6 c1)) w_1243 w_1246 w_1247 w_1248 w_953 rfl rfl (by decide +kernel) ⟨Nat.le_of_ble_eq_true rfl, Nat.le_of_ble_eq_true rfl⟩ (ms_lt 64 (by decide) hM) (ms_k 64 12 0 (by decide) hM) rfl (Nat.le_of_ble_eq_true rfl) dX12_goes_46 ⟨Nat.zero_le _, Nat.zero_le _⟩ ?_
      refine aw_aload_n hC 0 dX12_goes_49 rfl rfl ?_
      refine aw_iload_n hC 2 dX12_goes_50 rfl rfl ?_
      refine aw_iconst (v := 3) hC dX12_goes_51 (by decide) ?_
      refine aw_cV2r hC hSt (t_X12_formOf G l hM _ _ (h7 c1)) w_1243 w_1246 w_1247 w_1248 w_953 rfl rfl (by decide +kernel) ⟨Nat.le_of_ble_eq_true rfl, Nat.le_of_ble_eq_true rfl⟩ (ms_lt 64 (by decide) hM) (ms_k 64 12 0 (by decide) hM) rfl (Nat.le_of_ble_eq_true rfl) dX12_goes_52 ⟨Nat.zero_le _, Nat.zero_le _⟩ ?_
      refine aw_bipush (v := 20) hC dX12_goes_55 (by decide) ?_
      refine aw_cS5r hC hSt (t_X12_areNear G l  _ _ _ _ _) w_1244 w_1249 w_1250 w_953 rfl rfl (by decide +kernel) ⟨Nat.le_of_ble_eq_true rfl, Nat.le_of_ble_eq_true rfl⟩ (Nat.le_of_ble_eq_true rfl) dX12_goes_57 ⟨Nat.zero_le _, Nat.zero_le _⟩ ?_
      refine aw_if_eq hC 67 dX12_goes_60 (by decide) (fun c2 => ?_) (fun c2 => ?_)
      · refine aw_iconst (v := 0) hC dX12_goes_67 (by decide) ?_
        simp only [bd_def, if_neg c1, if_pos c2] at Jc1 ⊢
        exact Jc1
      · refine aw_iconst (v := 1) hC dX12_goes_63 (by decide) ?_
        refine aw_goto hC 68 dX12_goes_64 (by decide) ?_
        simp only [bd_def, if_neg c1, if_neg c2] at Jc1 ⊢
        exact Jc1
theorem b_X12_goes (S : HSt) (_o : Nat) (a1 : Int32) (a2 : Int32) : Bz (f_X12_goes S _o a1 a2) := by
  unfold f_X12_goes F_X12_goes
  (try dsimp only [bd])
  (repeat' split) <;> first | exact Or.inl rfl | exact Or.inr rfl | exact b_X12_areNear _ _ _ _ _ _
noncomputable def L_X12_seekShows_56 : Nat → HSt → Int32 → Int32 → Int32 → Int32 → Int32 → Int32 × Int32 × Int32 × Int32 × Int32
  | 0, S, v1, v2, v3, v4, v5 => (v1, v2, v3, v4, v5)
  | n + 1, S, v1, v2, v3, v4, v5 =>
    if v1 ≤ v5 then ((pr (v1) (pr (v2) (pr (v3) (pr (v4) (v5)))))) else (if ((v4 >>> (v5 &&& 31)) &&& (1 : Int32)) = (1 : Int32) then (L_X12_seekShows_56 n S v1 v2 v3 v4 (v5 + (1 : Int32))) else (if v3 ≤ 0 then ((pr (v1) (pr (v2) (pr (v3) (pr (v4) (v5)))))) else (if (f_X12_goes S 64 (gI S 79 (v3 - (1 : Int32)).toNatClampNeg) v5) = 0 then (L_X12_seekShows_56 n S v1 v2 v3 v4 (v5 + (1 : Int32))) else ((pr (v1) (pr (v2) (pr (v3) (pr (v4) (v5)))))))))
def T_X12_seekShows_56 : Nat → HSt → Int32 → Int32 → Int32 → Int32 → Int32 → Prop
  | 0, _, _, _, _, _, _ => False
  | n + 1, S, v1, v2, v3, v4, v5 => ((¬ v1 ≤ v5) → (((v4 >>> (v5 &&& 31)) &&& (1 : Int32)) = (1 : Int32)) → T_X12_seekShows_56 n S v1 v2 v3 v4 (v5 + (1 : Int32))) ∧ ((¬ v1 ≤ v5) → (¬ ((v4 >>> (v5 &&& 31)) &&& (1 : Int32)) = (1 : Int32)) → (¬ v3 ≤ 0) → vp_in (v3 - (1 : Int32)) 7) ∧ ((¬ v1 ≤ v5) → (¬ ((v4 >>> (v5 &&& 31)) &&& (1 : Int32)) = (1 : Int32)) → (¬ v3 ≤ 0) → p_X12_goes S 64 (gI S 79 (v3 - (1 : Int32)).toNatClampNeg) v5) ∧ ((¬ v1 ≤ v5) → (¬ ((v4 >>> (v5 &&& 31)) &&& (1 : Int32)) = (1 : Int32)) → (¬ v3 ≤ 0) → ((f_X12_goes S 64 (gI S 79 (v3 - (1 : Int32)).toNatClampNeg) v5) = 0) → T_X12_seekShows_56 n S v1 v2 v3 v4 (v5 + (1 : Int32)))
set_option maxRecDepth 100000 in
theorem l_X12_seekShows_56 {p : Program} {l : Launch} {e : Env} {s : State} {m : MethodId} {args : Array Value} {below : List Frame} {meth : Method} {c : Code} {G : GG} {Q : State → Prop} (hC : ACx p s m args meth c cX12_seekShows RX12 7 (some .int)) (hSt : St G s)  : ∀ (n : Nat) (S : HSt) (v1 : Int32) (v2 : Int32) (v3 : Int32) (v4 : Int32) (v5 : Int32), MS S → T_X12_seekShows_56 n S v1 v2 v3 v4 v5 → AW p l e (rmD 2 0 0) s m args below meth c G 7 Q S 0 0 100 [(0, .ref 64), (1, .int (L_X12_seekShows_56 n S v1 v2 v3 v4 v5).1), (2, .int (L_X12_seekShows_56 n S v1 v2 v3 v4 v5).2.1), (3, .int (L_X12_seekShows_56 n S v1 v2 v3 v4 v5).2.2.1), (4, .int (L_X12_seekShows_56 n S v1 v2 v3 v4 v5).2.2.2.1), (5, .int (L_X12_seekShows_56 n S v1 v2 v3 v4 v5).2.2.2.2)] [] → AW p l e (rmD 2 0 0) s m args below meth c G 7 Q S 0 0 56 [(0, .ref 64), (1, .int v1), (2, .int v2), (3, .int v3), (4, .int v4), (5, .int v5)] [] := by
  intro n
  induction n with
  | zero => intro S v1 v2 v3 v4 v5 _ hT; exact hT.elim
  | succ n ih =>
    intro S v1 v2 v3 v4 v5 hM hT hk
    unfold T_X12_seekShows_56 at hT
    obtain ⟨h0, h1, h2, h3⟩ := hT
    refine aw_iload hC 5 dX12_seekShows_56 rfl ?_
    refine aw_iload_n hC 1 dX12_seekShows_58 rfl rfl ?_
    refine aw_icmp_ge hC 100 dX12_seekShows_59 (by decide) (fun c2008 => ?_) (fun c2008 => ?_)
    · refine aw_sub [0, 1, 2, 3, 4, 5] rfl ?_
      have E : L_X12_seekShows_56 (n + 1) S v1 v2 v3 v4 v5 = _ := (if_pos c2008).trans (rfl)
      rw [E] at hk
      exact hk
    · refine aw_iload hC 4 dX12_seekShows_62 rfl ?_
      refine aw_iload hC 5 dX12_seekShows_64 rfl ?_
      refine aw_ishr hC dX12_seekShows_66 ?_
      refine aw_iconst (v := 1) hC dX12_seekShows_67 (by decide) ?_
      refine aw_iand hC dX12_seekShows_68 ?_
      refine aw_iconst (v := 1) hC dX12_seekShows_69 (by decide) ?_
      refine aw_icmp_eq hC 94 dX12_seekShows_70 (by decide) (fun c2009 => ?_) (fun c2009 => ?_)
      · refine aw_iinc (v := (v5 + (1 : Int32))) hC 5 [(5, .int _), (0, .ref 64), (1, .int _), (2, .int _), (3, .int _), (4, .int _)] dX12_seekShows_94 rfl rfl (by decide) rfl ?_
        refine aw_goto hC 56 dX12_seekShows_97 (by decide) ?_
        refine aw_sub [1, 2, 3, 4, 5, 0] rfl ?_
        have hTn := (h0 c2008 c2009)
        have hMn : MS S := hM
        have E : L_X12_seekShows_56 (n + 1) S v1 v2 v3 v4 v5 = _ := (if_neg c2008).trans ((if_pos c2009).trans (rfl))
        rw [E] at hk
        exact ih _ _ _ _ _ _ hMn hTn hk
      · refine aw_iload_n hC 3 dX12_seekShows_73 rfl rfl ?_
        refine aw_if_le hC 100 dX12_seekShows_74 (by decide) (fun c2010 => ?_) (fun c2010 => ?_)
        · refine aw_sub [0, 1, 2, 3, 4, 5] rfl ?_
          have E : L_X12_seekShows_56 (n + 1) S v1 v2 v3 v4 v5 = _ := (if_neg c2008).trans ((if_neg c2009).trans ((if_pos c2010).trans (rfl)))
          rw [E] at hk
          exact hk
        · refine aw_aload_n hC 0 dX12_seekShows_77 rfl rfl ?_
          refine aw_aload_n hC 0 dX12_seekShows_78 rfl rfl ?_
          refine aw_getP (b := 79) hC hSt 42 (ms_lt 64 (by decide) hM) (ms_k 64 12 0 (by decide) hM) rfl (by decide) w_935 rfl (ms_p 42 79 (by decide) hM) dX12_seekShows_79 ?_
          refine aw_iload_n hC 3 dX12_seekShows_82 rfl rfl ?_
          refine aw_iconst (v := 1) hC dX12_seekShows_83 (by decide) ?_
          refine aw_isub hC dX12_seekShows_84 ?_
          refine aw_iald hC hSt (ms_lt 79 (by decide) hM) (ms_k 79 14 7 (by decide) hM) (vp_len (n := 7) (ms_l 79 14 7 (by decide) hM) (h1 c2008 c2009 c2010)) dX12_seekShows_85 ?_
          refine aw_iload hC 5 dX12_seekShows_86 rfl ?_
          refine aw_cV2r hC hSt (t_X12_goes G l hM _ _ (h2 c2008 c2009 c2010)) w_1245 w_1252 w_1253 w_1254 w_953 rfl rfl (by decide +kernel) ⟨Nat.le_of_ble_eq_true rfl, Nat.le_of_ble_eq_true rfl⟩ (ms_lt 64 (by decide) hM) (ms_k 64 12 0 (by decide) hM) rfl (Nat.le_of_ble_eq_true rfl) dX12_seekShows_88 ⟨Nat.zero_le _, Nat.zero_le _⟩ ?_
          refine aw_if_ne hC 100 dX12_seekShows_91 (by decide) (fun c2011 => ?_) (fun c2011 => ?_)
          · refine aw_sub [0, 1, 2, 3, 4, 5] rfl ?_
            have E : L_X12_seekShows_56 (n + 1) S v1 v2 v3 v4 v5 = _ := (if_neg c2008).trans ((if_neg c2009).trans ((if_neg c2010).trans ((if_neg c2011).trans (rfl))))
            rw [E] at hk
            exact hk
          · refine aw_iinc (v := (v5 + (1 : Int32))) hC 5 [(5, .int _), (0, .ref 64), (1, .int _), (2, .int _), (3, .int _), (4, .int _)] dX12_seekShows_94 rfl rfl (by decide) rfl ?_
            refine aw_goto hC 56 dX12_seekShows_97 (by decide) ?_
            refine aw_sub [1, 2, 3, 4, 5, 0] rfl ?_
            have hTn := (h3 c2008 c2009 c2010 c2011)
            have hMn : MS S := hM
            have E : L_X12_seekShows_56 (n + 1) S v1 v2 v3 v4 v5 = _ := (if_neg c2008).trans ((if_neg c2009).trans ((if_neg c2010).trans ((if_pos c2011).trans (rfl))))
            rw [E] at hk
            exact ih _ _ _ _ _ _ hMn hTn hk
noncomputable def L_X12_seekShows_143 : Nat → HSt → Int32 → Int32 → Int32 → Int32 → Int32 → Int32 → Int32 × Int32 × Int32 × Int32 × Int32 × Int32 × HSt
  | 0, S, v1, v2, v3, v4, v5, v6 => (v1, v2, v3, v4, v5, v6, S)
  | n + 1, S, v1, v2, v3, v4, v5, v6 =>
    if v3 ≤ v6 then ((pr (v1) (pr (v2) (pr (v3) (pr (v4) (pr (v5) (pr (v6) (S)))))))) else (bd ((sI S 80 v6.toNatClampNeg (gI S 79 v6.toNatClampNeg))) fun S2016 => L_X12_seekShows_143 n S2016 v1 v2 v3 v4 v5 (v6 + (1 : Int32)))
def T_X12_seekShows_143 : Nat → HSt → Int32 → Int32 → Int32 → Int32 → Int32 → Int32 → Prop
  | 0, _, _, _, _, _, _, _ => False
  | n + 1, S, v1, v2, v3, v4, v5, v6 => ((¬ v3 ≤ v6) → vp_in v6 7) ∧ ((¬ v3 ≤ v6) → vp_in v6 6) ∧ ((¬ v3 ≤ v6) → ∀ S2016 : HSt, (sI S 80 v6.toNatClampNeg (gI S 79 v6.toNatClampNeg)) = S2016 → T_X12_seekShows_143 n S2016 v1 v2 v3 v4 v5 (v6 + (1 : Int32)))
theorem qL_X12_seekShows_143 : ∀ (n : Nat) (S : HSt) (v1 : Int32) (v2 : Int32) (v3 : Int32) (v4 : Int32) (v5 : Int32) (v6 : Int32), shp (L_X12_seekShows_143 n S v1 v2 v3 v4 v5 v6).2.2.2.2.2.2 = shp S := by
  intro n
  induction n with
  | zero => intros; rfl
  | succ n ih =>
    intro S v1 v2 v3 v4 v5 v6
    unfold L_X12_seekShows_143
    repeat' (first | with_reducible refine shpr6 ?_ | with_reducible rfl | with_reducible refine (ih _ _ _ _ _ _ _).trans ?_ | with_reducible refine (shp_sI _ _ _ _).trans ?_ | with_reducible refine (shp_sJ _ _ _ _).trans ?_ | with_reducible refine shi ?_ ?_ | with_reducible refine shb (fun _ _ => ?_) | with_reducible refine shiP (fun q : Int32 × Int32 × Int32 × Int32 × Int32 × Int32 × HSt => q.2.2.2.2.2.2) ?_ ?_ | with_reducible refine shbP (fun q : Int32 × Int32 × Int32 × Int32 × Int32 × Int32 × HSt => q.2.2.2.2.2.2) (fun _ _ => ?_) | (subst_vars; with_reducible rfl) | (subst_vars; with_reducible refine (ih _ _ _ _ _ _ _).trans ?_) | (subst_vars; with_reducible refine (shp_sI _ _ _ _).trans ?_) | (subst_vars; with_reducible refine (shp_sJ _ _ _ _).trans ?_) | (subst_vars; with_reducible refine shi ?_ ?_) | (subst_vars; with_reducible refine shb (fun _ _ => ?_)))
theorem vL_X12_seekShows_143 : ∀ (n : Nat) (S : HSt) (v1 : Int32) (v2 : Int32) (v3 : Int32) (v4 : Int32) (v5 : Int32) (v6 : Int32), Fr [(80, 1000)] S (L_X12_seekShows_143 n S v1 v2 v3 v4 v5 v6).2.2.2.2.2.2 := by
  intro n
  induction n with
  | zero => intros; exact Fr.refl _ _
  | succ n ih =>
    intro S v1 v2 v3 v4 v5 v6
    unfold L_X12_seekShows_143
    repeat' (first | with_reducible refine frpr6 ?_ | with_reducible exact Fr.refl _ _ | with_reducible refine Fr.lP (fun q : Int32 × Int32 × Int32 × Int32 × Int32 × Int32 × HSt => q.2.2.2.2.2.2) (fun _ _ => ?_) | with_reducible refine Fr.iteP (fun q : Int32 × Int32 × Int32 × Int32 × Int32 × Int32 × HSt => q.2.2.2.2.2.2) ?_ ?_ | with_reducible refine Fr.l1 (fun _ _ => ?_) | with_reducible refine Fr.ite ?_ ?_ | with_reducible refine Fr.sE (by assumption) (by first | decide | simp only [List.mem_cons, List.not_mem_nil, or_false, true_or, or_true, eq_self_iff_true]) ?_ | with_reducible refine Fr.jE (by assumption) ?_ | with_reducible refine Fr.rE (by assumption) (by first | decide | simp only [List.mem_cons, List.not_mem_nil, or_false, true_or, or_true, eq_self_iff_true]) ?_ | with_reducible refine Fr.iE (by assumption) ?_ ?_ | with_reducible refine Fr.tr (ih _ _ _ _ _ _ _) (by first | decide | simp only [List.mem_cons, List.not_mem_nil, or_false, forall_eq_or_imp, forall_eq, true_or, or_true, and_self, eq_self_iff_true]) ?_)
theorem wL_X12_seekShows_143 (n : Nat) (S : HSt) (v1 : Int32) (v2 : Int32) (v3 : Int32) (v4 : Int32) (v5 : Int32) (v6 : Int32) (r : Int32 × Int32 × Int32 × Int32 × Int32 × Int32 × HSt) (e : L_X12_seekShows_143 n S v1 v2 v3 v4 v5 v6 = r) : Fr [(80, 1000)] S r.2.2.2.2.2.2 := by
  rw [← e]
  exact vL_X12_seekShows_143 n S v1 v2 v3 v4 v5 v6
set_option maxRecDepth 100000 in
theorem l_X12_seekShows_143 {p : Program} {l : Launch} {e : Env} {s : State} {m : MethodId} {args : Array Value} {below : List Frame} {meth : Method} {c : Code} {G : GG} {Q : State → Prop} (hC : ACx p s m args meth c cX12_seekShows RX12 7 (some .int)) (hSt : St G s)  : ∀ (n : Nat) (S : HSt) (v1 : Int32) (v2 : Int32) (v3 : Int32) (v4 : Int32) (v5 : Int32) (v6 : Int32), MS S → T_X12_seekShows_143 n S v1 v2 v3 v4 v5 v6 → AW p l e (rmD 2 0 0) s m args below meth c G 7 Q (L_X12_seekShows_143 n S v1 v2 v3 v4 v5 v6).2.2.2.2.2.2 0 0 169 [(0, .ref 64), (1, .int (L_X12_seekShows_143 n S v1 v2 v3 v4 v5 v6).1), (2, .int (L_X12_seekShows_143 n S v1 v2 v3 v4 v5 v6).2.1), (3, .int (L_X12_seekShows_143 n S v1 v2 v3 v4 v5 v6).2.2.1), (4, .int (L_X12_seekShows_143 n S v1 v2 v3 v4 v5 v6).2.2.2.1), (5, .int (L_X12_seekShows_143 n S v1 v2 v3 v4 v5 v6).2.2.2.2.1), (6, .int (L_X12_seekShows_143 n S v1 v2 v3 v4 v5 v6).2.2.2.2.2.1)] [] → AW p l e (rmD 2 0 0) s m args below meth c G 7 Q S 0 0 143 [(0, .ref 64), (1, .int v1), (2, .int v2), (3, .int v3), (4, .int v4), (5, .int v5), (6, .int v6)] [] := by
  intro n
  induction n with
  | zero => intro S v1 v2 v3 v4 v5 v6 _ hT; exact hT.elim
  | succ n ih =>
    intro S v1 v2 v3 v4 v5 v6 hM hT hk
    unfold T_X12_seekShows_143 at hT
    obtain ⟨h0, h1, h2⟩ := hT
    refine aw_iload hC 6 dX12_seekShows_143 rfl ?_
    refine aw_iload_n hC 3 dX12_seekShows_145 rfl rfl ?_
    refine aw_icmp_ge hC 169 dX12_seekShows_146 (by decide) (fun c2015 => ?_) (fun c2015 => ?_)
    · refine aw_sub [0, 1, 2, 3, 4, 5, 6] rfl ?_
      have E : L_X12_seekShows_143 (n + 1) S v1 v2 v3 v4 v5 v6 = _ := (if_pos c2015).trans (rfl)
      rw [E] at hk
      exact hk
    · refine aw_aload_n hC 0 dX12_seekShows_149 rfl rfl ?_
      refine aw_getP (b := 80) hC hSt 43 (ms_lt 64 (by decide) hM) (ms_k 64 12 0 (by decide) hM) rfl (by decide) w_936 rfl (ms_p 43 80 (by decide) hM) dX12_seekShows_150 ?_
      refine aw_iload hC 6 dX12_seekShows_153 rfl ?_
      refine aw_aload_n hC 0 dX12_seekShows_155 rfl rfl ?_
      refine aw_getP (b := 79) hC hSt 42 (ms_lt 64 (by decide) hM) (ms_k 64 12 0 (by decide) hM) rfl (by decide) w_935 rfl (ms_p 42 79 (by decide) hM) dX12_seekShows_156 ?_
      refine aw_iload hC 6 dX12_seekShows_159 rfl ?_
      refine aw_iald hC hSt (ms_lt 79 (by decide) hM) (ms_k 79 14 7 (by decide) hM) (vp_len (n := 7) (ms_l 79 14 7 (by decide) hM) (h0 c2015)) dX12_seekShows_161 ?_
      refine aw_iast hC hSt (ms_lt 80 (by decide) hM) (ms_k 80 14 6 (by decide) hM) (vp_len (n := 6) (ms_l 80 14 6 (by decide) hM) (h1 c2015)) dX12_seekShows_162 ?_
      generalize eS2016 : (sI S 80 v6.toNatClampNeg (gI S 79 v6.toNatClampNeg)) = S2016
      have hM : MS S2016 := MS.of (by rw [← eS2016]; exact shp_sI _ _ _ _) hM
      refine aw_iinc (v := (v6 + (1 : Int32))) hC 6 [(6, .int _), (0, .ref 64), (1, .int _), (2, .int _), (3, .int _), (4, .int _), (5, .int _)] dX12_seekShows_163 rfl rfl (by decide) rfl ?_
      refine aw_goto hC 143 dX12_seekShows_166 (by decide) ?_
      refine aw_sub [1, 2, 3, 4, 5, 6, 0] rfl ?_
      have hTn := (h2 c2015 S2016 eS2016)
      have hMn : MS S2016 := hM
      have E : L_X12_seekShows_143 (n + 1) S v1 v2 v3 v4 v5 v6 = _ := (if_neg c2015).trans ((bd_eq eS2016).trans (rfl))
      rw [E] at hk
      exact ih _ _ _ _ _ _ _ hMn hTn hk
noncomputable def L_X12_seekShows_21 : Nat → HSt → Int32 → Int32 → Int32 → Int32 → Int32 × Int32 × Int32 × Int32 × HSt
  | 0, S, v1, v2, v3, v4 => (v1, v2, v3, v4, S)
  | n + 1, S, v1, v2, v3, v4 =>
    if v3 < 0 then ((pr (v1) (pr (v2) (pr (v3) (pr (v4) (S)))))) else (bd ((gI S 79 v3.toNatClampNeg)) fun x1004 => bd ((if 0 ≤ x1004 then (((1 : Int32) <<< (x1004 &&& 31)) ^^^ (-1 : Int32)) else (-1 : Int32))) fun x1006 => bd ((v4 &&& x1006)) fun x1007 => bd (L_X12_seekShows_56 FU S v1 v2 v3 x1007 (x1004 + (1 : Int32))) fun r1008 => bd ((if r1008.1 ≤ r1008.2.2.2.2 then (r1008.2.2.1 + (-1 : Int32)) else (bd ((sI S 79 r1008.2.2.1.toNatClampNeg r1008.2.2.2.2)) fun S1010 => bd ((r1008.2.2.2.1 ||| ((1 : Int32) <<< (r1008.2.2.2.2 &&& 31)))) fun x1011 => bd ((sI S1010 79 (r1008.2.2.1 + (1 : Int32)).toNatClampNeg (-1 : Int32))) fun S1012 => (if (r1008.2.2.1 + (1 : Int32)) ≤ r1008.2.1 then (r1008.2.2.1 + (1 : Int32)) else (bd ((r1008.2.2.1 + (1 : Int32))) fun x1014 => bd (L_X12_seekShows_143 FU S1012 r1008.1 x1014 x1014 x1011 r1008.2.2.2.2 (0 : Int32)) fun r1015 => r1015.2.2.1))))) fun x1016 => bd ((if r1008.1 ≤ r1008.2.2.2.2 then r1008.1 else (bd ((sI S 79 r1008.2.2.1.toNatClampNeg r1008.2.2.2.2)) fun S1010 => bd ((r1008.2.2.2.1 ||| ((1 : Int32) <<< (r1008.2.2.2.2 &&& 31)))) fun x1011 => bd ((sI S1010 79 (r1008.2.2.1 + (1 : Int32)).toNatClampNeg (-1 : Int32))) fun S1012 => (if (r1008.2.2.1 + (1 : Int32)) ≤ r1008.2.1 then r1008.1 else (bd ((r1008.2.2.1 + (1 : Int32))) fun x1014 => bd (L_X12_seekShows_143 FU S1012 r1008.1 x1014 x1014 x1011 r1008.2.2.2.2 (0 : Int32)) fun r1015 => r1015.1))))) fun x1017 => bd ((if r1008.1 ≤ r1008.2.2.2.2 then r1008.2.1 else (bd ((sI S 79 r1008.2.2.1.toNatClampNeg r1008.2.2.2.2)) fun S1010 => bd ((r1008.2.2.2.1 ||| ((1 : Int32) <<< (r1008.2.2.2.2 &&& 31)))) fun x1011 => bd ((sI S1010 79 (r1008.2.2.1 + (1 : Int32)).toNatClampNeg (-1 : Int32))) fun S1012 => (if (r1008.2.2.1 + (1 : Int32)) ≤ r1008.2.1 then r1008.2.1 else (bd ((r1008.2.2.1 + (1 : Int32))) fun x1014 => bd (L_X12_seekShows_143 FU S1012 r1008.1 x1014 x1014 x1011 r1008.2.2.2.2 (0 : Int32)) fun r1015 => r1015.2.1))))) fun x1018 => bd ((if r1008.1 ≤ r1008.2.2.2.2 then r1008.2.2.2.1 else (bd ((sI S 79 r1008.2.2.1.toNatClampNeg r1008.2.2.2.2)) fun S1010 => bd ((r1008.2.2.2.1 ||| ((1 : Int32) <<< (r1008.2.2.2.2 &&& 31)))) fun x1011 => bd ((sI S1010 79 (r1008.2.2.1 + (1 : Int32)).toNatClampNeg (-1 : Int32))) fun S1012 => (if (r1008.2.2.1 + (1 : Int32)) ≤ r1008.2.1 then x1011 else (bd ((r1008.2.2.1 + (1 : Int32))) fun x1014 => bd (L_X12_seekShows_143 FU S1012 r1008.1 x1014 x1014 x1011 r1008.2.2.2.2 (0 : Int32)) fun r1015 => r1015.2.2.2.1))))) fun x1019 => bd ((if r1008.1 ≤ r1008.2.2.2.2 then r1008.2.2.2.2 else (bd ((sI S 79 r1008.2.2.1.toNatClampNeg r1008.2.2.2.2)) fun S1010 => bd ((r1008.2.2.2.1 ||| ((1 : Int32) <<< (r1008.2.2.2.2 &&& 31)))) fun x1011 => bd ((sI S1010 79 (r1008.2.2.1 + (1 : Int32)).toNatClampNeg (-1 : Int32))) fun S1012 => (if (r1008.2.2.1 + (1 : Int32)) ≤ r1008.2.1 then r1008.2.2.2.2 else (bd ((r1008.2.2.1 + (1 : Int32))) fun x1014 => bd (L_X12_seekShows_143 FU S1012 r1008.1 x1014 x1014 x1011 r1008.2.2.2.2 (0 : Int32)) fun r1015 => r1015.2.2.2.2.1))))) fun x1020 => bd ((if r1008.1 ≤ r1008.2.2.2.2 then S else (bd ((sI S 79 r1008.2.2.1.toNatClampNeg r1008.2.2.2.2)) fun S1010 => bd ((r1008.2.2.2.1 ||| ((1 : Int32) <<< (r1008.2.2.2.2 &&& 31)))) fun x1011 => bd ((sI S1010 79 (r1008.2.2.1 + (1 : Int32)).toNatClampNeg (-1 : Int32))) fun S1012 => (if (r1008.2.2.1 + (1 : Int32)) ≤ r1008.2.1 then S1012 else (bd ((r1008.2.2.1 + (1 : Int32))) fun x1014 => bd (L_X12_seekShows_143 FU S1012 r1008.1 x1014 x1014 x1011 r1008.2.2.2.2 (0 : Int32)) fun r1015 => r1015.2.2.2.2.2.2))))) fun S1021 => L_X12_seekShows_21 n S1021 x1017 x1018 x1016 x1019)
def T_X12_seekShows_21 : Nat → HSt → Int32 → Int32 → Int32 → Int32 → Prop
  | 0, _, _, _, _, _ => False
  | n + 1, S, v1, v2, v3, v4 => ((¬ v3 < 0) → vp_in v3 7) ∧ ((¬ v3 < 0) → ∀ x1004 : Int32, (gI S 79 v3.toNatClampNeg) = x1004 → ∀ x1006 : Int32, (if 0 ≤ x1004 then (((1 : Int32) <<< (x1004 &&& 31)) ^^^ (-1 : Int32)) else (-1 : Int32)) = x1006 → ∀ x1007 : Int32, (v4 &&& x1006) = x1007 → T_X12_seekShows_56 FU S v1 v2 v3 x1007 (x1004 + (1 : Int32))) ∧ ((¬ v3 < 0) → ∀ x1004 : Int32, (gI S 79 v3.toNatClampNeg) = x1004 → ∀ x1006 : Int32, (if 0 ≤ x1004 then (((1 : Int32) <<< (x1004 &&& 31)) ^^^ (-1 : Int32)) else (-1 : Int32)) = x1006 → ∀ x1007 : Int32, (v4 &&& x1006) = x1007 → ∀ r1008, L_X12_seekShows_56 FU S v1 v2 v3 x1007 (x1004 + (1 : Int32)) = r1008 → (¬ r1008.1 ≤ r1008.2.2.2.2) → vp_in r1008.2.2.1 7) ∧ ((¬ v3 < 0) → ∀ x1004 : Int32, (gI S 79 v3.toNatClampNeg) = x1004 → ∀ x1006 : Int32, (if 0 ≤ x1004 then (((1 : Int32) <<< (x1004 &&& 31)) ^^^ (-1 : Int32)) else (-1 : Int32)) = x1006 → ∀ x1007 : Int32, (v4 &&& x1006) = x1007 → ∀ r1008, L_X12_seekShows_56 FU S v1 v2 v3 x1007 (x1004 + (1 : Int32)) = r1008 → (¬ r1008.1 ≤ r1008.2.2.2.2) → ∀ S1010 : HSt, (sI S 79 r1008.2.2.1.toNatClampNeg r1008.2.2.2.2) = S1010 → ∀ x1011 : Int32, (r1008.2.2.2.1 ||| ((1 : Int32) <<< (r1008.2.2.2.2 &&& 31))) = x1011 → vp_in (r1008.2.2.1 + (1 : Int32)) 7) ∧ ((¬ v3 < 0) → ∀ x1004 : Int32, (gI S 79 v3.toNatClampNeg) = x1004 → ∀ x1006 : Int32, (if 0 ≤ x1004 then (((1 : Int32) <<< (x1004 &&& 31)) ^^^ (-1 : Int32)) else (-1 : Int32)) = x1006 → ∀ x1007 : Int32, (v4 &&& x1006) = x1007 → ∀ r1008, L_X12_seekShows_56 FU S v1 v2 v3 x1007 (x1004 + (1 : Int32)) = r1008 → (¬ r1008.1 ≤ r1008.2.2.2.2) → ∀ S1010 : HSt, (sI S 79 r1008.2.2.1.toNatClampNeg r1008.2.2.2.2) = S1010 → ∀ x1011 : Int32, (r1008.2.2.2.1 ||| ((1 : Int32) <<< (r1008.2.2.2.2 &&& 31))) = x1011 → ∀ S1012 : HSt, (sI S1010 79 (r1008.2.2.1 + (1 : Int32)).toNatClampNeg (-1 : Int32)) = S1012 → (¬ (r1008.2.2.1 + (1 : Int32)) ≤ r1008.2.1) → ∀ x1014 : Int32, (r1008.2.2.1 + (1 : Int32)) = x1014 → T_X12_seekShows_143 FU S1012 r1008.1 x1014 x1014 x1011 r1008.2.2.2.2 (0 : Int32)) ∧ ((¬ v3 < 0) → ∀ x1004 : Int32, (gI S 79 v3.toNatClampNeg) = x1004 → ∀ x1006 : Int32, (if 0 ≤ x1004 then (((1 : Int32) <<< (x1004 &&& 31)) ^^^ (-1 : Int32)) else (-1 : Int32)) = x1006 → ∀ x1007 : Int32, (v4 &&& x1006) = x1007 → ∀ r1008, L_X12_seekShows_56 FU S v1 v2 v3 x1007 (x1004 + (1 : Int32)) = r1008 → ∀ x1016 : Int32, (if r1008.1 ≤ r1008.2.2.2.2 then (r1008.2.2.1 + (-1 : Int32)) else (bd ((sI S 79 r1008.2.2.1.toNatClampNeg r1008.2.2.2.2)) fun S1010 => bd ((r1008.2.2.2.1 ||| ((1 : Int32) <<< (r1008.2.2.2.2 &&& 31)))) fun x1011 => bd ((sI S1010 79 (r1008.2.2.1 + (1 : Int32)).toNatClampNeg (-1 : Int32))) fun S1012 => (if (r1008.2.2.1 + (1 : Int32)) ≤ r1008.2.1 then (r1008.2.2.1 + (1 : Int32)) else (bd ((r1008.2.2.1 + (1 : Int32))) fun x1014 => bd (L_X12_seekShows_143 FU S1012 r1008.1 x1014 x1014 x1011 r1008.2.2.2.2 (0 : Int32)) fun r1015 => r1015.2.2.1)))) = x1016 → ∀ x1017 : Int32, (if r1008.1 ≤ r1008.2.2.2.2 then r1008.1 else (bd ((sI S 79 r1008.2.2.1.toNatClampNeg r1008.2.2.2.2)) fun S1010 => bd ((r1008.2.2.2.1 ||| ((1 : Int32) <<< (r1008.2.2.2.2 &&& 31)))) fun x1011 => bd ((sI S1010 79 (r1008.2.2.1 + (1 : Int32)).toNatClampNeg (-1 : Int32))) fun S1012 => (if (r1008.2.2.1 + (1 : Int32)) ≤ r1008.2.1 then r1008.1 else (bd ((r1008.2.2.1 + (1 : Int32))) fun x1014 => bd (L_X12_seekShows_143 FU S1012 r1008.1 x1014 x1014 x1011 r1008.2.2.2.2 (0 : Int32)) fun r1015 => r1015.1)))) = x1017 → ∀ x1018 : Int32, (if r1008.1 ≤ r1008.2.2.2.2 then r1008.2.1 else (bd ((sI S 79 r1008.2.2.1.toNatClampNeg r1008.2.2.2.2)) fun S1010 => bd ((r1008.2.2.2.1 ||| ((1 : Int32) <<< (r1008.2.2.2.2 &&& 31)))) fun x1011 => bd ((sI S1010 79 (r1008.2.2.1 + (1 : Int32)).toNatClampNeg (-1 : Int32))) fun S1012 => (if (r1008.2.2.1 + (1 : Int32)) ≤ r1008.2.1 then r1008.2.1 else (bd ((r1008.2.2.1 + (1 : Int32))) fun x1014 => bd (L_X12_seekShows_143 FU S1012 r1008.1 x1014 x1014 x1011 r1008.2.2.2.2 (0 : Int32)) fun r1015 => r1015.2.1)))) = x1018 → ∀ x1019 : Int32, (if r1008.1 ≤ r1008.2.2.2.2 then r1008.2.2.2.1 else (bd ((sI S 79 r1008.2.2.1.toNatClampNeg r1008.2.2.2.2)) fun S1010 => bd ((r1008.2.2.2.1 ||| ((1 : Int32) <<< (r1008.2.2.2.2 &&& 31)))) fun x1011 => bd ((sI S1010 79 (r1008.2.2.1 + (1 : Int32)).toNatClampNeg (-1 : Int32))) fun S1012 => (if (r1008.2.2.1 + (1 : Int32)) ≤ r1008.2.1 then x1011 else (bd ((r1008.2.2.1 + (1 : Int32))) fun x1014 => bd (L_X12_seekShows_143 FU S1012 r1008.1 x1014 x1014 x1011 r1008.2.2.2.2 (0 : Int32)) fun r1015 => r1015.2.2.2.1)))) = x1019 → ∀ x1020 : Int32, (if r1008.1 ≤ r1008.2.2.2.2 then r1008.2.2.2.2 else (bd ((sI S 79 r1008.2.2.1.toNatClampNeg r1008.2.2.2.2)) fun S1010 => bd ((r1008.2.2.2.1 ||| ((1 : Int32) <<< (r1008.2.2.2.2 &&& 31)))) fun x1011 => bd ((sI S1010 79 (r1008.2.2.1 + (1 : Int32)).toNatClampNeg (-1 : Int32))) fun S1012 => (if (r1008.2.2.1 + (1 : Int32)) ≤ r1008.2.1 then r1008.2.2.2.2 else (bd ((r1008.2.2.1 + (1 : Int32))) fun x1014 => bd (L_X12_seekShows_143 FU S1012 r1008.1 x1014 x1014 x1011 r1008.2.2.2.2 (0 : Int32)) fun r1015 => r1015.2.2.2.2.1)))) = x1020 → ∀ S1021 : HSt, (if r1008.1 ≤ r1008.2.2.2.2 then S else (bd ((sI S 79 r1008.2.2.1.toNatClampNeg r1008.2.2.2.2)) fun S1010 => bd ((r1008.2.2.2.1 ||| ((1 : Int32) <<< (r1008.2.2.2.2 &&& 31)))) fun x1011 => bd ((sI S1010 79 (r1008.2.2.1 + (1 : Int32)).toNatClampNeg (-1 : Int32))) fun S1012 => (if (r1008.2.2.1 + (1 : Int32)) ≤ r1008.2.1 then S1012 else (bd ((r1008.2.2.1 + (1 : Int32))) fun x1014 => bd (L_X12_seekShows_143 FU S1012 r1008.1 x1014 x1014 x1011 r1008.2.2.2.2 (0 : Int32)) fun r1015 => r1015.2.2.2.2.2.2)))) = S1021 → T_X12_seekShows_21 n S1021 x1017 x1018 x1016 x1019)
theorem qL_X12_seekShows_21 : ∀ (n : Nat) (S : HSt) (v1 : Int32) (v2 : Int32) (v3 : Int32) (v4 : Int32), shp (L_X12_seekShows_21 n S v1 v2 v3 v4).2.2.2.2 = shp S := by
  intro n
  induction n with
  | zero => intros; rfl
  | succ n ih =>
    intro S v1 v2 v3 v4
    unfold L_X12_seekShows_21
    repeat' (first | with_reducible refine shpr4 ?_ | with_reducible rfl | with_reducible refine (ih _ _ _ _ _).trans ?_ | with_reducible refine (qL_X12_seekShows_143 _ _ _ _ _ _ _ _).trans ?_ | with_reducible refine (shp_sI _ _ _ _).trans ?_ | with_reducible refine (shp_sJ _ _ _ _).trans ?_ | with_reducible refine shi ?_ ?_ | with_reducible refine shb (fun _ _ => ?_) | with_reducible refine shiP (fun q : Int32 × Int32 × Int32 × Int32 × HSt => q.2.2.2.2) ?_ ?_ | with_reducible refine shbP (fun q : Int32 × Int32 × Int32 × Int32 × HSt => q.2.2.2.2) (fun _ _ => ?_) | (subst_vars; with_reducible rfl) | (subst_vars; with_reducible refine (ih _ _ _ _ _).trans ?_) | (subst_vars; with_reducible refine (qL_X12_seekShows_143 _ _ _ _ _ _ _ _).trans ?_) | (subst_vars; with_reducible refine (shp_sI _ _ _ _).trans ?_) | (subst_vars; with_reducible refine (shp_sJ _ _ _ _).trans ?_) | (subst_vars; with_reducible refine shi ?_ ?_) | (subst_vars; with_reducible refine shb (fun _ _ => ?_)))
theorem vL_X12_seekShows_21 : ∀ (n : Nat) (S : HSt) (v1 : Int32) (v2 : Int32) (v3 : Int32) (v4 : Int32), Fr [(79, 1000), (80, 1000)] S (L_X12_seekShows_21 n S v1 v2 v3 v4).2.2.2.2 := by
  intro n
  induction n with
  | zero => intros; exact Fr.refl _ _
  | succ n ih =>
    intro S v1 v2 v3 v4
    unfold L_X12_seekShows_21
    repeat' (first | with_reducible refine frpr4 ?_ | with_reducible exact Fr.refl _ _ | with_reducible refine Fr.lP (fun q : Int32 × Int32 × Int32 × Int32 × HSt => q.2.2.2.2) (fun _ _ => ?_) | with_reducible refine Fr.iteP (fun q : Int32 × Int32 × Int32 × Int32 × HSt => q.2.2.2.2) ?_ ?_ | with_reducible refine Fr.l1 (fun _ _ => ?_) | with_reducible refine Fr.ite ?_ ?_ | with_reducible refine Fr.sE (by assumption) (by first | decide | simp only [List.mem_cons, List.not_mem_nil, or_false, true_or, or_true, eq_self_iff_true]) ?_ | with_reducible refine Fr.jE (by assumption) ?_ | with_reducible refine Fr.rE (by assumption) (by first | decide | simp only [List.mem_cons, List.not_mem_nil, or_false, true_or, or_true, eq_self_iff_true]) ?_ | with_reducible refine Fr.iE (by assumption) ?_ ?_ | with_reducible refine Fr.tr (ih _ _ _ _ _) (by first | decide | simp only [List.mem_cons, List.not_mem_nil, or_false, forall_eq_or_imp, forall_eq, true_or, or_true, and_self, eq_self_iff_true]) ?_ | with_reducible refine Fr.tr (wL_X12_seekShows_143 _ _ _ _ _ _ _ _ _ (by assumption)) (by first | decide | simp only [List.mem_cons, List.not_mem_nil, or_false, forall_eq_or_imp, forall_eq, true_or, or_true, and_self, eq_self_iff_true]) ?_)
theorem wL_X12_seekShows_21 (n : Nat) (S : HSt) (v1 : Int32) (v2 : Int32) (v3 : Int32) (v4 : Int32) (r : Int32 × Int32 × Int32 × Int32 × HSt) (e : L_X12_seekShows_21 n S v1 v2 v3 v4 = r) : Fr [(79, 1000), (80, 1000)] S r.2.2.2.2 := by
  rw [← e]
  exact vL_X12_seekShows_21 n S v1 v2 v3 v4
set_option maxRecDepth 100000 in
theorem l_X12_seekShows_21 {p : Program} {l : Launch} {e : Env} {s : State} {m : MethodId} {args : Array Value} {below : List Frame} {meth : Method} {c : Code} {G : GG} {Q : State → Prop} (hC : ACx p s m args meth c cX12_seekShows RX12 7 (some .int)) (hSt : St G s)  : ∀ (n : Nat) (S : HSt) (v1 : Int32) (v2 : Int32) (v3 : Int32) (v4 : Int32), MS S → T_X12_seekShows_21 n S v1 v2 v3 v4 → AW p l e (rmD 2 0 0) s m args below meth c G 7 Q (L_X12_seekShows_21 n S v1 v2 v3 v4).2.2.2.2 0 0 178 [(0, .ref 64), (1, .int (L_X12_seekShows_21 n S v1 v2 v3 v4).1), (2, .int (L_X12_seekShows_21 n S v1 v2 v3 v4).2.1), (3, .int (L_X12_seekShows_21 n S v1 v2 v3 v4).2.2.1), (4, .int (L_X12_seekShows_21 n S v1 v2 v3 v4).2.2.2.1)] [] → AW p l e (rmD 2 0 0) s m args below meth c G 7 Q S 0 0 21 [(0, .ref 64), (1, .int v1), (2, .int v2), (3, .int v3), (4, .int v4)] [] := by
  intro n
  induction n with
  | zero => intro S v1 v2 v3 v4 _ hT; exact hT.elim
  | succ n ih =>
    intro S v1 v2 v3 v4 hM hT hk
    unfold T_X12_seekShows_21 at hT
    obtain ⟨h0, h1, h2, h3, h4, h5⟩ := hT
    refine aw_iload_n hC 3 dX12_seekShows_21 rfl rfl ?_
    refine aw_if_lt hC 178 dX12_seekShows_22 (by decide) (fun c1003 => ?_) (fun c1003 => ?_)
    · refine aw_sub [0, 1, 2, 3, 4] rfl ?_
      have E : L_X12_seekShows_21 (n + 1) S v1 v2 v3 v4 = _ := (if_pos c1003).trans (rfl)
      rw [E] at hk
      exact hk
    · refine aw_aload_n hC 0 dX12_seekShows_25 rfl rfl ?_
      refine aw_getP (b := 79) hC hSt 42 (ms_lt 64 (by decide) hM) (ms_k 64 12 0 (by decide) hM) rfl (by decide) w_935 rfl (ms_p 42 79 (by decide) hM) dX12_seekShows_26 ?_
      refine aw_iload_n hC 3 dX12_seekShows_29 rfl rfl ?_
      refine aw_iald hC hSt (ms_lt 79 (by decide) hM) (ms_k 79 14 7 (by decide) hM) (vp_len (n := 7) (ms_l 79 14 7 (by decide) hM) (h0 c1003)) dX12_seekShows_30 ?_
      refine aw_istore hC [(5, .int _), (0, .ref 64), (1, .int _), (2, .int _), (3, .int _), (4, .int _)] dX12_seekShows_31 (by decide) rfl ?_
      generalize ex1004 : (gI S 79 v3.toNatClampNeg) = x1004
      refine aw_iload hC 5 dX12_seekShows_33 rfl ?_
      refine aw_iload hC 0 dX12_seekShows_35 rfl ?_
      refine aw_cut (S' := S) (pc' := 50) (lv' := [(5, .int x1004), (0, .ref 64), (1, .int v1), (2, .int v2), (3, .int v3), (4, .int v4)]) (st' := [.int (if 0 ≤ x1004 then (((1 : Int32) <<< (x1004 &&& 31)) ^^^ (-1 : Int32)) else (-1 : Int32)), .int v4]) ?_ (fun Jc1005 => ?_)
      · generalize ex1006 : (if 0 ≤ x1004 then (((1 : Int32) <<< (x1004 &&& 31)) ^^^ (-1 : Int32)) else (-1 : Int32)) = x1006
        refine aw_iand hC dX12_seekShows_50 ?_
        refine aw_istore hC [(4, .int _), (5, .int _), (0, .ref 64), (1, .int _), (2, .int _), (3, .int _)] dX12_seekShows_51 (by decide) rfl ?_
        generalize ex1007 : (v4 &&& x1006) = x1007
        refine aw_iinc (v := (x1004 + (1 : Int32))) hC 1 [(5, .int _), (4, .int _), (0, .ref 64), (1, .int _), (2, .int _), (3, .int _)] dX12_seekShows_53 rfl rfl (by decide) rfl ?_
        refine aw_sub [2, 3, 4, 5, 1, 0] rfl ?_
        refine l_X12_seekShows_56 hC hSt FU _ _ _ _ _ _ hM (h1 c1003 x1004 ex1004 x1006 ex1006 x1007 ex1007) ?_
        generalize er1008 : L_X12_seekShows_56 FU S v1 v2 v3 x1007 (x1004 + (1 : Int32)) = r1008
        refine aw_iload hC 5 dX12_seekShows_100 rfl ?_
        refine aw_iload_n hC 1 dX12_seekShows_102 rfl rfl ?_
        refine aw_cut (S' := (if r1008.1 ≤ r1008.2.2.2.2 then S else (bd ((sI S 79 r1008.2.2.1.toNatClampNeg r1008.2.2.2.2)) fun S1010 => bd ((r1008.2.2.2.1 ||| ((1 : Int32) <<< (r1008.2.2.2.2 &&& 31)))) fun x1011 => bd ((sI S1010 79 (r1008.2.2.1 + (1 : Int32)).toNatClampNeg (-1 : Int32))) fun S1012 => (if (r1008.2.2.1 + (1 : Int32)) ≤ r1008.2.1 then S1012 else (bd ((r1008.2.2.1 + (1 : Int32))) fun x1014 => bd (L_X12_seekShows_143 FU S1012 r1008.1 x1014 x1014 x1011 r1008.2.2.2.2 (0 : Int32)) fun r1015 => r1015.2.2.2.2.2.2))))) (pc' := 175) (lv' := [(3, .int (if r1008.1 ≤ r1008.2.2.2.2 then (r1008.2.2.1 + (-1 : Int32)) else (bd ((sI S 79 r1008.2.2.1.toNatClampNeg r1008.2.2.2.2)) fun S1010 => bd ((r1008.2.2.2.1 ||| ((1 : Int32) <<< (r1008.2.2.2.2 &&& 31)))) fun x1011 => bd ((sI S1010 79 (r1008.2.2.1 + (1 : Int32)).toNatClampNeg (-1 : Int32))) fun S1012 => (if (r1008.2.2.1 + (1 : Int32)) ≤ r1008.2.1 then (r1008.2.2.1 + (1 : Int32)) else (bd ((r1008.2.2.1 + (1 : Int32))) fun x1014 => bd (L_X12_seekShows_143 FU S1012 r1008.1 x1014 x1014 x1011 r1008.2.2.2.2 (0 : Int32)) fun r1015 => r1015.2.2.1))))), (0, .ref 64), (1, .int (if r1008.1 ≤ r1008.2.2.2.2 then r1008.1 else (bd ((sI S 79 r1008.2.2.1.toNatClampNeg r1008.2.2.2.2)) fun S1010 => bd ((r1008.2.2.2.1 ||| ((1 : Int32) <<< (r1008.2.2.2.2 &&& 31)))) fun x1011 => bd ((sI S1010 79 (r1008.2.2.1 + (1 : Int32)).toNatClampNeg (-1 : Int32))) fun S1012 => (if (r1008.2.2.1 + (1 : Int32)) ≤ r1008.2.1 then r1008.1 else (bd ((r1008.2.2.1 + (1 : Int32))) fun x1014 => bd (L_X12_seekShows_143 FU S1012 r1008.1 x1014 x1014 x1011 r1008.2.2.2.2 (0 : Int32)) fun r1015 => r1015.1))))), (2, .int (if r1008.1 ≤ r1008.2.2.2.2 then r1008.2.1 else (bd ((sI S 79 r1008.2.2.1.toNatClampNeg r1008.2.2.2.2)) fun S1010 => bd ((r1008.2.2.2.1 ||| ((1 : Int32) <<< (r1008.2.2.2.2 &&& 31)))) fun x1011 => bd ((sI S1010 79 (r1008.2.2.1 + (1 : Int32)).toNatClampNeg (-1 : Int32))) fun S1012 => (if (r1008.2.2.1 + (1 : Int32)) ≤ r1008.2.1 then r1008.2.1 else (bd ((r1008.2.2.1 + (1 : Int32))) fun x1014 => bd (L_X12_seekShows_143 FU S1012 r1008.1 x1014 x1014 x1011 r1008.2.2.2.2 (0 : Int32)) fun r1015 => r1015.2.1))))), (4, .int (if r1008.1 ≤ r1008.2.2.2.2 then r1008.2.2.2.1 else (bd ((sI S 79 r1008.2.2.1.toNatClampNeg r1008.2.2.2.2)) fun S1010 => bd ((r1008.2.2.2.1 ||| ((1 : Int32) <<< (r1008.2.2.2.2 &&& 31)))) fun x1011 => bd ((sI S1010 79 (r1008.2.2.1 + (1 : Int32)).toNatClampNeg (-1 : Int32))) fun S1012 => (if (r1008.2.2.1 + (1 : Int32)) ≤ r1008.2.1 then x1011 else (bd ((r1008.2.2.1 + (1 : Int32))) fun x1014 => bd (L_X12_seekShows_143 FU S1012 r1008.1 x1014 x1014 x1011 r1008.2.2.2.2 (0 : Int32)) fun r1015 => r1015.2.2.2.1))))), (5, .int (if r1008.1 ≤ r1008.2.2.2.2 then r1008.2.2.2.2 else (bd ((sI S 79 r1008.2.2.1.toNatClampNeg r1008.2.2.2.2)) fun S1010 => bd ((r1008.2.2.2.1 ||| ((1 : Int32) <<< (r1008.2.2.2.2 &&& 31)))) fun x1011 => bd ((sI S1010 79 (r1008.2.2.1 + (1 : Int32)).toNatClampNeg (-1 : Int32))) fun S1012 => (if (r1008.2.2.1 + (1 : Int32)) ≤ r1008.2.1 then r1008.2.2.2.2 else (bd ((r1008.2.2.1 + (1 : Int32))) fun x1014 => bd (L_X12_seekShows_143 FU S1012 r1008.1 x1014 x1014 x1011 r1008.2.2.2.2 (0 : Int32)) fun r1015 => r1015.2.2.2.2.1)))))]) (st' := []) ?_ (fun Jc1009 => ?_)
        · generalize ex1016 : (if r1008.1 ≤ r1008.2.2.2.2 then (r1008.2.2.1 + (-1 : Int32)) else (bd ((sI S 79 r1008.2.2.1.toNatClampNeg r1008.2.2.2.2)) fun S1010 => bd ((r1008.2.2.2.1 ||| ((1 : Int32) <<< (r1008.2.2.2.2 &&& 31)))) fun x1011 => bd ((sI S1010 79 (r1008.2.2.1 + (1 : Int32)).toNatClampNeg (-1 : Int32))) fun S1012 => (if (r1008.2.2.1 + (1 : Int32)) ≤ r1008.2.1 then (r1008.2.2.1 + (1 : Int32)) else (bd ((r1008.2.2.1 + (1 : Int32))) fun x1014 => bd (L_X12_seekShows_143 FU S1012 r1008.1 x1014 x1014 x1011 r1008.2.2.2.2 (0 : Int32)) fun r1015 => r1015.2.2.1)))) = x1016
          generalize ex1017 : (if r1008.1 ≤ r1008.2.2.2.2 then r1008.1 else (bd ((sI S 79 r1008.2.2.1.toNatClampNeg r1008.2.2.2.2)) fun S1010 => bd ((r1008.2.2.2.1 ||| ((1 : Int32) <<< (r1008.2.2.2.2 &&& 31)))) fun x1011 => bd ((sI S1010 79 (r1008.2.2.1 + (1 : Int32)).toNatClampNeg (-1 : Int32))) fun S1012 => (if (r1008.2.2.1 + (1 : Int32)) ≤ r1008.2.1 then r1008.1 else (bd ((r1008.2.2.1 + (1 : Int32))) fun x1014 => bd (L_X12_seekShows_143 FU S1012 r1008.1 x1014 x1014 x1011 r1008.2.2.2.2 (0 : Int32)) fun r1015 => r1015.1)))) = x1017
          generalize ex1018 : (if r1008.1 ≤ r1008.2.2.2.2 then r1008.2.1 else (bd ((sI S 79 r1008.2.2.1.toNatClampNeg r1008.2.2.2.2)) fun S1010 => bd ((r1008.2.2.2.1 ||| ((1 : Int32) <<< (r1008.2.2.2.2 &&& 31)))) fun x1011 => bd ((sI S1010 79 (r1008.2.2.1 + (1 : Int32)).toNatClampNeg (-1 : Int32))) fun S1012 => (if (r1008.2.2.1 + (1 : Int32)) ≤ r1008.2.1 then r1008.2.1 else (bd ((r1008.2.2.1 + (1 : Int32))) fun x1014 => bd (L_X12_seekShows_143 FU S1012 r1008.1 x1014 x1014 x1011 r1008.2.2.2.2 (0 : Int32)) fun r1015 => r1015.2.1)))) = x1018
          generalize ex1019 : (if r1008.1 ≤ r1008.2.2.2.2 then r1008.2.2.2.1 else (bd ((sI S 79 r1008.2.2.1.toNatClampNeg r1008.2.2.2.2)) fun S1010 => bd ((r1008.2.2.2.1 ||| ((1 : Int32) <<< (r1008.2.2.2.2 &&& 31)))) fun x1011 => bd ((sI S1010 79 (r1008.2.2.1 + (1 : Int32)).toNatClampNeg (-1 : Int32))) fun S1012 => (if (r1008.2.2.1 + (1 : Int32)) ≤ r1008.2.1 then x1011 else (bd ((r1008.2.2.1 + (1 : Int32))) fun x1014 => bd (L_X12_seekShows_143 FU S1012 r1008.1 x1014 x1014 x1011 r1008.2.2.2.2 (0 : Int32)) fun r1015 => r1015.2.2.2.1)))) = x1019
          generalize ex1020 : (if r1008.1 ≤ r1008.2.2.2.2 then r1008.2.2.2.2 else (bd ((sI S 79 r1008.2.2.1.toNatClampNeg r1008.2.2.2.2)) fun S1010 => bd ((r1008.2.2.2.1 ||| ((1 : Int32) <<< (r1008.2.2.2.2 &&& 31)))) fun x1011 => bd ((sI S1010 79 (r1008.2.2.1 + (1 : Int32)).toNatClampNeg (-1 : Int32))) fun S1012 => (if (r1008.2.2.1 + (1 : Int32)) ≤ r1008.2.1 then r1008.2.2.2.2 else (bd ((r1008.2.2.1 + (1 : Int32))) fun x1014 => bd (L_X12_seekShows_143 FU S1012 r1008.1 x1014 x1014 x1011 r1008.2.2.2.2 (0 : Int32)) fun r1015 => r1015.2.2.2.2.1)))) = x1020
          generalize eS1021 : (if r1008.1 ≤ r1008.2.2.2.2 then S else (bd ((sI S 79 r1008.2.2.1.toNatClampNeg r1008.2.2.2.2)) fun S1010 => bd ((r1008.2.2.2.1 ||| ((1 : Int32) <<< (r1008.2.2.2.2 &&& 31)))) fun x1011 => bd ((sI S1010 79 (r1008.2.2.1 + (1 : Int32)).toNatClampNeg (-1 : Int32))) fun S1012 => (if (r1008.2.2.1 + (1 : Int32)) ≤ r1008.2.1 then S1012 else (bd ((r1008.2.2.1 + (1 : Int32))) fun x1014 => bd (L_X12_seekShows_143 FU S1012 r1008.1 x1014 x1014 x1011 r1008.2.2.2.2 (0 : Int32)) fun r1015 => r1015.2.2.2.2.2.2)))) = S1021
          have hM : MS S1021 := MS.of (by rw [← eS1021]; repeat' (first | with_reducible rfl | with_reducible refine (qL_X12_seekShows_143 _ _ _ _ _ _ _ _).trans ?_ | with_reducible refine (shp_sI _ _ _ _).trans ?_ | with_reducible refine (shp_sJ _ _ _ _).trans ?_ | with_reducible refine shi ?_ ?_ | with_reducible refine shb (fun _ _ => ?_) | (subst_vars; with_reducible rfl) | (subst_vars; with_reducible refine (qL_X12_seekShows_143 _ _ _ _ _ _ _ _).trans ?_) | (subst_vars; with_reducible refine (shp_sI _ _ _ _).trans ?_) | (subst_vars; with_reducible refine (shp_sJ _ _ _ _).trans ?_) | (subst_vars; with_reducible refine shi ?_ ?_) | (subst_vars; with_reducible refine shb (fun _ _ => ?_)))) hM
          refine aw_goto hC 21 dX12_seekShows_175 (by decide) ?_
          refine aw_sub [1, 2, 3, 0, 4] rfl ?_
          have hTn := (h5 c1003 x1004 ex1004 x1006 ex1006 x1007 ex1007 r1008 er1008 x1016 ex1016 x1017 ex1017 x1018 ex1018 x1019 ex1019 x1020 ex1020 S1021 eS1021)
          have hMn : MS S1021 := hM
          have E : L_X12_seekShows_21 (n + 1) S v1 v2 v3 v4 = _ := (if_neg c1003).trans ((bd_eq ex1004).trans ((bd_eq ex1006).trans ((bd_eq ex1007).trans ((bd_eq er1008).trans ((bd_eq ex1016).trans ((bd_eq ex1017).trans ((bd_eq ex1018).trans ((bd_eq ex1019).trans ((bd_eq ex1020).trans ((bd_eq eS1021).trans (rfl)))))))))))
          rw [E] at hk
          exact ih _ _ _ _ _ hMn hTn hk
        · refine aw_icmp_ge hC 172 dX12_seekShows_103 (by decide) (fun c1009 => ?_) (fun c1009 => ?_)
          · refine aw_iinc (v := (r1008.2.2.1 + (-1 : Int32))) hC 3 [(3, .int _), (0, .ref 64), (1, .int _), (2, .int _), (4, .int _), (5, .int _)] dX12_seekShows_172 rfl rfl (by decide) rfl ?_
            simp only [bd_def, if_pos c1009] at Jc1009 ⊢
            exact Jc1009
          · refine aw_aload_n hC 0 dX12_seekShows_106 rfl rfl ?_
            refine aw_getP (b := 79) hC hSt 42 (ms_lt 64 (by decide) hM) (ms_k 64 12 0 (by decide) hM) rfl (by decide) w_935 rfl (ms_p 42 79 (by decide) hM) dX12_seekShows_107 ?_
            refine aw_iload_n hC 3 dX12_seekShows_110 rfl rfl ?_
            refine aw_iload hC 5 dX12_seekShows_111 rfl ?_
            refine aw_iast hC hSt (ms_lt 79 (by decide) hM) (ms_k 79 14 7 (by decide) hM) (vp_len (n := 7) (ms_l 79 14 7 (by decide) hM) (h2 c1003 x1004 ex1004 x1006 ex1006 x1007 ex1007 r1008 er1008 c1009)) dX12_seekShows_113 ?_
            generalize eS1010 : (sI S 79 r1008.2.2.1.toNatClampNeg r1008.2.2.2.2) = S1010
            have hM : MS S1010 := MS.of (by rw [← eS1010]; exact shp_sI _ _ _ _) hM
            refine aw_iload hC 4 dX12_seekShows_114 rfl ?_
            refine aw_iconst (v := 1) hC dX12_seekShows_116 (by decide) ?_
            refine aw_iload hC 5 dX12_seekShows_117 rfl ?_
            refine aw_ishl hC dX12_seekShows_119 ?_
            refine aw_ior hC dX12_seekShows_120 ?_
            refine aw_istore hC [(4, .int _), (0, .ref 64), (1, .int _), (2, .int _), (3, .int _), (5, .int _)] dX12_seekShows_121 (by decide) rfl ?_
            generalize ex1011 : (r1008.2.2.2.1 ||| ((1 : Int32) <<< (r1008.2.2.2.2 &&& 31))) = x1011
            refine aw_iinc (v := (r1008.2.2.1 + (1 : Int32))) hC 4 [(3, .int _), (4, .int _), (0, .ref 64), (1, .int _), (2, .int _), (5, .int _)] dX12_seekShows_123 rfl rfl (by decide) rfl ?_
            refine aw_aload_n hC 2 dX12_seekShows_126 rfl rfl ?_
            refine aw_getP (b := 79) hC hSt 42 (ms_lt 64 (by decide) hM) (ms_k 64 12 0 (by decide) hM) rfl (by decide) w_935 rfl (ms_p 42 79 (by decide) hM) dX12_seekShows_127 ?_
            refine aw_iload_n hC 0 dX12_seekShows_130 rfl rfl ?_
            refine aw_iconst (v := -1) hC dX12_seekShows_131 (by decide) ?_
            refine aw_iast hC hSt (ms_lt 79 (by decide) hM) (ms_k 79 14 7 (by decide) hM) (vp_len (n := 7) (ms_l 79 14 7 (by decide) hM) (h3 c1003 x1004 ex1004 x1006 ex1006 x1007 ex1007 r1008 er1008 c1009 S1010 eS1010 x1011 ex1011)) dX12_seekShows_132 ?_
            generalize eS1012 : (sI S1010 79 (r1008.2.2.1 + (1 : Int32)).toNatClampNeg (-1 : Int32)) = S1012
            have hM : MS S1012 := MS.of (by rw [← eS1012]; exact shp_sI _ _ _ _) hM
            refine aw_iload_n hC 0 dX12_seekShows_133 rfl rfl ?_
            refine aw_iload_n hC 4 dX12_seekShows_134 rfl rfl ?_
            refine aw_icmp_le hC 175 dX12_seekShows_135 (by decide) (fun c1013 => ?_) (fun c1013 => ?_)
            · refine aw_sub [0, 2, 3, 4, 1, 5] rfl ?_
              subst eS1012
              subst ex1011
              subst eS1010
              simp only [bd_def, if_neg c1009, if_pos c1013] at Jc1009 ⊢
              exact Jc1009
            · refine aw_iload_n hC 0 dX12_seekShows_138 rfl rfl ?_
              refine aw_istore_n hC [(2, .int _), (3, .int _), (4, .int _), (0, .ref 64), (1, .int _), (5, .int _)] dX12_seekShows_139 rfl (by decide) rfl ?_
              generalize ex1014 : (r1008.2.2.1 + (1 : Int32)) = x1014
              refine aw_iconst (v := 0) hC dX12_seekShows_140 (by decide) ?_
              refine aw_istore hC [(6, .int _), (2, .int _), (3, .int _), (4, .int _), (0, .ref 64), (1, .int _), (5, .int _)] dX12_seekShows_141 (by decide) rfl ?_
              refine aw_sub [4, 5, 1, 2, 3, 6, 0] rfl ?_
              refine l_X12_seekShows_143 hC hSt FU _ _ _ _ _ _ _ hM (h4 c1003 x1004 ex1004 x1006 ex1006 x1007 ex1007 r1008 er1008 c1009 S1010 eS1010 x1011 ex1011 S1012 eS1012 c1013 x1014 ex1014) ?_
              generalize er1015 : L_X12_seekShows_143 FU S1012 r1008.1 x1014 x1014 x1011 r1008.2.2.2.2 (0 : Int32) = r1015
              have hM : MS r1015.2.2.2.2.2.2 := MS.of (by rw [← er1015]; exact qL_X12_seekShows_143 _ _ _ _ _ _ _ _) hM
              refine aw_goto hC 175 dX12_seekShows_169 (by decide) ?_
              refine aw_sub [3, 0, 1, 2, 4, 5] rfl ?_
              subst er1015
              subst ex1014
              subst eS1012
              subst ex1011
              subst eS1010
              simp only [bd_def, if_neg c1009, if_neg c1013] at Jc1009 ⊢
              exact Jc1009
      · refine aw_if_ge hC 44 dX12_seekShows_37 (by decide) (fun c1005 => ?_) (fun c1005 => ?_)
        · refine aw_iconst (v := 1) hC dX12_seekShows_44 (by decide) ?_
          refine aw_iload hC 0 dX12_seekShows_45 rfl ?_
          refine aw_ishl hC dX12_seekShows_47 ?_
          refine aw_iconst (v := -1) hC dX12_seekShows_48 (by decide) ?_
          refine aw_ixor hC dX12_seekShows_49 ?_
          simp only [bd_def, if_pos c1005] at Jc1005 ⊢
          exact Jc1005
        · refine aw_iconst (v := -1) hC dX12_seekShows_40 (by decide) ?_
          refine aw_goto hC 50 dX12_seekShows_41 (by decide) ?_
          simp only [bd_def, if_neg c1005] at Jc1005 ⊢
          exact Jc1005
noncomputable def f_X12_seekShows (S : HSt) (_o : Nat)  : Int32 × HSt := bd ((gI S 68 (3 : Int32).toNatClampNeg)) fun x1 => bd ((sI S 79 (0 : Int32).toNatClampNeg (-1 : Int32))) fun S2 => bd (L_X12_seekShows_21 FU S2 x1 (0 : Int32) (0 : Int32) (0 : Int32)) fun r3 => pr (r3.2.1) (r3.2.2.2.2)
def p_X12_seekShows (S : HSt) (_o : Nat)  : Prop := (∀ x1 : Int32, (gI S 68 (3 : Int32).toNatClampNeg) = x1 → ∀ S2 : HSt, (sI S 79 (0 : Int32).toNatClampNeg (-1 : Int32)) = S2 → T_X12_seekShows_21 FU S2 x1 (0 : Int32) (0 : Int32) (0 : Int32))
set_option maxRecDepth 100000 in
theorem t_X12_seekShows (G : GG) (l : Launch) {S : HSt} (hM : MS S)  (hp : p_X12_seekShows S 64) : AM G l yX12_seekShows cX12_seekShows 7 (some .int) (rmD 2 0 0) 0 0 [.ref 64] S (FP (some (.int (f_X12_seekShows S 64).1)) ((f_X12_seekShows S 64).2)) := by
  have h0 := hp
  unfold p_X12_seekShows at h0
  refine AM.mk (by decide) (Nat.le_of_ble_eq_true rfl) ?_
  intro p e s m below meth c hC hSt _
  refine aw_aload_n hC 0 dX12_seekShows_0 rfl rfl ?_
  refine aw_getP (b := 68) hC hSt 5 (ms_lt 64 (by decide) hM) (ms_k 64 12 0 (by decide) hM) rfl (by decide) w_920 rfl (ms_p 5 68 (by decide) hM) dX12_seekShows_1 ?_
  refine aw_iconst (v := 3) hC dX12_seekShows_4 (by decide) ?_
  refine aw_iald hC hSt (ms_lt 68 (by decide) hM) (ms_k 68 14 172 (by decide) hM) (vp_len (n := 172) (ms_l 68 14 172 (by decide) hM) (by unfold vp_in; decide)) dX12_seekShows_5 ?_
  refine aw_istore_n hC [(1, .int _), (0, .ref 64)] dX12_seekShows_6 rfl (by decide) rfl ?_
  generalize ex1 : (gI S 68 (3 : Int32).toNatClampNeg) = x1
  refine aw_iconst (v := 0) hC dX12_seekShows_7 (by decide) ?_
  refine aw_istore_n hC [(2, .int _), (1, .int _), (0, .ref 64)] dX12_seekShows_8 rfl (by decide) rfl ?_
  refine aw_iconst (v := 0) hC dX12_seekShows_9 (by decide) ?_
  refine aw_istore_n hC [(3, .int _), (2, .int _), (1, .int _), (0, .ref 64)] dX12_seekShows_10 rfl (by decide) rfl ?_
  refine aw_iconst (v := 0) hC dX12_seekShows_11 (by decide) ?_
  refine aw_istore hC [(4, .int _), (3, .int _), (2, .int _), (1, .int _), (0, .ref 64)] dX12_seekShows_12 (by decide) rfl ?_
  refine aw_aload_n hC 4 dX12_seekShows_14 rfl rfl ?_
  refine aw_getP (b := 79) hC hSt 42 (ms_lt 64 (by decide) hM) (ms_k 64 12 0 (by decide) hM) rfl (by decide) w_935 rfl (ms_p 42 79 (by decide) hM) dX12_seekShows_15 ?_
  refine aw_iconst (v := 0) hC dX12_seekShows_18 (by decide) ?_
  refine aw_iconst (v := -1) hC dX12_seekShows_19 (by decide) ?_
  refine aw_iast hC hSt (ms_lt 79 (by decide) hM) (ms_k 79 14 7 (by decide) hM) (vp_len (n := 7) (ms_l 79 14 7 (by decide) hM) (by unfold vp_in; decide)) dX12_seekShows_20 ?_
  generalize eS2 : (sI S 79 (0 : Int32).toNatClampNeg (-1 : Int32)) = S2
  have hM : MS S2 := MS.of (by rw [← eS2]; exact shp_sI _ _ _ _) hM
  refine aw_sub [4, 3, 2, 1, 0] rfl ?_
  refine l_X12_seekShows_21 hC hSt FU _ _ _ _ _ hM (h0 x1 ex1 S2 eS2) ?_
  generalize er3 : L_X12_seekShows_21 FU S2 x1 (0 : Int32) (0 : Int32) (0 : Int32) = r3
  have hM : MS r3.2.2.2.2 := MS.of (by rw [← er3]; exact qL_X12_seekShows_21 _ _ _ _ _ _) hM
  refine aw_iload_n hC 2 dX12_seekShows_178 rfl rfl ?_
  refine aw_iret hC dX12_seekShows_179 (Nat.le_refl _) (Nat.le_refl _) ?_
  exact FP.qI ((bd_eq ex1).trans ((bd_eq eS2).trans ((bd_eq er3).trans (rfl))))
theorem q_X12_seekShows (S : HSt) (_o : Nat)  : shp ((f_X12_seekShows S _o).2) = shp S := by
  unfold f_X12_seekShows
  repeat' (first | with_reducible refine shpr1 ?_ | with_reducible rfl | with_reducible refine (qL_X12_seekShows_21 _ _ _ _ _ _).trans ?_ | with_reducible refine (qL_X12_seekShows_143 _ _ _ _ _ _ _ _).trans ?_ | with_reducible refine (shp_sI _ _ _ _).trans ?_ | with_reducible refine (shp_sJ _ _ _ _).trans ?_ | with_reducible refine shi ?_ ?_ | with_reducible refine shb (fun _ _ => ?_) | with_reducible refine shiP (fun q : Int32 × HSt => q.2) ?_ ?_ | with_reducible refine shbP (fun q : Int32 × HSt => q.2) (fun _ _ => ?_) | (subst_vars; with_reducible rfl) | (subst_vars; with_reducible refine (qL_X12_seekShows_21 _ _ _ _ _ _).trans ?_) | (subst_vars; with_reducible refine (qL_X12_seekShows_143 _ _ _ _ _ _ _ _).trans ?_) | (subst_vars; with_reducible refine (shp_sI _ _ _ _).trans ?_) | (subst_vars; with_reducible refine (shp_sJ _ _ _ _).trans ?_) | (subst_vars; with_reducible refine shi ?_ ?_) | (subst_vars; with_reducible refine shb (fun _ _ => ?_)))
theorem v_X12_seekShows (S : HSt) (_o : Nat)  : Fr [(79, 1000), (80, 1000)] S ((f_X12_seekShows S _o).2) := by
  unfold f_X12_seekShows
  repeat' (first | with_reducible refine frpr1 ?_ | with_reducible exact Fr.refl _ _ | with_reducible refine Fr.lP (fun q : Int32 × HSt => q.2) (fun _ _ => ?_) | with_reducible refine Fr.iteP (fun q : Int32 × HSt => q.2) ?_ ?_ | with_reducible refine Fr.l1 (fun _ _ => ?_) | with_reducible refine Fr.ite ?_ ?_ | with_reducible refine Fr.sE (by assumption) (by first | decide | simp only [List.mem_cons, List.not_mem_nil, or_false, true_or, or_true, eq_self_iff_true]) ?_ | with_reducible refine Fr.jE (by assumption) ?_ | with_reducible refine Fr.rE (by assumption) (by first | decide | simp only [List.mem_cons, List.not_mem_nil, or_false, true_or, or_true, eq_self_iff_true]) ?_ | with_reducible refine Fr.iE (by assumption) ?_ ?_ | with_reducible refine Fr.tr (wL_X12_seekShows_21 _ _ _ _ _ _ _ (by assumption)) (by first | decide | simp only [List.mem_cons, List.not_mem_nil, or_false, forall_eq_or_imp, forall_eq, true_or, or_true, and_self, eq_self_iff_true]) ?_ | with_reducible refine Fr.tr (wL_X12_seekShows_143 _ _ _ _ _ _ _ _ _ (by assumption)) (by first | decide | simp only [List.mem_cons, List.not_mem_nil, or_false, forall_eq_or_imp, forall_eq, true_or, or_true, and_self, eq_self_iff_true]) ?_)
theorem w_X12_seekShows (S : HSt) (_o : Nat)  (r : Int32 × HSt) (e : f_X12_seekShows S _o = r) : Fr [(79, 1000), (80, 1000)] S r.2 := by
  rw [← e]
  exact v_X12_seekShows S _o