noncomputable def L_X12_fewest_81 : Nat → HSt → Int32 → Int32 → Int32 → Int32 × Int32 × Int32 × HSt
  | 0, S, v1, v2, v3 => (v1, v2, v3, S)
  | n + 1, S, v1, v2, v3 =>
    if (582096 : Int32) ≤ v3 then ((pr (v1) (pr (v2) (pr (v3) (S))))) else (bd ((sI S 77 v3.toNatClampNeg (vp_nar .boolean (0 : Int32)))) fun S1009 => L_X12_fewest_81 n S1009 v1 v2 (v3 + (1 : Int32)))
def T_X12_fewest_81 : Nat → HSt → Int32 → Int32 → Int32 → Prop
  | 0, _, _, _, _ => False
  | n + 1, S, v1, v2, v3 => ((¬ (582096 : Int32) ≤ v3) → vp_in v3 582096) ∧ ((¬ (582096 : Int32) ≤ v3) → ∀ S1009 : HSt, (sI S 77 v3.toNatClampNeg (vp_nar .boolean (0 : Int32))) = S1009 → T_X12_fewest_81 n S1009 v1 v2 (v3 + (1 : Int32)))
theorem qL_X12_fewest_81 : ∀ (n : Nat) (S : HSt) (v1 : Int32) (v2 : Int32) (v3 : Int32), shp (L_X12_fewest_81 n S v1 v2 v3).2.2.2 = shp S := by
  intro n
  induction n with
  | zero => intros; rfl
  | succ n ih =>
    intro S v1 v2 v3
    unfold L_X12_fewest_81
    repeat' (first | with_reducible refine shpr3 ?_ | with_reducible rfl | with_reducible refine (ih _ _ _ _).trans ?_ | with_reducible refine (q_X12_goOn _ _ _).trans ?_ | with_reducible refine (shp_sI _ _ _ _).trans ?_ | with_reducible refine (shp_sJ _ _ _ _).trans ?_ | with_reducible refine shi ?_ ?_ | with_reducible refine shb (fun _ _ => ?_) | with_reducible refine shiP (fun q : Int32 × Int32 × Int32 × HSt => q.2.2.2) ?_ ?_ | with_reducible refine shbP (fun q : Int32 × Int32 × Int32 × HSt => q.2.2.2) (fun _ _ => ?_) | (subst_vars; with_reducible rfl) | (subst_vars; with_reducible refine (ih _ _ _ _).trans ?_) | (subst_vars; with_reducible refine (q_X12_goOn _ _ _).trans ?_) | (subst_vars; with_reducible refine (shp_sI _ _ _ _).trans ?_) | (subst_vars; with_reducible refine (shp_sJ _ _ _ _).trans ?_) | (subst_vars; with_reducible refine shi ?_ ?_) | (subst_vars; with_reducible refine shb (fun _ _ => ?_)))
set_option maxRecDepth 100000 in
theorem l_X12_fewest_81 {p : Program} {l : Launch} {e : Env} {s : State} {m : MethodId} {args : Array Value} {below : List Frame} {meth : Method} {c : Code} {G : GG} {Q : State → Prop} (hC : ACx p s m args meth c cX12_fewest RX12 4 (some .long)) (hSt : St G s)  : ∀ (n : Nat) (S : HSt) (v1 : Int32) (v2 : Int32) (v3 : Int32), MS S → T_X12_fewest_81 n S v1 v2 v3 → AW p l e (rmD 4 0 0) s m args below meth c G 4 Q (L_X12_fewest_81 n S v1 v2 v3).2.2.2 0 0 100 [(0, .ref 64), (1, .int (L_X12_fewest_81 n S v1 v2 v3).1), (2, .int (L_X12_fewest_81 n S v1 v2 v3).2.1), (3, .int (L_X12_fewest_81 n S v1 v2 v3).2.2.1)] [] → AW p l e (rmD 4 0 0) s m args below meth c G 4 Q S 0 0 81 [(0, .ref 64), (1, .int v1), (2, .int v2), (3, .int v3)] [] := by
  intro n
  induction n with
  | zero => intro S v1 v2 v3 _ hT; exact hT.elim
  | succ n ih =>
    intro S v1 v2 v3 hM hT hk
    unfold T_X12_fewest_81 at hT
    obtain ⟨h0, h1⟩ := hT
    refine aw_iload_n hC 3 dX12_fewest_81 rfl rfl ?_
    refine aw_ldc (v := 582096) hC w_931 dX12_fewest_82 ?_
    refine aw_icmp_ge hC 100 dX12_fewest_84 (by decide) (fun c1008 => ?_) (fun c1008 => ?_)
    · refine aw_sub [0, 1, 2, 3] rfl ?_
      have E : L_X12_fewest_81 (n + 1) S v1 v2 v3 = _ := (if_pos c1008).trans (rfl)
      rw [E] at hk
      exact hk
    · refine aw_aload_n hC 0 dX12_fewest_87 rfl rfl ?_
      refine aw_getP (b := 77) hC hSt 40 (ms_lt 64 (by decide) hM) (ms_k 64 12 0 (by decide) hM) rfl (by decide) w_933 rfl (ms_p 40 77 (by decide) hM) dX12_fewest_88 ?_
      refine aw_iload_n hC 3 dX12_fewest_91 rfl rfl ?_
      refine aw_iconst (v := 0) hC dX12_fewest_92 (by decide) ?_
      refine aw_zast hC hSt (ms_lt 77 (by decide) hM) (ms_k 77 16 582096 (by decide) hM) (vp_len (n := 582096) (ms_l 77 16 582096 (by decide) hM) (h0 c1008)) dX12_fewest_93 ?_
      generalize eS1009 : (sI S 77 v3.toNatClampNeg (vp_nar .boolean (0 : Int32))) = S1009
      have hM : MS S1009 := MS.of (by rw [← eS1009]; exact shp_sI _ _ _ _) hM
      refine aw_iinc (v := (v3 + (1 : Int32))) hC 3 [(3, .int _), (0, .ref 64), (1, .int _), (2, .int _)] dX12_fewest_94 rfl rfl (by decide) rfl ?_
      refine aw_goto hC 81 dX12_fewest_97 (by decide) ?_
      refine aw_sub [1, 2, 3, 0] rfl ?_
      have hTn := (h1 c1008 S1009 eS1009)
      have hMn : MS S1009 := hM
      have E : L_X12_fewest_81 (n + 1) S v1 v2 v3 = _ := (if_neg c1008).trans ((bd_eq eS1009).trans (rfl))
      rw [E] at hk
      exact ih _ _ _ _ hMn hTn hk
noncomputable def L_X12_fewest_124 : Nat → HSt → Int32 → Int32 → Int32 → Int32 × Int64 × Int32 × Int32 × Int32 × HSt
  | 0, S, v1, v2, v3 => ((1 : Int32), 0, v1, v2, v3, S)
  | n + 1, S, v1, v2, v3 =>
    if v2 ≤ v3 then ((pr ((0 : Int32)) (pr (0) (pr (v1) (pr (v2) (pr (v3) (S))))))) else (bd (f_X12_goOn S 64 v3) fun r1011 => if r1011.1 < v1 then (L_X12_fewest_124 n r1011.2 v1 v2 (v3 + (1 : Int32))) else ((pr ((1 : Int32)) (pr ((v3 + (1 : Int32)).toInt64) (pr (v1) (pr (v2) (pr (v3) (r1011.2))))))))
def T_X12_fewest_124 : Nat → HSt → Int32 → Int32 → Int32 → Prop
  | 0, _, _, _, _ => False
  | n + 1, S, v1, v2, v3 => ((¬ v2 ≤ v3) → p_X12_goOn S 64 v3) ∧ ((¬ v2 ≤ v3) → ∀ r1011, f_X12_goOn S 64 v3 = r1011 → (r1011.1 < v1) → T_X12_fewest_124 n r1011.2 v1 v2 (v3 + (1 : Int32)))
theorem qL_X12_fewest_124 : ∀ (n : Nat) (S : HSt) (v1 : Int32) (v2 : Int32) (v3 : Int32), shp (L_X12_fewest_124 n S v1 v2 v3).2.2.2.2.2 = shp S := by
  intro n
  induction n with
  | zero => intros; rfl
  | succ n ih =>
    intro S v1 v2 v3
    unfold L_X12_fewest_124
    repeat' (first | with_reducible refine shpr5 ?_ | with_reducible rfl | with_reducible refine (ih _ _ _ _).trans ?_ | with_reducible refine (q_X12_goOn _ _ _).trans ?_ | with_reducible refine (qL_X12_fewest_81 _ _ _ _ _).trans ?_ | with_reducible refine (shp_sI _ _ _ _).trans ?_ | with_reducible refine (shp_sJ _ _ _ _).trans ?_ | with_reducible refine shi ?_ ?_ | with_reducible refine shb (fun _ _ => ?_) | with_reducible refine shiP (fun q : Int32 × Int64 × Int32 × Int32 × Int32 × HSt => q.2.2.2.2.2) ?_ ?_ | with_reducible refine shbP (fun q : Int32 × Int64 × Int32 × Int32 × Int32 × HSt => q.2.2.2.2.2) (fun _ _ => ?_) | (subst_vars; with_reducible rfl) | (subst_vars; with_reducible refine (ih _ _ _ _).trans ?_) | (subst_vars; with_reducible refine (q_X12_goOn _ _ _).trans ?_) | (subst_vars; with_reducible refine (qL_X12_fewest_81 _ _ _ _ _).trans ?_) | (subst_vars; with_reducible refine (shp_sI _ _ _ _).trans ?_) | (subst_vars; with_reducible refine (shp_sJ _ _ _ _).trans ?_) | (subst_vars; with_reducible refine shi ?_ ?_) | (subst_vars; with_reducible refine shb (fun _ _ => ?_)))
set_option maxRecDepth 100000 in
theorem l_X12_fewest_124 {p : Program} {l : Launch} {e : Env} {s : State} {m : MethodId} {args : Array Value} {below : List Frame} {meth : Method} {c : Code} {G : GG} {Post : Option Value → HSt → Prop} (hC : ACx p s m args meth c cX12_fewest RX12 4 (some .long)) (hSt : St G s)  : ∀ (n : Nat) (S : HSt) (v1 : Int32) (v2 : Int32) (v3 : Int32), MS S → T_X12_fewest_124 n S v1 v2 v3 → ((L_X12_fewest_124 n S v1 v2 v3).1 = 1 → Post (some (.long (L_X12_fewest_124 n S v1 v2 v3).2.1)) (L_X12_fewest_124 n S v1 v2 v3).2.2.2.2.2) → ((L_X12_fewest_124 n S v1 v2 v3).1 ≠ 1 → AW p l e (rmD 4 0 0) s m args below meth c G 4 (AQ G below args s 0 0 Post) (L_X12_fewest_124 n S v1 v2 v3).2.2.2.2.2 0 0 149 [(0, .ref 64), (1, .int (L_X12_fewest_124 n S v1 v2 v3).2.2.1), (2, .int (L_X12_fewest_124 n S v1 v2 v3).2.2.2.1), (3, .int (L_X12_fewest_124 n S v1 v2 v3).2.2.2.2.1)] []) → AW p l e (rmD 4 0 0) s m args below meth c G 4 (AQ G below args s 0 0 Post) S 0 0 124 [(0, .ref 64), (1, .int v1), (2, .int v2), (3, .int v3)] [] := by
  intro n
  induction n with
  | zero => intro S v1 v2 v3 _ hT; exact hT.elim
  | succ n ih =>
    intro S v1 v2 v3 hM hT hr hk
    unfold T_X12_fewest_124 at hT
    obtain ⟨h0, h1⟩ := hT
    refine aw_iload_n hC 3 dX12_fewest_124 rfl rfl ?_
    refine aw_iload_n hC 2 dX12_fewest_125 rfl rfl ?_
    refine aw_icmp_ge hC 149 dX12_fewest_126 (by decide) (fun c1010 => ?_) (fun c1010 => ?_)
    · refine aw_sub [0, 1, 2, 3] rfl ?_
      have E : L_X12_fewest_124 (n + 1) S v1 v2 v3 = _ := (if_pos c1010).trans (rfl)
      rw [E] at hk hr
      exact hk (by show ¬ (0 : Int32) = 1; decide)
    · refine aw_aload_n hC 0 dX12_fewest_129 rfl rfl ?_
      refine aw_iload_n hC 3 dX12_fewest_130 rfl rfl ?_
      refine aw_cV1r hC hSt (t_X12_goOn G l hM _ (h0 c1010)) w_1237 w_1239 w_1240 w_1241 w_953 rfl rfl (by decide +kernel) ⟨Nat.le_of_ble_eq_true rfl, Nat.le_of_ble_eq_true rfl⟩ (ms_lt 64 (by decide) hM) (ms_k 64 12 0 (by decide) hM) rfl (Nat.le_of_ble_eq_true rfl) dX12_fewest_131 ⟨Nat.zero_le _, Nat.zero_le _⟩ ?_
      generalize er1011 : f_X12_goOn S 64 v3 = r1011
      have hM : MS r1011.2 := MS.of (by rw [← er1011]; exact q_X12_goOn _ _ _) hM
      refine aw_iload_n hC 1 dX12_fewest_134 rfl rfl ?_
      refine aw_icmp_lt hC 143 dX12_fewest_135 (by decide) (fun c1012 => ?_) (fun c1012 => ?_)
      · refine aw_iinc (v := (v3 + (1 : Int32))) hC 3 [(3, .int _), (0, .ref 64), (1, .int _), (2, .int _)] dX12_fewest_143 rfl rfl (by decide) rfl ?_
        refine aw_goto hC 124 dX12_fewest_146 (by decide) ?_
        refine aw_sub [1, 2, 3, 0] rfl ?_
        have hTn := (h1 c1010 r1011 er1011 c1012)
        have hMn : MS r1011.2 := hM
        have E : L_X12_fewest_124 (n + 1) S v1 v2 v3 = _ := (if_neg c1010).trans ((bd_eq er1011).trans ((if_pos c1012).trans (rfl)))
        rw [E] at hk hr
        exact ih _ _ _ _ hMn hTn hr hk
      · refine aw_iload_n hC 3 dX12_fewest_138 rfl rfl ?_
        refine aw_iconst (v := 1) hC dX12_fewest_139 (by decide) ?_
        refine aw_iadd hC dX12_fewest_140 ?_
        refine aw_i2l hC dX12_fewest_141 ?_
        refine aw_lret hC dX12_fewest_142 (Nat.le_refl _) (Nat.le_refl _) ?_
        have E : L_X12_fewest_124 (n + 1) S v1 v2 v3 = _ := (if_neg c1010).trans ((bd_eq er1011).trans ((if_neg c1012).trans (rfl)))
        rw [E] at hr
        exact hr rfl
noncomputable def f_X12_fewest (S : HSt) (_o : Nat) (a1 : Int32) (a2 : Int32) : Int64 × HSt := bd ((sI S 64 0 (0 : Int32))) fun S1 => if (f_X12_in S1 a1.toInt64 (1 : Int64) (200 : Int64)) = 0 then (pr ((-9000000000000000001 : Int64)) (S1)) else (if (f_X12_in S1 a2.toInt64 (0 : Int64) (12 : Int64)) = 0 then (pr ((-9000000000000000001 : Int64)) (S1)) else (if (gI S1 64 7) = 0 then (pr ((-9000000000000000002 : Int64)) (S1)) else (if (gI S1 71 (0 : Int32).toNatClampNeg) < a1 then (if (gI S1 71 (5 : Int32).toNatClampNeg) = (1 : Int32) then (pr ((-1000000 : Int64)) (S1)) else (if (gI S1 71 (0 : Int32).toNatClampNeg) = 0 then (pr ((-1000000 : Int64)) (S1)) else (bd (L_X12_fewest_81 FU S1 a1 a2 (0 : Int32)) fun r8 => bd ((sI r8.2.2.2 77 (f_X12_placeOf r8.2.2.2 (0 : Int32) (gI r8.2.2.2 71 (1 : Int32).toNatClampNeg) (gI r8.2.2.2 71 (0 : Int32).toNatClampNeg)).toNatClampNeg (vp_nar .boolean (1 : Int32)))) fun S9 => bd (L_X12_fewest_124 1000 S9 r8.1 r8.2.1 (0 : Int32)) fun r10 => if r10.1 = 1 then (pr (r10.2.1) (r10.2.2.2.2.2)) else (pr ((-1000000 : Int64)) (r10.2.2.2.2.2))))) else (pr ((0 : Int64)) (S1)))))
def p_X12_fewest (S : HSt) (_o : Nat) (a1 : Int32) (a2 : Int32) : Prop := (∀ S1 : HSt, (sI S 64 0 (0 : Int32)) = S1 → (¬ (f_X12_in S1 a1.toInt64 (1 : Int64) (200 : Int64)) = 0) → (¬ (f_X12_in S1 a2.toInt64 (0 : Int64) (12 : Int64)) = 0) → (¬ (gI S1 64 7) = 0) → ((gI S1 71 (0 : Int32).toNatClampNeg) < a1) → (¬ (gI S1 71 (5 : Int32).toNatClampNeg) = (1 : Int32)) → (¬ (gI S1 71 (0 : Int32).toNatClampNeg) = 0) → T_X12_fewest_81 FU S1 a1 a2 (0 : Int32)) ∧ (∀ S1 : HSt, (sI S 64 0 (0 : Int32)) = S1 → (¬ (f_X12_in S1 a1.toInt64 (1 : Int64) (200 : Int64)) = 0) → (¬ (f_X12_in S1 a2.toInt64 (0 : Int64) (12 : Int64)) = 0) → (¬ (gI S1 64 7) = 0) → ((gI S1 71 (0 : Int32).toNatClampNeg) < a1) → (¬ (gI S1 71 (5 : Int32).toNatClampNeg) = (1 : Int32)) → (¬ (gI S1 71 (0 : Int32).toNatClampNeg) = 0) → ∀ r8, L_X12_fewest_81 FU S1 a1 a2 (0 : Int32) = r8 → vp_in (f_X12_placeOf r8.2.2.2 (0 : Int32) (gI r8.2.2.2 71 (1 : Int32).toNatClampNeg) (gI r8.2.2.2 71 (0 : Int32).toNatClampNeg)) 582096) ∧ (∀ S1 : HSt, (sI S 64 0 (0 : Int32)) = S1 → (¬ (f_X12_in S1 a1.toInt64 (1 : Int64) (200 : Int64)) = 0) → (¬ (f_X12_in S1 a2.toInt64 (0 : Int64) (12 : Int64)) = 0) → (¬ (gI S1 64 7) = 0) → ((gI S1 71 (0 : Int32).toNatClampNeg) < a1) → (¬ (gI S1 71 (5 : Int32).toNatClampNeg) = (1 : Int32)) → (¬ (gI S1 71 (0 : Int32).toNatClampNeg) = 0) → ∀ r8, L_X12_fewest_81 FU S1 a1 a2 (0 : Int32) = r8 → ∀ S9 : HSt, (sI r8.2.2.2 77 (f_X12_placeOf r8.2.2.2 (0 : Int32) (gI r8.2.2.2 71 (1 : Int32).toNatClampNeg) (gI r8.2.2.2 71 (0 : Int32).toNatClampNeg)).toNatClampNeg (vp_nar .boolean (1 : Int32))) = S9 → T_X12_fewest_124 1000 S9 r8.1 r8.2.1 (0 : Int32))
set_option maxRecDepth 100000 in
theorem t_X12_fewest (G : GG) (l : Launch) {S : HSt} (hM : MS S) (a1 : Int32) (a2 : Int32) (hp : p_X12_fewest S 64 a1 a2) : AM G l yX12_fewest cX12_fewest 4 (some .long) (rmD 4 0 0) 0 0 [.ref 64, .int a1, .int a2] S (FP (some (.long (f_X12_fewest S 64 a1 a2).1)) ((f_X12_fewest S 64 a1 a2).2)) := by
  obtain ⟨h0, h1, h2⟩ := hp
  refine AM.mk (by decide) (Nat.le_of_ble_eq_true rfl) ?_
  intro p e s m below meth c hC hSt _
  refine aw_aload_n hC 0 dX12_fewest_0 rfl rfl ?_
  refine aw_iconst (v := 0) hC dX12_fewest_1 (by decide) ?_
  refine aw_putI hC hSt 0 (ms_lt 64 (by decide) hM) (ms_k 64 12 0 (by decide) hM) rfl (by decide) w_955 rfl rfl rfl rfl dX12_fewest_2 ?_
  generalize eS1 : (sI S 64 0 (0 : Int32)) = S1
  have hM : MS S1 := MS.of (by rw [← eS1]; exact shp_sI _ _ _ _) hM
  refine aw_iload_n hC 1 dX12_fewest_5 rfl rfl ?_
  refine aw_i2l hC dX12_fewest_6 ?_
  refine aw_lconst (v := 1) hC dX12_fewest_7 (by decide) ?_
  refine aw_ldc2 (v := 200) hC w_1174 dX12_fewest_8 ?_
  refine aw_cS3r hC hSt (t_X12_in G l  _ _ _) w_945 w_951 w_952 w_953 rfl rfl (by decide +kernel) ⟨Nat.le_of_ble_eq_true rfl, Nat.le_of_ble_eq_true rfl⟩ (Nat.le_of_ble_eq_true rfl) dX12_fewest_11 ⟨Nat.zero_le _, Nat.zero_le _⟩ ?_
  refine aw_if_eq hC 29 dX12_fewest_14 (by decide) (fun c2 => ?_) (fun c2 => ?_)
  · refine aw_ldc2 (v := -9000000000000000001) hC w_957 dX12_fewest_29 ?_
    refine aw_lret hC dX12_fewest_32 (Nat.le_refl _) (Nat.le_refl _) ?_
    exact FP.qJ ((bd_eq eS1).trans ((if_pos c2).trans (rfl)))
  · refine aw_iload_n hC 2 dX12_fewest_17 rfl rfl ?_
    refine aw_i2l hC dX12_fewest_18 ?_
    refine aw_lconst (v := 0) hC dX12_fewest_19 (by decide) ?_
    refine aw_ldc2 (v := 12) hC w_1238 dX12_fewest_20 ?_
    refine aw_cS3r hC hSt (t_X12_in G l  _ _ _) w_945 w_951 w_952 w_953 rfl rfl (by decide +kernel) ⟨Nat.le_of_ble_eq_true rfl, Nat.le_of_ble_eq_true rfl⟩ (Nat.le_of_ble_eq_true rfl) dX12_fewest_23 ⟨Nat.zero_le _, Nat.zero_le _⟩ ?_
    refine aw_if_ne hC 33 dX12_fewest_26 (by decide) (fun c3 => ?_) (fun c3 => ?_)
    · refine aw_aload_n hC 0 dX12_fewest_33 rfl rfl ?_
      refine aw_getI hC hSt 7 (ms_lt 64 (by decide) hM) (ms_k 64 12 0 (by decide) hM) rfl (by decide) w_1051 rfl dX12_fewest_34 ?_
      refine aw_if_ne hC 44 dX12_fewest_37 (by decide) (fun c4 => ?_) (fun c4 => ?_)
      · refine aw_aload_n hC 0 dX12_fewest_44 rfl rfl ?_
        refine aw_getP (b := 71) hC hSt 27 (ms_lt 64 (by decide) hM) (ms_k 64 12 0 (by decide) hM) rfl (by decide) w_925 rfl (ms_p 27 71 (by decide) hM) dX12_fewest_45 ?_
        refine aw_iconst (v := 0) hC dX12_fewest_48 (by decide) ?_
        refine aw_iald hC hSt (ms_lt 71 (by decide) hM) (ms_k 71 14 7 (by decide) hM) (vp_len (n := 7) (ms_l 71 14 7 (by decide) hM) (by unfold vp_in; decide)) dX12_fewest_49 ?_
        refine aw_iload_n hC 1 dX12_fewest_50 rfl rfl ?_
        refine aw_icmp_lt hC 56 dX12_fewest_51 (by decide) (fun c5 => ?_) (fun c5 => ?_)
        · refine aw_aload_n hC 0 dX12_fewest_56 rfl rfl ?_
          refine aw_getP (b := 71) hC hSt 27 (ms_lt 64 (by decide) hM) (ms_k 64 12 0 (by decide) hM) rfl (by decide) w_925 rfl (ms_p 27 71 (by decide) hM) dX12_fewest_57 ?_
          refine aw_iconst (v := 5) hC dX12_fewest_60 (by decide) ?_
          refine aw_iald hC hSt (ms_lt 71 (by decide) hM) (ms_k 71 14 7 (by decide) hM) (vp_len (n := 7) (ms_l 71 14 7 (by decide) hM) (by unfold vp_in; decide)) dX12_fewest_61 ?_
          refine aw_iconst (v := 1) hC dX12_fewest_62 (by decide) ?_
          refine aw_icmp_eq hC 75 dX12_fewest_63 (by decide) (fun c6 => ?_) (fun c6 => ?_)
          · refine aw_ldc2 (v := -1000000) hC w_1176 dX12_fewest_75 ?_
            refine aw_lret hC dX12_fewest_78 (Nat.le_refl _) (Nat.le_refl _) ?_
            exact FP.qJ ((bd_eq eS1).trans ((if_neg c2).trans ((if_neg c3).trans ((if_neg c4).trans ((if_pos c5).trans ((if_pos c6).trans (rfl)))))))
          · refine aw_aload_n hC 0 dX12_fewest_66 rfl rfl ?_
            refine aw_getP (b := 71) hC hSt 27 (ms_lt 64 (by decide) hM) (ms_k 64 12 0 (by decide) hM) rfl (by decide) w_925 rfl (ms_p 27 71 (by decide) hM) dX12_fewest_67 ?_
            refine aw_iconst (v := 0) hC dX12_fewest_70 (by decide) ?_
            refine aw_iald hC hSt (ms_lt 71 (by decide) hM) (ms_k 71 14 7 (by decide) hM) (vp_len (n := 7) (ms_l 71 14 7 (by decide) hM) (by unfold vp_in; decide)) dX12_fewest_71 ?_
            refine aw_if_ne hC 79 dX12_fewest_72 (by decide) (fun c7 => ?_) (fun c7 => ?_)
            · refine aw_iconst (v := 0) hC dX12_fewest_79 (by decide) ?_
              refine aw_istore_n hC [(3, .int _), (0, .ref 64), (1, .int _), (2, .int _)] dX12_fewest_80 rfl (by decide) rfl ?_
              refine aw_sub [1, 2, 3, 0] rfl ?_
              refine l_X12_fewest_81 hC hSt FU _ _ _ _ hM (h0 S1 eS1 c2 c3 c4 c5 c6 c7) ?_
              generalize er8 : L_X12_fewest_81 FU S1 a1 a2 (0 : Int32) = r8
              have hM : MS r8.2.2.2 := MS.of (by rw [← er8]; exact qL_X12_fewest_81 _ _ _ _ _) hM
              refine aw_aload_n hC 0 dX12_fewest_100 rfl rfl ?_
              refine aw_getP (b := 77) hC hSt 40 (ms_lt 64 (by decide) hM) (ms_k 64 12 0 (by decide) hM) rfl (by decide) w_933 rfl (ms_p 40 77 (by decide) hM) dX12_fewest_101 ?_
              refine aw_iconst (v := 0) hC dX12_fewest_104 (by decide) ?_
              refine aw_aload_n hC 0 dX12_fewest_105 rfl rfl ?_
              refine aw_getP (b := 71) hC hSt 27 (ms_lt 64 (by decide) hM) (ms_k 64 12 0 (by decide) hM) rfl (by decide) w_925 rfl (ms_p 27 71 (by decide) hM) dX12_fewest_106 ?_
              refine aw_iconst (v := 1) hC dX12_fewest_109 (by decide) ?_
              refine aw_iald hC hSt (ms_lt 71 (by decide) hM) (ms_k 71 14 7 (by decide) hM) (vp_len (n := 7) (ms_l 71 14 7 (by decide) hM) (by unfold vp_in; decide)) dX12_fewest_110 ?_
              refine aw_aload_n hC 0 dX12_fewest_111 rfl rfl ?_
              refine aw_getP (b := 71) hC hSt 27 (ms_lt 64 (by decide) hM) (ms_k 64 12 0 (by decide) hM) rfl (by decide) w_925 rfl (ms_p 27 71 (by decide) hM) dX12_fewest_112 ?_
              refine aw_iconst (v := 0) hC dX12_fewest_115 (by decide) ?_
              refine aw_iald hC hSt (ms_lt 71 (by decide) hM) (ms_k 71 14 7 (by decide) hM) (vp_len (n := 7) (ms_l 71 14 7 (by decide) hM) (by unfold vp_in; decide)) dX12_fewest_116 ?_
              refine aw_cS3r hC hSt (t_X12_placeOf G l  _ _ _) w_1234 w_1235 w_1236 w_953 rfl rfl (by decide +kernel) ⟨Nat.le_of_ble_eq_true rfl, Nat.le_of_ble_eq_true rfl⟩ (Nat.le_of_ble_eq_true rfl) dX12_fewest_117 ⟨Nat.zero_le _, Nat.zero_le _⟩ ?_
              refine aw_iconst (v := 1) hC dX12_fewest_120 (by decide) ?_
              refine aw_zast hC hSt (ms_lt 77 (by decide) hM) (ms_k 77 16 582096 (by decide) hM) (vp_len (n := 582096) (ms_l 77 16 582096 (by decide) hM) (h1 S1 eS1 c2 c3 c4 c5 c6 c7 r8 er8)) dX12_fewest_121 ?_
              generalize eS9 : (sI r8.2.2.2 77 (f_X12_placeOf r8.2.2.2 (0 : Int32) (gI r8.2.2.2 71 (1 : Int32).toNatClampNeg) (gI r8.2.2.2 71 (0 : Int32).toNatClampNeg)).toNatClampNeg (vp_nar .boolean (1 : Int32))) = S9
              have hM : MS S9 := MS.of (by rw [← eS9]; exact shp_sI _ _ _ _) hM
              refine aw_iconst (v := 0) hC dX12_fewest_122 (by decide) ?_
              refine aw_istore_n hC [(3, .int _), (0, .ref 64), (1, .int _), (2, .int _)] dX12_fewest_123 rfl (by decide) rfl ?_
              refine aw_sub [1, 2, 3, 0] rfl ?_
              refine l_X12_fewest_124 hC hSt 1000 _ _ _ _ hM (h2 S1 eS1 c2 c3 c4 c5 c6 c7 r8 er8 S9 eS9) (fun c11 => ?_) (fun c11 => ?_)
              · revert c11
                generalize er10 : L_X12_fewest_124 1000 S9 r8.1 r8.2.1 (0 : Int32) = r10
                intro c11
                exact FP.qJ ((bd_eq eS1).trans ((if_neg c2).trans ((if_neg c3).trans ((if_neg c4).trans ((if_pos c5).trans ((if_neg c6).trans ((if_neg c7).trans ((bd_eq er8).trans ((bd_eq eS9).trans ((bd_eq er10).trans ((if_pos c11).trans (rfl))))))))))))
              · revert c11
                generalize er10 : L_X12_fewest_124 1000 S9 r8.1 r8.2.1 (0 : Int32) = r10
                have hM : MS r10.2.2.2.2.2 := MS.of (by rw [← er10]; exact qL_X12_fewest_124 _ _ _ _ _) hM
                intro c11
                refine aw_ldc2 (v := -1000000) hC w_1176 dX12_fewest_149 ?_
                refine aw_lret hC dX12_fewest_152 (Nat.le_refl _) (Nat.le_refl _) ?_
                exact FP.qJ ((bd_eq eS1).trans ((if_neg c2).trans ((if_neg c3).trans ((if_neg c4).trans ((if_pos c5).trans ((if_neg c6).trans ((if_neg c7).trans ((bd_eq er8).trans ((bd_eq eS9).trans ((bd_eq er10).trans ((if_neg c11).trans (rfl))))))))))))
            · refine aw_ldc2 (v := -1000000) hC w_1176 dX12_fewest_75 ?_
              refine aw_lret hC dX12_fewest_78 (Nat.le_refl _) (Nat.le_refl _) ?_
              exact FP.qJ ((bd_eq eS1).trans ((if_neg c2).trans ((if_neg c3).trans ((if_neg c4).trans ((if_pos c5).trans ((if_neg c6).trans ((if_pos c7).trans (rfl))))))))
        · refine aw_lconst (v := 0) hC dX12_fewest_54 (by decide) ?_
          refine aw_lret hC dX12_fewest_55 (Nat.le_refl _) (Nat.le_refl _) ?_
          exact FP.qJ ((bd_eq eS1).trans ((if_neg c2).trans ((if_neg c3).trans ((if_neg c4).trans ((if_neg c5).trans (rfl))))))
      · refine aw_ldc2 (v := -9000000000000000002) hC w_1151 dX12_fewest_40 ?_
        refine aw_lret hC dX12_fewest_43 (Nat.le_refl _) (Nat.le_refl _) ?_
        exact FP.qJ ((bd_eq eS1).trans ((if_neg c2).trans ((if_neg c3).trans ((if_pos c4).trans (rfl)))))
    · refine aw_ldc2 (v := -9000000000000000001) hC w_957 dX12_fewest_29 ?_
      refine aw_lret hC dX12_fewest_32 (Nat.le_refl _) (Nat.le_refl _) ?_
      exact FP.qJ ((bd_eq eS1).trans ((if_neg c2).trans ((if_pos c3).trans (rfl))))
theorem q_X12_fewest (S : HSt) (_o : Nat) (a1 : Int32) (a2 : Int32) : shp ((f_X12_fewest S _o a1 a2).2) = shp S := by
  unfold f_X12_fewest
  repeat' (first | with_reducible refine shpr1 ?_ | with_reducible rfl | with_reducible refine (q_X12_goOn _ _ _).trans ?_ | with_reducible refine (qL_X12_fewest_81 _ _ _ _ _).trans ?_ | with_reducible refine (qL_X12_fewest_124 _ _ _ _ _).trans ?_ | with_reducible refine (shp_sI _ _ _ _).trans ?_ | with_reducible refine (shp_sJ _ _ _ _).trans ?_ | with_reducible refine shi ?_ ?_ | with_reducible refine shb (fun _ _ => ?_) | with_reducible refine shiP (fun q : Int64 × HSt => q.2) ?_ ?_ | with_reducible refine shbP (fun q : Int64 × HSt => q.2) (fun _ _ => ?_) | (subst_vars; with_reducible rfl) | (subst_vars; with_reducible refine (q_X12_goOn _ _ _).trans ?_) | (subst_vars; with_reducible refine (qL_X12_fewest_81 _ _ _ _ _).trans ?_) | (subst_vars; with_reducible refine (qL_X12_fewest_124 _ _ _ _ _).trans ?_) | (subst_vars; with_reducible refine (shp_sI _ _ _ _).trans ?_) | (subst_vars; with_reducible refine (shp_sJ _ _ _ _).trans ?_) | (subst_vars; with_reducible refine shi ?_ ?_) | (subst_vars; with_reducible refine shb (fun _ _ => ?_)))
noncomputable def F_X12_formOf (S : HSt) (_o : Nat) (a1 : Int32) (a2 : Int32) : Int32 × HSt := pr ((gI S 68 (((44 : Int32) + ((4 : Int32) * a1)) + a2).toNatClampNeg)) (S)
noncomputable def f_X12_formOf (S : HSt) (_o : Nat) (a1 : Int32) (a2 : Int32) : Int32 := (F_X12_formOf S _o a1 a2).1
def p_X12_formOf (S : HSt) (_o : Nat) (a1 : Int32) (a2 : Int32) : Prop := (vp_in (((44 : Int32) + ((4 : Int32) * a1)) + a2) 172)
set_option maxRecDepth 100000 in
theorem t_X12_formOf (G : GG) (l : Launch) {S : HSt} (hM : MS S) (a1 : Int32) (a2 : Int32) (hp : p_X12_formOf S 64 a1 a2) : AM G l yX12_formOf cX12_formOf 3 (some .int) (rmD 0 0 0) 0 0 [.ref 64, .int a1, .int a2] S (FP (some (.int (f_X12_formOf S 64 a1 a2))) (S)) := by
  have h0 := hp
  unfold p_X12_formOf at h0
  refine AM.mk (by decide) (Nat.le_of_ble_eq_true rfl) ?_
  intro p e s m below meth c hC hSt _
  refine aw_aload_n hC 0 dX12_formOf_0 rfl rfl ?_
  refine aw_getP (b := 68) hC hSt 5 (ms_lt 64 (by decide) hM) (ms_k 64 12 0 (by decide) hM) rfl (by decide) w_920 rfl (ms_p 5 68 (by decide) hM) dX12_formOf_1 ?_
  refine aw_bipush (v := 44) hC dX12_formOf_4 (by decide) ?_
  refine aw_iconst (v := 4) hC dX12_formOf_6 (by decide) ?_
  refine aw_iload_n hC 1 dX12_formOf_7 rfl rfl ?_
  refine aw_imul hC dX12_formOf_8 ?_
  refine aw_iadd hC dX12_formOf_9 ?_
  refine aw_iload_n hC 2 dX12_formOf_10 rfl rfl ?_
  refine aw_iadd hC dX12_formOf_11 ?_
  refine aw_iald hC hSt (ms_lt 68 (by decide) hM) (ms_k 68 14 172 (by decide) hM) (vp_len (n := 172) (ms_l 68 14 172 (by decide) hM) (h0)) dX12_formOf_12 ?_
  refine aw_iret hC dX12_formOf_13 (Nat.le_refl _) (Nat.le_refl _) ?_
  exact FP.pI (rfl)
noncomputable def F_X12_areNear (S : HSt) (a1 : Int32) (a2 : Int32) (a3 : Int32) (a4 : Int32) (a5 : Int32) : Int32 × HSt := bd ((if a5 < (a1 - a4) then (0 : Int32) else (if a5 < (a3 - a2) then (0 : Int32) else (1 : Int32)))) fun x3 => pr (x3) (S)
noncomputable def f_X12_areNear (S : HSt) (a1 : Int32) (a2 : Int32) (a3 : Int32) (a4 : Int32) (a5 : Int32) : Int32 := (F_X12_areNear S a1 a2 a3 a4 a5).1
set_option maxRecDepth 100000 in
theorem t_X12_areNear (G : GG) (l : Launch) {S : HSt} (a1 : Int32) (a2 : Int32) (a3 : Int32) (a4 : Int32) (a5 : Int32)  : AM G l yX12_areNear cX12_areNear 5 (some .boolean) (rmD 0 0 0) 0 0 [.int a1, .int a2, .int a3, .int a4, .int a5] S (FP (some (.int (f_X12_areNear S a1 a2 a3 a4 a5))) (S)) := by
  refine AM.mk (by decide) (Nat.le_of_ble_eq_true rfl) ?_
  intro p e s m below meth c hC hSt _
  refine aw_iload_n hC 0 dX12_areNear_0 rfl rfl ?_
  refine aw_iload_n hC 3 dX12_areNear_1 rfl rfl ?_
  refine aw_isub hC dX12_areNear_2 ?_
  refine aw_iload hC 4 dX12_areNear_3 rfl ?_
  refine aw_cut (S' := S) (pc' := 21) (lv' := [(0, .int a1), (1, .int a2), (2, .int a3), (3, .int a4), (4, .int a5)]) (st' := [.int (if a5 < (a1 - a4) then (0 : Int32) else (if a5 < (a3 - a2) then (0 : Int32) else (1 : Int32)))]) ?_ (fun Jc1 => ?_)
  · generalize ex3 : (if a5 < (a1 - a4) then (0 : Int32) else (if a5 < (a3 - a2) then (0 : Int32) else (1 : Int32))) = x3
    refine aw_zret hC dX12_areNear_21 (Nat.le_refl _) (Nat.le_refl _) (Bz.n (ex3 ▸ (Bz.ite (Or.inl rfl) (Bz.ite (Or.inl rfl) (Or.inr rfl))))) ?_
    exact FP.pI ((bd_eq ex3).trans (rfl))
  · refine aw_icmp_gt hC 20 dX12_areNear_5 (by decide) (fun c1 => ?_) (fun c1 => ?_)
    · refine aw_iconst (v := 0) hC dX12_areNear_20 (by decide) ?_
      simp only [bd_def, if_pos c1] at Jc1 ⊢
      exact Jc1
    · refine aw_iload_n hC 2 dX12_areNear_8 rfl rfl ?_
      refine aw_iload_n hC 1 dX12_areNear_9 rfl rfl ?_
      refine aw_isub hC dX12_areNear_10 ?_
      refine aw_iload hC 4 dX12_areNear_11 rfl ?_
      refine aw_icmp_gt hC 20 dX12_areNear_13 (by decide) (fun c2 => ?_) (fun c2 => ?_)
      · refine aw_iconst (v := 0) hC dX12_areNear_20 (by decide) ?_
        simp only [bd_def, if_neg c1, if_pos c2] at Jc1 ⊢
        exact Jc1
      · refine aw_iconst (v := 1) hC dX12_areNear_16 (by decide) ?_
        refine aw_goto hC 21 dX12_areNear_17 (by decide) ?_
        simp only [bd_def, if_neg c1, if_neg c2] at Jc1 ⊢
        exact Jc1
theorem b_X12_areNear (S : HSt) (a1 : Int32) (a2 : Int32) (a3 : Int32) (a4 : Int32) (a5 : Int32) : Bz (f_X12_areNear S a1 a2 a3 a4 a5) := by
  unfold f_X12_areNear F_X12_areNear
  (try dsimp only [bd])
  (repeat' split) <;> first | exact Or.inl rfl | exact Or.inr rfl
noncomputable def F_X12_goes (S : HSt) (_o : Nat) (a1 : Int32) (a2 : Int32) : Int32 × HSt := bd ((if (f_X12_areNear S (f_X12_formOf S 64 a1 (0 : Int32)) (f_X12_formOf S 64 a1 (1 : Int32)) (f_X12_formOf S 64 a2 (0 : Int32)) (f_X12_formOf S 64 a2 (1 : Int32)) (2 : Int32)) = 0 then (0 : Int32) else (if (f_X12_areNear S (f_X12_formOf S 64 a1 (2 : Int32)) (f_X12_formOf S 64 a1 (3 : Int32)) (f_X12_formOf S 64 a2 (2 : Int32)) (f_X12_formOf S 64 a2 (3 : Int32)) (20 : Int32)) = 0 then (0 : Int32) else (1 : Int32)))) fun x3 => pr (x3) (S)
noncomputable def f_X12_goes (S : HSt) (_o : Nat) (a1 : Int32) (a2 : Int32) : Int32 := (F_X12_goes S _o a1 a2).1
def p_X12_goes (S : HSt) (_o : Nat) (a1 : Int32) (a2 : Int32) : Prop := (p_X12_formOf S 64 a1 (0 : Int32)) ∧ (p_X12_formOf S 64 a1 (1 : Int32)) ∧ (p_X12_formOf S 64 a2 (0 : Int32)) ∧ (p_X12_formOf S 64 a2 (1 : Int32)) ∧ ((¬ (f_X12_areNear S (f_X12_formOf S 64 a1 (0 : Int32)) (f_X12_formOf S 64 a1 (1 : Int32)) (f_X12_formOf S 64 a2 (0 : Int32)) (f_X12_formOf S 64 a2 (1 : Int32)) (2 : Int32)) = 0) → p_X12_formOf S 64 a1 (2 : Int32)) ∧ ((¬ (f_X12_areNear S (f_X12_formOf S 64 a1 (0 : Int32)) (f_X12_formOf S 64 a1 (1 : Int32)) (f_X12_formOf S 64 a2 (0 : Int32)) (f_X12_formOf S 64 a2 (1 : Int32)) (2 : Int32)) = 0) → p_X12_formOf S 64 a1 (3 : Int32)) ∧ ((¬ (f_X12_areNear S (f_X12_formOf S 64 a1 (0 : Int32)) (f_X12_formOf S 64 a1 (1 : Int32)) (f_X12_formOf S 64 a2 (0 : Int32)) (f_X12_formOf S 64 a2 (1 : Int32)) (2 : Int32)) = 0) → p_X12_formOf S 64 a2 (2 : Int32)) ∧ ((¬ (f_X12_areNear S (f_X12_formOf S 64 a1 (0 : Int32)) (f_X12_formOf S 64 a1 (1 : Int32)) (f_X12_formOf S 64 a2 (0 : Int32)) (f_X12_formOf S 64 a2 (1 : Int32)) (2 : Int32)) = 0) → p_X12_formOf S 64 a2 (3 : Int32))
set_option maxRecDepth 100000 in
theorem t_X12_goes (G : GG) (l : Launch) {S : HSt} (hM : MS S) (a1 : Int32) (a2 : Int32) (hp : p_X12_goes S 64 a1 a2) : AM G l yX12_goes cX12_goes 3 (some .boolean) (rmD 1 0 0) 0 0 [.ref 64, .int a1, .int a2] S (FP (some (.int (f_X12_goes S 64 a1 a2))) (S)) := by
  obtain ⟨h0, h1, h2, h3, h4, h5, h6, h7⟩ := hp
  refine AM.mk (by decide) (Nat.le_of_ble_eq_true rfl) ?_
  intro p e s m below meth c hC hSt _
  refine aw_aload_n hC 0 dX12_goes_0 rfl rfl ?_
  refine aw_iload_n hC 1 dX12_goes_1 rfl rfl ?_
  refine aw_iconst (v := 0) hC dX12_goes_2 (by decide) ?_
  refine aw_cV2r hC hSt (t_X12_formOf G l hM _ _ (h0)) w_1243 w_1246 w_1247 w_1248 w_953 rfl rfl (by decide +kernel) ⟨Nat.le_of_ble_eq_true rfl, Nat.le_of_ble_eq_true rfl⟩ (ms_lt 64 (by decide) hM) (ms_k 64 12 0 (by decide) hM) rfl (Nat.le_of_ble_eq_true rfl) dX12_goes_3 ⟨Nat.zero_le _, Nat.zero_le _⟩ ?_
  refine aw_aload_n hC 0 dX12_goes_6 rfl rfl ?_
  refine aw_iload_n hC 1 dX12_goes_7 rfl rfl ?_
  refine aw_iconst (v := 1) hC dX12_goes_8 (by decide) ?_
  refine aw_cV2r hC hSt (t_X12_formOf G l hM _ _ (h1)) w_1243 w_1246 w_1247 w_1248 w_953 rfl rfl (by decide +kernel) ⟨Nat.le_of_ble_eq_true rfl, Nat.le_of_ble_eq_true rfl⟩ (ms_lt 64 (by decide) hM) (ms_k 64 12 0 (by decide) hM) rfl (Nat.le_of_ble_eq_true rfl) dX12_goes_9 ⟨Nat.zero_le _, Nat.zero_le _⟩ ?_
  refine aw_aload_n hC 0 dX12_goes_12 rfl rfl ?_
  refine aw_iload_n hC 2 dX12_goes_13 rfl rfl ?_
  refine aw_iconst (v := 0) hC dX12_goes_14 (by decide) ?_
  refine aw_cV2r hC hSt (t_X12_formOf G l hM _ _ (h2)) w_1243 w_1246 w_1247 w_1248 w_953 rfl rfl (by decide +kernel) ⟨Nat.le_of_ble_eq_true rfl, Nat.le_of_ble_eq_true rfl⟩ (ms_lt 64 (by decide) hM) (ms_k 64 12 0 (by decide) hM) rfl (Nat.le_of_ble_eq_true rfl) dX12_goes_15 ⟨Nat.zero_le _, Nat.zero_le _⟩ ?_
  refine aw_aload_n hC 0 dX12_goes_18 rfl rfl ?_
  refine aw_iload_n hC 2 dX12_goes_19 rfl rfl ?_
  refine aw_iconst (v := 1) hC dX12_goes_20 (by decide) ?_
  refine aw_cV2r hC hSt (t_X12_formOf G l hM _ _ (h3)) w_1243 w_1246 w_1247 w_1248 w_953 rfl rfl (by decide +kernel) ⟨Nat.le_of_ble_eq_true rfl, Nat.le_of_ble_eq_true rfl⟩ (ms_lt 64 (by decide) hM) (ms_k 64 12 0 (by decide) hM) rfl (Nat.le_of_ble_eq_true rfl) dX12_goes_21 ⟨Nat.zero_le _, Nat.zero_le _⟩ ?_
  refine aw_iconst (v := 2) hC dX12_goes_24 (by decide) ?_
  refine aw_cS5r hC hSt (t_X12_areNear G l  _ _ _ _ _) w_1244 w_1249 w_1250 w_953 rfl rfl (by decide +kernel) ⟨Nat.le_of_ble_eq_true rfl, Nat.le_of_ble_eq_true rfl⟩ (Nat.le_of_ble_eq_true rfl) dX12_goes_25 ⟨Nat.zero_le _, Nat.zero_le _⟩ ?_
  refine aw_cut (S' := S) (pc' := 68) (lv' := [(0, .ref 64), (1, .int a1), (2, .int a2)]) (st' := [.int (if (f_X12_areNear S (f_X12_formOf S 64 a1 (0 : Int32)) (f_X12_formOf S 64 a1 (1 : Int32)) (f_X12_formOf S 64 a2 (0 : Int32)) (f_X12_formOf S 64 a2 (1 : Int32)) (2 : Int32)) = 0 then (0 : Int32) else (if (f_X12_areNear S (f_X12_formOf S 64 a1 (2 : Int32)) (f_X12_formOf S 64 a1 (3 : Int32)) (f_X12_formOf S 64 a2 (2 : Int32)) (f_X12_formOf S 64 a2 (3 : Int32)) (20 : Int32)) = 0 then (0 : Int32) else (1 : Int32)))]) ?_ (fun Jc1 => ?_)
  · generalize ex3 : (if (f_X12_areNear S (f_X12_formOf S 64 a1 (0 : Int32)) (f_X12_formOf S 64 a1 (1 : Int32)) (f_X12_formOf S 64 a2 (0 : Int32)) (f_X12_formOf S 64 a2 (1 : Int32)) (2 : Int32)) = 0 then (0 : Int32) else (if (f_X12_areNear S (f_X12_formOf S 64 a1 (2 : Int32)) (f_X12_formOf S 64 a1 (3 : Int32)) (f_X12_formOf S 64 a2 (2 : Int32)) (f_X12_formOf S 64 a2 (3 : Int32)) (20 : Int32)) = 0 then (0 : Int32) else (1 : Int32))) = x3
    refine aw_zret hC dX12_goes_68 (Nat.le_refl _) (Nat.le_refl _) (Bz.n (ex3 ▸ (Bz.ite (Or.inl rfl) (Bz.ite (Or.inl rfl) (Or.inr rfl))))) ?_
    exact FP.pI ((bd_eq ex3).trans (rfl))
  · refine aw_if_eq hC 67 dX12_goes_28 (by decide) (fun c1 => ?_) (fun c1 => ?_)
    · refine aw_iconst (v := 0) hC dX12_goes_67 (by decide) ?_
      simp only [bd_def, if_pos c1] at Jc1 ⊢
      exact Jc1
    · refine aw_aload_n hC 0 dX12_goes_31 rfl rfl ?_
      refine aw_iload_n hC 1 dX12_goes_32 rfl rfl ?_
      refine aw_iconst (v := 2) hC dX12_goes_33 (by decide) ?_
      refine aw_cV2r hC hSt (t_X12_formOf G l hM _ _ (h4 c1)) w_1243 w_1246 w_1247 w_1248 w_953 rfl rfl (by decide +kernel) ⟨Nat.le_of_ble_eq_true rfl, Nat.le_of_ble_eq_true rfl⟩ (ms_lt 64 (by decide) hM) (ms_k 64 12 0 (by decide) hM) rfl (Nat.le_of_ble_eq_true rfl) dX12_goes_34 ⟨Nat.zero_le _, Nat.zero_le _⟩ ?_
      refine aw_aload_n hC 0 dX12_goes_37 rfl rfl ?_
      refine aw_iload_n hC 1 dX12_goes_38 rfl rfl ?_
      refine aw_iconst (v := 3) hC dX12_goes_39 (by decide) ?_
      refine aw_cV2r hC hSt (t_X12_formOf G l hM _ _ (h5 c1)) w_1243 w_1246 w_1247 w_1248 w_953 rfl rfl (by decide +kernel) ⟨Nat.le_of_ble_eq_true rfl, Nat.le_of_ble_eq_true rfl⟩ (ms_lt 64 (by decide) hM) (ms_k 64 12 0 (by decide) hM) rfl (Nat.le_of_ble_eq_true rfl) dX12_goes_40 ⟨Nat.zero_le _, Nat.zero_le _⟩ ?_
      refine aw_aload_n hC 0 dX12_goes_43 rfl rfl ?_
      refine aw_iload_n hC 2 dX12_goes_44 rfl rfl ?_
      refine aw_iconst (v := 2) hC dX12_goes_45 (by decide) ?_
      refine aw_cV2r hC hSt (t_X12_formOf G l hM _ _ (h6 c1)) w_1243 w_1246 w_1247 w_1248 w_953 rfl rfl (by decide +kernel) ⟨Nat.le_of_ble_eq_true rfl, Nat.le_of_ble_eq_true rfl⟩ (ms_lt 64 (by decide) hM) (ms_k 64 12 0 (by decide) hM) rfl (Nat.le_of_ble_eq_true rfl) dX12_goes_46 ⟨Nat.zero_le _, Nat.zero_le _⟩ ?_
      refine aw_aload_n hC 0 dX12_goes_49 rfl rfl ?_
      refine aw_iload_n hC 2 dX12_goes_50 rfl rfl ?_
      refine aw_iconst (v := 3) hC dX12_goes_51 (by decide) ?_
      refine aw_cV2r hC hSt (t_X12_formOf G l hM _ _ (h7 c1)) w_1243 w_1246 w_1247 w_1248 w_953 rfl rfl (by decide +kernel) ⟨Nat.le_of_ble_eq_true rfl, Nat.le_of_ble_eq_true rfl⟩ (ms_lt 64 (by decide) hM) (ms_k 64 12 0 (by decide) hM) rfl (Nat.le_of_ble_eq_true rfl) dX12_goes_52 ⟨Nat.zero_le _, Nat.zero_le _⟩ ?_
      refine aw_bipush (v := 20) hC dX12_goes_55 (by decide) ?_
      refine aw_cS5r hC hSt (t_X12_areNear G l  _ _ _ _ _) w_1244 w_1249 w_1250 w_953 rfl rfl (by decide +kernel) ⟨Nat.le_of_ble_eq_true rfl, Nat.le_of_ble_eq_true rfl⟩ (Nat.le_of_ble_eq_true rfl) dX12_goes_57 ⟨Nat.zero_le _, Nat.zero_le _⟩ ?_
      refine aw_if_eq hC 67 dX12_goes_60 (by decide) (fun c2 => ?_) (fun c2 => ?_)
      · refine aw_iconst (v := 0) hC dX12_goes_67 (by decide) ?_
        simp only [bd_def, if_neg c1, if_pos c2] at Jc1 ⊢
        exact Jc1
      · refine aw_iconst (v := 1) hC dX12_goes_63 (by decide) ?_
        refine aw_goto hC 68 dX12_goes_64 (by decide) ?_
        simp only [bd_def, if_neg c1, if_neg c2] at Jc1 ⊢
        exact Jc1
theorem b_X12_goes (S : HSt) (_o : Nat) (a1 : Int32) (a2 : Int32) : Bz (f_X12_goes S _o a1 a2) := by
  unfold f_X12_goes F_X12_goes
  (try dsimp only [bd])
  (repeat' split) <;> first | exact Or.inl rfl | exact Or.inr rfl | exact b_X12_areNear _ _ _ _ _ _
noncomputable def L_X12_seekShows_56 : Nat → HSt → Int32 → Int32 → Int32 → Int32 → Int32 → Int32 × Int32 × Int32 × Int32 × Int32
  | 0, S, v1, v2, v3, v4, v5 => (v1, v2, v3, v4, v5)
  | n + 1, S, v1, v2, v3, v4, v5 =>
    if v1 ≤ v5 then ((pr (v1) (pr (v2) (pr (v3) (pr (v4) (v5)))))) else (if ((v4 >>> (v5 &&& 31)) &&& (1 : Int32)) = (1 : Int32) then (L_X12_seekShows_56 n S v1 v2 v3 v4 (v5 + (1 : Int32))) else (if v3 ≤ 0 then ((pr (v1) (pr (v2) (pr (v3) (pr (v4) (v5)))))) else (if (f_X12_goes S 64 (gI S 79 (v3 - (1 : Int32)).toNatClampNeg) v5) = 0 then (L_X12_seekShows_56 n S v1 v2 v3 v4 (v5 + (1 : Int32))) else ((pr (v1) (pr (v2) (pr (v3) (pr (v4) (v5)))))))))
def T_X12_seekShows_56 : Nat → HSt → Int32 → Int32 → Int32 → Int32 → Int32 → Prop
  | 0, _, _, _, _, _, _ => False
  | n + 1, S, v1, v2, v3, v4, v5 => ((¬ v1 ≤ v5) → (((v4 >>> (v5 &&& 31)) &&& (1 : Int32)) = (1 : Int32)) → T_X12_seekShows_56 n S v1 v2 v3 v4 (v5 + (1 : Int32))) ∧ ((¬ v1 ≤ v5) → (¬ ((v4 >>> (v5 &&& 31)) &&& (1 : Int32)) = (1 : Int32)) → (¬ v3 ≤ 0) → vp_in (v3 - (1 : Int32)) 7) ∧ ((¬ v1 ≤ v5) → (¬ ((v4 >>> (v5 &&& 31)) &&& (1 : Int32)) = (1 : Int32)) → (¬ v3 ≤ 0) → p_X12_goes S 64 (gI S 79 (v3 - (1 : Int32)).toNatClampNeg) v5) ∧ ((¬ v1 ≤ v5) → (¬ ((v4 >>> (v5 &&& 31)) &&& (1 : Int32)) = (1 : Int32)) → (¬ v3 ≤ 0) → ((f_X12_goes S 64 (gI S 79 (v3 - (1 : Int32)).toNatClampNeg) v5) = 0) → T_X12_seekShows_56 n S v1 v2 v3 v4 (v5 + (1 : Int32)))
set_option maxRecDepth 100000 in
theorem l_X12_seekShows_56 {p : Program} {l : Launch} {e : Env} {s : State} {m : MethodId} {args : Array Value} {below : List Frame} {meth : Method} {c : Code} {G : GG} {Q : State → Prop} (hC : ACx p s m args meth c cX12_seekShows RX12 7 (some .int)) (hSt : St G s)  : ∀ (n : Nat) (S : HSt) (v1 : Int32) (v2 : Int32) (v3 : Int32) (v4 : Int32) (v5 : Int32), MS S → T_X12_seekShows_56 n S v1 v2 v3 v4 v5 → AW p l e (rmD 2 0 0) s m args below meth c G 7 Q S 0 0 100 [(0, .ref 64), (1, .int (L_X12_seekShows_56 n S v1 v2 v3 v4 v5).1), (2, .int (L_X12_seekShows_56 n S v1 v2 v3 v4 v5).2.1), (3, .int (L_X12_seekShows_56 n S v1 v2 v3 v4 v5).2.2.1), (4, .int (L_X12_seekShows_56 n S v1 v2 v3 v4 v5).2.2.2.1), (5, .int (L_X12_seekShows_56 n S v1 v2 v3 v4 v5).2.2.2.2)] [] → AW p l e (rmD 2 0 0) s m args below meth c G 7 Q S 0 0 56 [(0, .ref 64), (1, .int v1), (2, .int v2), (3, .int v3), (4, .int v4), (5, .int v5)] [] := by
  intro n
  induction n with
  | zero => intro S v1 v2 v3 v4 v5 _ hT; exact hT.elim
  | succ n ih =>
    intro S v1 v2 v3 v4 v5 hM hT hk
    unfold T_X12_seekShows_56 at hT
    obtain ⟨h0, h1, h2, h3⟩ := hT
    refine aw_iload hC 5 dX12_seekShows_56 rfl ?_
    refine aw_iload_n hC 1 dX12_seekShows_58 rfl rfl ?_
    refine aw_icmp_ge hC 100 dX12_seekShows_59 (by decide) (fun c2008 => ?_) (fun c2008 => ?_)
    · refine aw_sub [0, 1, 2, 3, 4, 5] rfl ?_
      have E : L_X12_seekShows_56 (n + 1) S v1 v2 v3 v4 v5 = _ := (if_pos c2008).trans (rfl)
      rw [E] at hk
      exact hk
    · refine aw_iload hC 4 dX12_seekShows_62 rfl ?_
      refine aw_iload hC 5 dX12_seekShows_64 rfl ?_
      refine aw_ishr hC dX12_seekShows_66 ?_
      refine aw_iconst (v := 1) hC dX12_seekShows_67 (by decide) ?_
      refine aw_iand hC dX12_seekShows_68 ?_
      refine aw_iconst (v := 1) hC dX12_seekShows_69 (by decide) ?_
      refine aw_icmp_eq hC 94 dX12_seekShows_70 (by decide) (fun c2009 => ?_) (fun c2009 => ?_)
      · refine aw_iinc (v := (v5 + (1 : Int32))) hC 5 [(5, .int _), (0, .ref 64), (1, .int _), (2, .int _), (3, .int _), (4, .int _)] dX12_seekShows_94 rfl rfl (by decide) rfl ?_
        refine aw_goto hC 56 dX12_seekShows_97 (by decide) ?_
        refine aw_sub [1, 2, 3, 4, 5, 0] rfl ?_
        have hTn := (h0 c2008 c2009)
        have hMn : MS S := hM
        have E : L_X12_seekShows_56 (n + 1) S v1 v2 v3 v4 v5 = _ := (if_neg c2008).trans ((if_pos c2009).trans (rfl))
        rw [E] at hk
        exact ih _ _ _ _ _ _ hMn hTn hk
      · refine aw_iload_n hC 3 dX12_seekShows_73 rfl rfl ?_
        refine aw_if_le hC 100 dX12_seekShows_74 (by decide) (fun c2010 => ?_) (fun c2010 => ?_)
        · refine aw_sub [0, 1, 2, 3, 4, 5] rfl ?_
          have E : L_X12_seekShows_56 (n + 1) S v1 v2 v3 v4 v5 = _ := (if_neg c2008).trans ((if_neg c2009).trans ((if_pos c2010).trans (rfl)))
          rw [E] at hk
          exact hk
        · refine aw_aload_n hC 0 dX12_seekShows_77 rfl rfl ?_
          refine aw_aload_n hC 0 dX12_seekShows_78 rfl rfl ?_
          refine aw_getP (b := 79) hC hSt 42 (ms_lt 64 (by decide) hM) (ms_k 64 12 0 (by decide) hM) rfl (by decide) w_935 rfl (ms_p 42 79 (by decide) hM) dX12_seekShows_79 ?_
          refine aw_iload_n hC 3 dX12_seekShows_82 rfl rfl ?_
          refine aw_iconst (v := 1) hC dX12_seekShows_83 (by decide) ?_
          refine aw_isub hC dX12_seekShows_84 ?_
          refine aw_iald hC hSt (ms_lt 79 (by decide) hM) (ms_k 79 14 7 (by decide) hM) (vp_len (n := 7) (ms_l 79 14 7 (by decide) hM) (h1 c2008 c2009 c2010)) dX12_seekShows_85 ?_
          refine aw_iload hC 5 dX12_seekShows_86 rfl ?_
          refine aw_cV2r hC hSt (t_X12_goes G l hM _ _ (h2 c2008 c2009 c2010)) w_1245 w_1252 w_1253 w_1254 w_953 rfl rfl (by decide +kernel) ⟨Nat.le_of_ble_eq_true rfl, Nat.le_of_ble_eq_true rfl⟩ (ms_lt 64 (by decide) hM) (ms_k 64 12 0 (by decide) hM) rfl (Nat.le_of_ble_eq_true rfl) dX12_seekShows_88 ⟨Nat.zero_le _, Nat.zero_le _⟩ ?_
          refine aw_if_ne hC 100 dX12_seekShows_91 (by decide) (fun c2011 => ?_) (fun c2011 => ?_)
          · refine aw_sub [0, 1, 2, 3, 4, 5] rfl ?_
            have E : L_X12_seekShows_56 (n + 1) S v1 v2 v3 v4 v5 = _ := (if_neg c2008).trans ((if_neg c2009).trans ((if_neg c2010).trans ((if_neg c2011).trans (rfl))))
            rw [E] at hk
            exact hk
          · refine aw_iinc (v := (v5 + (1 : Int32))) hC 5 [(5, .int _), (0, .ref 64), (1, .int _), (2, .int _), (3, .int _), (4, .int _)] dX12_seekShows_94 rfl rfl (by decide) rfl ?_
            refine aw_goto hC 56 dX12_seekShows_97 (by decide) ?_
            refine aw_sub [1, 2, 3, 4, 5, 0] rfl ?_
            have hTn := (h3 c2008 c2009 c2010 c2011)
            have hMn : MS S := hM
            have E : L_X12_seekShows_56 (n + 1) S v1 v2 v3 v4 v5 = _ := (if_neg c2008).trans ((if_neg c2009).trans ((if_neg c2010).trans ((if_pos c2011).trans (rfl))))
            rw [E] at hk
            exact ih _ _ _ _ _ _ hMn hTn hk
noncomputable def L_X12_seekShows_143 : Nat → HSt → Int32 → Int32 → Int32 → Int32 → Int32 → Int32 → Int32 × Int32 × Int32 × Int32 × Int32 × Int32 × HSt
  | 0, S, v1, v2, v3, v4, v5, v6 => (v1, v2, v3, v4, v5, v6, S)
  | n + 1, S, v1, v2, v3, v4, v5, v6 =>
    if v3 ≤ v6 then ((pr (v1) (pr (v2) (pr (v3) (pr (v4) (pr (v5) (pr (v6) (S)))))))) else (bd ((sI S 80 v6.toNatClampNeg (gI S 79 v6.toNatClampNeg))) fun S2016 => L_X12_seekShows_143 n S2016 v1 v2 v3 v4 v5 (v6 + (1 : Int32)))
def T_X12_seekShows_143 : Nat → HSt → Int32 → Int32 → Int32 → Int32 → Int32 → Int32 → Prop
  | 0, _, _, _, _, _, _, _ => False
  | n + 1, S, v1, v2, v3, v4, v5, v6 => ((¬ v3 ≤ v6) → vp_in v6 7) ∧ ((¬ v3 ≤ v6) → vp_in v6 6) ∧ ((¬ v3 ≤ v6) → ∀ S2016 : HSt, (sI S 80 v6.toNatClampNeg (gI S 79 v6.toNatClampNeg)) = S2016 → T_X12_seekShows_143 n S2016 v1 v2 v3 v4 v5 (v6 + (1 : Int32)))
theorem qL_X12_seekShows_143 : ∀ (n : Nat) (S : HSt) (v1 : Int32) (v2 : Int32) (v3 : Int32) (v4 : Int32) (v5 : Int32) (v6 : Int32), shp (L_X12_seekShows_143 n S v1 v2 v3 v4 v5 v6).2.2.2.2.2.2 = shp S := by
  intro n
  induction n with
  | zero => intros; rfl
  | succ n ih =>
    intro S v1 v2 v3 v4 v5 v6
    unfold L_X12_seekShows_143
    repeat' (first | with_reducible refine shpr6 ?_ | with_reducible rfl | with_reducible refine (ih _ _ _ _ _ _ _).trans ?_ | with_reducible refine (shp_sI _ _ _ _).trans ?_ | with_reducible refine (shp_sJ _ _ _ _).trans ?_ | with_reducible refine shi ?_ ?_ | with_reducible refine shb (fun _ _ => ?_) | with_reducible refine shiP (fun q : Int32 × Int32 × Int32 × Int32 × Int32 × Int32 × HSt => q.2.2.2.2.2.2) ?_ ?_ | with_reducible refine shbP (fun q : Int32 × Int32 × Int32 × Int32 × Int32 × Int32 × HSt => q.2.2.2.2.2.2) (fun _ _ => ?_) | (subst_vars; with_reducible rfl) | (subst_vars; with_reducible refine (ih _ _ _ _ _ _ _).trans ?_) | (subst_vars; with_reducible refine (shp_sI _ _ _ _).trans ?_) | (subst_vars; with_reducible refine (shp_sJ _ _ _ _).trans ?_) | (subst_vars; with_reducible refine shi ?_ ?_) | (subst_vars; with_reducible refine shb (fun _ _ => ?_)))
set_option maxRecDepth 100000 in
theorem l_X12_seekShows_143 {p : Program} {l : Launch} {e : Env} {s : State} {m : MethodId} {args : Array Value} {below : List Frame} {meth : Method} {c : Code} {G : GG} {Q : State → Prop} (hC : ACx p s m args meth c cX12_seekShows RX12 7 (some .int)) (hSt : St G s)  : ∀ (n : Nat) (S : HSt) (v1 : Int32) (v2 : Int32) (v3 : Int32) (v4 : Int32) (v5 : Int32) (v6 : Int32), MS S → T_X12_seekShows_143 n S v1 v2 v3 v4 v5 v6 → AW p l e (rmD 2 0 0) s m args below meth c G 7 Q (L_X12_seekShows_143 n S v1 v2 v3 v4 v5 v6).2.2.2.2.2.2 0 0 169 [(0, .ref 64), (1, .int (L_X12_seekShows_143 n S v1 v2 v3 v4 v5 v6).1), (2, .int (L_X12_seekShows_143 n S v1 v2 v3 v4 v5 v6).2.1), (3, .int (L_X12_seekShows_143 n S v1 v2 v3 v4 v5 v6).2.2.1), (4, .int (L_X12_seekShows_143 n S v1 v2 v3 v4 v5 v6).2.2.2.1), (5, .int (L_X12_seekShows_143 n S v1 v2 v3 v4 v5 v6).2.2.2.2.1), (6, .int (L_X12_seekShows_143 n S v1 v2 v3 v4 v5 v6).2.2.2.2.2.1)] [] → AW p l e (rmD 2 0 0) s m args below meth c G 7 Q S 0 0 143 [(0, .ref 64), (1, .int v1), (2, .int v2), (3, .int v3), (4, .int v4), (5, .int v5), (6, .int v6)] [] := by
  intro n
  induction n with
  | zero => intro S v1 v2 v3 v4 v5 v6 _ hT; exact hT.elim
  | succ n ih =>
    intro S v1 v2 v3 v4 v5 v6 hM hT hk
    unfold T_X12_seekShows_143 at hT
    obtain ⟨h0, h1, h2⟩ := hT
    refine aw_iload hC 6 dX12_seekShows_143 rfl ?_
    refine aw_iload_n hC 3 dX12_seekShows_145 rfl rfl ?_
    refine aw_icmp_ge hC 169 dX12_seekShows_146 (by decide) (fun c2015 => ?_) (fun c2015 => ?_)
    · refine aw_sub [0, 1, 2, 3, 4, 5, 6] rfl ?_
      have E : L_X12_seekShows_143 (n + 1) S v1 v2 v3 v4 v5 v6 = _ := (if_pos c2015).trans (rfl)
      rw [E] at hk
      exact hk
    · refine aw_aload_n hC 0 dX12_seekShows_149 rfl rfl ?_
      refine aw_getP (b := 80) hC hSt 43 (ms_lt 64 (by decide) hM) (ms_k 64 12 0 (by decide) hM) rfl (by decide) w_936 rfl (ms_p 43 80 (by decide) hM) dX12_seekShows_150 ?_
      refine aw_iload hC 6 dX12_seekShows_153 rfl ?_
      refine aw_aload_n hC 0 dX12_seekShows_155 rfl rfl ?_
      refine aw_getP (b := 79) hC hSt 42 (ms_lt 64 (by decide) hM) (ms_k 64 12 0 (by decide) hM) rfl (by decide) w_935 rfl (ms_p 42 79 (by decide) hM) dX12_seekShows_156 ?_
      refine aw_iload hC 6 dX12_seekShows_159 rfl ?_
      refine aw_iald hC hSt (ms_lt 79 (by decide) hM) (ms_k 79 14 7 (by decide) hM) (vp_len (n := 7) (ms_l 79 14 7 (by decide) hM) (h0 c2015)) dX12_seekShows_161 ?_
      refine aw_iast hC hSt (ms_lt 80 (by decide) hM) (ms_k 80 14 6 (by decide) hM) (vp_len (n := 6) (ms_l 80 14 6 (by decide) hM) (h1 c2015)) dX12_seekShows_162 ?_
      generalize eS2016 : (sI S 80 v6.toNatClampNeg (gI S 79 v6.toNatClampNeg)) = S2016
      have hM : MS S2016 := MS.of (by rw [← eS2016]; exact shp_sI _ _ _ _) hM
      refine aw_iinc (v := (v6 + (1 : Int32))) hC 6 [(6, .int _), (0, .ref 64), (1, .int _), (2, .int _), (3, .int _), (4, .int _), (5, .int _)] dX12_seekShows_163 rfl rfl (by decide) rfl ?_
      refine aw_goto hC 143 dX12_seekShows_166 (by decide) ?_
      refine aw_sub [1, 2, 3, 4, 5, 6, 0] rfl ?_
      have hTn := (h2 c2015 S2016 eS2016)
      have hMn : MS S2016 := hM
      have E : L_X12_seekShows_143 (n + 1) S v1 v2 v3 v4 v5 v6 = _ := (if_neg c2015).trans ((bd_eq eS2016).trans (rfl))
      rw [E] at hk
      exact ih _ _ _ _ _ _ _ hMn hTn hk
noncomputable def L_X12_seekShows_21 : Nat → HSt → Int32 → Int32 → Int32 → Int32 → Int32 × Int32 × Int32 × Int32 × HSt
  | 0, S, v1, v2, v3, v4 => (v1, v2, v3, v4, S)
  | n + 1, S, v1, v2, v3, v4 =>
    if v3 < 0 then ((pr (v1) (pr (v2) (pr (v3) (pr (v4) (S)))))) else (bd ((gI S 79 v3.toNatClampNeg)) fun x1004 => bd ((if 0 ≤ x1004 then (((1 : Int32) <<< (x1004 &&& 31)) ^^^ (-1 : Int32)) else (-1 : Int32))) fun x1006 => bd ((v4 &&& x1006)) fun x1007 => bd (L_X12_seekShows_56 FU S v1 v2 v3 x1007 (x1004 + (1 : Int32))) fun r1008 => bd ((if r1008.1 ≤ r1008.2.2.2.2 then (r1008.2.2.1 + (-1 : Int32)) else (bd ((sI S 79 r1008.2.2.1.toNatClampNeg r1008.2.2.2.2)) fun S1010 => bd ((r1008.2.2.2.1 ||| ((1 : Int32) <<< (r1008.2.2.2.2 &&& 31)))) fun x1011 => bd ((sI S1010 79 (r1008.2.2.1 + (1 : Int32)).toNatClampNeg (-1 : Int32))) fun S1012 => (if (r1008.2.2.1 + (1 : Int32)) ≤ r1008.2.1 then (r1008.2.2.1 + (1 : Int32)) else (bd ((r1008.2.2.1 + (1 : Int32))) fun x1014 => bd (L_X12_seekShows_143 FU S1012 r1008.1 x1014 x1014 x1011 r1008.2.2.2.2 (0 : Int32)) fun r1015 => r1015.2.2.1))))) fun x1016 => bd ((if r1008.1 ≤ r1008.2.2.2.2 then r1008.1 else (bd ((sI S 79 r1008.2.2.1.toNatClampNeg r1008.2.2.2.2)) fun S1010 => bd ((r1008.2.2.2.1 ||| ((1 : Int32) <<< (r1008.2.2.2.2 &&& 31)))) fun x1011 => bd ((sI S1010 79 (r1008.2.2.1 + (1 : Int32)).toNatClampNeg (-1 : Int32))) fun S1012 => (if (r1008.2.2.1 + (1 : Int32)) ≤ r1008.2.1 then r1008.1 else (bd ((r1008.2.2.1 + (1 : Int32))) fun x1014 => bd (L_X12_seekShows_143 FU S1012 r1008.1 x1014 x1014 x1011 r1008.2.2.2.2 (0 : Int32)) fun r1015 => r1015.1))))) fun x1017 => bd ((if r1008.1 ≤ r1008.2.2.2.2 then r1008.2.1 else (bd ((sI S 79 r1008.2.2.1.toNatClampNeg r1008.2.2.2.2)) fun S1010 => bd ((r1008.2.2.2.1 ||| ((1 : Int32) <<< (r1008.2.2.2.2 &&& 31)))) fun x1011 => bd ((sI S1010 79 (r1008.2.2.1 + (1 : Int32)).toNatClampNeg (-1 : Int32))) fun S1012 => (if (r1008.2.2.1 + (1 : Int32)) ≤ r1008.2.1 then r1008.2.1 else (bd ((r1008.2.2.1 + (1 : Int32))) fun x1014 => bd (L_X12_seekShows_143 FU S1012 r1008.1 x1014 x1014 x1011 r1008.2.2.2.2 (0 : Int32)) fun r1015 => r1015.2.1))))) fun x1018 => bd ((if r1008.1 ≤ r1008.2.2.2.2 then r1008.2.2.2.1 else (bd ((sI S 79 r1008.2.2.1.toNatClampNeg r1008.2.2.2.2)) fun S1010 => bd ((r1008.2.2.2.1 ||| ((1 : Int32) <<< (r1008.2.2.2.2 &&& 31)))) fun x1011 => bd ((sI S1010 79 (r1008.2.2.1 + (1 : Int32)).toNatClampNeg (-1 : Int32))) fun S1012 => (if (r1008.2.2.1 + (1 : Int32)) ≤ r1008.2.1 then x1011 else (bd ((r1008.2.2.1 + (1 : Int32))) fun x1014 => bd (L_X12_seekShows_143 FU S1012 r1008.1 x1014 x1014 x1011 r1008.2.2.2.2 (0 : Int32)) fun r1015 => r1015.2.2.2.1))))) fun x1019 => bd ((if r1008.1 ≤ r1008.2.2.2.2 then r1008.2.2.2.2 else (bd ((sI S 79 r1008.2.2.1.toNatClampNeg r1008.2.2.2.2)) fun S1010 => bd ((r1008.2.2.2.1 ||| ((1 : Int32) <<< (r1008.2.2.2.2 &&& 31)))) fun x1011 => bd ((sI S1010 79 (r1008.2.2.1 + (1 : Int32)).toNatClampNeg (-1 : Int32))) fun S1012 => (if (r1008.2.2.1 + (1 : Int32)) ≤ r1008.2.1 then r1008.2.2.2.2 else (bd ((r1008.2.2.1 + (1 : Int32))) fun x1014 => bd (L_X12_seekShows_143 FU S1012 r1008.1 x1014 x1014 x1011 r1008.2.2.2.2 (0 : Int32)) fun r1015 => r1015.2.2.2.2.1))))) fun x1020 => bd ((if r1008.1 ≤ r1008.2.2.2.2 then S else (bd ((sI S 79 r1008.2.2.1.toNatClampNeg r1008.2.2.2.2)) fun S1010 => bd ((r1008.2.2.2.1 ||| ((1 : Int32) <<< (r1008.2.2.2.2 &&& 31)))) fun x1011 => bd ((sI S1010 79 (r1008.2.2.1 + (1 : Int32)).toNatClampNeg (-1 : Int32))) fun S1012 => (if (r1008.2.2.1 + (1 : Int32)) ≤ r1008.2.1 then S1012 else (bd ((r1008.2.2.1 + (1 : Int32))) fun x1014 => bd (L_X12_seekShows_143 FU S1012 r1008.1 x1014 x1014 x1011 r1008.2.2.2.2 (0 : Int32)) fun r1015 => r1015.2.2.2.2.2.2))))) fun S1021 => L_X12_seekShows_21 n S1021 x1017 x1018 x1016 x1019)
def T_X12_seekShows_21 : Nat → HSt → Int32 → Int32 → Int32 → Int32 → Prop
  | 0, _, _, _, _, _ => False
  | n + 1, S, v1, v2, v3, v4 => ((¬ v3 < 0) → vp_in v3 7) ∧ ((¬ v3 < 0) → ∀ x1004 : Int32, (gI S 79 v3.toNatClampNeg) = x1004 → ∀ x1006 : Int32, (if 0 ≤ x1004 then (((1 : Int32) <<< (x1004 &&& 31)) ^^^ (-1 : Int32)) else (-1 : Int32)) = x1006 → ∀ x1007 : Int32, (v4 &&& x1006) = x1007 → T_X12_seekShows_56 FU S v1 v2 v3 x1007 (x1004 + (1 : Int32))) ∧ ((¬ v3 < 0) → ∀ x1004 : Int32, (gI S 79 v3.toNatClampNeg) = x1004 → ∀ x1006 : Int32, (if 0 ≤ x1004 then (((1 : Int32) <<< (x1004 &&& 31)) ^^^ (-1 : Int32)) else (-1 : Int32)) = x1006 → ∀ x1007 : Int32, (v4 &&& x1006) = x1007 → ∀ r1008, L_X12_seekShows_56 FU S v1 v2 v3 x1007 (x1004 + (1 : Int32)) = r1008 → (¬ r1008.1 ≤ r1008.2.2.2.2) → vp_in r1008.2.2.1 7) ∧ ((¬ v3 < 0) → ∀ x1004 : Int32, (gI S 79 v3.toNatClampNeg) = x1004 → ∀ x1006 : Int32, (if 0 ≤ x1004 then (((1 : Int32) <<< (x1004 &&& 31)) ^^^ (-1 : Int32)) else (-1 : Int32)) = x1006 → ∀ x1007 : Int32, (v4 &&& x1006) = x1007 → ∀ r1008, L_X12_seekShows_56 FU S v1 v2 v3 x1007 (x1004 + (1 : Int32)) = r1008 → (¬ r1008.1 ≤ r1008.2.2.2.2) → ∀ S1010 : HSt, (sI S 79 r1008.2.2.1.toNatClampNeg r1008.2.2.2.2) = S1010 → ∀ x1011 : Int32, (r1008.2.2.2.1 ||| ((1 : Int32) <<< (r1008.2.2.2.2 &&& 31))) = x1011 → vp_in (r1008.2.2.1 + (1 : Int32)) 7) ∧ ((¬ v3 < 0) → ∀ x1004 : Int32, (gI S 79 v3.toNatClampNeg) = x1004 → ∀ x1006 : Int32, (if 0 ≤ x1004 then (((1 : Int32) <<< (x1004 &&& 31)) ^^^ (-1 : Int32)) else (-1 : Int32)) = x1006 → ∀ x1007 : Int32, (v4 &&& x1006) = x1007 → ∀ r1008, L_X12_seekShows_56 FU S v1 v2 v3 x1007 (x1004 + (1 : Int32)) = r1008 → (¬ r1008.1 ≤ r1008.2.2.2.2) → ∀ S1010 : HSt, (sI S 79 r1008.2.2.1.toNatClampNeg r1008.2.2.2.2) = S1010 → ∀ x1011 : Int32, (r1008.2.2.2.1 ||| ((1 : Int32) <<< (r1008.2.2.2.2 &&& 31))) = x1011 → ∀ S1012 : HSt, (sI S1010 79 (r1008.2.2.1 + (1 : Int32)).toNatClampNeg (-1 : Int32)) = S1012 → (¬ (r1008.2.2.1 + (1 : Int32)) ≤ r1008.2.1) → ∀ x1014 : Int32, (r1008.2.2.1 + (1 : Int32)) = x1014 → T_X12_seekShows_143 FU S1012 r1008.1 x1014 x1014 x1011 r1008.2.2.2.2 (0 : Int32)) ∧ ((¬ v3 < 0) → ∀ x1004 : Int32, (gI S 79 v3.toNatClampNeg) = x1004 → ∀ x1006 : Int32, (if 0 ≤ x1004 then (((1 : Int32) <<< (x1004 &&& 31)) ^^^ (-1 : Int32)) else (-1 : Int32)) = x1006 → ∀ x1007 : Int32, (v4 &&& x1006) = x1007 → ∀ r1008, L_X12_seekShows_56 FU S v1 v2 v3 x1007 (x1004 + (1 : Int32)) = r1008 → ∀ x1016 : Int32, (if r1008.1 ≤ r1008.2.2.2.2 then (r1008.2.2.1 + (-1 : Int32)) else (bd ((sI S 79 r1008.2.2.1.toNatClampNeg r1008.2.2.2.2)) fun S1010 => bd ((r1008.2.2.2.1 ||| ((1 : Int32) <<< (r1008.2.2.2.2 &&& 31)))) fun x1011 => bd ((sI S1010 79 (r1008.2.2.1 + (1 : Int32)).toNatClampNeg (-1 : Int32))) fun S1012 => (if (r1008.2.2.1 + (1 : Int32)) ≤ r1008.2.1 then (r1008.2.2.1 + (1 : Int32)) else (bd ((r1008.2.2.1 + (1 : Int32))) fun x1014 => bd (L_X12_seekShows_143 FU S1012 r1008.1 x1014 x1014 x1011 r1008.2.2.2.2 (0 : Int32)) fun r1015 => r1015.2.2.1)))) = x1016 → ∀ x1017 : Int32, (if r1008.1 ≤ r1008.2.2.2.2 then r1008.1 else (bd ((sI S 79 r1008.2.2.1.toNatClampNeg r1008.2.2.2.2)) fun S1010 => bd ((r1008.2.2.2.1 ||| ((1 : Int32) <<< (r1008.2.2.2.2 &&& 31)))) fun x1011 => bd ((sI S1010 79 (r1008.2.2.1 + (1 : Int32)).toNatClampNeg (-1 : Int32))) fun S1012 => (if (r1008.2.2.1 + (1 : Int32)) ≤ r1008.2.1 then r1008.1 else (bd ((r1008.2.2.1 + (1 : Int32))) fun x1014 => bd (L_X12_seekShows_143 FU S1012 r1008.1 x1014 x1014 x1011 r1008.2.2.2.2 (0 : Int32)) fun r1015 => r1015.1)))) = x1017 → ∀ x1018 : Int32, (if r1008.1 ≤ r1008.2.2.2.2 then r1008.2.1 else (bd ((sI S 79 r1008.2.2.1.toNatClampNeg r1008.2.2.2.2)) fun S1010 => bd ((r1008.2.2.2.1 ||| ((1 : Int32) <<< (r1008.2.2.2.2 &&& 31)))) fun x1011 => bd ((sI S1010 79 (r1008.2.2.1 + (1 : Int32)).toNatClampNeg (-1 : Int32))) fun S1012 => (if (r1008.2.2.1 + (1 : Int32)) ≤ r1008.2.1 then r1008.2.1 else (bd ((r1008.2.2.1 + (1 : Int32))) fun x1014 => bd (L_X12_seekShows_143 FU S1012 r1008.1 x1014 x1014 x1011 r1008.2.2.2.2 (0 : Int32)) fun r1015 => r1015.2.1)))) = x1018 → ∀ x1019 : Int32, (if r1008.1 ≤ r1008.2.2.2.2 then r1008.2.2.2.1 else (bd ((sI S 79 r1008.2.2.1.toNatClampNeg r1008.2.2.2.2)) fun S1010 => bd ((r1008.2.2.2.1 ||| ((1 : Int32) <<< (r1008.2.2.2.2 &&& 31)))) fun x1011 => bd ((sI S1010 79 (r1008.2.2.1 + (1 : Int32)).toNatClampNeg (-1 : Int32))) fun S1012 => (if (r1008.2.2.1 + (1 : Int32)) ≤ r1008.2.1 then x1011 else (bd ((r1008.2.2.1 + (1 : Int32))) fun x1014 => bd (L_X12_seekShows_143 FU S1012 r1008.1 x1014 x1014 x1011 r1008.2.2.2.2 (0 : Int32)) fun r1015 => r1015.2.2.2.1)))) = x1019 → ∀ x1020 : Int32, (if r1008.1 ≤ r1008.2.2.2.2 then r1008.2.2.2.2 else (bd ((sI S 79 r1008.2.2.1.toNatClampNeg r1008.2.2.2.2)) fun S1010 => bd ((r1008.2.2.2.1 ||| ((1 : Int32) <<< (r1008.2.2.2.2 &&& 31)))) fun x1011 => bd ((sI S1010 79 (r1008.2.2.1 + (1 : Int32)).toNatClampNeg (-1 : Int32))) fun S1012 => (if (r1008.2.2.1 + (1 : Int32)) ≤ r1008.2.1 then r1008.2.2.2.2 else (bd ((r1008.2.2.1 + (1 : Int32))) fun x1014 => bd (L_X12_seekShows_143 FU S1012 r1008.1 x1014 x1014 x1011 r1008.2.2.2.2 (0 : Int32)) fun r1015 => r1015.2.2.2.2.1)))) = x1020 → ∀ S1021 : HSt, (if r1008.1 ≤ r1008.2.2.2.2 then S else (bd ((sI S 79 r1008.2.2.1.toNatClampNeg r1008.2.2.2.2)) fun S1010 => bd ((r1008.2.2.2.1 ||| ((1 : Int32) <<< (r1008.2.2.2.2 &&& 31)))) fun x1011 => bd ((sI S1010 79 (r1008.2.2.1 + (1 : Int32)).toNatClampNeg (-1 : Int32))) fun S1012 => (if (r1008.2.2.1 + (1 : Int32)) ≤ r1008.2.1 then S1012 else (bd ((r1008.2.2.1 + (1 : Int32))) fun x1014 => bd (L_X12_seekShows_143 FU S1012 r1008.1 x1014 x1014 x1011 r1008.2.2.2.2 (0 : Int32)) fun r1015 => r1015.2.2.2.2.2.2)))) = S1021 → T_X12_seekShows_21 n S1021 x1017 x1018 x1016 x1019)
theorem qL_X12_seekShows_21 : ∀ (n : Nat) (S : HSt) (v1 : Int32) (v2 : Int32) (v3 : Int32) (v4 : Int32), shp (L_X12_seekShows_21 n S v1 v2 v3 v4).2.2.2.2 = shp S := by
  intro n
  induction n with
  | zero => intros; rfl
  | succ n ih =>
    intro S v1 v2 v3 v4
    unfold L_X12_seekShows_21
    repeat' (first | with_reducible refine shpr4 ?_ | with_reducible rfl | with_reducible refine (ih _ _ _ _ _).trans ?_ | with_reducible refine (qL_X12_seekShows_143 _ _ _ _ _ _ _ _).trans ?_ | with_reducible refine (shp_sI _ _ _ _).trans ?_ | with_reducible refine (shp_sJ _ _ _ _).trans ?_ | with_reducible refine shi ?_ ?_ | with_reducible refine shb (fun _ _ => ?_) | with_reducible refine shiP (fun q : Int32 × Int32 × Int32 × Int32 × HSt => q.2.2.2.2) ?_ ?_ | with_reducible refine shbP (fun q : Int32 × Int32 × Int32 × Int32 × HSt => q.2.2.2.2) (fun _ _ => ?_) | (subst_vars; with_reducible rfl) | (subst_vars; with_reducible refine (ih _ _ _ _ _).trans ?_) | (subst_vars; with_reducible refine (qL_X12_seekShows_143 _ _ _ _ _ _ _ _).trans ?_) | (subst_vars; with_reducible refine (shp_sI _ _ _ _).trans ?_) | (subst_vars; with_reducible refine (shp_sJ _ _ _ _).trans ?_) | (subst_vars; with_reducible refine shi ?_ ?_) | (subst_vars; with_reducible refine shb (fun _ _ => ?_)))
set_option maxRecDepth 100000 in
theorem l_X12_seekShows_21 {p : Program} {l : Launch} {e : Env} {s : State} {m : MethodId} {args : Array Value} {below : List Frame} {meth : Method} {c : Code} {G : GG} {Q : State → Prop} (hC : ACx p s m args meth c cX12_seekShows RX12 7 (some .int)) (hSt : St G s)  : ∀ (n : Nat) (S : HSt) (v1 : Int32) (v2 : Int32) (v3 : Int32) (v4 : Int32), MS S → T_X12_seekShows_21 n S v1 v2 v3 v4 → AW p l e (rmD 2 0 0) s m args below meth c G 7 Q (L_X12_seekShows_21 n S v1 v2 v3 v4).2.2.2.2 0 0 178 [(0, .ref 64), (1, .int (L_X12_seekShows_21 n S v1 v2 v3 v4).1), (2, .int (L_X12_seekShows_21 n S v1 v2 v3 v4).2.1), (3, .int (L_X12_seekShows_21 n S v1 v2 v3 v4).2.2.1), (4, .int (L_X12_seekShows_21 n S v1 v2 v3 v4).2.2.2.1)] [] → AW p l e (rmD 2 0 0) s m args below meth c G 7 Q S 0 0 21 [(0, .ref 64), (1, .int v1), (2, .int v2), (3, .int v3), (4, .int v4)] [] := by
  intro n
  induction n with
  | zero => intro S v1 v2 v3 v4 _ hT; exact hT.elim
  | succ n ih =>
    intro S v1 v2 v3 v4 hM hT hk
    unfold T_X12_seekShows_21 at hT
    obtain ⟨h0, h1, h2, h3, h4, h5⟩ := hT
    refine aw_iload_n hC 3 dX12_seekShows_21 rfl rfl ?_
    refine aw_if_lt hC 178 dX12_seekShows_22 (by decide) (fun c1003 => ?_) (fun c1003 => ?_)
    · refine aw_sub [0, 1, 2, 3, 4] rfl ?_
      have E : L_X12_seekShows_21 (n + 1) S v1 v2 v3 v4 = _ := (if_pos c1003).trans (rfl)
      rw [E] at hk
      exact hk
    · refine aw_aload_n hC 0 dX12_seekShows_25 rfl rfl ?_
      refine aw_getP (b := 79) hC hSt 42 (ms_lt 64 (by decide) hM) (ms_k 64 12 0 (by decide) hM) rfl (by decide) w_935 rfl (ms_p 42 79 (by decide) hM) dX12_seekShows_26 ?_
      refine aw_iload_n hC 3 dX12_seekShows_29 rfl rfl ?_
      refine aw_iald hC hSt (ms_lt 79 (by decide) hM) (ms_k 79 14 7 (by decide) hM) (vp_len (n := 7) (ms_l 79 14 7 (by decide) hM) (h0 c1003)) dX12_seekShows_30 ?_
      refine aw_istore hC [(5, .int _), (0, .ref 64), (1, .int _), (2, .int _), (3, .int _), (4, .int _)] dX12_seekShows_31 (by decide) rfl ?_
      generalize ex1004 : (gI S 79 v3.toNatClampNeg) = x1004
      refine aw_iload hC 5 dX12_seekShows_33 rfl ?_
      refine aw_iload hC 0 dX12_seekShows_35 rfl ?_
      refine aw_cut (S' := S) (pc' := 50) (lv' := [(5, .int x1004), (0, .ref 64), (1, .int v1), (2, .int v2), (3, .int v3), (4, .int v4)]) (st' := [.int (if 0 ≤ x1004 then (((1 : Int32) <<< (x1004 &&& 31)) ^^^ (-1 : Int32)) else (-1 : Int32)), .int v4]) ?_ (fun Jc1005 => ?_)
      · generalize ex1006 : (if 0 ≤ x1004 then (((1 : Int32) <<< (x1004 &&& 31)) ^^^ (-1 : Int32)) else (-1 : Int32)) = x1006
        refine aw_iand hC dX12_seekShows_50 ?_
        refine aw_istore hC [(4, .int _), (5, .int _), (0, .ref 64), (1, .int _), (2, .int _), (3, .int _)] dX12_seekShows_51 (by decide) rfl ?_
        generalize ex1007 : (v4 &&& x1006) = x1007
        refine aw_iinc (v := (x1004 + (1 : Int32))) hC 1 [(5, .int _), (4, .int _), (0, .ref 64), (1, .int _), (2, .int _), (3, .int _)] dX12_seekShows_53 rfl rfl (by decide) rfl ?_
        refine aw_sub [2, 3, 4, 5, 1, 0] rfl ?_
        refine l_X12_seekShows_56 hC hSt FU _ _ _ _ _ _ hM (h1 c1003 x1004 ex1004 x1006 ex1006 x1007 ex1007) ?_
        generalize er1008 : L_X12_seekShows_56 FU S v1 v2 v3 x1007 (x1004 + (1 : Int32)) = r1008
        refine aw_iload hC 5 dX12_seekShows_100 rfl ?_
        refine aw_iload_n hC 1 dX12_seekShows_102 rfl rfl ?_
        refine aw_cut (S' := (if r1008.1 ≤ r1008.2.2.2.2 then S else (bd ((sI S 79 r1008.2.2.1.toNatClampNeg r1008.2.2.2.2)) fun S1010 => bd ((r1008.2.2.2.1 ||| ((1 : Int32) <<< (r1008.2.2.2.2 &&& 31)))) fun x1011 => bd ((sI S1010 79 (r1008.2.2.1 + (1 : Int32)).toNatClampNeg (-1 : Int32))) fun S1012 => (if (r1008.2.2.1 + (1 : Int32)) ≤ r1008.2.1 then S1012 else (bd ((r1008.2.2.1 + (1 : Int32))) fun x1014 => bd (L_X12_seekShows_143 FU S1012 r1008.1 x1014 x1014 x1011 r1008.2.2.2.2 (0 : Int32)) fun r1015 => r1015.2.2.2.2.2.2))))) (pc' := 175) (lv' := [(3, .int (if r1008.1 ≤ r1008.2.2.2.2 then (r1008.2.2.1 + (-1 : Int32)) else (bd ((sI S 79 r1008.2.2.1.toNatClampNeg r1008.2.2.2.2)) fun S1010 => bd ((r1008.2.2.2.1 ||| ((1 : Int32) <<< (r1008.2.2.2.2 &&& 31)))) fun x1011 => bd ((sI S1010 79 (r1008.2.2.1 + (1 : Int32)).toNatClampNeg (-1 : Int32))) fun S1012 => (if (r1008.2.2.1 + (1 : Int32)) ≤ r1008.2.1 then (r1008.2.2.1 + (1 : Int32)) else (bd ((r1008.2.2.1 + (1 : Int32))) fun x1014 => bd (L_X12_seekShows_143 FU S1012 r1008.1 x1014 x1014 x1011 r1008.2.2.2.2 (0 : Int32)) fun r1015 => r1015.2.2.1))))), (0, .ref 64), (1, .int (if r1008.1 ≤ r1008.2.2.2.2 then r1008.1 else (bd ((sI S 79 r1008.2.2.1.toNatClampNeg r1008.2.2.2.2)) fun S1010 => bd ((r1008.2.2.2.1 ||| ((1 : Int32) <<< (r1008.2.2.2.2 &&& 31)))) fun x1011 => bd ((sI S1010 79 (r1008.2.2.1 + (1 : Int32)).toNatClampNeg (-1 : Int32))) fun S1012 => (if (r1008.2.2.1 + (1 : Int32)) ≤ r1008.2.1 then r1008.1 else (bd ((r1008.2.2.1 + (1 : Int32))) fun x1014 => bd (L_X12_seekShows_143 FU S1012 r1008.1 x1014 x1014 x1011 r1008.2.2.2.2 (0 : Int32)) fun r1015 => r1015.1))))), (2, .int (if r1008.1 ≤ r1008.2.2.2.2 then r1008.2.1 else (bd ((sI S 79 r1008.2.2.1.toNatClampNeg r1008.2.2.2.2)) fun S1010 => bd ((r1008.2.2.2.1 ||| ((1 : Int32) <<< (r1008.2.2.2.2 &&& 31)))) fun x1011 => bd ((sI S1010 79 (r1008.2.2.1 + (1 : Int32)).toNatClampNeg (-1 : Int32))) fun S1012 => (if (r1008.2.2.1 + (1 : Int32)) ≤ r1008.2.1 then r1008.2.1 else (bd ((r1008.2.2.1 + (1 : Int32))) fun x1014 => bd (L_X12_seekShows_143 FU S1012 r1008.1 x1014 x1014 x1011 r1008.2.2.2.2 (0 : Int32)) fun r1015 => r1015.2.1))))), (4, .int (if r1008.1 ≤ r1008.2.2.2.2 then r1008.2.2.2.1 else (bd ((sI S 79 r1008.2.2.1.toNatClampNeg r1008.2.2.2.2)) fun S1010 => bd ((r1008.2.2.2.1 ||| ((1 : Int32) <<< (r1008.2.2.2.2 &&& 31)))) fun x1011 => bd ((sI S1010 79 (r1008.2.2.1 + (1 : Int32)).toNatClampNeg (-1 : Int32))) fun S1012 => (if (r1008.2.2.1 + (1 : Int32)) ≤ r1008.2.1 then x1011 else (bd ((r1008.2.2.1 + (1 : Int32))) fun x1014 => bd (L_X12_seekShows_143 FU S1012 r1008.1 x1014 x1014 x1011 r1008.2.2.2.2 (0 : Int32)) fun r1015 => r1015.2.2.2.1))))), (5, .int (if r1008.1 ≤ r1008.2.2.2.2 then r1008.2.2.2.2 else (bd ((sI S 79 r1008.2.2.1.toNatClampNeg r1008.2.2.2.2)) fun S1010 => bd ((r1008.2.2.2.1 ||| ((1 : Int32) <<< (r1008.2.2.2.2 &&& 31)))) fun x1011 => bd ((sI S1010 79 (r1008.2.2.1 + (1 : Int32)).toNatClampNeg (-1 : Int32))) fun S1012 => (if (r1008.2.2.1 + (1 : Int32)) ≤ r1008.2.1 then r1008.2.2.2.2 else (bd ((r1008.2.2.1 + (1 : Int32))) fun x1014 => bd (L_X12_seekShows_143 FU S1012 r1008.1 x1014 x1014 x1011 r1008.2.2.2.2 (0 : Int32)) fun r1015 => r1015.2.2.2.2.1)))))]) (st' := []) ?_ (fun Jc1009 => ?_)
        · generalize ex1016 : (if r1008.1 ≤ r1008.2.2.2.2 then (r1008.2.2.1 + (-1 : Int32)) else (bd ((sI S 79 r1008.2.2.1.toNatClampNeg r1008.2.2.2.2)) fun S1010 => bd ((r1008.2.2.2.1 ||| ((1 : Int32) <<< (r1008.2.2.2.2 &&& 31)))) fun x1011 => bd ((sI S1010 79 (r1008.2.2.1 + (1 : Int32)).toNatClampNeg (-1 : Int32))) fun S1012 => (if (r1008.2.2.1 + (1 : Int32)) ≤ r1008.2.1 then (r1008.2.2.1 + (1 : Int32)) else (bd ((r1008.2.2.1 + (1 : Int32))) fun x1014 => bd (L_X12_seekShows_143 FU S1012 r1008.1 x1014 x1014 x1011 r1008.2.2.2.2 (0 : Int32)) fun r1015 => r1015.2.2.1)))) = x1016
          generalize ex1017 : (if r1008.1 ≤ r1008.2.2.2.2 then r1008.1 else (bd ((sI S 79 r1008.2.2.1.toNatClampNeg r1008.2.2.2.2)) fun S1010 => bd ((r1008.2.2.2.1 ||| ((1 : Int32) <<< (r1008.2.2.2.2 &&& 31)))) fun x1011 => bd ((sI S1010 79 (r1008.2.2.1 + (1 : Int32)).toNatClampNeg (-1 : Int32))) fun S1012 => (if (r1008.2.2.1 + (1 : Int32)) ≤ r1008.2.1 then r1008.1 else (bd ((r1008.2.2.1 + (1 : Int32))) fun x1014 => bd (L_X12_seekShows_143 FU S1012 r1008.1 x1014 x1014 x1011 r1008.2.2.2.2 (0 : Int32)) fun r1015 => r1015.1)))) = x1017
          generalize ex1018 : (if r1008.1 ≤ r1008.2.2.2.2 then r1008.2.1 else (bd ((sI S 79 r1008.2.2.1.toNatClampNeg r1008.2.2.2.2)) fun S1010 => bd ((r1008.2.2.2.1 ||| ((1 : Int32) <<< (r1008.2.2.2.2 &&& 31)))) fun x1011 => bd ((sI S1010 79 (r1008.2.2.1 + (1 : Int32)).toNatClampNeg (-1 : Int32))) fun S1012 => (if (r1008.2.2.1 + (1 : Int32)) ≤ r1008.2.1 then r1008.2.1 else (bd ((r1008.2.2.1 + (1 : Int32))) fun x1014 => bd (L_X12_seekShows_143 FU S1012 r1008.1 x1014 x1014 x1011 r1008.2.2.2.2 (0 : Int32)) fun r1015 => r1015.2.1)))) = x1018
          generalize ex1019 : (if r1008.1 ≤ r1008.2.2.2.2 then r1008.2.2.2.1 else (bd ((sI S 79 r1008.2.2.1.toNatClampNeg r1008.2.2.2.2)) fun S1010 => bd ((r1008.2.2.2.1 ||| ((1 : Int32) <<< (r1008.2.2.2.2 &&& 31)))) fun x1011 => bd ((sI S1010 79 (r1008.2.2.1 + (1 : Int32)).toNatClampNeg (-1 : Int32))) fun S1012 => (if (r1008.2.2.1 + (1 : Int32)) ≤ r1008.2.1 then x1011 else (bd ((r1008.2.2.1 + (1 : Int32))) fun x1014 => bd (L_X12_seekShows_143 FU S1012 r1008.1 x1014 x1014 x1011 r1008.2.2.2.2 (0 : Int32)) fun r1015 => r1015.2.2.2.1)))) = x1019
          generalize ex1020 : (if r1008.1 ≤ r1008.2.2.2.2 then r1008.2.2.2.2 else (bd ((sI S 79 r1008.2.2.1.toNatClampNeg r1008.2.2.2.2)) fun S1010 => bd ((r1008.2.2.2.1 ||| ((1 : Int32) <<< (r1008.2.2.2.2 &&& 31)))) fun x1011 => bd ((sI S1010 79 (r1008.2.2.1 + (1 : Int32)).toNatClampNeg (-1 : Int32))) fun S1012 => (if (r1008.2.2.1 + (1 : Int32)) ≤ r1008.2.1 then r1008.2.2.2.2 else (bd ((r1008.2.2.1 + (1 : Int32))) fun x1014 => bd (L_X12_seekShows_143 FU S1012 r1008.1 x1014 x1014 x1011 r1008.2.2.2.2 (0 : Int32)) fun r1015 => r1015.2.2.2.2.1)))) = x1020
          generalize eS1021 : (if r1008.1 ≤ r1008.2.2.2.2 then S else (bd ((sI S 79 r1008.2.2.1.toNatClampNeg r1008.2.2.2.2)) fun S1010 => bd ((r1008.2.2.2.1 ||| ((1 : Int32) <<< (r1008.2.2.2.2 &&& 31)))) fun x1011 => bd ((sI S1010 79 (r1008.2.2.1 + (1 : Int32)).toNatClampNeg (-1 : Int32))) fun S1012 => (if (r1008.2.2.1 + (1 : Int32)) ≤ r1008.2.1 then S1012 else (bd ((r1008.2.2.1 + (1 : Int32))) fun x1014 => bd (L_X12_seekShows_143 FU S1012 r1008.1 x1014 x1014 x1011 r1008.2.2.2.2 (0 : Int32)) fun r1015 => r1015.2.2.2.2.2.2)))) = S1021
          have hM : MS S1021 := MS.of (by rw [← eS1021]; repeat' (first | with_reducible rfl | with_reducible refine (qL_X12_seekShows_143 _ _ _ _ _ _ _ _).trans ?_ | with_reducible refine (shp_sI _ _ _ _).trans ?_ | with_reducible refine (shp_sJ _ _ _ _).trans ?_ | with_reducible refine shi ?_ ?_ | with_reducible refine shb (fun _ _ => ?_) | (subst_vars; with_reducible rfl) | (subst_vars; with_reducible refine (qL_X12_seekShows_143 _ _ _ _ _ _ _ _).trans ?_) | (subst_vars; with_reducible refine (shp_sI _ _ _ _).trans ?_) | (subst_vars; with_reducible refine (shp_sJ _ _ _ _).trans ?_) | (subst_vars; with_reducible refine shi ?_ ?_) | (subst_vars; with_reducible refine shb (fun _ _ => ?_)))) hM
          refine aw_goto hC 21 dX12_seekShows_175 (by decide) ?_
          refine aw_sub [1, 2, 3, 0, 4] rfl ?_
          have hTn := (h5 c1003 x1004 ex1004 x1006 ex1006 x1007 ex1007 r1008 er1008 x1016 ex1016 x1017 ex1017 x1018 ex1018 x1019 ex1019 x1020 ex1020 S1021 eS1021)
          have hMn : MS S1021 := hM
          have E : L_X12_seekShows_21 (n + 1) S v1 v2 v3 v4 = _ := (if_neg c1003).trans ((bd_eq ex1004).trans ((bd_eq ex1006).trans ((bd_eq ex1007).trans ((bd_eq er1008).trans ((bd_eq ex1016).trans ((bd_eq ex1017).trans ((bd_eq ex1018).trans ((bd_eq ex1019).trans ((bd_eq ex1020).trans ((bd_eq eS1021).trans (rfl)))))))))))
          rw [E] at hk
          exact ih _ _ _ _ _ hMn hTn hk
        · refine aw_icmp_ge hC 172 dX12_seekShows_103 (by decide) (fun c1009 => ?_) (fun c1009 => ?_)
          · refine aw_iinc (v := (r1008.2.2.1 + (-1 : Int32))) hC 3 [(3, .int _), (0, .ref 64), (1, .int _), (2, .int _), (4, .int _), (5, .int _)] dX12_seekShows_172 rfl rfl (by decide) rfl ?_
            simp only [bd_def, if_pos c1009] at Jc1009 ⊢
            exact Jc1009
          · refine aw_aload_n hC 0 dX12_seekShows_106 rfl rfl ?_
            refine aw_getP (b := 79) hC hSt 42 (ms_lt 64 (by decide) hM) (ms_k 64 12 0 (by decide) hM) rfl (by decide) w_935 rfl (ms_p 42 79 (by decide) hM) dX12_seekShows_107 ?_
            refine aw_iload_n hC 3 dX12_seekShows_110 rfl rfl ?_
            refine aw_iload hC 5 dX12_seekShows_111 rfl ?_
            refine aw_iast hC hSt (ms_lt 79 (by decide) hM) (ms_k 79 14 7 (by decide) hM) (vp_len (n := 7) (ms_l 79 14 7 (by decide) hM) (h2 c1003 x1004 ex1004 x1006 ex1006 x1007 ex1007 r1008 er1008 c1009)) dX12_seekShows_113 ?_
            generalize eS1010 : (sI S 79 r1008.2.2.1.toNatClampNeg r1008.2.2.2.2) = S1010
            have hM : MS S1010 := MS.of (by rw [← eS1010]; exact shp_sI _ _ _ _) hM
            refine aw_iload hC 4 dX12_seekShows_114 rfl ?_
            refine aw_iconst (v := 1) hC dX12_seekShows_116 (by decide) ?_
            refine aw_iload hC 5 dX12_seekShows_117 rfl ?_
            refine aw_ishl hC dX12_seekShows_119 ?_
            refine aw_ior hC dX12_seekShows_120 ?_
            refine aw_istore hC [(4, .int _), (0, .ref 64), (1, .int _), (2, .int _), (3, .int _), (5, .int _)] dX12_seekShows_121 (by decide) rfl ?_
            generalize ex1011 : (r1008.2.2.2.1 ||| ((1 : Int32) <<< (r1008.2.2.2.2 &&& 31))) = x1011
            refine aw_iinc (v := (r1008.2.2.1 + (1 : Int32))) hC 4 [(3, .int _), (4, .int _), (0, .ref 64), (1, .int _), (2, .int _), (5, .int _)] dX12_seekShows_123 rfl rfl (by decide) rfl ?_
            refine aw_aload_n hC 2 dX12_seekShows_126 rfl rfl ?_
            refine aw_getP (b := 79) hC hSt 42 (ms_lt 64 (by decide) hM) (ms_k 64 12 0 (by decide) hM) rfl (by decide) w_935 rfl (ms_p 42 79 (by decide) hM) dX12_seekShows_127 ?_
            refine aw_iload_n hC 0 dX12_seekShows_130 rfl rfl ?_
            refine aw_iconst (v := -1) hC dX12_seekShows_131 (by decide) ?_
            refine aw_iast hC hSt (ms_lt 79 (by decide) hM) (ms_k 79 14 7 (by decide) hM) (vp_len (n := 7) (ms_l 79 14 7 (by decide) hM) (h3 c1003 x1004 ex1004 x1006 ex1006 x1007 ex1007 r1008 er1008 c1009 S1010 eS1010 x1011 ex1011)) dX12_seekShows_132 ?_
            generalize eS1012 : (sI S1010 79 (r1008.2.2.1 + (1 : Int32)).toNatClampNeg (-1 : Int32)) = S1012
            have hM : MS S1012 := MS.of (by rw [← eS1012]; exact shp_sI _ _ _ _) hM
            refine aw_iload_n hC 0 dX12_seekShows_133 rfl rfl ?_
            refine aw_iload_n hC 4 dX12_seekShows_134 rfl rfl ?_
            refine aw_icmp_le hC 175 dX12_seekShows_135 (by decide) (fun c1013 => ?_) (fun c1013 => ?_)
            · refine aw_sub [0, 2, 3, 4, 1, 5] rfl ?_
              subst eS1012
              subst ex1011
              subst eS1010
              simp only [bd_def, if_neg c1009, if_pos c1013] at Jc1009 ⊢
              exact Jc1009
            · refine aw_iload_n hC 0 dX12_seekShows_138 rfl rfl ?_
              refine aw_istore_n hC [(2, .int _), (3, .int _), (4, .int _), (0, .ref 64), (1, .int _), (5, .int _)] dX12_seekShows_139 rfl (by decide) rfl ?_
              generalize ex1014 : (r1008.2.2.1 + (1 : Int32)) = x1014
              refine aw_iconst (v := 0) hC dX12_seekShows_140 (by decide) ?_
              refine aw_istore hC [(6, .int _), (2, .int _), (3, .int _), (4, .int _), (0, .ref 64), (1, .int _), (5, .int _)] dX12_seekShows_141 (by decide) rfl ?_
              refine aw_sub [4, 5, 1, 2, 3, 6, 0] rfl ?_
              refine l_X12_seekShows_143 hC hSt FU _ _ _ _ _ _ _ hM (h4 c1003 x1004 ex1004 x1006 ex1006 x1007 ex1007 r1008 er1008 c1009 S1010 eS1010 x1011 ex1011 S1012 eS1012 c1013 x1014 ex1014) ?_
              generalize er1015 : L_X12_seekShows_143 FU S1012 r1008.1 x1014 x1014 x1011 r1008.2.2.2.2 (0 : Int32) = r1015
              have hM : MS r1015.2.2.2.2.2.2 := MS.of (by rw [← er1015]; exact qL_X12_seekShows_143 _ _ _ _ _ _ _ _) hM
              refine aw_goto hC 175 dX12_seekShows_169 (by decide) ?_
              refine aw_sub [3, 0, 1, 2, 4, 5] rfl ?_
              subst er1015
              subst ex1014
              subst eS1012
              subst ex1011
              subst eS1010
              simp only [bd_def, if_neg c1009, if_neg c1013] at Jc1009 ⊢
              exact Jc1009
      · refine aw_if_ge hC 44 dX12_seekShows_37 (by decide) (fun c1005 => ?_) (fun c1005 => ?_)
        · refine aw_iconst (v := 1) hC dX12_seekShows_44 (by decide) ?_
          refine aw_iload hC 0 dX12_seekShows_45 rfl ?_
          refine aw_ishl hC dX12_seekShows_47 ?_
          refine aw_iconst (v := -1) hC dX12_seekShows_48 (by decide) ?_
          refine aw_ixor hC dX12_seekShows_49 ?_
          simp only [bd_def, if_pos c1005] at Jc1005 ⊢
          exact Jc1005
        · refine aw_iconst (v := -1) hC dX12_seekShows_40 (by decide) ?_
          refine aw_goto hC 50 dX12_seekShows_41 (by decide) ?_
          simp only [bd_def, if_neg c1005] at Jc1005 ⊢
          exact Jc1005
noncomputable def f_X12_seekShows (S : HSt) (_o : Nat)  : Int32 × HSt := bd ((gI S 68 (3 : Int32).toNatClampNeg)) fun x1 => bd ((sI S 79 (0 : Int32).toNatClampNeg (-1 : Int32))) fun S2 => bd (L_X12_seekShows_21 FU S2 x1 (0 : Int32) (0 : Int32) (0 : Int32)) fun r3 => pr (r3.2.1) (r3.2.2.2.2)
def p_X12_seekShows (S : HSt) (_o : Nat)  : Prop := (∀ x1 : Int32, (gI S 68 (3 : Int32).toNatClampNeg) = x1 → ∀ S2 : HSt, (sI S 79 (0 : Int32).toNatClampNeg (-1 : Int32)) = S2 → T_X12_seekShows_21 FU S2 x1 (0 : Int32) (0 : Int32) (0 : Int32))
set_option maxRecDepth 100000 in
theorem t_X12_seekShows (G : GG) (l : Launch) {S : HSt} (hM : MS S)  (hp : p_X12_seekShows S 64) : AM G l yX12_seekShows cX12_seekShows 7 (some .int) (rmD 2 0 0) 0 0 [.ref 64] S (FP (some (.int (f_X12_seekShows S 64).1)) ((f_X12_seekShows S 64).2)) := by
  have h0 := hp
  unfold p_X12_seekShows at h0
  refine AM.mk (by decide) (Nat.le_of_ble_eq_true rfl) ?_
  intro p e s m below meth c hC hSt _
  refine aw_aload_n hC 0 dX12_seekShows_0 rfl rfl ?_
  refine aw_getP (b := 68) hC hSt 5 (ms_lt 64 (by decide) hM) (ms_k 64 12 0 (by decide) hM) rfl (by decide) w_920 rfl (ms_p 5 68 (by decide) hM) dX12_seekShows_1 ?_
  refine aw_iconst (v := 3) hC dX12_seekShows_4 (by decide) ?_
  refine aw_iald hC hSt (ms_lt 68 (by decide) hM) (ms_k 68 14 172 (by decide) hM) (vp_len (n := 172) (ms_l 68 14 172 (by decide) hM) (by unfold vp_in; decide)) dX12_seekShows_5 ?_
  refine aw_istore_n hC [(1, .int _), (0, .ref 64)] dX12_seekShows_6 rfl (by decide) rfl ?_
  generalize ex1 : (gI S 68 (3 : Int32).toNatClampNeg) = x1
  refine aw_iconst (v := 0) hC dX12_seekShows_7 (by decide) ?_
  refine aw_istore_n hC [(2, .int _), (1, .int _), (0, .ref 64)] dX12_seekShows_8 rfl (by decide) rfl ?_
  refine aw_iconst (v := 0) hC dX12_seekShows_9 (by decide) ?_
  refine aw_istore_n hC [(3, .int _), (2, .int _), (1, .int _), (0, .ref 64)] dX12_seekShows_10 rfl (by decide) rfl ?_
  refine aw_iconst (v := 0) hC dX12_seekShows_11 (by decide) ?_
  refine aw_istore hC [(4, .int _), (3, .int _), (2, .int _), (1, .int _), (0, .ref 64)] dX12_seekShows_12 (by decide) rfl ?_
  refine aw_aload_n hC 4 dX12_seekShows_14 rfl rfl ?_
  refine aw_getP (b := 79) hC hSt 42 (ms_lt 64 (by decide) hM) (ms_k 64 12 0 (by decide) hM) rfl (by decide) w_935 rfl (ms_p 42 79 (by decide) hM) dX12_seekShows_15 ?_
  refine aw_iconst (v := 0) hC dX12_seekShows_18 (by decide) ?_
  refine aw_iconst (v := -1) hC dX12_seekShows_19 (by decide) ?_
  refine aw_iast hC hSt (ms_lt 79 (by decide) hM) (ms_k 79 14 7 (by decide) hM) (vp_len (n := 7) (ms_l 79 14 7 (by decide) hM) (by unfold vp_in; decide)) dX12_seekShows_20 ?_
  generalize eS2 : (sI S 79 (0 : Int32).toNatClampNeg (-1 : Int32)) = S2
  have hM : MS S2 := MS.of (by rw [← eS2]; exact shp_sI _ _ _ _) hM
  refine aw_sub [4, 3, 2, 1, 0] rfl ?_
  refine l_X12_seekShows_21 hC hSt FU _ _ _ _ _ hM (h0 x1 ex1 S2 eS2) ?_
  generalize er3 : L_X12_seekShows_21 FU S2 x1 (0 : Int32) (0 : Int32) (0 : Int32) = r3
  have hM : MS r3.2.2.2.2 := MS.of (by rw [← er3]; exact qL_X12_seekShows_21 _ _ _ _ _ _) hM
  refine aw_iload_n hC 2 dX12_seekShows_178 rfl rfl ?_
  refine aw_iret hC dX12_seekShows_179 (Nat.le_refl _) (Nat.le_refl _) ?_
  exact FP.qI ((bd_eq ex1).trans ((bd_eq eS2).trans ((bd_eq er3).trans (rfl))))
theorem q_X12_seekShows (S : HSt) (_o : Nat)  : shp ((f_X12_seekShows S _o).2) = shp S := by
  unfold f_X12_seekShows
  repeat' (first | with_reducible refine shpr1 ?_ | with_reducible rfl | with_reducible refine (qL_X12_seekShows_21 _ _ _ _ _ _).trans ?_ | with_reducible refine (qL_X12_seekShows_143 _ _ _ _ _ _ _ _).trans ?_ | with_reducible refine (shp_sI _ _ _ _).trans ?_ | with_reducible refine (shp_sJ _ _ _ _).trans ?_ | with_reducible refine shi ?_ ?_ | with_reducible refine shb (fun _ _ => ?_) | with_reducible refine shiP (fun q : Int32 × HSt => q.2) ?_ ?_ | with_reducible refine shbP (fun q : Int32 × HSt => q.2) (fun _ _ => ?_) | (subst_vars; with_reducible rfl) | (subst_vars; with_reducible refine (qL_X12_seekShows_21 _ _ _ _ _ _).trans ?_) | (subst_vars; with_reducible refine (qL_X12_seekShows_143 _ _ _ _ _ _ _ _).trans ?_) | (subst_vars; with_reducible refine (shp_sI _ _ _ _).trans ?_) | (subst_vars; with_reducible refine (shp_sJ _ _ _ _).trans ?_) | (subst_vars; with_reducible refine shi ?_ ?_) | (subst_vars; with_reducible refine shb (fun _ _ => ?_)))
noncomputable def f_X12_show (S : HSt) (_o : Nat) (a1 : Int32) : Int64 × HSt := bd ((sI S 64 0 (0 : Int32))) fun S1 => if (-1 : Int32) ≤ a1 then (if (gI S1 64 7) = 0 then (pr ((-9000000000000000002 : Int64)) (S1)) else (bd (f_X12_seekShows S1 64) fun r4 => bd (r4.1) fun x5 => bd ((if a1 = (-1 : Int32) then x5.toInt64 else (if x5 ≤ a1 then (-1000000 : Int64) else (gI r4.2 80 a1.toNatClampNeg).toInt64))) fun x8 => pr (x8) (r4.2))) else (pr ((-9000000000000000001 : Int64)) (S1))
def p_X12_show (S : HSt) (_o : Nat) (a1 : Int32) : Prop := (∀ S1 : HSt, (sI S 64 0 (0 : Int32)) = S1 → ((-1 : Int32) ≤ a1) → (¬ (gI S1 64 7) = 0) → p_X12_seekShows S1 64) ∧ (∀ S1 : HSt, (sI S 64 0 (0 : Int32)) = S1 → ((-1 : Int32) ≤ a1) → (¬ (gI S1 64 7) = 0) → ∀ r4, f_X12_seekShows S1 64 = r4 → ∀ x5 : Int32, r4.1 = x5 → (¬ a1 = (-1 : Int32)) → (¬ x5 ≤ a1) → vp_in a1 6)
set_option maxRecDepth 100000 in
theorem t_X12_show (G : GG) (l : Launch) {S : HSt} (hM : MS S) (a1 : Int32) (hp : p_X12_show S 64 a1) : AM G l yX12_show cX12_show 3 (some .long) (rmD 3 0 0) 0 0 [.ref 64, .int a1] S (FP (some (.long (f_X12_show S 64 a1).1)) ((f_X12_show S 64 a1).2)) := by
  obtain ⟨h0, h1⟩ := hp
  refine AM.mk (by decide) (Nat.le_of_ble_eq_true rfl) ?_
  intro p e s m below meth c hC hSt _
  refine aw_aload_n hC 0 dX12_show_0 rfl rfl ?_
  refine aw_iconst (v := 0) hC dX12_show_1 (by decide) ?_
  refine aw_putI hC hSt 0 (ms_lt 64 (by decide) hM) (ms_k 64 12 0 (by decide) hM) rfl (by decide) w_955 rfl rfl rfl rfl dX12_show_2 ?_
  generalize eS1 : (sI S 64 0 (0 : Int32)) = S1
  have hM : MS S1 := MS.of (by rw [← eS1]; exact shp_sI _ _ _ _) hM
  refine aw_iload_n hC 1 dX12_show_5 rfl rfl ?_
  refine aw_iconst (v := -1) hC dX12_show_6 (by decide) ?_
  refine aw_icmp_ge hC 14 dX12_show_7 (by decide) (fun c2 => ?_) (fun c2 => ?_)
  · refine aw_aload_n hC 0 dX12_show_14 rfl rfl ?_
    refine aw_getI hC hSt 7 (ms_lt 64 (by decide) hM) (ms_k 64 12 0 (by decide) hM) rfl (by decide) w_1051 rfl dX12_show_15 ?_
    refine aw_if_ne hC 25 dX12_show_18 (by decide) (fun c3 => ?_) (fun c3 => ?_)
    · refine aw_aload_n hC 0 dX12_show_25 rfl rfl ?_
      refine aw_cV0r hC hSt (t_X12_seekShows G l hM  (h0 S1 eS1 c2 c3)) w_1251 w_1256 w_1257 w_1258 w_953 rfl rfl (by decide +kernel) ⟨Nat.le_of_ble_eq_true rfl, Nat.le_of_ble_eq_true rfl⟩ (ms_lt 64 (by decide) hM) (ms_k 64 12 0 (by decide) hM) rfl (Nat.le_of_ble_eq_true rfl) dX12_show_26 ⟨Nat.zero_le _, Nat.zero_le _⟩ ?_
      generalize er4 : f_X12_seekShows S1 64 = r4
      have hM : MS r4.2 := MS.of (by rw [← er4]; exact q_X12_seekShows _ _) hM
      refine aw_istore_n hC [(2, .int _), (0, .ref 64), (1, .int _)] dX12_show_29 rfl (by decide) rfl ?_
      generalize ex5 : r4.1 = x5
      refine aw_iload_n hC 2 dX12_show_30 rfl rfl ?_
      refine aw_iconst (v := -1) hC dX12_show_31 (by decide) ?_
      refine aw_cut (S' := r4.2) (pc' := 58) (lv' := [(2, .int x5), (0, .ref 64), (1, .int a1)]) (st' := [.long (if a1 = (-1 : Int32) then x5.toInt64 else (if x5 ≤ a1 then (-1000000 : Int64) else (gI r4.2 80 a1.toNatClampNeg).toInt64))]) ?_ (fun Jc6 => ?_)
      · generalize ex8 : (if a1 = (-1 : Int32) then x5.toInt64 else (if x5 ≤ a1 then (-1000000 : Int64) else (gI r4.2 80 a1.toNatClampNeg).toInt64)) = x8
        refine aw_lret hC dX12_show_58 (Nat.le_refl _) (Nat.le_refl _) ?_
        exact FP.qJ ((bd_eq eS1).trans ((if_pos c2).trans ((if_neg c3).trans ((bd_eq er4).trans ((bd_eq ex5).trans ((bd_eq ex8).trans (rfl)))))))
      · refine aw_icmp_ne hC 40 dX12_show_32 (by decide) (fun c6 => ?_) (fun c6 => ?_)
        · refine aw_iload_n hC 2 dX12_show_40 rfl rfl ?_
          refine aw_iload_n hC 0 dX12_show_41 rfl rfl ?_
          refine aw_icmp_ge hC 55 dX12_show_42 (by decide) (fun c7 => ?_) (fun c7 => ?_)
          · refine aw_ldc2 (v := -1000000) hC w_1176 dX12_show_55 ?_
            simp only [bd_def, if_neg c6, if_pos c7] at Jc6 ⊢
            exact Jc6
          · refine aw_aload_n hC 1 dX12_show_45 rfl rfl ?_
            refine aw_getP (b := 80) hC hSt 43 (ms_lt 64 (by decide) hM) (ms_k 64 12 0 (by decide) hM) rfl (by decide) w_936 rfl (ms_p 43 80 (by decide) hM) dX12_show_46 ?_
            refine aw_iload_n hC 2 dX12_show_49 rfl rfl ?_
            refine aw_iald hC hSt (ms_lt 80 (by decide) hM) (ms_k 80 14 6 (by decide) hM) (vp_len (n := 6) (ms_l 80 14 6 (by decide) hM) (h1 S1 eS1 c2 c3 r4 er4 x5 ex5 c6 c7)) dX12_show_50 ?_
            refine aw_i2l hC dX12_show_51 ?_
            refine aw_goto hC 58 dX12_show_52 (by decide) ?_
            simp only [bd_def, if_neg c6, if_neg c7] at Jc6 ⊢
            exact Jc6
        · refine aw_iload_n hC 0 dX12_show_35 rfl rfl ?_
          refine aw_i2l hC dX12_show_36 ?_
          refine aw_goto hC 58 dX12_show_37 (by decide) ?_
          simp only [bd_def, if_pos c6] at Jc6 ⊢
          exact Jc6
    · refine aw_ldc2 (v := -9000000000000000002) hC w_1151 dX12_show_21 ?_
      refine aw_lret hC dX12_show_24 (Nat.le_refl _) (Nat.le_refl _) ?_
      exact FP.qJ ((bd_eq eS1).trans ((if_pos c2).trans ((if_pos c3).trans (rfl))))
  · refine aw_ldc2 (v := -9000000000000000001) hC w_957 dX12_show_10 ?_
    refine aw_lret hC dX12_show_13 (Nat.le_refl _) (Nat.le_refl _) ?_
    exact FP.qJ ((bd_eq eS1).trans ((if_neg c2).trans (rfl)))
theorem q_X12_show (S : HSt) (_o : Nat) (a1 : Int32) : shp ((f_X12_show S _o a1).2) = shp S := by
  unfold f_X12_show
  repeat' (first | with_reducible refine shpr1 ?_ | with_reducible rfl | with_reducible refine (q_X12_seekShows _ _).trans ?_ | with_reducible refine (shp_sI _ _ _ _).trans ?_ | with_reducible refine (shp_sJ _ _ _ _).trans ?_ | with_reducible refine shi ?_ ?_ | with_reducible refine shb (fun _ _ => ?_) | with_reducible refine shiP (fun q : Int64 × HSt => q.2) ?_ ?_ | with_reducible refine shbP (fun q : Int64 × HSt => q.2) (fun _ _ => ?_) | (subst_vars; with_reducible rfl) | (subst_vars; with_reducible refine (q_X12_seekShows _ _).trans ?_) | (subst_vars; with_reducible refine (shp_sI _ _ _ _).trans ?_) | (subst_vars; with_reducible refine (shp_sJ _ _ _ _).trans ?_) | (subst_vars; with_reducible refine shi ?_ ?_) | (subst_vars; with_reducible refine shb (fun _ _ => ?_)))
noncomputable def F_X12_skillBy (S : HSt) (_o : Nat) (a1 : Int32) (a2 : Int32) : Int32 × HSt := bd ((((a1 / (10 : Int32)) - (gI S 68 (((6 : Int32) + ((3 : Int32) * a2)) + (1 : Int32)).toNatClampNeg)) - ((gI S 68 ((6 : Int32) + ((3 : Int32) * a2)).toNatClampNeg) / (50 : Int32)))) fun x1 => bd ((if 0 ≤ x1 then x1 else (-x1))) fun x3 => bd ((if (10 : Int32) ≤ x3 then (0 : Int32) else ((10 : Int32) - x3))) fun x5 => bd ((a1 + x5)) fun x6 => bd ((if x6 ≤ (100 : Int32) then x6 else (100 : Int32))) fun x8 => pr (x8) (S)
noncomputable def f_X12_skillBy (S : HSt) (_o : Nat) (a1 : Int32) (a2 : Int32) : Int32 := (F_X12_skillBy S _o a1 a2).1
def p_X12_skillBy (S : HSt) (_o : Nat) (a1 : Int32) (a2 : Int32) : Prop := (vp_in (((6 : Int32) + ((3 : Int32) * a2)) + (1 : Int32)) 172) ∧ (vp_in ((6 : Int32) + ((3 : Int32) * a2)) 172)
set_option maxRecDepth 100000 in
theorem t_X12_skillBy (G : GG) (l : Launch) {S : HSt} (hM : MS S) (a1 : Int32) (a2 : Int32) (hp : p_X12_skillBy S 64 a1 a2) : AM G l yX12_skillBy cX12_skillBy 5 (some .int) (rmD 0 0 0) 0 0 [.ref 64, .int a1, .int a2] S (FP (some (.int (f_X12_skillBy S 64 a1 a2))) (S)) := by
  obtain ⟨h0, h1⟩ := hp
  refine AM.mk (by decide) (Nat.le_of_ble_eq_true rfl) ?_
  intro p e s m below meth c hC hSt _
  refine aw_iload_n hC 1 dX12_skillBy_0 rfl rfl ?_
  refine aw_bipush (v := 10) hC dX12_skillBy_1 (by decide) ?_
  refine aw_idiv hC dX12_skillBy_3 (by decide) ?_
  refine aw_aload_n hC 0 dX12_skillBy_4 rfl rfl ?_
  refine aw_getP (b := 68) hC hSt 5 (ms_lt 64 (by decide) hM) (ms_k 64 12 0 (by decide) hM) rfl (by decide) w_920 rfl (ms_p 5 68 (by decide) hM) dX12_skillBy_5 ?_
  refine aw_bipush (v := 6) hC dX12_skillBy_8 (by decide) ?_
  refine aw_iconst (v := 3) hC dX12_skillBy_10 (by decide) ?_
  refine aw_iload_n hC 2 dX12_skillBy_11 rfl rfl ?_
  refine aw_imul hC dX12_skillBy_12 ?_
  refine aw_iadd hC dX12_skillBy_13 ?_
  refine aw_iconst (v := 1) hC dX12_skillBy_14 (by decide) ?_
  refine aw_iadd hC dX12_skillBy_15 ?_
  refine aw_iald hC hSt (ms_lt 68 (by decide) hM) (ms_k 68 14 172 (by decide) hM) (vp_len (n := 172) (ms_l 68 14 172 (by decide) hM) (h0)) dX12_skillBy_16 ?_
  refine aw_isub hC dX12_skillBy_17 ?_
  refine aw_aload_n hC 0 dX12_skillBy_18 rfl rfl ?_
  refine aw_getP (b := 68) hC hSt 5 (ms_lt 64 (by decide) hM) (ms_k 64 12 0 (by decide) hM) rfl (by decide) w_920 rfl (ms_p 5 68 (by decide) hM) dX12_skillBy_19 ?_
  refine aw_bipush (v := 6) hC dX12_skillBy_22 (by decide) ?_
  refine aw_iconst (v := 3) hC dX12_skillBy_24 (by decide) ?_
  refine aw_iload_n hC 2 dX12_skillBy_25 rfl rfl ?_
  refine aw_imul hC dX12_skillBy_26 ?_
  refine aw_iadd hC dX12_skillBy_27 ?_
  refine aw_iald hC hSt (ms_lt 68 (by decide) hM) (ms_k 68 14 172 (by decide) hM) (vp_len (n := 172) (ms_l 68 14 172 (by decide) hM) (h1)) dX12_skillBy_28 ?_
  refine aw_bipush (v := 50) hC dX12_skillBy_29 (by decide) ?_
  refine aw_idiv hC dX12_skillBy_31 (by decide) ?_
  refine aw_isub hC dX12_skillBy_32 ?_
  refine aw_istore_n hC [(3, .int _), (0, .ref 64), (1, .int _), (2, .int _)] dX12_skillBy_33 rfl (by decide) rfl ?_
  generalize ex1 : (((a1 / (10 : Int32)) - (gI S 68 (((6 : Int32) + ((3 : Int32) * a2)) + (1 : Int32)).toNatClampNeg)) - ((gI S 68 ((6 : Int32) + ((3 : Int32) * a2)).toNatClampNeg) / (50 : Int32))) = x1
  refine aw_iload_n hC 0 dX12_skillBy_34 rfl rfl ?_
  refine aw_cut (S' := S) (pc' := 44) (lv' := [(3, .int x1), (0, .ref 64), (1, .int a1), (2, .int a2)]) (st' := [.int (if 0 ≤ x1 then x1 else (-x1))]) ?_ (fun Jc2 => ?_)
  · generalize ex3 : (if 0 ≤ x1 then x1 else (-x1)) = x3
    refine aw_istore_n hC [(3, .int _), (0, .ref 64), (1, .int _), (2, .int _)] dX12_skillBy_44 rfl (by decide) rfl ?_
    refine aw_iload_n hC 2 dX12_skillBy_45 rfl rfl ?_
    refine aw_iload_n hC 0 dX12_skillBy_46 rfl rfl ?_
    refine aw_bipush (v := 10) hC dX12_skillBy_47 (by decide) ?_
    refine aw_cut (S' := S) (pc' := 60) (lv' := [(3, .int x3), (0, .ref 64), (1, .int a1), (2, .int a2)]) (st' := [.int (if (10 : Int32) ≤ x3 then (0 : Int32) else ((10 : Int32) - x3)), .int a1]) ?_ (fun Jc4 => ?_)
    · generalize ex5 : (if (10 : Int32) ≤ x3 then (0 : Int32) else ((10 : Int32) - x3)) = x5
      refine aw_iadd hC dX12_skillBy_60 ?_
      refine aw_istore hC [(4, .int _), (3, .int _), (0, .ref 64), (1, .int _), (2, .int _)] dX12_skillBy_61 (by decide) rfl ?_
      generalize ex6 : (a1 + x5) = x6
      refine aw_iload hC 0 dX12_skillBy_63 rfl ?_
      refine aw_bipush (v := 100) hC dX12_skillBy_65 (by decide) ?_
      refine aw_cut (S' := S) (pc' := 77) (lv' := [(4, .int x6), (3, .int x3), (0, .ref 64), (1, .int a1), (2, .int a2)]) (st' := [.int (if x6 ≤ (100 : Int32) then x6 else (100 : Int32))]) ?_ (fun Jc7 => ?_)
      · generalize ex8 : (if x6 ≤ (100 : Int32) then x6 else (100 : Int32)) = x8
        refine aw_iret hC dX12_skillBy_77 (Nat.le_refl _) (Nat.le_refl _) ?_
        exact FP.pI ((bd_eq ex1).trans ((bd_eq ex3).trans ((bd_eq ex5).trans ((bd_eq ex6).trans ((bd_eq ex8).trans (rfl))))))
      · refine aw_icmp_le hC 75 dX12_skillBy_67 (by decide) (fun c7 => ?_) (fun c7 => ?_)
        · refine aw_iload hC 0 dX12_skillBy_75 rfl ?_
          simp only [bd_def, if_pos c7] at Jc7 ⊢
          exact Jc7
        · refine aw_bipush (v := 100) hC dX12_skillBy_70 (by decide) ?_
          refine aw_goto hC 77 dX12_skillBy_72 (by decide) ?_
          simp only [bd_def, if_neg c7] at Jc7 ⊢
          exact Jc7
    · refine aw_icmp_ge hC 59 dX12_skillBy_49 (by decide) (fun c4 => ?_) (fun c4 => ?_)
      · refine aw_iconst (v := 0) hC dX12_skillBy_59 (by decide) ?_
        simp only [bd_def, if_pos c4] at Jc4 ⊢
        exact Jc4
      · refine aw_bipush (v := 10) hC dX12_skillBy_52 (by decide) ?_
        refine aw_iload_n hC 0 dX12_skillBy_54 rfl rfl ?_
        refine aw_isub hC dX12_skillBy_55 ?_
        refine aw_goto hC 60 dX12_skillBy_56 (by decide) ?_
        simp only [bd_def, if_neg c4] at Jc4 ⊢
        exact Jc4
  · refine aw_if_ge hC 43 dX12_skillBy_35 (by decide) (fun c2 => ?_) (fun c2 => ?_)
    · refine aw_iload_n hC 0 dX12_skillBy_43 rfl rfl ?_
      simp only [bd_def, if_pos c2] at Jc2 ⊢
      exact Jc2
    · refine aw_iload_n hC 0 dX12_skillBy_38 rfl rfl ?_
      refine aw_ineg hC dX12_skillBy_39 ?_
      refine aw_goto hC 44 dX12_skillBy_40 (by decide) ?_
      simp only [bd_def, if_neg c2] at Jc2 ⊢
      exact Jc2
noncomputable def L_X12_learn_86 : Nat → HSt → Int32 → Int32 → Int32 → Int32 → Int32 → Int32 × Int32 × Int32 × Int32 × Int32 × HSt
  | 0, S, v1, v2, v3, v4, v5 => (v1, v2, v3, v4, v5, S)
  | n + 1, S, v1, v2, v3, v4, v5 =>
    if (gI S 68 (0 : Int32).toNatClampNeg) ≤ v5 then ((pr (v1) (pr (v2) (pr (v3) (pr (v4) (pr (v5) (S))))))) else (if v2 ≤ v4 then ((pr (v1) (pr (v2) (pr (v3) (pr (v4) (pr (v5) (S))))))) else (bd ((f_X12_skillBy S 64 v4 v5)) fun x2012 => bd ((if x2012 ≤ v4 then (gI S 81 v4.toNatClampNeg) else (if (gI S 81 v4.toNatClampNeg) ≤ ((gI S 81 x2012.toNatClampNeg) + (1 : Int32)) then (gI S 81 v4.toNatClampNeg) else ((gI S 81 x2012.toNatClampNeg) + (1 : Int32))))) fun x2015 => bd ((sI S 81 v4.toNatClampNeg x2015)) fun S2016 => L_X12_learn_86 n S2016 v1 v2 v3 v4 (v5 + (1 : Int32))))
def T_X12_learn_86 : Nat → HSt → Int32 → Int32 → Int32 → Int32 → Int32 → Prop
  | 0, _, _, _, _, _, _ => False
  | n + 1, S, v1, v2, v3, v4, v5 => ((¬ (gI S 68 (0 : Int32).toNatClampNeg) ≤ v5) → (¬ v2 ≤ v4) → p_X12_skillBy S 64 v4 v5) ∧ ((¬ (gI S 68 (0 : Int32).toNatClampNeg) ≤ v5) → (¬ v2 ≤ v4) → ∀ x2012 : Int32, (f_X12_skillBy S 64 v4 v5) = x2012 → (x2012 ≤ v4) → vp_in v4 101) ∧ ((¬ (gI S 68 (0 : Int32).toNatClampNeg) ≤ v5) → (¬ v2 ≤ v4) → ∀ x2012 : Int32, (f_X12_skillBy S 64 v4 v5) = x2012 → (¬ x2012 ≤ v4) → vp_in x2012 101) ∧ ((¬ (gI S 68 (0 : Int32).toNatClampNeg) ≤ v5) → (¬ v2 ≤ v4) → ∀ x2012 : Int32, (f_X12_skillBy S 64 v4 v5) = x2012 → (¬ x2012 ≤ v4) → vp_in v4 101) ∧ ((¬ (gI S 68 (0 : Int32).toNatClampNeg) ≤ v5) → (¬ v2 ≤ v4) → ∀ x2012 : Int32, (f_X12_skillBy S 64 v4 v5) = x2012 → (¬ x2012 ≤ v4) → ((gI S 81 v4.toNatClampNeg) ≤ ((gI S 81 x2012.toNatClampNeg) + (1 : Int32))) → vp_in v4 101) ∧ ((¬ (gI S 68 (0 : Int32).toNatClampNeg) ≤ v5) → (¬ v2 ≤ v4) → ∀ x2012 : Int32, (f_X12_skillBy S 64 v4 v5) = x2012 → (¬ x2012 ≤ v4) → (¬ (gI S 81 v4.toNatClampNeg) ≤ ((gI S 81 x2012.toNatClampNeg) + (1 : Int32))) → vp_in x2012 101) ∧ ((¬ (gI S 68 (0 : Int32).toNatClampNeg) ≤ v5) → (¬ v2 ≤ v4) → ∀ x2012 : Int32, (f_X12_skillBy S 64 v4 v5) = x2012 → ∀ x2015 : Int32, (if x2012 ≤ v4 then (gI S 81 v4.toNatClampNeg) else (if (gI S 81 v4.toNatClampNeg) ≤ ((gI S 81 x2012.toNatClampNeg) + (1 : Int32)) then (gI S 81 v4.toNatClampNeg) else ((gI S 81 x2012.toNatClampNeg) + (1 : Int32)))) = x2015 → vp_in v4 101) ∧ ((¬ (gI S 68 (0 : Int32).toNatClampNeg) ≤ v5) → (¬ v2 ≤ v4) → ∀ x2012 : Int32, (f_X12_skillBy S 64 v4 v5) = x2012 → ∀ x2015 : Int32, (if x2012 ≤ v4 then (gI S 81 v4.toNatClampNeg) else (if (gI S 81 v4.toNatClampNeg) ≤ ((gI S 81 x2012.toNatClampNeg) + (1 : Int32)) then (gI S 81 v4.toNatClampNeg) else ((gI S 81 x2012.toNatClampNeg) + (1 : Int32)))) = x2015 → ∀ S2016 : HSt, (sI S 81 v4.toNatClampNeg x2015) = S2016 → T_X12_learn_86 n S2016 v1 v2 v3 v4 (v5 + (1 : Int32)))
theorem qL_X12_learn_86 : ∀ (n : Nat) (S : HSt) (v1 : Int32) (v2 : Int32) (v3 : Int32) (v4 : Int32) (v5 : Int32), shp (L_X12_learn_86 n S v1 v2 v3 v4 v5).2.2.2.2.2 = shp S := by
  intro n
  induction n with
  | zero => intros; rfl
  | succ n ih =>
    intro S v1 v2 v3 v4 v5
    unfold L_X12_learn_86
    repeat' (first | with_reducible refine shpr5 ?_ | with_reducible rfl | with_reducible refine (ih _ _ _ _ _ _).trans ?_ | with_reducible refine (shp_sI _ _ _ _).trans ?_ | with_reducible refine (shp_sJ _ _ _ _).trans ?_ | with_reducible refine shi ?_ ?_ | with_reducible refine shb (fun _ _ => ?_) | with_reducible refine shiP (fun q : Int32 × Int32 × Int32 × Int32 × Int32 × HSt => q.2.2.2.2.2) ?_ ?_ | with_reducible refine shbP (fun q : Int32 × Int32 × Int32 × Int32 × Int32 × HSt => q.2.2.2.2.2) (fun _ _ => ?_) | (subst_vars; with_reducible rfl) | (subst_vars; with_reducible refine (ih _ _ _ _ _ _).trans ?_) | (subst_vars; with_reducible refine (shp_sI _ _ _ _).trans ?_) | (subst_vars; with_reducible refine (shp_sJ _ _ _ _).trans ?_) | (subst_vars; with_reducible refine shi ?_ ?_) | (subst_vars; with_reducible refine shb (fun _ _ => ?_)))
set_option maxRecDepth 100000 in
theorem l_X12_learn_86 {p : Program} {l : Launch} {e : Env} {s : State} {m : MethodId} {args : Array Value} {below : List Frame} {meth : Method} {c : Code} {G : GG} {Q : State → Prop} (hC : ACx p s m args meth c cX12_learn RX12 7 (some .long)) (hSt : St G s)  : ∀ (n : Nat) (S : HSt) (v1 : Int32) (v2 : Int32) (v3 : Int32) (v4 : Int32) (v5 : Int32), MS S → T_X12_learn_86 n S v1 v2 v3 v4 v5 → AW p l e (rmD 1 0 0) s m args below meth c G 7 Q (L_X12_learn_86 n S v1 v2 v3 v4 v5).2.2.2.2.2 0 0 171 [(0, .ref 64), (1, .int (L_X12_learn_86 n S v1 v2 v3 v4 v5).1), (2, .int (L_X12_learn_86 n S v1 v2 v3 v4 v5).2.1), (3, .int (L_X12_learn_86 n S v1 v2 v3 v4 v5).2.2.1), (4, .int (L_X12_learn_86 n S v1 v2 v3 v4 v5).2.2.2.1), (5, .int (L_X12_learn_86 n S v1 v2 v3 v4 v5).2.2.2.2.1)] [] → AW p l e (rmD 1 0 0) s m args below meth c G 7 Q S 0 0 86 [(0, .ref 64), (1, .int v1), (2, .int v2), (3, .int v3), (4, .int v4), (5, .int v5)] [] := by
  intro n
  induction n with
  | zero => intro S v1 v2 v3 v4 v5 _ hT; exact hT.elim
  | succ n ih =>
    intro S v1 v2 v3 v4 v5 hM hT hk
    unfold T_X12_learn_86 at hT
    obtain ⟨h0, h1, h2, h3, h4, h5, h6, h7⟩ := hT
    refine aw_iload hC 5 dX12_learn_86 rfl ?_
    refine aw_aload_n hC 0 dX12_learn_88 rfl rfl ?_
    refine aw_getP (b := 68) hC hSt 5 (ms_lt 64 (by decide) hM) (ms_k 64 12 0 (by decide) hM) rfl (by decide) w_920 rfl (ms_p 5 68 (by decide) hM) dX12_learn_89 ?_
    refine aw_iconst (v := 0) hC dX12_learn_92 (by decide) ?_
    refine aw_iald hC hSt (ms_lt 68 (by decide) hM) (ms_k 68 14 172 (by decide) hM) (vp_len (n := 172) (ms_l 68 14 172 (by decide) hM) (by unfold vp_in; decide)) dX12_learn_93 ?_
    refine aw_icmp_ge hC 171 dX12_learn_94 (by decide) (fun c2010 => ?_) (fun c2010 => ?_)
    · refine aw_sub [0, 1, 2, 3, 4, 5] rfl ?_
      have E : L_X12_learn_86 (n + 1) S v1 v2 v3 v4 v5 = _ := (if_pos c2010).trans (rfl)
      rw [E] at hk
      exact hk
    · refine aw_iload hC 4 dX12_learn_97 rfl ?_
      refine aw_iload_n hC 2 dX12_learn_99 rfl rfl ?_
      refine aw_icmp_ge hC 171 dX12_learn_100 (by decide) (fun c2011 => ?_) (fun c2011 => ?_)
      · refine aw_sub [0, 1, 2, 3, 4, 5] rfl ?_
        have E : L_X12_learn_86 (n + 1) S v1 v2 v3 v4 v5 = _ := (if_neg c2010).trans ((if_pos c2011).trans (rfl))
        rw [E] at hk
        exact hk
      · refine aw_aload_n hC 0 dX12_learn_103 rfl rfl ?_
        refine aw_iload hC 4 dX12_learn_104 rfl ?_
        refine aw_iload hC 5 dX12_learn_106 rfl ?_
        refine aw_cV2r hC hSt (t_X12_skillBy G l hM _ _ (h0 c2010 c2011)) w_1259 w_1262 w_1263 w_1264 w_953 rfl rfl (by decide +kernel) ⟨Nat.le_of_ble_eq_true rfl, Nat.le_of_ble_eq_true rfl⟩ (ms_lt 64 (by decide) hM) (ms_k 64 12 0 (by decide) hM) rfl (Nat.le_of_ble_eq_true rfl) dX12_learn_108 ⟨Nat.zero_le _, Nat.zero_le _⟩ ?_
        refine aw_istore hC [(6, .int _), (0, .ref 64), (1, .int _), (2, .int _), (3, .int _), (4, .int _), (5, .int _)] dX12_learn_111 (by decide) rfl ?_
        generalize ex2012 : (f_X12_skillBy S 64 v4 v5) = x2012
        refine aw_aload_n hC 1 dX12_learn_113 rfl rfl ?_
        refine aw_getP (b := 81) hC hSt 44 (ms_lt 64 (by decide) hM) (ms_k 64 12 0 (by decide) hM) rfl (by decide) w_937 rfl (ms_p 44 81 (by decide) hM) dX12_learn_114 ?_
        refine aw_iload hC 5 dX12_learn_117 rfl ?_
        refine aw_iload hC 0 dX12_learn_119 rfl ?_
        refine aw_iload hC 5 dX12_learn_121 rfl ?_
        refine aw_cut (S' := S) (pc' := 164) (lv' := [(6, .int x2012), (0, .ref 64), (1, .int v1), (2, .int v2), (3, .int v3), (4, .int v4), (5, .int v5)]) (st' := [.int (if x2012 ≤ v4 then (gI S 81 v4.toNatClampNeg) else (if (gI S 81 v4.toNatClampNeg) ≤ ((gI S 81 x2012.toNatClampNeg) + (1 : Int32)) then (gI S 81 v4.toNatClampNeg) else ((gI S 81 x2012.toNatClampNeg) + (1 : Int32)))), .int v4, .ref 81]) ?_ (fun Jc2013 => ?_)
        · generalize ex2015 : (if x2012 ≤ v4 then (gI S 81 v4.toNatClampNeg) else (if (gI S 81 v4.toNatClampNeg) ≤ ((gI S 81 x2012.toNatClampNeg) + (1 : Int32)) then (gI S 81 v4.toNatClampNeg) else ((gI S 81 x2012.toNatClampNeg) + (1 : Int32)))) = x2015
          refine aw_iast hC hSt (ms_lt 81 (by decide) hM) (ms_k 81 14 101 (by decide) hM) (vp_len (n := 101) (ms_l 81 14 101 (by decide) hM) (h6 c2010 c2011 x2012 ex2012 x2015 ex2015)) dX12_learn_164 ?_
          generalize eS2016 : (sI S 81 v4.toNatClampNeg x2015) = S2016
          have hM : MS S2016 := MS.of (by rw [← eS2016]; exact shp_sI _ _ _ _) hM
          refine aw_iinc (v := (v5 + (1 : Int32))) hC 6 [(5, .int _), (6, .int _), (0, .ref 64), (1, .int _), (2, .int _), (3, .int _), (4, .int _)] dX12_learn_165 rfl rfl (by decide) rfl ?_
          refine aw_goto hC 86 dX12_learn_168 (by decide) ?_
          refine aw_sub [2, 3, 4, 5, 6, 0] rfl ?_
          have hTn := (h7 c2010 c2011 x2012 ex2012 x2015 ex2015 S2016 eS2016)
          have hMn : MS S2016 := hM
          have E : L_X12_learn_86 (n + 1) S v1 v2 v3 v4 v5 = _ := (if_neg c2010).trans ((if_neg c2011).trans ((bd_eq ex2012).trans ((bd_eq ex2015).trans ((bd_eq eS2016).trans (rfl)))))
          rw [E] at hk
          exact ih _ _ _ _ _ _ hMn hTn hk
        · refine aw_icmp_le hC 157 dX12_learn_123 (by decide) (fun c2013 => ?_) (fun c2013 => ?_)
          · refine aw_aload_n hC 1 dX12_learn_157 rfl rfl ?_
            refine aw_getP (b := 81) hC hSt 44 (ms_lt 64 (by decide) hM) (ms_k 64 12 0 (by decide) hM) rfl (by decide) w_937 rfl (ms_p 44 81 (by decide) hM) dX12_learn_158 ?_
            refine aw_iload hC 5 dX12_learn_161 rfl ?_
            refine aw_iald hC hSt (ms_lt 81 (by decide) hM) (ms_k 81 14 101 (by decide) hM) (vp_len (n := 101) (ms_l 81 14 101 (by decide) hM) (h1 c2010 c2011 x2012 ex2012 c2013)) dX12_learn_163 ?_
            simp only [bd_def, if_pos c2013] at Jc2013 ⊢
            exact Jc2013
          · refine aw_aload_n hC 1 dX12_learn_126 rfl rfl ?_
            refine aw_getP (b := 81) hC hSt 44 (ms_lt 64 (by decide) hM) (ms_k 64 12 0 (by decide) hM) rfl (by decide) w_937 rfl (ms_p 44 81 (by decide) hM) dX12_learn_127 ?_
            refine aw_iload hC 0 dX12_learn_130 rfl ?_
            refine aw_iald hC hSt (ms_lt 81 (by decide) hM) (ms_k 81 14 101 (by decide) hM) (vp_len (n := 101) (ms_l 81 14 101 (by decide) hM) (h2 c2010 c2011 x2012 ex2012 c2013)) dX12_learn_132 ?_
            refine aw_iconst (v := 1) hC dX12_learn_133 (by decide) ?_
            refine aw_iadd hC dX12_learn_134 ?_
            refine aw_aload_n hC 1 dX12_learn_135 rfl rfl ?_
            refine aw_getP (b := 81) hC hSt 44 (ms_lt 64 (by decide) hM) (ms_k 64 12 0 (by decide) hM) rfl (by decide) w_937 rfl (ms_p 44 81 (by decide) hM) dX12_learn_136 ?_
            refine aw_iload hC 5 dX12_learn_139 rfl ?_
            refine aw_iald hC hSt (ms_lt 81 (by decide) hM) (ms_k 81 14 101 (by decide) hM) (vp_len (n := 101) (ms_l 81 14 101 (by decide) hM) (h3 c2010 c2011 x2012 ex2012 c2013)) dX12_learn_141 ?_
            refine aw_icmp_ge hC 157 dX12_learn_142 (by decide) (fun c2014 => ?_) (fun c2014 => ?_)
            · refine aw_aload_n hC 1 dX12_learn_157 rfl rfl ?_
              refine aw_getP (b := 81) hC hSt 44 (ms_lt 64 (by decide) hM) (ms_k 64 12 0 (by decide) hM) rfl (by decide) w_937 rfl (ms_p 44 81 (by decide) hM) dX12_learn_158 ?_
              refine aw_iload hC 5 dX12_learn_161 rfl ?_
              refine aw_iald hC hSt (ms_lt 81 (by decide) hM) (ms_k 81 14 101 (by decide) hM) (vp_len (n := 101) (ms_l 81 14 101 (by decide) hM) (h4 c2010 c2011 x2012 ex2012 c2013 c2014)) dX12_learn_163 ?_
              simp only [bd_def, if_neg c2013, if_pos c2014] at Jc2013 ⊢
              exact Jc2013
            · refine aw_aload_n hC 1 dX12_learn_145 rfl rfl ?_
              refine aw_getP (b := 81) hC hSt 44 (ms_lt 64 (by decide) hM) (ms_k 64 12 0 (by decide) hM) rfl (by decide) w_937 rfl (ms_p 44 81 (by decide) hM) dX12_learn_146 ?_
              refine aw_iload hC 0 dX12_learn_149 rfl ?_
              refine aw_iald hC hSt (ms_lt 81 (by decide) hM) (ms_k 81 14 101 (by decide) hM) (vp_len (n := 101) (ms_l 81 14 101 (by decide) hM) (h5 c2010 c2011 x2012 ex2012 c2013 c2014)) dX12_learn_151 ?_
              refine aw_iconst (v := 1) hC dX12_learn_152 (by decide) ?_
              refine aw_iadd hC dX12_learn_153 ?_
              refine aw_goto hC 164 dX12_learn_154 (by decide) ?_
              simp only [bd_def, if_neg c2013, if_neg c2014] at Jc2013 ⊢
              exact Jc2013
noncomputable def L_X12_learn_58 : Nat → HSt → Int32 → Int32 → Int32 → Int32 → Int32 × Int32 × Int32 × Int32 × HSt
  | 0, S, v1, v2, v3, v4 => (v1, v2, v3, v4, S)
  | n + 1, S, v1, v2, v3, v4 =>
    if v4 < 0 then ((pr (v1) (pr (v2) (pr (v3) (pr (v4) (S)))))) else (bd ((if v4 < v2 then (1000 : Int32) else (0 : Int32))) fun x1008 => bd ((sI S 81 v4.toNatClampNeg x1008)) fun S1009 => bd (L_X12_learn_86 1000 S1009 v1 v2 v3 v4 (0 : Int32)) fun r1010 => L_X12_learn_58 n r1010.2.2.2.2.2 r1010.1 r1010.2.1 r1010.2.2.1 (r1010.2.2.2.1 + (-1 : Int32)))
def T_X12_learn_58 : Nat → HSt → Int32 → Int32 → Int32 → Int32 → Prop
  | 0, _, _, _, _, _ => False
  | n + 1, S, v1, v2, v3, v4 => ((¬ v4 < 0) → ∀ x1008 : Int32, (if v4 < v2 then (1000 : Int32) else (0 : Int32)) = x1008 → vp_in v4 101) ∧ ((¬ v4 < 0) → ∀ x1008 : Int32, (if v4 < v2 then (1000 : Int32) else (0 : Int32)) = x1008 → ∀ S1009 : HSt, (sI S 81 v4.toNatClampNeg x1008) = S1009 → T_X12_learn_86 1000 S1009 v1 v2 v3 v4 (0 : Int32)) ∧ ((¬ v4 < 0) → ∀ x1008 : Int32, (if v4 < v2 then (1000 : Int32) else (0 : Int32)) = x1008 → ∀ S1009 : HSt, (sI S 81 v4.toNatClampNeg x1008) = S1009 → ∀ r1010, L_X12_learn_86 1000 S1009 v1 v2 v3 v4 (0 : Int32) = r1010 → T_X12_learn_58 n r1010.2.2.2.2.2 r1010.1 r1010.2.1 r1010.2.2.1 (r1010.2.2.2.1 + (-1 : Int32)))
theorem qL_X12_learn_58 : ∀ (n : Nat) (S : HSt) (v1 : Int32) (v2 : Int32) (v3 : Int32) (v4 : Int32), shp (L_X12_learn_58 n S v1 v2 v3 v4).2.2.2.2 = shp S := by
  intro n
  induction n with
  | zero => intros; rfl
  | succ n ih =>
    intro S v1 v2 v3 v4
    unfold L_X12_learn_58
    repeat' (first | with_reducible refine shpr4 ?_ | with_reducible rfl | with_reducible refine (ih _ _ _ _ _).trans ?_ | with_reducible refine (qL_X12_learn_86 _ _ _ _ _ _ _).trans ?_ | with_reducible refine (shp_sI _ _ _ _).trans ?_ | with_reducible refine (shp_sJ _ _ _ _).trans ?_ | with_reducible refine shi ?_ ?_ | with_reducible refine shb (fun _ _ => ?_) | with_reducible refine shiP (fun q : Int32 × Int32 × Int32 × Int32 × HSt => q.2.2.2.2) ?_ ?_ | with_reducible refine shbP (fun q : Int32 × Int32 × Int32 × Int32 × HSt => q.2.2.2.2) (fun _ _ => ?_) | (subst_vars; with_reducible rfl) | (subst_vars; with_reducible refine (ih _ _ _ _ _).trans ?_) | (subst_vars; with_reducible refine (qL_X12_learn_86 _ _ _ _ _ _ _).trans ?_) | (subst_vars; with_reducible refine (shp_sI _ _ _ _).trans ?_) | (subst_vars; with_reducible refine (shp_sJ _ _ _ _).trans ?_) | (subst_vars; with_reducible refine shi ?_ ?_) | (subst_vars; with_reducible refine shb (fun _ _ => ?_)))
set_option maxRecDepth 100000 in
theorem l_X12_learn_58 {p : Program} {l : Launch} {e : Env} {s : State} {m : MethodId} {args : Array Value} {below : List Frame} {meth : Method} {c : Code} {G : GG} {Q : State → Prop} (hC : ACx p s m args meth c cX12_learn RX12 7 (some .long)) (hSt : St G s)  : ∀ (n : Nat) (S : HSt) (v1 : Int32) (v2 : Int32) (v3 : Int32) (v4 : Int32), MS S → T_X12_learn_58 n S v1 v2 v3 v4 → AW p l e (rmD 1 0 0) s m args below meth c G 7 Q (L_X12_learn_58 n S v1 v2 v3 v4).2.2.2.2 0 0 177 [(0, .ref 64), (1, .int (L_X12_learn_58 n S v1 v2 v3 v4).1), (2, .int (L_X12_learn_58 n S v1 v2 v3 v4).2.1), (3, .int (L_X12_learn_58 n S v1 v2 v3 v4).2.2.1), (4, .int (L_X12_learn_58 n S v1 v2 v3 v4).2.2.2.1)] [] → AW p l e (rmD 1 0 0) s m args below meth c G 7 Q S 0 0 58 [(0, .ref 64), (1, .int v1), (2, .int v2), (3, .int v3), (4, .int v4)] [] := by
  intro n
  induction n with
  | zero => intro S v1 v2 v3 v4 _ hT; exact hT.elim
  | succ n ih =>
    intro S v1 v2 v3 v4 hM hT hk
    unfold T_X12_learn_58 at hT
    obtain ⟨h0, h1, h2⟩ := hT
    refine aw_iload hC 4 dX12_learn_58 rfl ?_
    refine aw_if_lt hC 177 dX12_learn_60 (by decide) (fun c1006 => ?_) (fun c1006 => ?_)
    · refine aw_sub [0, 1, 2, 3, 4] rfl ?_
      have E : L_X12_learn_58 (n + 1) S v1 v2 v3 v4 = _ := (if_pos c1006).trans (rfl)
      rw [E] at hk
      exact hk
    · refine aw_aload_n hC 0 dX12_learn_63 rfl rfl ?_
      refine aw_getP (b := 81) hC hSt 44 (ms_lt 64 (by decide) hM) (ms_k 64 12 0 (by decide) hM) rfl (by decide) w_937 rfl (ms_p 44 81 (by decide) hM) dX12_learn_64 ?_
      refine aw_iload hC 4 dX12_learn_67 rfl ?_
      refine aw_iload hC 4 dX12_learn_69 rfl ?_
      refine aw_iload_n hC 2 dX12_learn_71 rfl rfl ?_
      refine aw_cut (S' := S) (pc' := 82) (lv' := [(0, .ref 64), (1, .int v1), (2, .int v2), (3, .int v3), (4, .int v4)]) (st' := [.int (if v4 < v2 then (1000 : Int32) else (0 : Int32)), .int v4, .ref 81]) ?_ (fun Jc1007 => ?_)
      · generalize ex1008 : (if v4 < v2 then (1000 : Int32) else (0 : Int32)) = x1008
        refine aw_iast hC hSt (ms_lt 81 (by decide) hM) (ms_k 81 14 101 (by decide) hM) (vp_len (n := 101) (ms_l 81 14 101 (by decide) hM) (h0 c1006 x1008 ex1008)) dX12_learn_82 ?_
        generalize eS1009 : (sI S 81 v4.toNatClampNeg x1008) = S1009
        have hM : MS S1009 := MS.of (by rw [← eS1009]; exact shp_sI _ _ _ _) hM
        refine aw_iconst (v := 0) hC dX12_learn_83 (by decide) ?_
        refine aw_istore hC [(5, .int _), (0, .ref 64), (1, .int _), (2, .int _), (3, .int _), (4, .int _)] dX12_learn_84 (by decide) rfl ?_
        refine aw_sub [1, 2, 3, 4, 5, 0] rfl ?_
        refine l_X12_learn_86 hC hSt 1000 _ _ _ _ _ _ hM (h1 c1006 x1008 ex1008 S1009 eS1009) ?_
        generalize er1010 : L_X12_learn_86 1000 S1009 v1 v2 v3 v4 (0 : Int32) = r1010
        have hM : MS r1010.2.2.2.2.2 := MS.of (by rw [← er1010]; exact qL_X12_learn_86 _ _ _ _ _ _ _) hM
        refine aw_iinc (v := (r1010.2.2.2.1 + (-1 : Int32))) hC 4 [(4, .int _), (0, .ref 64), (1, .int _), (2, .int _), (3, .int _), (5, .int _)] dX12_learn_171 rfl rfl (by decide) rfl ?_
        refine aw_goto hC 58 dX12_learn_174 (by decide) ?_
        refine aw_sub [1, 2, 3, 4, 0] rfl ?_
        have hTn := (h2 c1006 x1008 ex1008 S1009 eS1009 r1010 er1010)
        have hMn : MS r1010.2.2.2.2.2 := hM
        have E : L_X12_learn_58 (n + 1) S v1 v2 v3 v4 = _ := (if_neg c1006).trans ((bd_eq ex1008).trans ((bd_eq eS1009).trans ((bd_eq er1010).trans (rfl))))
        rw [E] at hk
        exact ih _ _ _ _ _ hMn hTn hk
      · refine aw_icmp_lt hC 79 dX12_learn_72 (by decide) (fun c1007 => ?_) (fun c1007 => ?_)
        · refine aw_sipush (v := 1000) hC dX12_learn_79 (by decide) ?_
          simp only [bd_def, if_pos c1007] at Jc1007 ⊢
          exact Jc1007
        · refine aw_iconst (v := 0) hC dX12_learn_75 (by decide) ?_
          refine aw_goto hC 82 dX12_learn_76 (by decide) ?_
          simp only [bd_def, if_neg c1007] at Jc1007 ⊢
          exact Jc1007
noncomputable def L_X12_learn_207 : Nat → HSt → Int32 → Int32 → Int32 → Int32 → Int32 → Int32 × Int64 × Int32 × Int32 × Int32 × Int32 × Int32
  | 0, S, v1, v2, v3, v4, v5 => ((1 : Int32), 0, v1, v2, v3, v4, v5)
  | n + 1, S, v1, v2, v3, v4, v5 =>
    if (gI S 68 (0 : Int32).toNatClampNeg) ≤ v5 then ((pr ((0 : Int32)) (pr (0) (pr (v1) (pr (v2) (pr (v3) (pr (v4) (v5)))))))) else (if v4 ≤ 0 then ((pr ((0 : Int32)) (pr (0) (pr (v1) (pr (v2) (pr (v3) (pr (v4) (v5)))))))) else (bd ((f_X12_skillBy S 64 v1 v5)) fun x1012 => if x1012 ≤ v1 then (L_X12_learn_207 n S v1 v2 v3 v4 (v5 + (1 : Int32))) else (if ((gI S 81 x1012.toNatClampNeg) + (1 : Int32)) = v4 then ((pr ((1 : Int32)) (pr (v5.toInt64) (pr (v1) (pr (v2) (pr (v3) (pr (v4) (v5)))))))) else (L_X12_learn_207 n S v1 v2 v3 v4 (v5 + (1 : Int32))))))
def T_X12_learn_207 : Nat → HSt → Int32 → Int32 → Int32 → Int32 → Int32 → Prop
  | 0, _, _, _, _, _, _ => False
  | n + 1, S, v1, v2, v3, v4, v5 => ((¬ (gI S 68 (0 : Int32).toNatClampNeg) ≤ v5) → (¬ v4 ≤ 0) → p_X12_skillBy S 64 v1 v5) ∧ ((¬ (gI S 68 (0 : Int32).toNatClampNeg) ≤ v5) → (¬ v4 ≤ 0) → ∀ x1012 : Int32, (f_X12_skillBy S 64 v1 v5) = x1012 → (x1012 ≤ v1) → T_X12_learn_207 n S v1 v2 v3 v4 (v5 + (1 : Int32))) ∧ ((¬ (gI S 68 (0 : Int32).toNatClampNeg) ≤ v5) → (¬ v4 ≤ 0) → ∀ x1012 : Int32, (f_X12_skillBy S 64 v1 v5) = x1012 → (¬ x1012 ≤ v1) → vp_in x1012 101) ∧ ((¬ (gI S 68 (0 : Int32).toNatClampNeg) ≤ v5) → (¬ v4 ≤ 0) → ∀ x1012 : Int32, (f_X12_skillBy S 64 v1 v5) = x1012 → (¬ x1012 ≤ v1) → (¬ ((gI S 81 x1012.toNatClampNeg) + (1 : Int32)) = v4) → T_X12_learn_207 n S v1 v2 v3 v4 (v5 + (1 : Int32)))
set_option maxRecDepth 100000 in
theorem l_X12_learn_207 {p : Program} {l : Launch} {e : Env} {s : State} {m : MethodId} {args : Array Value} {below : List Frame} {meth : Method} {c : Code} {G : GG} {Post : Option Value → HSt → Prop} (hC : ACx p s m args meth c cX12_learn RX12 7 (some .long)) (hSt : St G s)  : ∀ (n : Nat) (S : HSt) (v1 : Int32) (v2 : Int32) (v3 : Int32) (v4 : Int32) (v5 : Int32), MS S → T_X12_learn_207 n S v1 v2 v3 v4 v5 → ((L_X12_learn_207 n S v1 v2 v3 v4 v5).1 = 1 → Post (some (.long (L_X12_learn_207 n S v1 v2 v3 v4 v5).2.1)) S) → ((L_X12_learn_207 n S v1 v2 v3 v4 v5).1 ≠ 1 → AW p l e (rmD 1 0 0) s m args below meth c G 7 (AQ G below args s 0 0 Post) S 0 0 262 [(0, .ref 64), (1, .int (L_X12_learn_207 n S v1 v2 v3 v4 v5).2.2.1), (2, .int (L_X12_learn_207 n S v1 v2 v3 v4 v5).2.2.2.1), (3, .int (L_X12_learn_207 n S v1 v2 v3 v4 v5).2.2.2.2.1), (4, .int (L_X12_learn_207 n S v1 v2 v3 v4 v5).2.2.2.2.2.1), (5, .int (L_X12_learn_207 n S v1 v2 v3 v4 v5).2.2.2.2.2.2)] []) → AW p l e (rmD 1 0 0) s m args below meth c G 7 (AQ G below args s 0 0 Post) S 0 0 207 [(0, .ref 64), (1, .int v1), (2, .int v2), (3, .int v3), (4, .int v4), (5, .int v5)] [] := by
  intro n
  induction n with
  | zero => intro S v1 v2 v3 v4 v5 _ hT; exact hT.elim
  | succ n ih =>
    intro S v1 v2 v3 v4 v5 hM hT hr hk
    unfold T_X12_learn_207 at hT
    obtain ⟨h0, h1, h2, h3⟩ := hT
    refine aw_iload hC 5 dX12_learn_207 rfl ?_
    refine aw_aload_n hC 0 dX12_learn_209 rfl rfl ?_
    refine aw_getP (b := 68) hC hSt 5 (ms_lt 64 (by decide) hM) (ms_k 64 12 0 (by decide) hM) rfl (by decide) w_920 rfl (ms_p 5 68 (by decide) hM) dX12_learn_210 ?_
    refine aw_iconst (v := 0) hC dX12_learn_213 (by decide) ?_
    refine aw_iald hC hSt (ms_lt 68 (by decide) hM) (ms_k 68 14 172 (by decide) hM) (vp_len (n := 172) (ms_l 68 14 172 (by decide) hM) (by unfold vp_in; decide)) dX12_learn_214 ?_
    refine aw_icmp_ge hC 262 dX12_learn_215 (by decide) (fun c1010 => ?_) (fun c1010 => ?_)
    · refine aw_sub [0, 1, 2, 3, 4, 5] rfl ?_
      have E : L_X12_learn_207 (n + 1) S v1 v2 v3 v4 v5 = _ := (if_pos c1010).trans (rfl)
      rw [E] at hk hr
      exact hk (by show ¬ (0 : Int32) = 1; decide)
    · refine aw_iload hC 4 dX12_learn_218 rfl ?_
      refine aw_if_le hC 262 dX12_learn_220 (by decide) (fun c1011 => ?_) (fun c1011 => ?_)
      · refine aw_sub [0, 1, 2, 3, 4, 5] rfl ?_
        have E : L_X12_learn_207 (n + 1) S v1 v2 v3 v4 v5 = _ := (if_neg c1010).trans ((if_pos c1011).trans (rfl))
        rw [E] at hk hr
        exact hk (by show ¬ (0 : Int32) = 1; decide)
      · refine aw_aload_n hC 0 dX12_learn_223 rfl rfl ?_
        refine aw_iload_n hC 1 dX12_learn_224 rfl rfl ?_
        refine aw_iload hC 5 dX12_learn_225 rfl ?_
        refine aw_cV2r hC hSt (t_X12_skillBy G l hM _ _ (h0 c1010 c1011)) w_1259 w_1262 w_1263 w_1264 w_953 rfl rfl (by decide +kernel) ⟨Nat.le_of_ble_eq_true rfl, Nat.le_of_ble_eq_true rfl⟩ (ms_lt 64 (by decide) hM) (ms_k 64 12 0 (by decide) hM) rfl (Nat.le_of_ble_eq_true rfl) dX12_learn_227 ⟨Nat.zero_le _, Nat.zero_le _⟩ ?_
        refine aw_istore hC [(6, .int _), (0, .ref 64), (1, .int _), (2, .int _), (3, .int _), (4, .int _), (5, .int _)] dX12_learn_230 (by decide) rfl ?_
        generalize ex1012 : (f_X12_skillBy S 64 v1 v5) = x1012
        refine aw_iload hC 0 dX12_learn_232 rfl ?_
        refine aw_iload_n hC 2 dX12_learn_234 rfl rfl ?_
        refine aw_icmp_le hC 256 dX12_learn_235 (by decide) (fun c1013 => ?_) (fun c1013 => ?_)
        · refine aw_iinc (v := (v5 + (1 : Int32))) hC 6 [(5, .int _), (6, .int _), (0, .ref 64), (1, .int _), (2, .int _), (3, .int _), (4, .int _)] dX12_learn_256 rfl rfl (by decide) rfl ?_
          refine aw_goto hC 207 dX12_learn_259 (by decide) ?_
          refine aw_sub [2, 3, 4, 5, 6, 0] rfl ?_
          have hTn := (h1 c1010 c1011 x1012 ex1012 c1013)
          have hMn : MS S := hM
          have E : L_X12_learn_207 (n + 1) S v1 v2 v3 v4 v5 = _ := (if_neg c1010).trans ((if_neg c1011).trans ((bd_eq ex1012).trans ((if_pos c1013).trans (rfl))))
          rw [E] at hk hr
          exact ih _ _ _ _ _ _ hMn hTn hr hk
        · refine aw_aload_n hC 1 dX12_learn_238 rfl rfl ?_
          refine aw_getP (b := 81) hC hSt 44 (ms_lt 64 (by decide) hM) (ms_k 64 12 0 (by decide) hM) rfl (by decide) w_937 rfl (ms_p 44 81 (by decide) hM) dX12_learn_239 ?_
          refine aw_iload hC 0 dX12_learn_242 rfl ?_
          refine aw_iald hC hSt (ms_lt 81 (by decide) hM) (ms_k 81 14 101 (by decide) hM) (vp_len (n := 101) (ms_l 81 14 101 (by decide) hM) (h2 c1010 c1011 x1012 ex1012 c1013)) dX12_learn_244 ?_
          refine aw_iconst (v := 1) hC dX12_learn_245 (by decide) ?_
          refine aw_iadd hC dX12_learn_246 ?_
          refine aw_iload hC 5 dX12_learn_247 rfl ?_
          refine aw_icmp_ne hC 256 dX12_learn_249 (by decide) (fun c1014 => ?_) (fun c1014 => ?_)
          · refine aw_iinc (v := (v5 + (1 : Int32))) hC 6 [(5, .int _), (6, .int _), (0, .ref 64), (1, .int _), (2, .int _), (3, .int _), (4, .int _)] dX12_learn_256 rfl rfl (by decide) rfl ?_
            refine aw_goto hC 207 dX12_learn_259 (by decide) ?_
            refine aw_sub [2, 3, 4, 5, 6, 0] rfl ?_
            have hTn := (h3 c1010 c1011 x1012 ex1012 c1013 c1014)
            have hMn : MS S := hM
            have E : L_X12_learn_207 (n + 1) S v1 v2 v3 v4 v5 = _ := (if_neg c1010).trans ((if_neg c1011).trans ((bd_eq ex1012).trans ((if_neg c1013).trans ((if_neg c1014).trans (rfl)))))
            rw [E] at hk hr
            exact ih _ _ _ _ _ _ hMn hTn hr hk
          · refine aw_iload hC 6 dX12_learn_252 rfl ?_
            refine aw_i2l hC dX12_learn_254 ?_
            refine aw_lret hC dX12_learn_255 (Nat.le_refl _) (Nat.le_refl _) ?_
            have E : L_X12_learn_207 (n + 1) S v1 v2 v3 v4 v5 = _ := (if_neg c1010).trans ((if_neg c1011).trans ((bd_eq ex1012).trans ((if_neg c1013).trans ((if_pos c1014).trans (rfl)))))
            rw [E] at hr
            exact hr rfl
noncomputable def f_X12_learn (S : HSt) (_o : Nat) (a1 : Int32) (a2 : Int32) (a3 : Int32) : Int64 × HSt := bd ((sI S 64 0 (0 : Int32))) fun S1 => if (f_X12_in S1 a1.toInt64 (0 : Int64) (100 : Int64)) = 0 then (pr ((-9000000000000000001 : Int64)) (S1)) else (if (f_X12_in S1 a2.toInt64 (0 : Int64) (100 : Int64)) = 0 then (pr ((-9000000000000000001 : Int64)) (S1)) else (if (f_X12_in S1 a3.toInt64 (0 : Int64) (1 : Int64)) = 0 then (pr ((-9000000000000000001 : Int64)) (S1)) else (if (gI S1 64 7) = 0 then (pr ((-9000000000000000002 : Int64)) (S1)) else (bd (L_X12_learn_58 1000 S1 a1 a2 a3 (100 : Int32)) fun r6 => bd ((gI r6.2.2.2.2 81 r6.1.toNatClampNeg)) fun x7 => if x7 ≤ (30 : Int32) then (if r6.2.2.1 = 0 then (pr (x7.toInt64) (r6.2.2.2.2)) else (bd (L_X12_learn_207 1000 r6.2.2.2.2 r6.1 r6.2.1 r6.2.2.1 x7 (0 : Int32)) fun r10 => if r10.1 = 1 then (pr (r10.2.1) (r6.2.2.2.2)) else (pr ((-1000000 : Int64)) (r6.2.2.2.2)))) else (pr ((-1000000 : Int64)) (r6.2.2.2.2))))))
def p_X12_learn (S : HSt) (_o : Nat) (a1 : Int32) (a2 : Int32) (a3 : Int32) : Prop := (∀ S1 : HSt, (sI S 64 0 (0 : Int32)) = S1 → (¬ (f_X12_in S1 a1.toInt64 (0 : Int64) (100 : Int64)) = 0) → (¬ (f_X12_in S1 a2.toInt64 (0 : Int64) (100 : Int64)) = 0) → (¬ (f_X12_in S1 a3.toInt64 (0 : Int64) (1 : Int64)) = 0) → (¬ (gI S1 64 7) = 0) → T_X12_learn_58 1000 S1 a1 a2 a3 (100 : Int32)) ∧ (∀ S1 : HSt, (sI S 64 0 (0 : Int32)) = S1 → (¬ (f_X12_in S1 a1.toInt64 (0 : Int64) (100 : Int64)) = 0) → (¬ (f_X12_in S1 a2.toInt64 (0 : Int64) (100 : Int64)) = 0) → (¬ (f_X12_in S1 a3.toInt64 (0 : Int64) (1 : Int64)) = 0) → (¬ (gI S1 64 7) = 0) → ∀ r6, L_X12_learn_58 1000 S1 a1 a2 a3 (100 : Int32) = r6 → vp_in r6.1 101) ∧ (∀ S1 : HSt, (sI S 64 0 (0 : Int32)) = S1 → (¬ (f_X12_in S1 a1.toInt64 (0 : Int64) (100 : Int64)) = 0) → (¬ (f_X12_in S1 a2.toInt64 (0 : Int64) (100 : Int64)) = 0) → (¬ (f_X12_in S1 a3.toInt64 (0 : Int64) (1 : Int64)) = 0) → (¬ (gI S1 64 7) = 0) → ∀ r6, L_X12_learn_58 1000 S1 a1 a2 a3 (100 : Int32) = r6 → ∀ x7 : Int32, (gI r6.2.2.2.2 81 r6.1.toNatClampNeg) = x7 → (x7 ≤ (30 : Int32)) → (¬ r6.2.2.1 = 0) → T_X12_learn_207 1000 r6.2.2.2.2 r6.1 r6.2.1 r6.2.2.1 x7 (0 : Int32))
set_option maxRecDepth 100000 in
theorem t_X12_learn (G : GG) (l : Launch) {S : HSt} (hM : MS S) (a1 : Int32) (a2 : Int32) (a3 : Int32) (hp : p_X12_learn S 64 a1 a2 a3) : AM G l yX12_learn cX12_learn 7 (some .long) (rmD 1 0 0) 0 0 [.ref 64, .int a1, .int a2, .int a3] S (FP (some (.long (f_X12_learn S 64 a1 a2 a3).1)) ((f_X12_learn S 64 a1 a2 a3).2)) := by
  obtain ⟨h0, h1, h2⟩ := hp
  refine AM.mk (by decide) (Nat.le_of_ble_eq_true rfl) ?_
  intro p e s m below meth c hC hSt _
  refine aw_aload_n hC 0 dX12_learn_0 rfl rfl ?_
  refine aw_iconst (v := 0) hC dX12_learn_1 (by decide) ?_
  refine aw_putI hC hSt 0 (ms_lt 64 (by decide) hM) (ms_k 64 12 0 (by decide) hM) rfl (by decide) w_955 rfl rfl rfl rfl dX12_learn_2 ?_
  generalize eS1 : (sI S 64 0 (0 : Int32)) = S1
  have hM : MS S1 := MS.of (by rw [← eS1]; exact shp_sI _ _ _ _) hM
  refine aw_iload_n hC 1 dX12_learn_5 rfl rfl ?_
  refine aw_i2l hC dX12_learn_6 ?_
  refine aw_lconst (v := 0) hC dX12_learn_7 (by decide) ?_
  refine aw_ldc2 (v := 100) hC w_1261 dX12_learn_8 ?_
  refine aw_cS3r hC hSt (t_X12_in G l  _ _ _) w_945 w_951 w_952 w_953 rfl rfl (by decide +kernel) ⟨Nat.le_of_ble_eq_true rfl, Nat.le_of_ble_eq_true rfl⟩ (Nat.le_of_ble_eq_true rfl) dX12_learn_11 ⟨Nat.zero_le _, Nat.zero_le _⟩ ?_
  refine aw_if_eq hC 39 dX12_learn_14 (by decide) (fun c2 => ?_) (fun c2 => ?_)
  · refine aw_ldc2 (v := -9000000000000000001) hC w_957 dX12_learn_39 ?_
    refine aw_lret hC dX12_learn_42 (Nat.le_refl _) (Nat.le_refl _) ?_
    exact FP.qJ ((bd_eq eS1).trans ((if_pos c2).trans (rfl)))
  · refine aw_iload_n hC 2 dX12_learn_17 rfl rfl ?_
    refine aw_i2l hC dX12_learn_18 ?_
    refine aw_lconst (v := 0) hC dX12_learn_19 (by decide) ?_
    refine aw_ldc2 (v := 100) hC w_1261 dX12_learn_20 ?_
    refine aw_cS3r hC hSt (t_X12_in G l  _ _ _) w_945 w_951 w_952 w_953 rfl rfl (by decide +kernel) ⟨Nat.le_of_ble_eq_true rfl, Nat.le_of_ble_eq_true rfl⟩ (Nat.le_of_ble_eq_true rfl) dX12_learn_23 ⟨Nat.zero_le _, Nat.zero_le _⟩ ?_
    refine aw_if_eq hC 39 dX12_learn_26 (by decide) (fun c3 => ?_) (fun c3 => ?_)
    · refine aw_ldc2 (v := -9000000000000000001) hC w_957 dX12_learn_39 ?_
      refine aw_lret hC dX12_learn_42 (Nat.le_refl _) (Nat.le_refl _) ?_
      exact FP.qJ ((bd_eq eS1).trans ((if_neg c2).trans ((if_pos c3).trans (rfl))))
    · refine aw_iload_n hC 3 dX12_learn_29 rfl rfl ?_
      refine aw_i2l hC dX12_learn_30 ?_
      refine aw_lconst (v := 0) hC dX12_learn_31 (by decide) ?_
      refine aw_lconst (v := 1) hC dX12_learn_32 (by decide) ?_
      refine aw_cS3r hC hSt (t_X12_in G l  _ _ _) w_945 w_951 w_952 w_953 rfl rfl (by decide +kernel) ⟨Nat.le_of_ble_eq_true rfl, Nat.le_of_ble_eq_true rfl⟩ (Nat.le_of_ble_eq_true rfl) dX12_learn_33 ⟨Nat.zero_le _, Nat.zero_le _⟩ ?_
      refine aw_if_ne hC 43 dX12_learn_36 (by decide) (fun c4 => ?_) (fun c4 => ?_)
      · refine aw_aload_n hC 0 dX12_learn_43 rfl rfl ?_
        refine aw_getI hC hSt 7 (ms_lt 64 (by decide) hM) (ms_k 64 12 0 (by decide) hM) rfl (by decide) w_1051 rfl dX12_learn_44 ?_
        refine aw_if_ne hC 54 dX12_learn_47 (by decide) (fun c5 => ?_) (fun c5 => ?_)
        · refine aw_bipush (v := 100) hC dX12_learn_54 (by decide) ?_
          refine aw_istore hC [(4, .int _), (0, .ref 64), (1, .int _), (2, .int _), (3, .int _)] dX12_learn_56 (by decide) rfl ?_
          refine aw_sub [1, 2, 3, 4, 0] rfl ?_
          refine l_X12_learn_58 hC hSt 1000 _ _ _ _ _ hM (h0 S1 eS1 c2 c3 c4 c5) ?_
          generalize er6 : L_X12_learn_58 1000 S1 a1 a2 a3 (100 : Int32) = r6
          have hM : MS r6.2.2.2.2 := MS.of (by rw [← er6]; exact qL_X12_learn_58 _ _ _ _ _ _) hM
          refine aw_aload_n hC 0 dX12_learn_177 rfl rfl ?_
          refine aw_getP (b := 81) hC hSt 44 (ms_lt 64 (by decide) hM) (ms_k 64 12 0 (by decide) hM) rfl (by decide) w_937 rfl (ms_p 44 81 (by decide) hM) dX12_learn_178 ?_
          refine aw_iload_n hC 1 dX12_learn_181 rfl rfl ?_
          refine aw_iald hC hSt (ms_lt 81 (by decide) hM) (ms_k 81 14 101 (by decide) hM) (vp_len (n := 101) (ms_l 81 14 101 (by decide) hM) (h1 S1 eS1 c2 c3 c4 c5 r6 er6)) dX12_learn_182 ?_
          refine aw_istore hC [(4, .int _), (0, .ref 64), (1, .int _), (2, .int _), (3, .int _)] dX12_learn_183 (by decide) rfl ?_
          generalize ex7 : (gI r6.2.2.2.2 81 r6.1.toNatClampNeg) = x7
          refine aw_iload hC 0 dX12_learn_185 rfl ?_
          refine aw_bipush (v := 30) hC dX12_learn_187 (by decide) ?_
          refine aw_icmp_le hC 196 dX12_learn_189 (by decide) (fun c8 => ?_) (fun c8 => ?_)
          · refine aw_iload_n hC 4 dX12_learn_196 rfl rfl ?_
            refine aw_if_ne hC 204 dX12_learn_197 (by decide) (fun c9 => ?_) (fun c9 => ?_)
            · refine aw_iconst (v := 0) hC dX12_learn_204 (by decide) ?_
              refine aw_istore hC [(5, .int _), (4, .int _), (0, .ref 64), (1, .int _), (2, .int _), (3, .int _)] dX12_learn_205 (by decide) rfl ?_
              refine aw_sub [2, 3, 4, 5, 1, 0] rfl ?_
              refine l_X12_learn_207 hC hSt 1000 _ _ _ _ _ _ hM (h2 S1 eS1 c2 c3 c4 c5 r6 er6 x7 ex7 c8 c9) (fun c11 => ?_) (fun c11 => ?_)
              · revert c11
                generalize er10 : L_X12_learn_207 1000 r6.2.2.2.2 r6.1 r6.2.1 r6.2.2.1 x7 (0 : Int32) = r10
                intro c11
                exact FP.qJ ((bd_eq eS1).trans ((if_neg c2).trans ((if_neg c3).trans ((if_neg c4).trans ((if_neg c5).trans ((bd_eq er6).trans ((bd_eq ex7).trans ((if_pos c8).trans ((if_neg c9).trans ((bd_eq er10).trans ((if_pos c11).trans (rfl))))))))))))
              · revert c11
                generalize er10 : L_X12_learn_207 1000 r6.2.2.2.2 r6.1 r6.2.1 r6.2.2.1 x7 (0 : Int32) = r10
                intro c11
                refine aw_ldc2 (v := -1000000) hC w_1176 dX12_learn_262 ?_
                refine aw_lret hC dX12_learn_265 (Nat.le_refl _) (Nat.le_refl _) ?_
                exact FP.qJ ((bd_eq eS1).trans ((if_neg c2).trans ((if_neg c3).trans ((if_neg c4).trans ((if_neg c5).trans ((bd_eq er6).trans ((bd_eq ex7).trans ((if_pos c8).trans ((if_neg c9).trans ((bd_eq er10).trans ((if_neg c11).trans (rfl))))))))))))
            · refine aw_iload hC 0 dX12_learn_200 rfl ?_
              refine aw_i2l hC dX12_learn_202 ?_
              refine aw_lret hC dX12_learn_203 (Nat.le_refl _) (Nat.le_refl _) ?_
              exact FP.qJ ((bd_eq eS1).trans ((if_neg c2).trans ((if_neg c3).trans ((if_neg c4).trans ((if_neg c5).trans ((bd_eq er6).trans ((bd_eq ex7).trans ((if_pos c8).trans ((if_pos c9).trans (rfl))))))))))
          · refine aw_ldc2 (v := -1000000) hC w_1176 dX12_learn_192 ?_
            refine aw_lret hC dX12_learn_195 (Nat.le_refl _) (Nat.le_refl _) ?_
            exact FP.qJ ((bd_eq eS1).trans ((if_neg c2).trans ((if_neg c3).trans ((if_neg c4).trans ((if_neg c5).trans ((bd_eq er6).trans ((bd_eq ex7).trans ((if_neg c8).trans (rfl)))))))))
        · refine aw_ldc2 (v := -9000000000000000002) hC w_1151 dX12_learn_50 ?_
          refine aw_lret hC dX12_learn_53 (Nat.le_refl _) (Nat.le_refl _) ?_
          exact FP.qJ ((bd_eq eS1).trans ((if_neg c2).trans ((if_neg c3).trans ((if_neg c4).trans ((if_pos c5).trans (rfl))))))
      · refine aw_ldc2 (v := -9000000000000000001) hC w_957 dX12_learn_39 ?_
        refine aw_lret hC dX12_learn_42 (Nat.le_refl _) (Nat.le_refl _) ?_
        exact FP.qJ ((bd_eq eS1).trans ((if_neg c2).trans ((if_neg c3).trans ((if_pos c4).trans (rfl)))))
theorem q_X12_learn (S : HSt) (_o : Nat) (a1 : Int32) (a2 : Int32) (a3 : Int32) : shp ((f_X12_learn S _o a1 a2 a3).2) = shp S := by
  unfold f_X12_learn
  repeat' (first | with_reducible refine shpr1 ?_ | with_reducible rfl | with_reducible refine (qL_X12_learn_58 _ _ _ _ _ _).trans ?_ | with_reducible refine (qL_X12_learn_86 _ _ _ _ _ _ _).trans ?_ | with_reducible refine (shp_sI _ _ _ _).trans ?_ | with_reducible refine (shp_sJ _ _ _ _).trans ?_ | with_reducible refine shi ?_ ?_ | with_reducible refine shb (fun _ _ => ?_) | with_reducible refine shiP (fun q : Int64 × HSt => q.2) ?_ ?_ | with_reducible refine shbP (fun q : Int64 × HSt => q.2) (fun _ _ => ?_) | (subst_vars; with_reducible rfl) | (subst_vars; with_reducible refine (qL_X12_learn_58 _ _ _ _ _ _).trans ?_) | (subst_vars; with_reducible refine (qL_X12_learn_86 _ _ _ _ _ _ _).trans ?_) | (subst_vars; with_reducible refine (shp_sI _ _ _ _).trans ?_) | (subst_vars; with_reducible refine (shp_sJ _ _ _ _).trans ?_) | (subst_vars; with_reducible refine shi ?_ ?_) | (subst_vars; with_reducible refine shb (fun _ _ => ?_)))
noncomputable def L_X12_film_108 : Nat → HSt → Int32 → Int32 → Int32 → Int32 → Int32 → Int32 → Int32 → Int32 × Int32 × Int32 × Int32 × Int32 × Int32 × Int32 × HSt
  | 0, S, v1, v2, v3, v4, v5, v6, v7 => (v1, v2, v3, v4, v5, v6, v7, S)
  | n + 1, S, v1, v2, v3, v4, v5, v6, v7 =>
    if v3 ≤ v7 then ((pr (v1) (pr (v2) (pr (v3) (pr (v4) (pr (v5) (pr (v6) (pr (v7) (S))))))))) else (if v6 = 0 then ((pr (v1) (pr (v2) (pr (v3) (pr (v4) (pr (v5) (pr (v6) (pr (v7) (S))))))))) else (bd ((if (f_X12_isStill S 64) = 0 then (bd (f_X12_doTick S 64 (0 : Int32) ((v5 / (3 : Int32)) + (1 : Int32)) ((4 : Int32) * (v5 - v5 / (3 : Int32) * (3 : Int32))) (-1000000 : Int32)) fun r2015 => r2015) else S)) fun S2016 => bd ((if (gI S2016 64 20) = (gI S2016 67 ((((40 : Int32) * v1) + v2) + v7).toNatClampNeg) then (1 : Int32) else (0 : Int32))) fun x2018 => L_X12_film_108 n S2016 v1 v2 v3 v4 v5 x2018 (v7 + (1 : Int32))))
def T_X12_film_108 : Nat → HSt → Int32 → Int32 → Int32 → Int32 → Int32 → Int32 → Int32 → Prop
  | 0, _, _, _, _, _, _, _, _ => False
  | n + 1, S, v1, v2, v3, v4, v5, v6, v7 => ((¬ v3 ≤ v7) → (¬ v6 = 0) → ((f_X12_isStill S 64) = 0) → p_X12_doTick S 64 (0 : Int32) ((v5 / (3 : Int32)) + (1 : Int32)) ((4 : Int32) * (v5 - v5 / (3 : Int32) * (3 : Int32))) (-1000000 : Int32)) ∧ ((¬ v3 ≤ v7) → (¬ v6 = 0) → ∀ S2016 : HSt, (if (f_X12_isStill S 64) = 0 then (bd (f_X12_doTick S 64 (0 : Int32) ((v5 / (3 : Int32)) + (1 : Int32)) ((4 : Int32) * (v5 - v5 / (3 : Int32) * (3 : Int32))) (-1000000 : Int32)) fun r2015 => r2015) else S) = S2016 → vp_in ((((40 : Int32) * v1) + v2) + v7) 320) ∧ ((¬ v3 ≤ v7) → (¬ v6 = 0) → ∀ S2016 : HSt, (if (f_X12_isStill S 64) = 0 then (bd (f_X12_doTick S 64 (0 : Int32) ((v5 / (3 : Int32)) + (1 : Int32)) ((4 : Int32) * (v5 - v5 / (3 : Int32) * (3 : Int32))) (-1000000 : Int32)) fun r2015 => r2015) else S) = S2016 → ∀ x2018 : Int32, (if (gI S2016 64 20) = (gI S2016 67 ((((40 : Int32) * v1) + v2) + v7).toNatClampNeg) then (1 : Int32) else (0 : Int32)) = x2018 → T_X12_film_108 n S2016 v1 v2 v3 v4 v5 x2018 (v7 + (1 : Int32)))
theorem qL_X12_film_108 : ∀ (n : Nat) (S : HSt) (v1 : Int32) (v2 : Int32) (v3 : Int32) (v4 : Int32) (v5 : Int32) (v6 : Int32) (v7 : Int32), shp (L_X12_film_108 n S v1 v2 v3 v4 v5 v6 v7).2.2.2.2.2.2.2 = shp S := by
  intro n
  induction n with
  | zero => intros; rfl
  | succ n ih =>
    intro S v1 v2 v3 v4 v5 v6 v7
    unfold L_X12_film_108
    repeat' (first | with_reducible refine shpr7 ?_ | with_reducible rfl | with_reducible refine (ih _ _ _ _ _ _ _ _).trans ?_ | with_reducible refine (q_X12_doTick _ _ _ _ _ _).trans ?_ | with_reducible refine (q_X12_finding _ _ _).trans ?_ | with_reducible refine (q_X12_first _ _).trans ?_ | with_reducible refine (shp_sI _ _ _ _).trans ?_ | with_reducible refine (shp_sJ _ _ _ _).trans ?_ | with_reducible refine shi ?_ ?_ | with_reducible refine shb (fun _ _ => ?_) | with_reducible refine shiP (fun q : Int32 × Int32 × Int32 × Int32 × Int32 × Int32 × Int32 × HSt => q.2.2.2.2.2.2.2) ?_ ?_ | with_reducible refine shbP (fun q : Int32 × Int32 × Int32 × Int32 × Int32 × Int32 × Int32 × HSt => q.2.2.2.2.2.2.2) (fun _ _ => ?_) | (subst_vars; with_reducible rfl) | (subst_vars; with_reducible refine (ih _ _ _ _ _ _ _ _).trans ?_) | (subst_vars; with_reducible refine (q_X12_doTick _ _ _ _ _ _).trans ?_) | (subst_vars; with_reducible refine (q_X12_finding _ _ _).trans ?_) | (subst_vars; with_reducible refine (q_X12_first _ _).trans ?_) | (subst_vars; with_reducible refine (shp_sI _ _ _ _).trans ?_) | (subst_vars; with_reducible refine (shp_sJ _ _ _ _).trans ?_) | (subst_vars; with_reducible refine shi ?_ ?_) | (subst_vars; with_reducible refine shb (fun _ _ => ?_)))
set_option maxRecDepth 100000 in
theorem l_X12_film_108 {p : Program} {l : Launch} {e : Env} {s : State} {m : MethodId} {args : Array Value} {below : List Frame} {meth : Method} {c : Code} {G : GG} {Q : State → Prop} (hC : ACx p s m args meth c cX12_film RX12 8 (some .long)) (hSt : St G s)  : ∀ (n : Nat) (S : HSt) (v1 : Int32) (v2 : Int32) (v3 : Int32) (v4 : Int32) (v5 : Int32) (v6 : Int32) (v7 : Int32), MS S → T_X12_film_108 n S v1 v2 v3 v4 v5 v6 v7 → AW p l e (rmD 3 0 0) s m args below meth c G 8 Q (L_X12_film_108 n S v1 v2 v3 v4 v5 v6 v7).2.2.2.2.2.2.2 0 0 179 [(0, .ref 64), (1, .int (L_X12_film_108 n S v1 v2 v3 v4 v5 v6 v7).1), (2, .int (L_X12_film_108 n S v1 v2 v3 v4 v5 v6 v7).2.1), (3, .int (L_X12_film_108 n S v1 v2 v3 v4 v5 v6 v7).2.2.1), (4, .int (L_X12_film_108 n S v1 v2 v3 v4 v5 v6 v7).2.2.2.1), (5, .int (L_X12_film_108 n S v1 v2 v3 v4 v5 v6 v7).2.2.2.2.1), (6, .int (L_X12_film_108 n S v1 v2 v3 v4 v5 v6 v7).2.2.2.2.2.1), (7, .int (L_X12_film_108 n S v1 v2 v3 v4 v5 v6 v7).2.2.2.2.2.2.1)] [] → AW p l e (rmD 3 0 0) s m args below meth c G 8 Q S 0 0 108 [(0, .ref 64), (1, .int v1), (2, .int v2), (3, .int v3), (4, .int v4), (5, .int v5), (6, .int v6), (7, .int v7)] [] := by
  intro n
  induction n with
  | zero => intro S v1 v2 v3 v4 v5 v6 v7 _ hT; exact hT.elim
  | succ n ih =>
    intro S v1 v2 v3 v4 v5 v6 v7 hM hT hk
    unfold T_X12_film_108 at hT
    obtain ⟨h0, h1, h2⟩ := hT
    refine aw_iload hC 7 dX12_film_108 rfl ?_
    refine aw_iload_n hC 3 dX12_film_110 rfl rfl ?_
    refine aw_icmp_ge hC 179 dX12_film_111 (by decide) (fun c2012 => ?_) (fun c2012 => ?_)
    · refine aw_sub [0, 1, 2, 3, 4, 5, 6, 7] rfl ?_
      have E : L_X12_film_108 (n + 1) S v1 v2 v3 v4 v5 v6 v7 = _ := (if_pos c2012).trans (rfl)
      rw [E] at hk
      exact hk
    · refine aw_iload hC 6 dX12_film_114 rfl ?_
      refine aw_if_eq hC 179 dX12_film_116 (by decide) (fun c2013 => ?_) (fun c2013 => ?_)
      · refine aw_sub [0, 1, 2, 3, 4, 5, 6, 7] rfl ?_
        have E : L_X12_film_108 (n + 1) S v1 v2 v3 v4 v5 v6 v7 = _ := (if_neg c2012).trans ((if_pos c2013).trans (rfl))
        rw [E] at hk
        exact hk
      · refine aw_aload_n hC 0 dX12_film_119 rfl rfl ?_
        refine aw_cV0r hC hSt (t_X12_isStill G l hM ) w_1099 w_1118 w_1119 w_1120 w_953 rfl rfl (by decide +kernel) ⟨Nat.le_of_ble_eq_true rfl, Nat.le_of_ble_eq_true rfl⟩ (ms_lt 64 (by decide) hM) (ms_k 64 12 0 (by decide) hM) rfl (Nat.le_of_ble_eq_true rfl) dX12_film_120 ⟨Nat.zero_le _, Nat.zero_le _⟩ ?_
        refine aw_cut (S' := (if (f_X12_isStill S 64) = 0 then (bd (f_X12_doTick S 64 (0 : Int32) ((v5 / (3 : Int32)) + (1 : Int32)) ((4 : Int32) * (v5 - v5 / (3 : Int32) * (3 : Int32))) (-1000000 : Int32)) fun r2015 => r2015) else S)) (pc' := 145) (lv' := [(0, .ref 64), (1, .int v1), (2, .int v2), (3, .int v3), (4, .int v4), (5, .int v5), (6, .int v6), (7, .int v7)]) (st' := []) ?_ (fun Jc2014 => ?_)
        · generalize eS2016 : (if (f_X12_isStill S 64) = 0 then (bd (f_X12_doTick S 64 (0 : Int32) ((v5 / (3 : Int32)) + (1 : Int32)) ((4 : Int32) * (v5 - v5 / (3 : Int32) * (3 : Int32))) (-1000000 : Int32)) fun r2015 => r2015) else S) = S2016
          have hM : MS S2016 := MS.of (by rw [← eS2016]; repeat' (first | with_reducible rfl | with_reducible refine (q_X12_doTick _ _ _ _ _ _).trans ?_ | with_reducible refine (shp_sI _ _ _ _).trans ?_ | with_reducible refine (shp_sJ _ _ _ _).trans ?_ | with_reducible refine shi ?_ ?_ | with_reducible refine shb (fun _ _ => ?_) | (subst_vars; with_reducible rfl) | (subst_vars; with_reducible refine (q_X12_doTick _ _ _ _ _ _).trans ?_) | (subst_vars; with_reducible refine (shp_sI _ _ _ _).trans ?_) | (subst_vars; with_reducible refine (shp_sJ _ _ _ _).trans ?_) | (subst_vars; with_reducible refine shi ?_ ?_) | (subst_vars; with_reducible refine shb (fun _ _ => ?_)))) hM
          refine aw_aload_n hC 0 dX12_film_145 rfl rfl ?_
          refine aw_getI hC hSt 20 (ms_lt 64 (by decide) hM) (ms_k 64 12 0 (by decide) hM) rfl (by decide) w_1032 rfl dX12_film_146 ?_
          refine aw_aload_n hC 0 dX12_film_149 rfl rfl ?_
          refine aw_getP (b := 67) hC hSt 4 (ms_lt 64 (by decide) hM) (ms_k 64 12 0 (by decide) hM) rfl (by decide) w_919 rfl (ms_p 4 67 (by decide) hM) dX12_film_150 ?_
          refine aw_bipush (v := 40) hC dX12_film_153 (by decide) ?_
          refine aw_iload_n hC 1 dX12_film_155 rfl rfl ?_
          refine aw_imul hC dX12_film_156 ?_
          refine aw_iload_n hC 2 dX12_film_157 rfl rfl ?_
          refine aw_iadd hC dX12_film_158 ?_
          refine aw_iload hC 7 dX12_film_159 rfl ?_
          refine aw_iadd hC dX12_film_161 ?_
          refine aw_iald hC hSt (ms_lt 67 (by decide) hM) (ms_k 67 14 320 (by decide) hM) (vp_len (n := 320) (ms_l 67 14 320 (by decide) hM) (h1 c2012 c2013 S2016 eS2016)) dX12_film_162 ?_
          refine aw_cut (S' := S2016) (pc' := 171) (lv' := [(0, .ref 64), (1, .int v1), (2, .int v2), (3, .int v3), (4, .int v4), (5, .int v5), (6, .int v6), (7, .int v7)]) (st' := [.int (if (gI S2016 64 20) = (gI S2016 67 ((((40 : Int32) * v1) + v2) + v7).toNatClampNeg) then (1 : Int32) else (0 : Int32))]) ?_ (fun Jc2017 => ?_)
          · generalize ex2018 : (if (gI S2016 64 20) = (gI S2016 67 ((((40 : Int32) * v1) + v2) + v7).toNatClampNeg) then (1 : Int32) else (0 : Int32)) = x2018
            refine aw_istore hC [(6, .int _), (0, .ref 64), (1, .int _), (2, .int _), (3, .int _), (4, .int _), (5, .int _), (7, .int _)] dX12_film_171 (by decide) rfl ?_
            refine aw_iinc (v := (v7 + (1 : Int32))) hC 7 [(7, .int _), (6, .int _), (0, .ref 64), (1, .int _), (2, .int _), (3, .int _), (4, .int _), (5, .int _)] dX12_film_173 rfl rfl (by decide) rfl ?_
            refine aw_goto hC 108 dX12_film_176 (by decide) ?_
            refine aw_sub [2, 3, 4, 5, 6, 7, 1, 0] rfl ?_
            have hTn := (h2 c2012 c2013 S2016 eS2016 x2018 ex2018)
            have hMn : MS S2016 := hM
            have E : L_X12_film_108 (n + 1) S v1 v2 v3 v4 v5 v6 v7 = _ := (if_neg c2012).trans ((if_neg c2013).trans ((bd_eq eS2016).trans ((bd_eq ex2018).trans (rfl))))
            rw [E] at hk
            exact ih _ _ _ _ _ _ _ _ hMn hTn hk
          · refine aw_icmp_ne hC 170 dX12_film_163 (by decide) (fun c2017 => ?_) (fun c2017 => ?_)
            · refine aw_iconst (v := 0) hC dX12_film_170 (by decide) ?_
              simp only [bd_def, if_neg c2017] at Jc2017 ⊢
              exact Jc2017
            · refine aw_iconst (v := 1) hC dX12_film_166 (by decide) ?_
              refine aw_goto hC 171 dX12_film_167 (by decide) ?_
              simp only [bd_def, if_pos c2017] at Jc2017 ⊢
              exact Jc2017
        · refine aw_if_ne hC 145 dX12_film_123 (by decide) (fun c2014 => ?_) (fun c2014 => ?_)
          · simp only [bd_def, if_neg c2014] at Jc2014 ⊢
            exact Jc2014
          · refine aw_aload_n hC 0 dX12_film_126 rfl rfl ?_
            refine aw_iconst (v := 0) hC dX12_film_127 (by decide) ?_
            refine aw_iload hC 5 dX12_film_128 rfl ?_
            refine aw_iconst (v := 3) hC dX12_film_130 (by decide) ?_
            refine aw_idiv hC dX12_film_131 (by decide) ?_
            refine aw_iconst (v := 1) hC dX12_film_132 (by decide) ?_
            refine aw_iadd hC dX12_film_133 ?_
            refine aw_iconst (v := 4) hC dX12_film_134 (by decide) ?_
            refine aw_iload hC 5 dX12_film_135 rfl ?_
            refine aw_iconst (v := 3) hC dX12_film_137 (by decide) ?_
            refine aw_irem hC dX12_film_138 (by decide) ?_
            refine aw_imul hC dX12_film_139 ?_
            refine aw_ldc (v := -1000000) hC w_923 dX12_film_140 ?_
            refine aw_cV4v hC hSt (t_X12_doTick G l hM _ _ _ _ (h0 c2012 c2013 c2014)) w_1110 w_1155 w_1156 w_1157 w_953 rfl rfl (by decide +kernel) ⟨Nat.le_of_ble_eq_true rfl, Nat.le_of_ble_eq_true rfl⟩ (ms_lt 64 (by decide) hM) (ms_k 64 12 0 (by decide) hM) rfl (Nat.le_of_ble_eq_true rfl) dX12_film_142 ⟨Nat.zero_le _, Nat.zero_le _⟩ ?_
            generalize er2015 : f_X12_doTick S 64 (0 : Int32) ((v5 / (3 : Int32)) + (1 : Int32)) ((4 : Int32) * (v5 - v5 / (3 : Int32) * (3 : Int32))) (-1000000 : Int32) = r2015
            have hM : MS r2015 := MS.of (by rw [← er2015]; exact q_X12_doTick _ _ _ _ _ _) hM
            subst er2015
            simp only [bd_def, if_pos c2014] at Jc2014 ⊢
            exact Jc2014
noncomputable def L_X12_film_91 : Nat → HSt → Int32 → Int32 → Int32 → Int32 → Int32 → Int32 × Int32 × Int32 × Int32 × Int32 × HSt
  | 0, S, v1, v2, v3, v4, v5 => (v1, v2, v3, v4, v5, S)
  | n + 1, S, v1, v2, v3, v4, v5 =>
    if (9 : Int32) ≤ v5 then ((pr (v1) (pr (v2) (pr (v3) (pr (v4) (pr (v5) (S))))))) else (bd (f_X12_first S 64) fun r1011 => bd (L_X12_film_108 1000 r1011 v1 v2 v3 v4 v5 (1 : Int32) (0 : Int32)) fun r1012 => bd ((if r1012.2.2.2.2.2.1 = 0 then (0 : Int32) else ((1 : Int32) <<< (r1012.2.2.2.2.1 &&& 31)))) fun x1014 => bd ((r1012.2.2.2.1 ||| x1014)) fun x1015 => L_X12_film_91 n r1012.2.2.2.2.2.2.2 r1012.1 r1012.2.1 r1012.2.2.1 x1015 (r1012.2.2.2.2.1 + (1 : Int32)))
def T_X12_film_91 : Nat → HSt → Int32 → Int32 → Int32 → Int32 → Int32 → Prop
  | 0, _, _, _, _, _, _ => False
  | n + 1, S, v1, v2, v3, v4, v5 => ((¬ (9 : Int32) ≤ v5) → ∀ r1011, f_X12_first S 64 = r1011 → T_X12_film_108 1000 r1011 v1 v2 v3 v4 v5 (1 : Int32) (0 : Int32)) ∧ ((¬ (9 : Int32) ≤ v5) → ∀ r1011, f_X12_first S 64 = r1011 → ∀ r1012, L_X12_film_108 1000 r1011 v1 v2 v3 v4 v5 (1 : Int32) (0 : Int32) = r1012 → ∀ x1014 : Int32, (if r1012.2.2.2.2.2.1 = 0 then (0 : Int32) else ((1 : Int32) <<< (r1012.2.2.2.2.1 &&& 31))) = x1014 → ∀ x1015 : Int32, (r1012.2.2.2.1 ||| x1014) = x1015 → T_X12_film_91 n r1012.2.2.2.2.2.2.2 r1012.1 r1012.2.1 r1012.2.2.1 x1015 (r1012.2.2.2.2.1 + (1 : Int32)))
theorem qL_X12_film_91 : ∀ (n : Nat) (S : HSt) (v1 : Int32) (v2 : Int32) (v3 : Int32) (v4 : Int32) (v5 : Int32), shp (L_X12_film_91 n S v1 v2 v3 v4 v5).2.2.2.2.2 = shp S := by
  intro n
  induction n with
  | zero => intros; rfl
  | succ n ih =>
    intro S v1 v2 v3 v4 v5
    unfold L_X12_film_91
    repeat' (first | with_reducible refine shpr5 ?_ | with_reducible rfl | with_reducible refine (ih _ _ _ _ _ _).trans ?_ | with_reducible refine (q_X12_doTick _ _ _ _ _ _).trans ?_ | with_reducible refine (q_X12_finding _ _ _).trans ?_ | with_reducible refine (q_X12_first _ _).trans ?_ | with_reducible refine (qL_X12_film_108 _ _ _ _ _ _ _ _ _).trans ?_ | with_reducible refine (shp_sI _ _ _ _).trans ?_ | with_reducible refine (shp_sJ _ _ _ _).trans ?_ | with_reducible refine shi ?_ ?_ | with_reducible refine shb (fun _ _ => ?_) | with_reducible refine shiP (fun q : Int32 × Int32 × Int32 × Int32 × Int32 × HSt => q.2.2.2.2.2) ?_ ?_ | with_reducible refine shbP (fun q : Int32 × Int32 × Int32 × Int32 × Int32 × HSt => q.2.2.2.2.2) (fun _ _ => ?_) | (subst_vars; with_reducible rfl) | (subst_vars; with_reducible refine (ih _ _ _ _ _ _).trans ?_) | (subst_vars; with_reducible refine (q_X12_doTick _ _ _ _ _ _).trans ?_) | (subst_vars; with_reducible refine (q_X12_finding _ _ _).trans ?_) | (subst_vars; with_reducible refine (q_X12_first _ _).trans ?_) | (subst_vars; with_reducible refine (qL_X12_film_108 _ _ _ _ _ _ _ _ _).trans ?_) | (subst_vars; with_reducible refine (shp_sI _ _ _ _).trans ?_) | (subst_vars; with_reducible refine (shp_sJ _ _ _ _).trans ?_) | (subst_vars; with_reducible refine shi ?_ ?_) | (subst_vars; with_reducible refine shb (fun _ _ => ?_)))
set_option maxRecDepth 100000 in
theorem l_X12_film_91 {p : Program} {l : Launch} {e : Env} {s : State} {m : MethodId} {args : Array Value} {below : List Frame} {meth : Method} {c : Code} {G : GG} {Q : State → Prop} (hC : ACx p s m args meth c cX12_film RX12 8 (some .long)) (hSt : St G s)  : ∀ (n : Nat) (S : HSt) (v1 : Int32) (v2 : Int32) (v3 : Int32) (v4 : Int32) (v5 : Int32), MS S → T_X12_film_91 n S v1 v2 v3 v4 v5 → AW p l e (rmD 3 0 0) s m args below meth c G 8 Q (L_X12_film_91 n S v1 v2 v3 v4 v5).2.2.2.2.2 0 0 203 [(0, .ref 64), (1, .int (L_X12_film_91 n S v1 v2 v3 v4 v5).1), (2, .int (L_X12_film_91 n S v1 v2 v3 v4 v5).2.1), (3, .int (L_X12_film_91 n S v1 v2 v3 v4 v5).2.2.1), (4, .int (L_X12_film_91 n S v1 v2 v3 v4 v5).2.2.2.1), (5, .int (L_X12_film_91 n S v1 v2 v3 v4 v5).2.2.2.2.1)] [] → AW p l e (rmD 3 0 0) s m args below meth c G 8 Q S 0 0 91 [(0, .ref 64), (1, .int v1), (2, .int v2), (3, .int v3), (4, .int v4), (5, .int v5)] [] := by
  intro n
  induction n with
  | zero => intro S v1 v2 v3 v4 v5 _ hT; exact hT.elim
  | succ n ih =>
    intro S v1 v2 v3 v4 v5 hM hT hk
    unfold T_X12_film_91 at hT
    obtain ⟨h0, h1⟩ := hT
    refine aw_iload hC 5 dX12_film_91 rfl ?_
    refine aw_bipush (v := 9) hC dX12_film_93 (by decide) ?_
    refine aw_icmp_ge hC 203 dX12_film_95 (by decide) (fun c1010 => ?_) (fun c1010 => ?_)
    · refine aw_sub [0, 1, 2, 3, 4, 5] rfl ?_
      have E : L_X12_film_91 (n + 1) S v1 v2 v3 v4 v5 = _ := (if_pos c1010).trans (rfl)
      rw [E] at hk
      exact hk
    · refine aw_aload_n hC 0 dX12_film_98 rfl rfl ?_
      refine aw_cV0v hC hSt (t_X12_first G l hM ) w_1031 w_1071 w_1072 w_1073 w_953 rfl rfl (by decide +kernel) ⟨Nat.le_of_ble_eq_true rfl, Nat.le_of_ble_eq_true rfl⟩ (ms_lt 64 (by decide) hM) (ms_k 64 12 0 (by decide) hM) rfl (Nat.le_of_ble_eq_true rfl) dX12_film_99 ⟨Nat.zero_le _, Nat.zero_le _⟩ ?_
      generalize er1011 : f_X12_first S 64 = r1011
      have hM : MS r1011 := MS.of (by rw [← er1011]; exact q_X12_first _ _) hM
      refine aw_iconst (v := 1) hC dX12_film_102 (by decide) ?_
      refine aw_istore hC [(6, .int _), (0, .ref 64), (1, .int _), (2, .int _), (3, .int _), (4, .int _), (5, .int _)] dX12_film_103 (by decide) rfl ?_
      refine aw_iconst (v := 0) hC dX12_film_105 (by decide) ?_
      refine aw_istore hC [(7, .int _), (6, .int _), (0, .ref 64), (1, .int _), (2, .int _), (3, .int _), (4, .int _), (5, .int _)] dX12_film_106 (by decide) rfl ?_
      refine aw_sub [2, 3, 4, 5, 6, 7, 1, 0] rfl ?_
      refine l_X12_film_108 hC hSt 1000 _ _ _ _ _ _ _ _ hM (h0 c1010 r1011 er1011) ?_
      generalize er1012 : L_X12_film_108 1000 r1011 v1 v2 v3 v4 v5 (1 : Int32) (0 : Int32) = r1012
      have hM : MS r1012.2.2.2.2.2.2.2 := MS.of (by rw [← er1012]; exact qL_X12_film_108 _ _ _ _ _ _ _ _ _) hM
      refine aw_iload hC 4 dX12_film_179 rfl ?_
      refine aw_iload hC 6 dX12_film_181 rfl ?_
      refine aw_cut (S' := r1012.2.2.2.2.2.2.2) (pc' := 194) (lv' := [(0, .ref 64), (1, .int r1012.1), (2, .int r1012.2.1), (3, .int r1012.2.2.1), (4, .int r1012.2.2.2.1), (5, .int r1012.2.2.2.2.1), (6, .int r1012.2.2.2.2.2.1), (7, .int r1012.2.2.2.2.2.2.1)]) (st' := [.int (if r1012.2.2.2.2.2.1 = 0 then (0 : Int32) else ((1 : Int32) <<< (r1012.2.2.2.2.1 &&& 31))), .int r1012.2.2.2.1]) ?_ (fun Jc1013 => ?_)
      · generalize ex1014 : (if r1012.2.2.2.2.2.1 = 0 then (0 : Int32) else ((1 : Int32) <<< (r1012.2.2.2.2.1 &&& 31))) = x1014
        refine aw_ior hC dX12_film_194 ?_
        refine aw_istore hC [(4, .int _), (0, .ref 64), (1, .int _), (2, .int _), (3, .int _), (5, .int _), (6, .int _), (7, .int _)] dX12_film_195 (by decide) rfl ?_
        generalize ex1015 : (r1012.2.2.2.1 ||| x1014) = x1015
        refine aw_iinc (v := (r1012.2.2.2.2.1 + (1 : Int32))) hC 5 [(5, .int _), (4, .int _), (0, .ref 64), (1, .int _), (2, .int _), (3, .int _), (6, .int _), (7, .int _)] dX12_film_197 rfl rfl (by decide) rfl ?_
        refine aw_goto hC 91 dX12_film_200 (by decide) ?_
        refine aw_sub [2, 3, 4, 5, 1, 0] rfl ?_
        have hTn := (h1 c1010 r1011 er1011 r1012 er1012 x1014 ex1014 x1015 ex1015)
        have hMn : MS r1012.2.2.2.2.2.2.2 := hM
        have E : L_X12_film_91 (n + 1) S v1 v2 v3 v4 v5 = _ := (if_neg c1010).trans ((bd_eq er1011).trans ((bd_eq er1012).trans ((bd_eq ex1014).trans ((bd_eq ex1015).trans (rfl)))))
        rw [E] at hk
        exact ih _ _ _ _ _ _ hMn hTn hk
      · refine aw_if_eq hC 193 dX12_film_183 (by decide) (fun c1013 => ?_) (fun c1013 => ?_)
        · refine aw_iconst (v := 0) hC dX12_film_193 (by decide) ?_
          simp only [bd_def, if_pos c1013] at Jc1013 ⊢
          exact Jc1013
        · refine aw_iconst (v := 1) hC dX12_film_186 (by decide) ?_
          refine aw_iload hC 5 dX12_film_187 rfl ?_
          refine aw_ishl hC dX12_film_189 ?_
          refine aw_goto hC 194 dX12_film_190 (by decide) ?_
          simp only [bd_def, if_neg c1013] at Jc1013 ⊢
          exact Jc1013
noncomputable def f_X12_film (S : HSt) (_o : Nat) (a1 : Int32) (a2 : Int32) (a3 : Int32) : Int64 × HSt := bd ((sI S 64 0 (0 : Int32))) fun S1 => if (f_X12_isRow S1 a1) = 0 then (pr ((-9000000000000000001 : Int64)) (S1)) else (if (f_X12_in S1 a3.toInt64 (1 : Int64) (20 : Int64)) = 0 then (pr ((-9000000000000000001 : Int64)) (S1)) else (if (gI S1 64 7) = 0 then (pr ((-9000000000000000002 : Int64)) (S1)) else (if 0 ≤ (gI S1 65 a1.toNatClampNeg) then (if a2 < 0 then (bd (f_X12_finding S1 64 (2 : Int32)) fun r7 => pr (r7.1) (r7.2)) else (if (lg_cmp (a2.toInt64 + a3.toInt64) (gI S1 66 a1.toNatClampNeg).toInt64) ≤ 0 then (bd ((sI S1 64 1 (0 : Int32))) fun S9 => bd (L_X12_film_91 1000 S9 a1 a2 a3 (0 : Int32) (0 : Int32)) fun r10 => pr (r10.2.2.2.1.toInt64) (r10.2.2.2.2.2)) else (bd (f_X12_finding S1 64 (2 : Int32)) fun r11 => pr (r11.1) (r11.2)))) else (bd (f_X12_finding S1 64 (1 : Int32)) fun r12 => pr (r12.1) (r12.2)))))
def p_X12_film (S : HSt) (_o : Nat) (a1 : Int32) (a2 : Int32) (a3 : Int32) : Prop := (∀ S1 : HSt, (sI S 64 0 (0 : Int32)) = S1 → (¬ (f_X12_isRow S1 a1) = 0) → (¬ (f_X12_in S1 a3.toInt64 (1 : Int64) (20 : Int64)) = 0) → (¬ (gI S1 64 7) = 0) → vp_in a1 8) ∧ (∀ S1 : HSt, (sI S 64 0 (0 : Int32)) = S1 → (¬ (f_X12_isRow S1 a1) = 0) → (¬ (f_X12_in S1 a3.toInt64 (1 : Int64) (20 : Int64)) = 0) → (¬ (gI S1 64 7) = 0) → (0 ≤ (gI S1 65 a1.toNatClampNeg)) → (¬ a2 < 0) → vp_in a1 8) ∧ (∀ S1 : HSt, (sI S 64 0 (0 : Int32)) = S1 → (¬ (f_X12_isRow S1 a1) = 0) → (¬ (f_X12_in S1 a3.toInt64 (1 : Int64) (20 : Int64)) = 0) → (¬ (gI S1 64 7) = 0) → (0 ≤ (gI S1 65 a1.toNatClampNeg)) → (¬ a2 < 0) → ((lg_cmp (a2.toInt64 + a3.toInt64) (gI S1 66 a1.toNatClampNeg).toInt64) ≤ 0) → ∀ S9 : HSt, (sI S1 64 1 (0 : Int32)) = S9 → T_X12_film_91 1000 S9 a1 a2 a3 (0 : Int32) (0 : Int32))
set_option maxRecDepth 100000 in
theorem t_X12_film (G : GG) (l : Launch) {S : HSt} (hM : MS S) (a1 : Int32) (a2 : Int32) (a3 : Int32) (hp : p_X12_film S 64 a1 a2 a3) : AM G l yX12_film cX12_film 8 (some .long) (rmD 3 0 0) 0 0 [.ref 64, .int a1, .int a2, .int a3] S (FP (some (.long (f_X12_film S 64 a1 a2 a3).1)) ((f_X12_film S 64 a1 a2 a3).2)) := by
  obtain ⟨h0, h1, h2⟩ := hp
  refine AM.mk (by decide) (Nat.le_of_ble_eq_true rfl) ?_
  intro p e s m below meth c hC hSt _
  refine aw_aload_n hC 0 dX12_film_0 rfl rfl ?_
  refine aw_iconst (v := 0) hC dX12_film_1 (by decide) ?_
  refine aw_putI hC hSt 0 (ms_lt 64 (by decide) hM) (ms_k 64 12 0 (by decide) hM) rfl (by decide) w_955 rfl rfl rfl rfl dX12_film_2 ?_
  generalize eS1 : (sI S 64 0 (0 : Int32)) = S1
  have hM : MS S1 := MS.of (by rw [← eS1]; exact shp_sI _ _ _ _) hM
  refine aw_iload_n hC 1 dX12_film_5 rfl rfl ?_
  refine aw_cS1r hC hSt (t_X12_isRow G l  _) w_949 w_958 w_959 w_953 rfl rfl (by decide +kernel) ⟨Nat.le_of_ble_eq_true rfl, Nat.le_of_ble_eq_true rfl⟩ (Nat.le_of_ble_eq_true rfl) dX12_film_6 ⟨Nat.zero_le _, Nat.zero_le _⟩ ?_
  refine aw_if_eq hC 24 dX12_film_9 (by decide) (fun c2 => ?_) (fun c2 => ?_)
  · refine aw_ldc2 (v := -9000000000000000001) hC w_957 dX12_film_24 ?_
    refine aw_lret hC dX12_film_27 (Nat.le_refl _) (Nat.le_refl _) ?_
    exact FP.qJ ((bd_eq eS1).trans ((if_pos c2).trans (rfl)))
  · refine aw_iload_n hC 3 dX12_film_12 rfl rfl ?_
    refine aw_i2l hC dX12_film_13 ?_
    refine aw_lconst (v := 1) hC dX12_film_14 (by decide) ?_
    refine aw_ldc2 (v := 20) hC w_1265 dX12_film_15 ?_
    refine aw_cS3r hC hSt (t_X12_in G l  _ _ _) w_945 w_951 w_952 w_953 rfl rfl (by decide +kernel) ⟨Nat.le_of_ble_eq_true rfl, Nat.le_of_ble_eq_true rfl⟩ (Nat.le_of_ble_eq_true rfl) dX12_film_18 ⟨Nat.zero_le _, Nat.zero_le _⟩ ?_
    refine aw_if_ne hC 28 dX12_film_21 (by decide) (fun c3 => ?_) (fun c3 => ?_)
    · refine aw_aload_n hC 0 dX12_film_28 rfl rfl ?_
      refine aw_getI hC hSt 7 (ms_lt 64 (by decide) hM) (ms_k 64 12 0 (by decide) hM) rfl (by decide) w_1051 rfl dX12_film_29 ?_
      refine aw_if_ne hC 39 dX12_film_32 (by decide) (fun c4 => ?_) (fun c4 => ?_)
      · refine aw_aload_n hC 0 dX12_film_39 rfl rfl ?_
        refine aw_getP (b := 65) hC hSt 2 (ms_lt 64 (by decide) hM) (ms_k 64 12 0 (by decide) hM) rfl (by decide) w_917 rfl (ms_p 2 65 (by decide) hM) dX12_film_40 ?_
        refine aw_iload_n hC 1 dX12_film_43 rfl rfl ?_
        refine aw_iald hC hSt (ms_lt 65 (by decide) hM) (ms_k 65 14 8 (by decide) hM) (vp_len (n := 8) (ms_l 65 14 8 (by decide) hM) (h0 S1 eS1 c2 c3 c4)) dX12_film_44 ?_
        refine aw_if_ge hC 54 dX12_film_45 (by decide) (fun c5 => ?_) (fun c5 => ?_)
        · refine aw_iload_n hC 2 dX12_film_54 rfl rfl ?_
          refine aw_if_lt hC 74 dX12_film_55 (by decide) (fun c6 => ?_) (fun c6 => ?_)
          · refine aw_aload_n hC 0 dX12_film_74 rfl rfl ?_
            refine aw_iconst (v := 2) hC dX12_film_75 (by decide) ?_
            refine aw_cV1r hC hSt (t_X12_finding G l hM _) w_946 w_960 w_961 w_962 w_953 rfl rfl (by decide +kernel) ⟨Nat.le_of_ble_eq_true rfl, Nat.le_of_ble_eq_true rfl⟩ (ms_lt 64 (by decide) hM) (ms_k 64 12 0 (by decide) hM) rfl (Nat.le_of_ble_eq_true rfl) dX12_film_76 ⟨Nat.zero_le _, Nat.zero_le _⟩ ?_
            generalize er7 : f_X12_finding S1 64 (2 : Int32) = r7
            have hM : MS r7.2 := MS.of (by rw [← er7]; exact q_X12_finding _ _ _) hM
            refine aw_lret hC dX12_film_79 (Nat.le_refl _) (Nat.le_refl _) ?_
            exact FP.qJ ((bd_eq eS1).trans ((if_neg c2).trans ((if_neg c3).trans ((if_neg c4).trans ((if_pos c5).trans ((if_pos c6).trans ((bd_eq er7).trans (rfl))))))))
          · refine aw_iload_n hC 2 dX12_film_58 rfl rfl ?_
            refine aw_i2l hC dX12_film_59 ?_
            refine aw_iload_n hC 3 dX12_film_60 rfl rfl ?_
            refine aw_i2l hC dX12_film_61 ?_
            refine aw_ladd hC dX12_film_62 ?_
            refine aw_aload_n hC 0 dX12_film_63 rfl rfl ?_
            refine aw_getP (b := 66) hC hSt 3 (ms_lt 64 (by decide) hM) (ms_k 64 12 0 (by decide) hM) rfl (by decide) w_918 rfl (ms_p 3 66 (by decide) hM) dX12_film_64 ?_
            refine aw_iload_n hC 1 dX12_film_67 rfl rfl ?_
            refine aw_iald hC hSt (ms_lt 66 (by decide) hM) (ms_k 66 14 8 (by decide) hM) (vp_len (n := 8) (ms_l 66 14 8 (by decide) hM) (h1 S1 eS1 c2 c3 c4 c5 c6)) dX12_film_68 ?_
            refine aw_i2l hC dX12_film_69 ?_
            refine aw_lcmp hC dX12_film_70 ?_
            refine aw_if_le hC 80 dX12_film_71 (by decide) (fun c8 => ?_) (fun c8 => ?_)
            · refine aw_aload_n hC 0 dX12_film_80 rfl rfl ?_
              refine aw_iconst (v := 0) hC dX12_film_81 (by decide) ?_
              refine aw_putI hC hSt 1 (ms_lt 64 (by decide) hM) (ms_k 64 12 0 (by decide) hM) rfl (by decide) w_947 rfl rfl rfl rfl dX12_film_82 ?_
              generalize eS9 : (sI S1 64 1 (0 : Int32)) = S9
              have hM : MS S9 := MS.of (by rw [← eS9]; exact shp_sI _ _ _ _) hM
              refine aw_iconst (v := 0) hC dX12_film_85 (by decide) ?_
              refine aw_istore hC [(4, .int _), (0, .ref 64), (1, .int _), (2, .int _), (3, .int _)] dX12_film_86 (by decide) rfl ?_
              refine aw_iconst (v := 0) hC dX12_film_88 (by decide) ?_
              refine aw_istore hC [(5, .int _), (4, .int _), (0, .ref 64), (1, .int _), (2, .int _), (3, .int _)] dX12_film_89 (by decide) rfl ?_
              refine aw_sub [2, 3, 4, 5, 1, 0] rfl ?_
              refine l_X12_film_91 hC hSt 1000 _ _ _ _ _ _ hM (h2 S1 eS1 c2 c3 c4 c5 c6 c8 S9 eS9) ?_
              generalize er10 : L_X12_film_91 1000 S9 a1 a2 a3 (0 : Int32) (0 : Int32) = r10
              have hM : MS r10.2.2.2.2.2 := MS.of (by rw [← er10]; exact qL_X12_film_91 _ _ _ _ _ _ _) hM
              refine aw_iload hC 4 dX12_film_203 rfl ?_
              refine aw_i2l hC dX12_film_205 ?_
              refine aw_lret hC dX12_film_206 (Nat.le_refl _) (Nat.le_refl _) ?_
              exact FP.qJ ((bd_eq eS1).trans ((if_neg c2).trans ((if_neg c3).trans ((if_neg c4).trans ((if_pos c5).trans ((if_neg c6).trans ((if_pos c8).trans ((bd_eq eS9).trans ((bd_eq er10).trans (rfl))))))))))
            · refine aw_aload_n hC 0 dX12_film_74 rfl rfl ?_
              refine aw_iconst (v := 2) hC dX12_film_75 (by decide) ?_
              refine aw_cV1r hC hSt (t_X12_finding G l hM _) w_946 w_960 w_961 w_962 w_953 rfl rfl (by decide +kernel) ⟨Nat.le_of_ble_eq_true rfl, Nat.le_of_ble_eq_true rfl⟩ (ms_lt 64 (by decide) hM) (ms_k 64 12 0 (by decide) hM) rfl (Nat.le_of_ble_eq_true rfl) dX12_film_76 ⟨Nat.zero_le _, Nat.zero_le _⟩ ?_
              generalize er11 : f_X12_finding S1 64 (2 : Int32) = r11
              have hM : MS r11.2 := MS.of (by rw [← er11]; exact q_X12_finding _ _ _) hM
              refine aw_lret hC dX12_film_79 (Nat.le_refl _) (Nat.le_refl _) ?_
              exact FP.qJ ((bd_eq eS1).trans ((if_neg c2).trans ((if_neg c3).trans ((if_neg c4).trans ((if_pos c5).trans ((if_neg c6).trans ((if_neg c8).trans ((bd_eq er11).trans (rfl)))))))))
        · refine aw_aload_n hC 0 dX12_film_48 rfl rfl ?_
          refine aw_iconst (v := 1) hC dX12_film_49 (by decide) ?_
          refine aw_cV1r hC hSt (t_X12_finding G l hM _) w_946 w_960 w_961 w_962 w_953 rfl rfl (by decide +kernel) ⟨Nat.le_of_ble_eq_true rfl, Nat.le_of_ble_eq_true rfl⟩ (ms_lt 64 (by decide) hM) (ms_k 64 12 0 (by decide) hM) rfl (Nat.le_of_ble_eq_true rfl) dX12_film_50 ⟨Nat.zero_le _, Nat.zero_le _⟩ ?_
          generalize er12 : f_X12_finding S1 64 (1 : Int32) = r12
          have hM : MS r12.2 := MS.of (by rw [← er12]; exact q_X12_finding _ _ _) hM
          refine aw_lret hC dX12_film_53 (Nat.le_refl _) (Nat.le_refl _) ?_
          exact FP.qJ ((bd_eq eS1).trans ((if_neg c2).trans ((if_neg c3).trans ((if_neg c4).trans ((if_neg c5).trans ((bd_eq er12).trans (rfl)))))))
      · refine aw_ldc2 (v := -9000000000000000002) hC w_1151 dX12_film_35 ?_
        refine aw_lret hC dX12_film_38 (Nat.le_refl _) (Nat.le_refl _) ?_
        exact FP.qJ ((bd_eq eS1).trans ((if_neg c2).trans ((if_neg c3).trans ((if_pos c4).trans (rfl)))))
    · refine aw_ldc2 (v := -9000000000000000001) hC w_957 dX12_film_24 ?_
      refine aw_lret hC dX12_film_27 (Nat.le_refl _) (Nat.le_refl _) ?_
      exact FP.qJ ((bd_eq eS1).trans ((if_neg c2).trans ((if_pos c3).trans (rfl))))
theorem q_X12_film (S : HSt) (_o : Nat) (a1 : Int32) (a2 : Int32) (a3 : Int32) : shp ((f_X12_film S _o a1 a2 a3).2) = shp S := by
  unfold f_X12_film
  repeat' (first | with_reducible refine shpr1 ?_ | with_reducible rfl | with_reducible refine (q_X12_doTick _ _ _ _ _ _).trans ?_ | with_reducible refine (q_X12_finding _ _ _).trans ?_ | with_reducible refine (q_X12_first _ _).trans ?_ | with_reducible refine (qL_X12_film_91 _ _ _ _ _ _ _).trans ?_ | with_reducible refine (qL_X12_film_108 _ _ _ _ _ _ _ _ _).trans ?_ | with_reducible refine (shp_sI _ _ _ _).trans ?_ | with_reducible refine (shp_sJ _ _ _ _).trans ?_ | with_reducible refine shi ?_ ?_ | with_reducible refine shb (fun _ _ => ?_) | with_reducible refine shiP (fun q : Int64 × HSt => q.2) ?_ ?_ | with_reducible refine shbP (fun q : Int64 × HSt => q.2) (fun _ _ => ?_) | (subst_vars; with_reducible rfl) | (subst_vars; with_reducible refine (q_X12_doTick _ _ _ _ _ _).trans ?_) | (subst_vars; with_reducible refine (q_X12_finding _ _ _).trans ?_) | (subst_vars; with_reducible refine (q_X12_first _ _).trans ?_) | (subst_vars; with_reducible refine (qL_X12_film_91 _ _ _ _ _ _ _).trans ?_) | (subst_vars; with_reducible refine (qL_X12_film_108 _ _ _ _ _ _ _ _ _).trans ?_) | (subst_vars; with_reducible refine (shp_sI _ _ _ _).trans ?_) | (subst_vars; with_reducible refine (shp_sJ _ _ _ _).trans ?_) | (subst_vars; with_reducible refine shi ?_ ?_) | (subst_vars; with_reducible refine shb (fun _ _ => ?_)))
noncomputable def L_X12_image_32 : Nat → HSt → Int32 → Int32 → Int32 × Int32 × HSt
  | 0, S, v1, v2 => (v1, v2, S)
  | n + 1, S, v1, v2 =>
    if (172 : Int32) ≤ v2 then ((pr (v1) (pr (v2) (S)))) else (bd ((sI S 83 (((172 : Int32) * v1) + v2).toNatClampNeg (gI S 68 v2.toNatClampNeg))) fun S1005 => L_X12_image_32 n S1005 v1 (v2 + (1 : Int32)))
def T_X12_image_32 : Nat → HSt → Int32 → Int32 → Prop
  | 0, _, _, _ => False
  | n + 1, S, v1, v2 => ((¬ (172 : Int32) ≤ v2) → vp_in v2 172) ∧ ((¬ (172 : Int32) ≤ v2) → vp_in (((172 : Int32) * v1) + v2) 344) ∧ ((¬ (172 : Int32) ≤ v2) → ∀ S1005 : HSt, (sI S 83 (((172 : Int32) * v1) + v2).toNatClampNeg (gI S 68 v2.toNatClampNeg)) = S1005 → T_X12_image_32 n S1005 v1 (v2 + (1 : Int32)))
theorem qL_X12_image_32 : ∀ (n : Nat) (S : HSt) (v1 : Int32) (v2 : Int32), shp (L_X12_image_32 n S v1 v2).2.2 = shp S := by
  intro n
  induction n with
  | zero => intros; rfl
  | succ n ih =>
    intro S v1 v2
    unfold L_X12_image_32
    repeat' (first | with_reducible refine shpr2 ?_ | with_reducible rfl | with_reducible refine (ih _ _ _).trans ?_ | with_reducible refine (shp_sI _ _ _ _).trans ?_ | with_reducible refine (shp_sJ _ _ _ _).trans ?_ | with_reducible refine shi ?_ ?_ | with_reducible refine shb (fun _ _ => ?_) | with_reducible refine shiP (fun q : Int32 × Int32 × HSt => q.2.2) ?_ ?_ | with_reducible refine shbP (fun q : Int32 × Int32 × HSt => q.2.2) (fun _ _ => ?_) | (subst_vars; with_reducible rfl) | (subst_vars; with_reducible refine (ih _ _ _).trans ?_) | (subst_vars; with_reducible refine (shp_sI _ _ _ _).trans ?_) | (subst_vars; with_reducible refine (shp_sJ _ _ _ _).trans ?_) | (subst_vars; with_reducible refine shi ?_ ?_) | (subst_vars; with_reducible refine shb (fun _ _ => ?_)))
set_option maxRecDepth 100000 in
theorem l_X12_image_32 {p : Program} {l : Launch} {e : Env} {s : State} {m : MethodId} {args : Array Value} {below : List Frame} {meth : Method} {c : Code} {G : GG} {Q : State → Prop} (hC : ACx p s m args meth c cX12_image RX12 3 (some .long)) (hSt : St G s)  : ∀ (n : Nat) (S : HSt) (v1 : Int32) (v2 : Int32), MS S → T_X12_image_32 n S v1 v2 → AW p l e (rmD 1 0 0) s m args below meth c G 3 Q (L_X12_image_32 n S v1 v2).2.2 0 0 63 [(0, .ref 64), (1, .int (L_X12_image_32 n S v1 v2).1), (2, .int (L_X12_image_32 n S v1 v2).2.1)] [] → AW p l e (rmD 1 0 0) s m args below meth c G 3 Q S 0 0 32 [(0, .ref 64), (1, .int v1), (2, .int v2)] [] := by
  intro n
  induction n with
  | zero => intro S v1 v2 _ hT; exact hT.elim
  | succ n ih =>
    intro S v1 v2 hM hT hk
    unfold T_X12_image_32 at hT
    obtain ⟨h0, h1, h2⟩ := hT
    refine aw_iload_n hC 2 dX12_image_32 rfl rfl ?_
    refine aw_sipush (v := 172) hC dX12_image_33 (by decide) ?_
    refine aw_icmp_ge hC 63 dX12_image_36 (by decide) (fun c1004 => ?_) (fun c1004 => ?_)
    · refine aw_sub [0, 1, 2] rfl ?_
      have E : L_X12_image_32 (n + 1) S v1 v2 = _ := (if_pos c1004).trans (rfl)
      rw [E] at hk
      exact hk
    · refine aw_aload_n hC 0 dX12_image_39 rfl rfl ?_
      refine aw_getP (b := 83) hC hSt 46 (ms_lt 64 (by decide) hM) (ms_k 64 12 0 (by decide) hM) rfl (by decide) w_939 rfl (ms_p 46 83 (by decide) hM) dX12_image_40 ?_
      refine aw_sipush (v := 172) hC dX12_image_43 (by decide) ?_
      refine aw_iload_n hC 1 dX12_image_46 rfl rfl ?_
      refine aw_imul hC dX12_image_47 ?_
      refine aw_iload_n hC 2 dX12_image_48 rfl rfl ?_
      refine aw_iadd hC dX12_image_49 ?_
      refine aw_aload_n hC 0 dX12_image_50 rfl rfl ?_
      refine aw_getP (b := 68) hC hSt 5 (ms_lt 64 (by decide) hM) (ms_k 64 12 0 (by decide) hM) rfl (by decide) w_920 rfl (ms_p 5 68 (by decide) hM) dX12_image_51 ?_
      refine aw_iload_n hC 2 dX12_image_54 rfl rfl ?_
      refine aw_iald hC hSt (ms_lt 68 (by decide) hM) (ms_k 68 14 172 (by decide) hM) (vp_len (n := 172) (ms_l 68 14 172 (by decide) hM) (h0 c1004)) dX12_image_55 ?_
      refine aw_iast hC hSt (ms_lt 83 (by decide) hM) (ms_k 83 14 344 (by decide) hM) (vp_len (n := 344) (ms_l 83 14 344 (by decide) hM) (h1 c1004)) dX12_image_56 ?_
      generalize eS1005 : (sI S 83 (((172 : Int32) * v1) + v2).toNatClampNeg (gI S 68 v2.toNatClampNeg)) = S1005
      have hM : MS S1005 := MS.of (by rw [← eS1005]; exact shp_sI _ _ _ _) hM
      refine aw_iinc (v := (v2 + (1 : Int32))) hC 2 [(2, .int _), (0, .ref 64), (1, .int _)] dX12_image_57 rfl rfl (by decide) rfl ?_
      refine aw_goto hC 32 dX12_image_60 (by decide) ?_
      refine aw_sub [1, 2, 0] rfl ?_
      have hTn := (h2 c1004 S1005 eS1005)
      have hMn : MS S1005 := hM
      have E : L_X12_image_32 (n + 1) S v1 v2 = _ := (if_neg c1004).trans ((bd_eq eS1005).trans (rfl))
      rw [E] at hk
      exact ih _ _ _ hMn hTn hk
noncomputable def L_X12_image_65 : Nat → HSt → Int32 → Int32 → Int32 × Int32 × HSt
  | 0, S, v1, v2 => (v1, v2, S)
  | n + 1, S, v1, v2 =>
    if (7 : Int32) ≤ v2 then ((pr (v1) (pr (v2) (S)))) else (bd ((sI S 84 (((7 : Int32) * v1) + v2).toNatClampNeg (gI S 71 v2.toNatClampNeg))) fun S1006 => L_X12_image_65 n S1006 v1 (v2 + (1 : Int32)))
def T_X12_image_65 : Nat → HSt → Int32 → Int32 → Prop
  | 0, _, _, _ => False
  | n + 1, S, v1, v2 => ((¬ (7 : Int32) ≤ v2) → vp_in v2 7) ∧ ((¬ (7 : Int32) ≤ v2) → vp_in (((7 : Int32) * v1) + v2) 14) ∧ ((¬ (7 : Int32) ≤ v2) → ∀ S1006 : HSt, (sI S 84 (((7 : Int32) * v1) + v2).toNatClampNeg (gI S 71 v2.toNatClampNeg)) = S1006 → T_X12_image_65 n S1006 v1 (v2 + (1 : Int32)))
theorem qL_X12_image_65 : ∀ (n : Nat) (S : HSt) (v1 : Int32) (v2 : Int32), shp (L_X12_image_65 n S v1 v2).2.2 = shp S := by
  intro n
  induction n with
  | zero => intros; rfl
  | succ n ih =>
    intro S v1 v2
    unfold L_X12_image_65
    repeat' (first | with_reducible refine shpr2 ?_ | with_reducible rfl | with_reducible refine (ih _ _ _).trans ?_ | with_reducible refine (qL_X12_image_32 _ _ _ _).trans ?_ | with_reducible refine (shp_sI _ _ _ _).trans ?_ | with_reducible refine (shp_sJ _ _ _ _).trans ?_ | with_reducible refine shi ?_ ?_ | with_reducible refine shb (fun _ _ => ?_) | with_reducible refine shiP (fun q : Int32 × Int32 × HSt => q.2.2) ?_ ?_ | with_reducible refine shbP (fun q : Int32 × Int32 × HSt => q.2.2) (fun _ _ => ?_) | (subst_vars; with_reducible rfl) | (subst_vars; with_reducible refine (ih _ _ _).trans ?_) | (subst_vars; with_reducible refine (qL_X12_image_32 _ _ _ _).trans ?_) | (subst_vars; with_reducible refine (shp_sI _ _ _ _).trans ?_) | (subst_vars; with_reducible refine (shp_sJ _ _ _ _).trans ?_) | (subst_vars; with_reducible refine shi ?_ ?_) | (subst_vars; with_reducible refine shb (fun _ _ => ?_)))
set_option maxRecDepth 100000 in
theorem l_X12_image_65 {p : Program} {l : Launch} {e : Env} {s : State} {m : MethodId} {args : Array Value} {below : List Frame} {meth : Method} {c : Code} {G : GG} {Q : State → Prop} (hC : ACx p s m args meth c cX12_image RX12 3 (some .long)) (hSt : St G s)  : ∀ (n : Nat) (S : HSt) (v1 : Int32) (v2 : Int32), MS S → T_X12_image_65 n S v1 v2 → AW p l e (rmD 1 0 0) s m args below meth c G 3 Q (L_X12_image_65 n S v1 v2).2.2 0 0 94 [(0, .ref 64), (1, .int (L_X12_image_65 n S v1 v2).1), (2, .int (L_X12_image_65 n S v1 v2).2.1)] [] → AW p l e (rmD 1 0 0) s m args below meth c G 3 Q S 0 0 65 [(0, .ref 64), (1, .int v1), (2, .int v2)] [] := by
  intro n
  induction n with
  | zero => intro S v1 v2 _ hT; exact hT.elim
  | succ n ih =>
    intro S v1 v2 hM hT hk
    unfold T_X12_image_65 at hT
    obtain ⟨h0, h1, h2⟩ := hT
    refine aw_iload_n hC 2 dX12_image_65 rfl rfl ?_
    refine aw_bipush (v := 7) hC dX12_image_66 (by decide) ?_
    refine aw_icmp_ge hC 94 dX12_image_68 (by decide) (fun c1005 => ?_) (fun c1005 => ?_)
    · refine aw_sub [0, 1, 2] rfl ?_
      have E : L_X12_image_65 (n + 1) S v1 v2 = _ := (if_pos c1005).trans (rfl)
      rw [E] at hk
      exact hk
    · refine aw_aload_n hC 0 dX12_image_71 rfl rfl ?_
      refine aw_getP (b := 84) hC hSt 47 (ms_lt 64 (by decide) hM) (ms_k 64 12 0 (by decide) hM) rfl (by decide) w_940 rfl (ms_p 47 84 (by decide) hM) dX12_image_72 ?_
      refine aw_bipush (v := 7) hC dX12_image_75 (by decide) ?_
      refine aw_iload_n hC 1 dX12_image_77 rfl rfl ?_
      refine aw_imul hC dX12_image_78 ?_
      refine aw_iload_n hC 2 dX12_image_79 rfl rfl ?_
      refine aw_iadd hC dX12_image_80 ?_
      refine aw_aload_n hC 0 dX12_image_81 rfl rfl ?_
      refine aw_getP (b := 71) hC hSt 27 (ms_lt 64 (by decide) hM) (ms_k 64 12 0 (by decide) hM) rfl (by decide) w_925 rfl (ms_p 27 71 (by decide) hM) dX12_image_82 ?_
      refine aw_iload_n hC 2 dX12_image_85 rfl rfl ?_
      refine aw_iald hC hSt (ms_lt 71 (by decide) hM) (ms_k 71 14 7 (by decide) hM) (vp_len (n := 7) (ms_l 71 14 7 (by decide) hM) (h0 c1005)) dX12_image_86 ?_
      refine aw_iast hC hSt (ms_lt 84 (by decide) hM) (ms_k 84 14 14 (by decide) hM) (vp_len (n := 14) (ms_l 84 14 14 (by decide) hM) (h1 c1005)) dX12_image_87 ?_
      generalize eS1006 : (sI S 84 (((7 : Int32) * v1) + v2).toNatClampNeg (gI S 71 v2.toNatClampNeg)) = S1006
      have hM : MS S1006 := MS.of (by rw [← eS1006]; exact shp_sI _ _ _ _) hM
      refine aw_iinc (v := (v2 + (1 : Int32))) hC 2 [(2, .int _), (0, .ref 64), (1, .int _)] dX12_image_88 rfl rfl (by decide) rfl ?_
      refine aw_goto hC 65 dX12_image_91 (by decide) ?_
      refine aw_sub [1, 2, 0] rfl ?_
      have hTn := (h2 c1005 S1006 eS1006)
      have hMn : MS S1006 := hM
      have E : L_X12_image_65 (n + 1) S v1 v2 = _ := (if_neg c1005).trans ((bd_eq eS1006).trans (rfl))
      rw [E] at hk
      exact ih _ _ _ hMn hTn hk
noncomputable def f_X12_image (S : HSt) (_o : Nat) (a1 : Int32) : Int64 × HSt := bd ((sI S 64 0 (0 : Int32))) fun S1 => if (f_X12_in S1 a1.toInt64 (0 : Int64) (1 : Int64)) = 0 then (pr ((-9000000000000000001 : Int64)) (S1)) else (if (gI S1 64 7) = 0 then (pr ((-9000000000000000002 : Int64)) (S1)) else (bd (L_X12_image_32 1000 S1 a1 (0 : Int32)) fun r4 => bd (L_X12_image_65 1000 r4.2.2 r4.1 (0 : Int32)) fun r5 => bd ((sI r5.2.2 85 r5.1.toNatClampNeg (gI r5.2.2 64 18))) fun S6 => bd ((sI S6 86 r5.1.toNatClampNeg (gI S6 64 19))) fun S7 => bd ((sI S7 82 r5.1.toNatClampNeg (vp_nar .boolean (1 : Int32)))) fun S8 => pr ((1 : Int64)) (S8)))
def p_X12_image (S : HSt) (_o : Nat) (a1 : Int32) : Prop := (∀ S1 : HSt, (sI S 64 0 (0 : Int32)) = S1 → (¬ (f_X12_in S1 a1.toInt64 (0 : Int64) (1 : Int64)) = 0) → (¬ (gI S1 64 7) = 0) → T_X12_image_32 1000 S1 a1 (0 : Int32)) ∧ (∀ S1 : HSt, (sI S 64 0 (0 : Int32)) = S1 → (¬ (f_X12_in S1 a1.toInt64 (0 : Int64) (1 : Int64)) = 0) → (¬ (gI S1 64 7) = 0) → ∀ r4, L_X12_image_32 1000 S1 a1 (0 : Int32) = r4 → T_X12_image_65 1000 r4.2.2 r4.1 (0 : Int32)) ∧ (∀ S1 : HSt, (sI S 64 0 (0 : Int32)) = S1 → (¬ (f_X12_in S1 a1.toInt64 (0 : Int64) (1 : Int64)) = 0) → (¬ (gI S1 64 7) = 0) → ∀ r4, L_X12_image_32 1000 S1 a1 (0 : Int32) = r4 → ∀ r5, L_X12_image_65 1000 r4.2.2 r4.1 (0 : Int32) = r5 → vp_in r5.1 2) ∧ (∀ S1 : HSt, (sI S 64 0 (0 : Int32)) = S1 → (¬ (f_X12_in S1 a1.toInt64 (0 : Int64) (1 : Int64)) = 0) → (¬ (gI S1 64 7) = 0) → ∀ r4, L_X12_image_32 1000 S1 a1 (0 : Int32) = r4 → ∀ r5, L_X12_image_65 1000 r4.2.2 r4.1 (0 : Int32) = r5 → ∀ S6 : HSt, (sI r5.2.2 85 r5.1.toNatClampNeg (gI r5.2.2 64 18)) = S6 → vp_in r5.1 2) ∧ (∀ S1 : HSt, (sI S 64 0 (0 : Int32)) = S1 → (¬ (f_X12_in S1 a1.toInt64 (0 : Int64) (1 : Int64)) = 0) → (¬ (gI S1 64 7) = 0) → ∀ r4, L_X12_image_32 1000 S1 a1 (0 : Int32) = r4 → ∀ r5, L_X12_image_65 1000 r4.2.2 r4.1 (0 : Int32) = r5 → ∀ S6 : HSt, (sI r5.2.2 85 r5.1.toNatClampNeg (gI r5.2.2 64 18)) = S6 → ∀ S7 : HSt, (sI S6 86 r5.1.toNatClampNeg (gI S6 64 19)) = S7 → vp_in r5.1 2)
set_option maxRecDepth 100000 in
theorem t_X12_image (G : GG) (l : Launch) {S : HSt} (hM : MS S) (a1 : Int32) (hp : p_X12_image S 64 a1) : AM G l yX12_image cX12_image 3 (some .long) (rmD 1 0 0) 0 0 [.ref 64, .int a1] S (FP (some (.long (f_X12_image S 64 a1).1)) ((f_X12_image S 64 a1).2)) := by
  obtain ⟨h0, h1, h2, h3, h4⟩ := hp
  refine AM.mk (by decide) (Nat.le_of_ble_eq_true rfl) ?_
  intro p e s m below meth c hC hSt _
  refine aw_aload_n hC 0 dX12_image_0 rfl rfl ?_
  refine aw_iconst (v := 0) hC dX12_image_1 (by decide) ?_
  refine aw_putI hC hSt 0 (ms_lt 64 (by decide) hM) (ms_k 64 12 0 (by decide) hM) rfl (by decide) w_955 rfl rfl rfl rfl dX12_image_2 ?_
  generalize eS1 : (sI S 64 0 (0 : Int32)) = S1
  have hM : MS S1 := MS.of (by rw [← eS1]; exact shp_sI _ _ _ _) hM
  refine aw_iload_n hC 1 dX12_image_5 rfl rfl ?_
  refine aw_i2l hC dX12_image_6 ?_
  refine aw_lconst (v := 0) hC dX12_image_7 (by decide) ?_
  refine aw_lconst (v := 1) hC dX12_image_8 (by decide) ?_
  refine aw_cS3r hC hSt (t_X12_in G l  _ _ _) w_945 w_951 w_952 w_953 rfl rfl (by decide +kernel) ⟨Nat.le_of_ble_eq_true rfl, Nat.le_of_ble_eq_true rfl⟩ (Nat.le_of_ble_eq_true rfl) dX12_image_9 ⟨Nat.zero_le _, Nat.zero_le _⟩ ?_
  refine aw_if_ne hC 19 dX12_image_12 (by decide) (fun c2 => ?_) (fun c2 => ?_)
  · refine aw_aload_n hC 0 dX12_image_19 rfl rfl ?_
    refine aw_getI hC hSt 7 (ms_lt 64 (by decide) hM) (ms_k 64 12 0 (by decide) hM) rfl (by decide) w_1051 rfl dX12_image_20 ?_
    refine aw_if_ne hC 30 dX12_image_23 (by decide) (fun c3 => ?_) (fun c3 => ?_)
    · refine aw_iconst (v := 0) hC dX12_image_30 (by decide) ?_
      refine aw_istore_n hC [(2, .int _), (0, .ref 64), (1, .int _)] dX12_image_31 rfl (by decide) rfl ?_
      refine aw_sub [1, 2, 0] rfl ?_
      refine l_X12_image_32 hC hSt 1000 _ _ _ hM (h0 S1 eS1 c2 c3) ?_
      generalize er4 : L_X12_image_32 1000 S1 a1 (0 : Int32) = r4
      have hM : MS r4.2.2 := MS.of (by rw [← er4]; exact qL_X12_image_32 _ _ _ _) hM
      refine aw_iconst (v := 0) hC dX12_image_63 (by decide) ?_
      refine aw_istore_n hC [(2, .int _), (0, .ref 64), (1, .int _)] dX12_image_64 rfl (by decide) rfl ?_
      refine aw_sub [1, 2, 0] rfl ?_
      refine l_X12_image_65 hC hSt 1000 _ _ _ hM (h1 S1 eS1 c2 c3 r4 er4) ?_
      generalize er5 : L_X12_image_65 1000 r4.2.2 r4.1 (0 : Int32) = r5
      have hM : MS r5.2.2 := MS.of (by rw [← er5]; exact qL_X12_image_65 _ _ _ _) hM
      refine aw_aload_n hC 0 dX12_image_94 rfl rfl ?_
      refine aw_getP (b := 85) hC hSt 48 (ms_lt 64 (by decide) hM) (ms_k 64 12 0 (by decide) hM) rfl (by decide) w_941 rfl (ms_p 48 85 (by decide) hM) dX12_image_95 ?_
      refine aw_iload_n hC 1 dX12_image_98 rfl rfl ?_
      refine aw_aload_n hC 0 dX12_image_99 rfl rfl ?_
      refine aw_getI hC hSt 18 (ms_lt 64 (by decide) hM) (ms_k 64 12 0 (by decide) hM) rfl (by decide) w_1052 rfl dX12_image_100 ?_
      refine aw_iast hC hSt (ms_lt 85 (by decide) hM) (ms_k 85 14 2 (by decide) hM) (vp_len (n := 2) (ms_l 85 14 2 (by decide) hM) (h2 S1 eS1 c2 c3 r4 er4 r5 er5)) dX12_image_103 ?_
      generalize eS6 : (sI r5.2.2 85 r5.1.toNatClampNeg (gI r5.2.2 64 18)) = S6
      have hM : MS S6 := MS.of (by rw [← eS6]; exact shp_sI _ _ _ _) hM
      refine aw_aload_n hC 0 dX12_image_104 rfl rfl ?_
      refine aw_getP (b := 86) hC hSt 49 (ms_lt 64 (by decide) hM) (ms_k 64 12 0 (by decide) hM) rfl (by decide) w_942 rfl (ms_p 49 86 (by decide) hM) dX12_image_105 ?_
      refine aw_iload_n hC 1 dX12_image_108 rfl rfl ?_
      refine aw_aload_n hC 0 dX12_image_109 rfl rfl ?_
      refine aw_getI hC hSt 19 (ms_lt 64 (by decide) hM) (ms_k 64 12 0 (by decide) hM) rfl (by decide) w_924 rfl dX12_image_110 ?_
      refine aw_iast hC hSt (ms_lt 86 (by decide) hM) (ms_k 86 14 2 (by decide) hM) (vp_len (n := 2) (ms_l 86 14 2 (by decide) hM) (h3 S1 eS1 c2 c3 r4 er4 r5 er5 S6 eS6)) dX12_image_113 ?_
      generalize eS7 : (sI S6 86 r5.1.toNatClampNeg (gI S6 64 19)) = S7
      have hM : MS S7 := MS.of (by rw [← eS7]; exact shp_sI _ _ _ _) hM
      refine aw_aload_n hC 0 dX12_image_114 rfl rfl ?_
      refine aw_getP (b := 82) hC hSt 45 (ms_lt 64 (by decide) hM) (ms_k 64 12 0 (by decide) hM) rfl (by decide) w_938 rfl (ms_p 45 82 (by decide) hM) dX12_image_115 ?_
      refine aw_iload_n hC 1 dX12_image_118 rfl rfl ?_
      refine aw_iconst (v := 1) hC dX12_image_119 (by decide) ?_
      refine aw_zast hC hSt (ms_lt 82 (by decide) hM) (ms_k 82 16 2 (by decide) hM) (vp_len (n := 2) (ms_l 82 16 2 (by decide) hM) (h4 S1 eS1 c2 c3 r4 er4 r5 er5 S6 eS6 S7 eS7)) dX12_image_120 ?_
      generalize eS8 : (sI S7 82 r5.1.toNatClampNeg (vp_nar .boolean (1 : Int32))) = S8
      have hM : MS S8 := MS.of (by rw [← eS8]; exact shp_sI _ _ _ _) hM
      refine aw_lconst (v := 1) hC dX12_image_121 (by decide) ?_
      refine aw_lret hC dX12_image_122 (Nat.le_refl _) (Nat.le_refl _) ?_
      exact FP.qJ ((bd_eq eS1).trans ((if_neg c2).trans ((if_neg c3).trans ((bd_eq er4).trans ((bd_eq er5).trans ((bd_eq eS6).trans ((bd_eq eS7).trans ((bd_eq eS8).trans (rfl)))))))))
    · refine aw_ldc2 (v := -9000000000000000002) hC w_1151 dX12_image_26 ?_
      refine aw_lret hC dX12_image_29 (Nat.le_refl _) (Nat.le_refl _) ?_
      exact FP.qJ ((bd_eq eS1).trans ((if_neg c2).trans ((if_pos c3).trans (rfl))))
  · refine aw_ldc2 (v := -9000000000000000001) hC w_957 dX12_image_15 ?_
    refine aw_lret hC dX12_image_18 (Nat.le_refl _) (Nat.le_refl _) ?_
    exact FP.qJ ((bd_eq eS1).trans ((if_pos c2).trans (rfl)))
theorem q_X12_image (S : HSt) (_o : Nat) (a1 : Int32) : shp ((f_X12_image S _o a1).2) = shp S := by
  unfold f_X12_image
  repeat' (first | with_reducible refine shpr1 ?_ | with_reducible rfl | with_reducible refine (qL_X12_image_32 _ _ _ _).trans ?_ | with_reducible refine (qL_X12_image_65 _ _ _ _).trans ?_ | with_reducible refine (shp_sI _ _ _ _).trans ?_ | with_reducible refine (shp_sJ _ _ _ _).trans ?_ | with_reducible refine shi ?_ ?_ | with_reducible refine shb (fun _ _ => ?_) | with_reducible refine shiP (fun q : Int64 × HSt => q.2) ?_ ?_ | with_reducible refine shbP (fun q : Int64 × HSt => q.2) (fun _ _ => ?_) | (subst_vars; with_reducible rfl) | (subst_vars; with_reducible refine (qL_X12_image_32 _ _ _ _).trans ?_) | (subst_vars; with_reducible refine (qL_X12_image_65 _ _ _ _).trans ?_) | (subst_vars; with_reducible refine (shp_sI _ _ _ _).trans ?_) | (subst_vars; with_reducible refine (shp_sJ _ _ _ _).trans ?_) | (subst_vars; with_reducible refine shi ?_ ?_) | (subst_vars; with_reducible refine shb (fun _ _ => ?_)))
noncomputable def L_X12_restore_34 : Nat → HSt → Int32 → Int32 → Int32 × Int32 × HSt
  | 0, S, v1, v2 => (v1, v2, S)
  | n + 1, S, v1, v2 =>
    if (172 : Int32) ≤ v2 then ((pr (v1) (pr (v2) (S)))) else (bd ((sI S 68 v2.toNatClampNeg (gI S 83 (((172 : Int32) * v1) + v2).toNatClampNeg))) fun S1005 => L_X12_restore_34 n S1005 v1 (v2 + (1 : Int32)))
def T_X12_restore_34 : Nat → HSt → Int32 → Int32 → Prop
  | 0, _, _, _ => False
  | n + 1, S, v1, v2 => ((¬ (172 : Int32) ≤ v2) → vp_in (((172 : Int32) * v1) + v2) 344) ∧ ((¬ (172 : Int32) ≤ v2) → vp_in v2 172) ∧ ((¬ (172 : Int32) ≤ v2) → ∀ S1005 : HSt, (sI S 68 v2.toNatClampNeg (gI S 83 (((172 : Int32) * v1) + v2).toNatClampNeg)) = S1005 → T_X12_restore_34 n S1005 v1 (v2 + (1 : Int32)))
theorem qL_X12_restore_34 : ∀ (n : Nat) (S : HSt) (v1 : Int32) (v2 : Int32), shp (L_X12_restore_34 n S v1 v2).2.2 = shp S := by
  intro n
  induction n with
  | zero => intros; rfl
  | succ n ih =>
    intro S v1 v2
    unfold L_X12_restore_34
    repeat' (first | with_reducible refine shpr2 ?_ | with_reducible rfl | with_reducible refine (ih _ _ _).trans ?_ | with_reducible refine (shp_sI _ _ _ _).trans ?_ | with_reducible refine (shp_sJ _ _ _ _).trans ?_ | with_reducible refine shi ?_ ?_ | with_reducible refine shb (fun _ _ => ?_) | with_reducible refine shiP (fun q : Int32 × Int32 × HSt => q.2.2) ?_ ?_ | with_reducible refine shbP (fun q : Int32 × Int32 × HSt => q.2.2) (fun _ _ => ?_) | (subst_vars; with_reducible rfl) | (subst_vars; with_reducible refine (ih _ _ _).trans ?_) | (subst_vars; with_reducible refine (shp_sI _ _ _ _).trans ?_) | (subst_vars; with_reducible refine (shp_sJ _ _ _ _).trans ?_) | (subst_vars; with_reducible refine shi ?_ ?_) | (subst_vars; with_reducible refine shb (fun _ _ => ?_)))
set_option maxRecDepth 100000 in
theorem l_X12_restore_34 {p : Program} {l : Launch} {e : Env} {s : State} {m : MethodId} {args : Array Value} {below : List Frame} {meth : Method} {c : Code} {G : GG} {Q : State → Prop} (hC : ACx p s m args meth c cX12_restore RX12 3 (some .long)) (hSt : St G s)  : ∀ (n : Nat) (S : HSt) (v1 : Int32) (v2 : Int32), MS S → T_X12_restore_34 n S v1 v2 → AW p l e (rmD 1 0 0) s m args below meth c G 3 Q (L_X12_restore_34 n S v1 v2).2.2 0 0 65 [(0, .ref 64), (1, .int (L_X12_restore_34 n S v1 v2).1), (2, .int (L_X12_restore_34 n S v1 v2).2.1)] [] → AW p l e (rmD 1 0 0) s m args below meth c G 3 Q S 0 0 34 [(0, .ref 64), (1, .int v1), (2, .int v2)] [] := by
  intro n
  induction n with
  | zero => intro S v1 v2 _ hT; exact hT.elim
  | succ n ih =>
    intro S v1 v2 hM hT hk
    unfold T_X12_restore_34 at hT
    obtain ⟨h0, h1, h2⟩ := hT
    refine aw_iload_n hC 2 dX12_restore_34 rfl rfl ?_
    refine aw_sipush (v := 172) hC dX12_restore_35 (by decide) ?_
    refine aw_icmp_ge hC 65 dX12_restore_38 (by decide) (fun c1004 => ?_) (fun c1004 => ?_)
    · refine aw_sub [0, 1, 2] rfl ?_
      have E : L_X12_restore_34 (n + 1) S v1 v2 = _ := (if_pos c1004).trans (rfl)
      rw [E] at hk
      exact hk
    · refine aw_aload_n hC 0 dX12_restore_41 rfl rfl ?_
      refine aw_getP (b := 68) hC hSt 5 (ms_lt 64 (by decide) hM) (ms_k 64 12 0 (by decide) hM) rfl (by decide) w_920 rfl (ms_p 5 68 (by decide) hM) dX12_restore_42 ?_
      refine aw_iload_n hC 2 dX12_restore_45 rfl rfl ?_
      refine aw_aload_n hC 0 dX12_restore_46 rfl rfl ?_
      refine aw_getP (b := 83) hC hSt 46 (ms_lt 64 (by decide) hM) (ms_k 64 12 0 (by decide) hM) rfl (by decide) w_939 rfl (ms_p 46 83 (by decide) hM) dX12_restore_47 ?_
      refine aw_sipush (v := 172) hC dX12_restore_50 (by decide) ?_
      refine aw_iload_n hC 1 dX12_restore_53 rfl rfl ?_
      refine aw_imul hC dX12_restore_54 ?_
      refine aw_iload_n hC 2 dX12_restore_55 rfl rfl ?_
      refine aw_iadd hC dX12_restore_56 ?_
      refine aw_iald hC hSt (ms_lt 83 (by decide) hM) (ms_k 83 14 344 (by decide) hM) (vp_len (n := 344) (ms_l 83 14 344 (by decide) hM) (h0 c1004)) dX12_restore_57 ?_
      refine aw_iast hC hSt (ms_lt 68 (by decide) hM) (ms_k 68 14 172 (by decide) hM) (vp_len (n := 172) (ms_l 68 14 172 (by decide) hM) (h1 c1004)) dX12_restore_58 ?_
      generalize eS1005 : (sI S 68 v2.toNatClampNeg (gI S 83 (((172 : Int32) * v1) + v2).toNatClampNeg)) = S1005
      have hM : MS S1005 := MS.of (by rw [← eS1005]; exact shp_sI _ _ _ _) hM
      refine aw_iinc (v := (v2 + (1 : Int32))) hC 2 [(2, .int _), (0, .ref 64), (1, .int _)] dX12_restore_59 rfl rfl (by decide) rfl ?_
      refine aw_goto hC 34 dX12_restore_62 (by decide) ?_
      refine aw_sub [1, 2, 0] rfl ?_
      have hTn := (h2 c1004 S1005 eS1005)
      have hMn : MS S1005 := hM
      have E : L_X12_restore_34 (n + 1) S v1 v2 = _ := (if_neg c1004).trans ((bd_eq eS1005).trans (rfl))
      rw [E] at hk
      exact ih _ _ _ hMn hTn hk
noncomputable def L_X12_restore_67 : Nat → HSt → Int32 → Int32 → Int32 × Int32 × HSt
  | 0, S, v1, v2 => (v1, v2, S)
  | n + 1, S, v1, v2 =>
    if (7 : Int32) ≤ v2 then ((pr (v1) (pr (v2) (S)))) else (bd ((sI S 71 v2.toNatClampNeg (gI S 84 (((7 : Int32) * v1) + v2).toNatClampNeg))) fun S1006 => L_X12_restore_67 n S1006 v1 (v2 + (1 : Int32)))
def T_X12_restore_67 : Nat → HSt → Int32 → Int32 → Prop
  | 0, _, _, _ => False
  | n + 1, S, v1, v2 => ((¬ (7 : Int32) ≤ v2) → vp_in (((7 : Int32) * v1) + v2) 14) ∧ ((¬ (7 : Int32) ≤ v2) → vp_in v2 7) ∧ ((¬ (7 : Int32) ≤ v2) → ∀ S1006 : HSt, (sI S 71 v2.toNatClampNeg (gI S 84 (((7 : Int32) * v1) + v2).toNatClampNeg)) = S1006 → T_X12_restore_67 n S1006 v1 (v2 + (1 : Int32)))
theorem qL_X12_restore_67 : ∀ (n : Nat) (S : HSt) (v1 : Int32) (v2 : Int32), shp (L_X12_restore_67 n S v1 v2).2.2 = shp S := by
  intro n
  induction n with
  | zero => intros; rfl
  | succ n ih =>
    intro S v1 v2
    unfold L_X12_restore_67
    repeat' (first | with_reducible refine shpr2 ?_ | with_reducible rfl | with_reducible refine (ih _ _ _).trans ?_ | with_reducible refine (qL_X12_restore_34 _ _ _ _).trans ?_ | with_reducible refine (shp_sI _ _ _ _).trans ?_ | with_reducible refine (shp_sJ _ _ _ _).trans ?_ | with_reducible refine shi ?_ ?_ | with_reducible refine shb (fun _ _ => ?_) | with_reducible refine shiP (fun q : Int32 × Int32 × HSt => q.2.2) ?_ ?_ | with_reducible refine shbP (fun q : Int32 × Int32 × HSt => q.2.2) (fun _ _ => ?_) | (subst_vars; with_reducible rfl) | (subst_vars; with_reducible refine (ih _ _ _).trans ?_) | (subst_vars; with_reducible refine (qL_X12_restore_34 _ _ _ _).trans ?_) | (subst_vars; with_reducible refine (shp_sI _ _ _ _).trans ?_) | (subst_vars; with_reducible refine (shp_sJ _ _ _ _).trans ?_) | (subst_vars; with_reducible refine shi ?_ ?_) | (subst_vars; with_reducible refine shb (fun _ _ => ?_)))
set_option maxRecDepth 100000 in
theorem l_X12_restore_67 {p : Program} {l : Launch} {e : Env} {s : State} {m : MethodId} {args : Array Value} {below : List Frame} {meth : Method} {c : Code} {G : GG} {Q : State → Prop} (hC : ACx p s m args meth c cX12_restore RX12 3 (some .long)) (hSt : St G s)  : ∀ (n : Nat) (S : HSt) (v1 : Int32) (v2 : Int32), MS S → T_X12_restore_67 n S v1 v2 → AW p l e (rmD 1 0 0) s m args below meth c G 3 Q (L_X12_restore_67 n S v1 v2).2.2 0 0 96 [(0, .ref 64), (1, .int (L_X12_restore_67 n S v1 v2).1), (2, .int (L_X12_restore_67 n S v1 v2).2.1)] [] → AW p l e (rmD 1 0 0) s m args below meth c G 3 Q S 0 0 67 [(0, .ref 64), (1, .int v1), (2, .int v2)] [] := by
  intro n
  induction n with
  | zero => intro S v1 v2 _ hT; exact hT.elim
  | succ n ih =>
    intro S v1 v2 hM hT hk
    unfold T_X12_restore_67 at hT
    obtain ⟨h0, h1, h2⟩ := hT
    refine aw_iload_n hC 2 dX12_restore_67 rfl rfl ?_
    refine aw_bipush (v := 7) hC dX12_restore_68 (by decide) ?_
    refine aw_icmp_ge hC 96 dX12_restore_70 (by decide) (fun c1005 => ?_) (fun c1005 => ?_)
    · refine aw_sub [0, 1, 2] rfl ?_
      have E : L_X12_restore_67 (n + 1) S v1 v2 = _ := (if_pos c1005).trans (rfl)
      rw [E] at hk
      exact hk
    · refine aw_aload_n hC 0 dX12_restore_73 rfl rfl ?_
      refine aw_getP (b := 71) hC hSt 27 (ms_lt 64 (by decide) hM) (ms_k 64 12 0 (by decide) hM) rfl (by decide) w_925 rfl (ms_p 27 71 (by decide) hM) dX12_restore_74 ?_
      refine aw_iload_n hC 2 dX12_restore_77 rfl rfl ?_
      refine aw_aload_n hC 0 dX12_restore_78 rfl rfl ?_
      refine aw_getP (b := 84) hC hSt 47 (ms_lt 64 (by decide) hM) (ms_k 64 12 0 (by decide) hM) rfl (by decide) w_940 rfl (ms_p 47 84 (by decide) hM) dX12_restore_79 ?_
      refine aw_bipush (v := 7) hC dX12_restore_82 (by decide) ?_
      refine aw_iload_n hC 1 dX12_restore_84 rfl rfl ?_
      refine aw_imul hC dX12_restore_85 ?_
      refine aw_iload_n hC 2 dX12_restore_86 rfl rfl ?_
      refine aw_iadd hC dX12_restore_87 ?_
      refine aw_iald hC hSt (ms_lt 84 (by decide) hM) (ms_k 84 14 14 (by decide) hM) (vp_len (n := 14) (ms_l 84 14 14 (by decide) hM) (h0 c1005)) dX12_restore_88 ?_
      refine aw_iast hC hSt (ms_lt 71 (by decide) hM) (ms_k 71 14 7 (by decide) hM) (vp_len (n := 7) (ms_l 71 14 7 (by decide) hM) (h1 c1005)) dX12_restore_89 ?_
      generalize eS1006 : (sI S 71 v2.toNatClampNeg (gI S 84 (((7 : Int32) * v1) + v2).toNatClampNeg)) = S1006
      have hM : MS S1006 := MS.of (by rw [← eS1006]; exact shp_sI _ _ _ _) hM
      refine aw_iinc (v := (v2 + (1 : Int32))) hC 2 [(2, .int _), (0, .ref 64), (1, .int _)] dX12_restore_90 rfl rfl (by decide) rfl ?_
      refine aw_goto hC 67 dX12_restore_93 (by decide) ?_
      refine aw_sub [1, 2, 0] rfl ?_
      have hTn := (h2 c1005 S1006 eS1006)
      have hMn : MS S1006 := hM
      have E : L_X12_restore_67 (n + 1) S v1 v2 = _ := (if_neg c1005).trans ((bd_eq eS1006).trans (rfl))
      rw [E] at hk
      exact ih _ _ _ hMn hTn hk
noncomputable def f_X12_restore (S : HSt) (_o : Nat) (a1 : Int32) : Int64 × HSt := bd ((sI S 64 0 (0 : Int32))) fun S1 => if (f_X12_in S1 a1.toInt64 (0 : Int64) (1 : Int64)) = 0 then (pr ((-9000000000000000001 : Int64)) (S1)) else (if (gI S1 82 a1.toNatClampNeg) = 0 then (pr ((-9000000000000000002 : Int64)) (S1)) else (bd (L_X12_restore_34 1000 S1 a1 (0 : Int32)) fun r4 => bd (L_X12_restore_67 1000 r4.2.2 r4.1 (0 : Int32)) fun r5 => bd ((sI r5.2.2 64 18 (gI r5.2.2 85 r5.1.toNatClampNeg))) fun S6 => bd ((sI S6 64 19 (gI S6 86 r5.1.toNatClampNeg))) fun S7 => pr ((1 : Int64)) (S7)))
def p_X12_restore (S : HSt) (_o : Nat) (a1 : Int32) : Prop := (∀ S1 : HSt, (sI S 64 0 (0 : Int32)) = S1 → (¬ (f_X12_in S1 a1.toInt64 (0 : Int64) (1 : Int64)) = 0) → vp_in a1 2) ∧ (∀ S1 : HSt, (sI S 64 0 (0 : Int32)) = S1 → (¬ (f_X12_in S1 a1.toInt64 (0 : Int64) (1 : Int64)) = 0) → (¬ (gI S1 82 a1.toNatClampNeg) = 0) → T_X12_restore_34 1000 S1 a1 (0 : Int32)) ∧ (∀ S1 : HSt, (sI S 64 0 (0 : Int32)) = S1 → (¬ (f_X12_in S1 a1.toInt64 (0 : Int64) (1 : Int64)) = 0) → (¬ (gI S1 82 a1.toNatClampNeg) = 0) → ∀ r4, L_X12_restore_34 1000 S1 a1 (0 : Int32) = r4 → T_X12_restore_67 1000 r4.2.2 r4.1 (0 : Int32)) ∧ (∀ S1 : HSt, (sI S 64 0 (0 : Int32)) = S1 → (¬ (f_X12_in S1 a1.toInt64 (0 : Int64) (1 : Int64)) = 0) → (¬ (gI S1 82 a1.toNatClampNeg) = 0) → ∀ r4, L_X12_restore_34 1000 S1 a1 (0 : Int32) = r4 → ∀ r5, L_X12_restore_67 1000 r4.2.2 r4.1 (0 : Int32) = r5 → vp_in r5.1 2) ∧ (∀ S1 : HSt, (sI S 64 0 (0 : Int32)) = S1 → (¬ (f_X12_in S1 a1.toInt64 (0 : Int64) (1 : Int64)) = 0) → (¬ (gI S1 82 a1.toNatClampNeg) = 0) → ∀ r4, L_X12_restore_34 1000 S1 a1 (0 : Int32) = r4 → ∀ r5, L_X12_restore_67 1000 r4.2.2 r4.1 (0 : Int32) = r5 → ∀ S6 : HSt, (sI r5.2.2 64 18 (gI r5.2.2 85 r5.1.toNatClampNeg)) = S6 → vp_in r5.1 2)
set_option maxRecDepth 100000 in
theorem t_X12_restore (G : GG) (l : Launch) {S : HSt} (hM : MS S) (a1 : Int32) (hp : p_X12_restore S 64 a1) : AM G l yX12_restore cX12_restore 3 (some .long) (rmD 1 0 0) 0 0 [.ref 64, .int a1] S (FP (some (.long (f_X12_restore S 64 a1).1)) ((f_X12_restore S 64 a1).2)) := by
  obtain ⟨h0, h1, h2, h3, h4⟩ := hp
  refine AM.mk (by decide) (Nat.le_of_ble_eq_true rfl) ?_
  intro p e s m below meth c hC hSt _
  refine aw_aload_n hC 0 dX12_restore_0 rfl rfl ?_
  refine aw_iconst (v := 0) hC dX12_restore_1 (by decide) ?_
  refine aw_putI hC hSt 0 (ms_lt 64 (by decide) hM) (ms_k 64 12 0 (by decide) hM) rfl (by decide) w_955 rfl rfl rfl rfl dX12_restore_2 ?_
  generalize eS1 : (sI S 64 0 (0 : Int32)) = S1
  have hM : MS S1 := MS.of (by rw [← eS1]; exact shp_sI _ _ _ _) hM
  refine aw_iload_n hC 1 dX12_restore_5 rfl rfl ?_
  refine aw_i2l hC dX12_restore_6 ?_
  refine aw_lconst (v := 0) hC dX12_restore_7 (by decide) ?_
  refine aw_lconst (v := 1) hC dX12_restore_8 (by decide) ?_
  refine aw_cS3r hC hSt (t_X12_in G l  _ _ _) w_945 w_951 w_952 w_953 rfl rfl (by decide +kernel) ⟨Nat.le_of_ble_eq_true rfl, Nat.le_of_ble_eq_true rfl⟩ (Nat.le_of_ble_eq_true rfl) dX12_restore_9 ⟨Nat.zero_le _, Nat.zero_le _⟩ ?_
  refine aw_if_ne hC 19 dX12_restore_12 (by decide) (fun c2 => ?_) (fun c2 => ?_)
  · refine aw_aload_n hC 0 dX12_restore_19 rfl rfl ?_
    refine aw_getP (b := 82) hC hSt 45 (ms_lt 64 (by decide) hM) (ms_k 64 12 0 (by decide) hM) rfl (by decide) w_938 rfl (ms_p 45 82 (by decide) hM) dX12_restore_20 ?_
    refine aw_iload_n hC 1 dX12_restore_23 rfl rfl ?_
    refine aw_zald hC hSt (ms_lt 82 (by decide) hM) (ms_k 82 16 2 (by decide) hM) (vp_len (n := 2) (ms_l 82 16 2 (by decide) hM) (h0 S1 eS1 c2)) dX12_restore_24 ?_
    refine aw_if_ne hC 32 dX12_restore_25 (by decide) (fun c3 => ?_) (fun c3 => ?_)
    · refine aw_iconst (v := 0) hC dX12_restore_32 (by decide) ?_
      refine aw_istore_n hC [(2, .int _), (0, .ref 64), (1, .int _)] dX12_restore_33 rfl (by decide) rfl ?_
      refine aw_sub [1, 2, 0] rfl ?_
      refine l_X12_restore_34 hC hSt 1000 _ _ _ hM (h1 S1 eS1 c2 c3) ?_
      generalize er4 : L_X12_restore_34 1000 S1 a1 (0 : Int32) = r4
      have hM : MS r4.2.2 := MS.of (by rw [← er4]; exact qL_X12_restore_34 _ _ _ _) hM
      refine aw_iconst (v := 0) hC dX12_restore_65 (by decide) ?_
      refine aw_istore_n hC [(2, .int _), (0, .ref 64), (1, .int _)] dX12_restore_66 rfl (by decide) rfl ?_
      refine aw_sub [1, 2, 0] rfl ?_
      refine l_X12_restore_67 hC hSt 1000 _ _ _ hM (h2 S1 eS1 c2 c3 r4 er4) ?_
      generalize er5 : L_X12_restore_67 1000 r4.2.2 r4.1 (0 : Int32) = r5
      have hM : MS r5.2.2 := MS.of (by rw [← er5]; exact qL_X12_restore_67 _ _ _ _) hM
      refine aw_aload_n hC 0 dX12_restore_96 rfl rfl ?_
      refine aw_aload_n hC 0 dX12_restore_97 rfl rfl ?_
      refine aw_getP (b := 85) hC hSt 48 (ms_lt 64 (by decide) hM) (ms_k 64 12 0 (by decide) hM) rfl (by decide) w_941 rfl (ms_p 48 85 (by decide) hM) dX12_restore_98 ?_
      refine aw_iload_n hC 1 dX12_restore_101 rfl rfl ?_
      refine aw_iald hC hSt (ms_lt 85 (by decide) hM) (ms_k 85 14 2 (by decide) hM) (vp_len (n := 2) (ms_l 85 14 2 (by decide) hM) (h3 S1 eS1 c2 c3 r4 er4 r5 er5)) dX12_restore_102 ?_
      refine aw_putI hC hSt 18 (ms_lt 64 (by decide) hM) (ms_k 64 12 0 (by decide) hM) rfl (by decide) w_1052 rfl rfl rfl rfl dX12_restore_103 ?_
      generalize eS6 : (sI r5.2.2 64 18 (gI r5.2.2 85 r5.1.toNatClampNeg)) = S6
      have hM : MS S6 := MS.of (by rw [← eS6]; exact shp_sI _ _ _ _) hM
      refine aw_aload_n hC 0 dX12_restore_106 rfl rfl ?_
      refine aw_aload_n hC 0 dX12_restore_107 rfl rfl ?_
      refine aw_getP (b := 86) hC hSt 49 (ms_lt 64 (by decide) hM) (ms_k 64 12 0 (by decide) hM) rfl (by decide) w_942 rfl (ms_p 49 86 (by decide) hM) dX12_restore_108 ?_
      refine aw_iload_n hC 1 dX12_restore_111 rfl rfl ?_
      refine aw_iald hC hSt (ms_lt 86 (by decide) hM) (ms_k 86 14 2 (by decide) hM) (vp_len (n := 2) (ms_l 86 14 2 (by decide) hM) (h4 S1 eS1 c2 c3 r4 er4 r5 er5 S6 eS6)) dX12_restore_112 ?_
      refine aw_putI hC hSt 19 (ms_lt 64 (by decide) hM) (ms_k 64 12 0 (by decide) hM) rfl (by decide) w_924 rfl rfl rfl rfl dX12_restore_113 ?_
      generalize eS7 : (sI S6 64 19 (gI S6 86 r5.1.toNatClampNeg)) = S7
      have hM : MS S7 := MS.of (by rw [← eS7]; exact shp_sI _ _ _ _) hM
      refine aw_lconst (v := 1) hC dX12_restore_116 (by decide) ?_
      refine aw_lret hC dX12_restore_117 (Nat.le_refl _) (Nat.le_refl _) ?_
      exact FP.qJ ((bd_eq eS1).trans ((if_neg c2).trans ((if_neg c3).trans ((bd_eq er4).trans ((bd_eq er5).trans ((bd_eq eS6).trans ((bd_eq eS7).trans (rfl))))))))
    · refine aw_ldc2 (v := -9000000000000000002) hC w_1151 dX12_restore_28 ?_
      refine aw_lret hC dX12_restore_31 (Nat.le_refl _) (Nat.le_refl _) ?_
      exact FP.qJ ((bd_eq eS1).trans ((if_neg c2).trans ((if_pos c3).trans (rfl))))
  · refine aw_ldc2 (v := -9000000000000000001) hC w_957 dX12_restore_15 ?_
    refine aw_lret hC dX12_restore_18 (Nat.le_refl _) (Nat.le_refl _) ?_
    exact FP.qJ ((bd_eq eS1).trans ((if_pos c2).trans (rfl)))
theorem q_X12_restore (S : HSt) (_o : Nat) (a1 : Int32) : shp ((f_X12_restore S _o a1).2) = shp S := by
  unfold f_X12_restore
  repeat' (first | with_reducible refine shpr1 ?_ | with_reducible rfl | with_reducible refine (qL_X12_restore_34 _ _ _ _).trans ?_ | with_reducible refine (qL_X12_restore_67 _ _ _ _).trans ?_ | with_reducible refine (shp_sI _ _ _ _).trans ?_ | with_reducible refine (shp_sJ _ _ _ _).trans ?_ | with_reducible refine shi ?_ ?_ | with_reducible refine shb (fun _ _ => ?_) | with_reducible refine shiP (fun q : Int64 × HSt => q.2) ?_ ?_ | with_reducible refine shbP (fun q : Int64 × HSt => q.2) (fun _ _ => ?_) | (subst_vars; with_reducible rfl) | (subst_vars; with_reducible refine (qL_X12_restore_34 _ _ _ _).trans ?_) | (subst_vars; with_reducible refine (qL_X12_restore_67 _ _ _ _).trans ?_) | (subst_vars; with_reducible refine (shp_sI _ _ _ _).trans ?_) | (subst_vars; with_reducible refine (shp_sJ _ _ _ _).trans ?_) | (subst_vars; with_reducible refine shi ?_ ?_) | (subst_vars; with_reducible refine shb (fun _ _ => ?_)))