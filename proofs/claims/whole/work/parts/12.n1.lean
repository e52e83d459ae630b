theorem bdE {α β : Type} {P : β → Prop} {v : α} {f : α → β} (h : ∀ w, v = w → P (f w)) : P (bd v f) := h v rfl
/-- a row of ints by itself -/
def FS (r : Nat) (S : HSt) : Prop := r < gn S ∧ gK S r = 14
theorem FS.of {r : Nat} {S T : HSt} (hq : shp T = shp S) (h : FS r S) : FS r T := by
  have h1 : gn T = gn S := congrArg (fun q => q.1) hq
  have h2 : gK T = gK S := congrArg (fun q => q.2.1) hq
  unfold FS
  rw [h1, h2]
  exact h
set_option maxRecDepth 100000 in
theorem lN_J7_fill_53178_5 {p : Program} {l : Launch} {e : Env} {s : State} {m : MethodId} {args : Array Value} {below : List Frame} {meth : Method} {c : Code} {G : GG} {Q : State → Prop} (hC : ACx p s m args meth c cJ7_fill_53178 RJ7 4 none) (hSt : St G s) {r1q : Nat}  : ∀ (n : Nat) (S : HSt) (v1 : Int32) (v2 : Int32) (v3 : Int32), FS r1q S → T_J7_fill_53178_5 r1q n S v1 v2 v3 → AW p l e (rmD 0 0 0) s m args below meth c G 4 Q (L_J7_fill_53178_5 r1q n S v1 v2 v3).2.2.2 0 0 20 [(0, .ref r1q), (1, .int (L_J7_fill_53178_5 r1q n S v1 v2 v3).1), (2, .int (L_J7_fill_53178_5 r1q n S v1 v2 v3).2.1), (3, .int (L_J7_fill_53178_5 r1q n S v1 v2 v3).2.2.1)] [] → AW p l e (rmD 0 0 0) s m args below meth c G 4 Q S 0 0 5 [(0, .ref r1q), (1, .int v1), (2, .int v2), (3, .int v3)] [] := by
  intro n
  induction n with
  | zero => intro S v1 v2 v3 _ hT; exact hT.elim
  | succ n ih =>
    intro S v1 v2 v3 hM hT hk
    unfold T_J7_fill_53178_5 at hT
    obtain ⟨h0, h1⟩ := hT
    refine aw_iload_n hC 2 dJ7_fill_53178_5 rfl rfl ?_
    refine aw_iload_n hC 3 dJ7_fill_53178_6 rfl rfl ?_
    refine aw_icmp_ge hC 20 dJ7_fill_53178_7 (by decide) (fun c1002 => ?_) (fun c1002 => ?_)
    · refine aw_sub [0, 1, 2, 3] rfl ?_
      have E : L_J7_fill_53178_5 r1q (n + 1) S v1 v2 v3 = _ := (if_pos c1002).trans (rfl)
      rw [E] at hk
      exact hk
    · refine aw_aload_n hC 0 dJ7_fill_53178_10 rfl rfl ?_
      refine aw_iload_n hC 2 dJ7_fill_53178_11 rfl rfl ?_
      refine aw_iload_n hC 1 dJ7_fill_53178_12 rfl rfl ?_
      refine aw_iast hC hSt (hM).1 (hM).2 (vp_len (n := (gL S r1q)) rfl (h0 c1002)) dJ7_fill_53178_13 ?_
      generalize eS1003 : (sI S r1q v2.toNatClampNeg v1) = S1003
      have hM : FS r1q S1003 := FS.of (by rw [← eS1003]; exact shp_sI _ _ _ _) hM
      refine aw_iinc (v := (v2 + (1 : Int32))) hC 2 [(2, .int _), (0, .ref r1q), (1, .int _), (3, .int _)] dJ7_fill_53178_14 rfl rfl (by decide) rfl ?_
      refine aw_goto hC 5 dJ7_fill_53178_17 (by decide) ?_
      refine aw_sub [1, 2, 0, 3] rfl ?_
      have hTn := (h1 c1002 S1003 eS1003)
      have hMn : FS r1q S1003 := hM
      have E : L_J7_fill_53178_5 r1q (n + 1) S v1 v2 v3 = _ := (if_neg c1002).trans ((bd_eq eS1003).trans (rfl))
      rw [E] at hk
      exact ih _ _ _ _ hMn hTn hk
set_option maxRecDepth 100000 in
theorem tN_J7_fill_53178 (G : GG) (l : Launch) {S : HSt} {r1q : Nat} (hM : FS r1q S) (a2 : Int32)  (hp : p_J7_fill_53178 S r1q a2) : AM G l yJ7_fill_53178 cJ7_fill_53178 4 none (rmD 0 0 0) 0 0 [.ref r1q, .int a2] S (FP none (f_J7_fill_53178 S r1q a2)) := by
  have h0 := hp
  unfold p_J7_fill_53178 at h0
  refine AM.mk (by decide) (Nat.le_of_ble_eq_true rfl) ?_
  intro p e s m below meth c hC hSt _
  refine aw_iconst (v := 0) hC dJ7_fill_53178_0 (by decide) ?_
  refine aw_istore_n hC [(2, .int _), (0, .ref r1q), (1, .int _)] dJ7_fill_53178_1 rfl (by decide) rfl ?_
  refine aw_aload_n hC 1 dJ7_fill_53178_2 rfl rfl ?_
  refine aw_alen hC hSt (hM).1 (hM).2 (by decide) (by decide) dJ7_fill_53178_3 ?_
  refine aw_istore_n hC [(3, .int _), (2, .int _), (0, .ref r1q), (1, .int _)] dJ7_fill_53178_4 rfl (by decide) rfl ?_
  generalize ex1 : (nI (gL S r1q)) = x1
  refine aw_sub [2, 3, 1, 0] rfl ?_
  refine lN_J7_fill_53178_5 hC hSt 1000 _ _ _ _ hM (h0 x1 ex1) ?_
  generalize er2 : L_J7_fill_53178_5 r1q 1000 S a2 (0 : Int32) x1 = r2
  have hM : FS r1q r2.2.2.2 := FS.of (by rw [← er2]; exact qL_J7_fill_53178_5 r1q _ _ _ _ _) hM
  refine aw_vret hC dJ7_fill_53178_20 (Nat.le_refl _) (Nat.le_refl _) ?_
  exact FP.qV ((bd_eq ex1).trans ((bd_eq er2).trans (rfl)))
theorem fJ7_fill (r : Nat) : ∀ (n : Nat) (S : HSt) (v1 v2 v3 : Int32) (x : Nat), x ≠ r → gI (L_J7_fill_53178_5 r n S v1 v2 v3).2.2.2 x = gI S x ∧ gJ (L_J7_fill_53178_5 r n S v1 v2 v3).2.2.2 x = gJ S x := by
  intro n
  induction n with
  | zero => intros; exact ⟨rfl, rfl⟩
  | succ n ih =>
    intro S v1 v2 v3 x hx
    unfold L_J7_fill_53178_5
    by_cases h : v3 ≤ v2
    · rw [if_pos h]; exact ⟨rfl, rfl⟩
    · rw [if_neg h, bd_def]
      obtain ⟨a1, a2⟩ := ih (sI S r v2.toNatClampNeg v1) v1 (v2 + 1) v3 x hx
      refine ⟨a1.trans ?_, a2⟩
      funext i
      rw [gI_sI, if_neg hx]
theorem ExtF.fill (S : HSt) (r : Nat) (v : Int32) : ExtF r S (f_J7_fill_53178 S r v) := by
  have hq := q_J7_fill_53178 S r v
  have h1 : gn (f_J7_fill_53178 S r v) = gn S := congrArg (fun q => q.1) hq
  have h2 : gK (f_J7_fill_53178 S r v) = gK S := congrArg (fun q => q.2.1) hq
  have h3 : gL (f_J7_fill_53178 S r v) = gL S := congrArg (fun q => q.2.2.1) hq
  have h4 : gP (f_J7_fill_53178 S r v) = gP S := congrArg (fun q => q.2.2.2) hq
  refine ⟨Nat.le_of_eq h1.symm, fun x _ => ⟨by rw [h2], by rw [h3], fun hx => ⟨by rw [h4], ?_⟩⟩⟩
  unfold f_J7_fill_53178
  simp only [bd_def]
  exact fJ7_fill r _ _ _ _ _ x hx
theorem gn_fill (S : HSt) (r : Nat) (v : Int32) : gn (f_J7_fill_53178 S r v) = gn S := congrArg (fun q => q.1) (q_J7_fill_53178 S r v)
theorem T_fill (r N : Nat) (hN : N < 2 ^ 31) : ∀ (n : Nat) (S : HSt) (v : Int32) (i : Nat), gL S r = N → i ≤ N → N - i < n → T_J7_fill_53178_5 r n S v (nI i) (nI N) := by
  intro n
  induction n with
  | zero => intro S v i _ _ h; omega
  | succ n ih =>
    intro S v i hL hi hn
    unfold T_J7_fill_53178_5
    refine ⟨fun h => ?_, fun h S1 e1 => ?_⟩
    · have hlt : i < N := Nat.not_le.mp fun q => h (nI_le q (by omega))
      rw [hL]
      exact vp_in_nI hlt hN
    · have hlt : i < N := Nat.not_le.mp fun q => h (nI_le q (by omega))
      rw [← nI_succ]
      exact ih S1 v (i + 1) (by rw [← e1]; exact hL) (by omega) (by omega)
theorem p_fill {S : HSt} {r N : Nat} (v : Int32) (hL : gL S r = N) (hN : N < 1000) : p_J7_fill_53178 S r v := by
  unfold p_J7_fill_53178
  intro x hx
  rw [← hx, hL]
  exact T_fill r N (by omega) 1000 S v 0 hL (Nat.zero_le _) (by omega)
noncomputable def f_X1_init (S : HSt) (a : Nat) : HSt := S
theorem zz_X1_init (S : HSt) (a : Nat) (ha : a < gn S) : ExtF a S (f_X1_init S a) ∧ gn (f_X1_init S a) = gn S + 0 := by
  unfold f_X1_init
  have y0 : ExtF a S S := ExtF.refl a S
  have n0 : gn S = gn S + 0 := rfl
  exact ⟨y0, n0⟩
theorem z_X1_init (S : HSt) (a : Nat) (ha : a < gn S) : ExtF a S (f_X1_init S a) := (zz_X1_init S a ha).1
theorem z_X1_init_n (S : HSt) (a : Nat) (ha : a < gn S) : gn (f_X1_init S a) = gn S + 0 := (zz_X1_init S a ha).2
set_option maxRecDepth 100000 in
theorem t_X1_init (G : GG) (l : Launch) {S : HSt} (a : Nat) (ka : a < gn S ∧ gK S a = 1 ∧ gL S a = 0) (hb : gn S + 0 ≤ 1000) : AM G l yX1_init cX1_init 1 none (rmD 0 0 0) 0 0 [.ref a] S (FP none (f_X1_init S a)) := by
  refine AM.mk (by decide) (Nat.le_of_ble_eq_true rfl) ?_
  intro p e s m below meth c hC hSt hin0
  have oa := ka.1
  have n0 : gn S = gn S + 0 := rfl
  refine aw_aload_n hC 0 dX1_init_0 rfl rfl ?_
  refine aw_objInit hC w_70 w_2 w_3 dX1_init_1 (Nat.le_of_ble_eq_true rfl) (Nat.le_of_ble_eq_true rfl) ?_
  exact aw_vret hC dX1_init_4 (Nat.le_of_ble_eq_true rfl) (Nat.le_of_ble_eq_true rfl) (FP.qV (rfl))
noncomputable def f_X9_init (S : HSt) (a : Nat) : HSt := S
theorem zz_X9_init (S : HSt) (a : Nat) (ha : a < gn S) : ExtF a S (f_X9_init S a) ∧ gn (f_X9_init S a) = gn S + 0 := by
  unfold f_X9_init
  have y0 : ExtF a S S := ExtF.refl a S
  have n0 : gn S = gn S + 0 := rfl
  exact ⟨y0, n0⟩
theorem z_X9_init (S : HSt) (a : Nat) (ha : a < gn S) : ExtF a S (f_X9_init S a) := (zz_X9_init S a ha).1
theorem z_X9_init_n (S : HSt) (a : Nat) (ha : a < gn S) : gn (f_X9_init S a) = gn S + 0 := (zz_X9_init S a ha).2
set_option maxRecDepth 100000 in
theorem t_X9_init (G : GG) (l : Launch) {S : HSt} (a : Nat) (ka : a < gn S ∧ gK S a = 9 ∧ gL S a = 0) (hb : gn S + 0 ≤ 1000) : AM G l yX9_init cX9_init 1 none (rmD 0 0 0) 0 0 [.ref a] S (FP none (f_X9_init S a)) := by
  refine AM.mk (by decide) (Nat.le_of_ble_eq_true rfl) ?_
  intro p e s m below meth c hC hSt hin0
  have oa := ka.1
  have n0 : gn S = gn S + 0 := rfl
  refine aw_aload_n hC 0 dX9_init_0 rfl rfl ?_
  refine aw_objInit hC w_128 w_2 w_3 dX9_init_1 (Nat.le_of_ble_eq_true rfl) (Nat.le_of_ble_eq_true rfl) ?_
  exact aw_vret hC dX9_init_4 (Nat.le_of_ble_eq_true rfl) (Nat.le_of_ble_eq_true rfl) (FP.qV (rfl))
noncomputable def f_X10_init (S : HSt) (a : Nat) : HSt := bd (nw S 14 6) fun S1 => bd (sP S1 a 0 (some (gn S))) fun S2 => bd (nw S2 14 185) fun S3 => bd (sP S3 a 1 (some (gn S2))) fun S4 => S4
theorem zz_X10_init (S : HSt) (a : Nat) (ha : a < gn S) : ExtF a S (f_X10_init S a) ∧ gn (f_X10_init S a) = gn S + 2 := by
  unfold f_X10_init
  have y0 : ExtF a S S := ExtF.refl a S
  have n0 : gn S = gn S + 0 := rfl
  refine bdE (P := fun T => ExtF a S T ∧ gn T = gn S + 2) (fun S1 eS1 => ?_)
  have y1 : ExtF a S S1 := y0.trans (b := a) (by rw [← eS1]; exact ExtF.nw _ _ _ _) (Or.inl rfl)
  have n1 : gn S1 = gn S + 1 := by (rw [← eS1, gn_nw, n0]) <;> rfl
  refine bdE (P := fun T => ExtF a S T ∧ gn T = gn S + 2) (fun S2 eS2 => ?_)
  have y2 : ExtF a S S2 := y1.trans (b := a) (by rw [← eS2]; exact ExtF.sP _ _ _ _) (Or.inl rfl)
  have n2 : gn S2 = gn S + 1 := by (rw [← eS2, gn_sP, n1]) <;> rfl
  refine bdE (P := fun T => ExtF a S T ∧ gn T = gn S + 2) (fun S3 eS3 => ?_)
  have y3 : ExtF a S S3 := y2.trans (b := a) (by rw [← eS3]; exact ExtF.nw _ _ _ _) (Or.inl rfl)
  have n3 : gn S3 = gn S + 2 := by (rw [← eS3, gn_nw, n2]) <;> rfl
  refine bdE (P := fun T => ExtF a S T ∧ gn T = gn S + 2) (fun S4 eS4 => ?_)
  have y4 : ExtF a S S4 := y3.trans (b := a) (by rw [← eS4]; exact ExtF.sP _ _ _ _) (Or.inl rfl)
  have n4 : gn S4 = gn S + 2 := by (rw [← eS4, gn_sP, n3]) <;> rfl
  exact ⟨y4, n4⟩
theorem z_X10_init (S : HSt) (a : Nat) (ha : a < gn S) : ExtF a S (f_X10_init S a) := (zz_X10_init S a ha).1
theorem z_X10_init_n (S : HSt) (a : Nat) (ha : a < gn S) : gn (f_X10_init S a) = gn S + 2 := (zz_X10_init S a ha).2
set_option maxRecDepth 100000 in
theorem t_X10_init (G : GG) (l : Launch) {S : HSt} (a : Nat) (ka : a < gn S ∧ gK S a = 10 ∧ gL S a = 0) (hb : gn S + 2 ≤ 1000) : AM G l yX10_init cX10_init 1 none (rmD 0 2 191) 2 191 [.ref a] S (FP none (f_X10_init S a)) := by
  refine AM.mk (by decide) (Nat.le_of_ble_eq_true rfl) ?_
  intro p e s m below meth c hC hSt hin0
  have oa := ka.1
  have n0 : gn S = gn S + 0 := rfl
  refine aw_aload_n hC 0 dX10_init_0 rfl rfl ?_
  refine aw_objInit hC w_318 w_2 w_3 dX10_init_1 (Nat.le_of_ble_eq_true rfl) (Nat.le_of_ble_eq_true rfl) ?_
  refine aw_aload_n hC 0 dX10_init_4 rfl rfl ?_
  refine aw_bipush (v := 6) hC dX10_init_5 (by decide) ?_
  refine aw_newaI hC hSt 6 w_4 (by decide) (by decide) (by decide) (by rw [n0]; exact Nat.le_trans (Nat.add_le_add_left (show 0+1 ≤ 2 by decide) (gn S)) hb) (Nat.le_of_ble_eq_true rfl) (Nat.le_of_ble_eq_true rfl) dX10_init_7 ?_
  generalize eS1 : nw S 14 6 = S1
  have x1 : ExtF (gn S) S S1 := by rw [← eS1]; exact ExtF.nw _ _ _ _
  have n1 : gn S1 = gn S + 1 := by (rw [← eS1, gn_nw, n0]) <;> rfl
  have ka := x1.k ka
  have k1 : (gn S) < gn S1 ∧ gK S1 (gn S) = 14 ∧ gL S1 (gn S) = 6 := by rw [← eS1]; exact nw_k _ _ _
  refine aw_putFP hC hSt (hin0 rfl) 0 ka.1 ka.2.1 rfl (by decide) w_153 rfl rfl rfl (fun _ => rfl) (fun _ => rfl) dX10_init_9 ?_
  generalize eS2 : sP S1 a 0 (some (gn S)) = S2
  have x2 : ExtF a S1 S2 := by rw [← eS2]; exact ExtF.sP _ _ _ _
  have n2 : gn S2 = gn S + 1 := by (rw [← eS2, gn_sP, n1]) <;> rfl
  have ka := x2.k ka
  have k1 := x2.k k1
  refine aw_aload_n hC 0 dX10_init_12 rfl rfl ?_
  refine aw_sipush (v := 185) hC dX10_init_13 (by decide) ?_
  refine aw_newaI hC hSt 185 w_4 (by decide) (by decide) (by decide) (by rw [n2]; exact Nat.le_trans (Nat.add_le_add_left (show 1+1 ≤ 2 by decide) (gn S)) hb) (Nat.le_of_ble_eq_true rfl) (Nat.le_of_ble_eq_true rfl) dX10_init_16 ?_
  generalize eS3 : nw S2 14 185 = S3
  have x3 : ExtF (gn S2) S2 S3 := by rw [← eS3]; exact ExtF.nw _ _ _ _
  have n3 : gn S3 = gn S + 2 := by (rw [← eS3, gn_nw, n2]) <;> rfl
  have ka := x3.k ka
  have k3 : (gn S2) < gn S3 ∧ gK S3 (gn S2) = 14 ∧ gL S3 (gn S2) = 185 := by rw [← eS3]; exact nw_k _ _ _
  refine aw_putFP hC hSt (hin0 rfl) 1 ka.1 ka.2.1 rfl (by decide) w_12 rfl rfl rfl (fun _ => rfl) (fun _ => rfl) dX10_init_18 ?_
  generalize eS4 : sP S3 a 1 (some (gn S2)) = S4
  have x4 : ExtF a S3 S4 := by rw [← eS4]; exact ExtF.sP _ _ _ _
  have n4 : gn S4 = gn S + 2 := by (rw [← eS4, gn_sP, n3]) <;> rfl
  have ka := x4.k ka
  have k3 := x4.k k3
  exact aw_vret hC dX10_init_21 (Nat.le_of_ble_eq_true rfl) (Nat.le_of_ble_eq_true rfl) (FP.qV ((bd_eq eS1).trans ((bd_eq eS2).trans ((bd_eq eS3).trans ((bd_eq eS4).trans (rfl))))))
noncomputable def f_X0_init (S : HSt) (a : Nat) : HSt := bd (nw S 14 16) fun S1 => bd (sP S1 a 0 (some (gn S))) fun S2 => S2
theorem zz_X0_init (S : HSt) (a : Nat) (ha : a < gn S) : ExtF a S (f_X0_init S a) ∧ gn (f_X0_init S a) = gn S + 1 := by
  unfold f_X0_init
  have y0 : ExtF a S S := ExtF.refl a S
  have n0 : gn S = gn S + 0 := rfl
  refine bdE (P := fun T => ExtF a S T ∧ gn T = gn S + 1) (fun S1 eS1 => ?_)
  have y1 : ExtF a S S1 := y0.trans (b := a) (by rw [← eS1]; exact ExtF.nw _ _ _ _) (Or.inl rfl)
  have n1 : gn S1 = gn S + 1 := by (rw [← eS1, gn_nw, n0]) <;> rfl
  refine bdE (P := fun T => ExtF a S T ∧ gn T = gn S + 1) (fun S2 eS2 => ?_)
  have y2 : ExtF a S S2 := y1.trans (b := a) (by rw [← eS2]; exact ExtF.sP _ _ _ _) (Or.inl rfl)
  have n2 : gn S2 = gn S + 1 := by (rw [← eS2, gn_sP, n1]) <;> rfl
  exact ⟨y2, n2⟩
theorem z_X0_init (S : HSt) (a : Nat) (ha : a < gn S) : ExtF a S (f_X0_init S a) := (zz_X0_init S a ha).1
theorem z_X0_init_n (S : HSt) (a : Nat) (ha : a < gn S) : gn (f_X0_init S a) = gn S + 1 := (zz_X0_init S a ha).2
set_option maxRecDepth 100000 in
theorem t_X0_init (G : GG) (l : Launch) {S : HSt} (a : Nat) (ka : a < gn S ∧ gK S a = 0 ∧ gL S a = 0) (hb : gn S + 1 ≤ 1000) : AM G l yX0_init cX0_init 1 none (rmD 0 1 16) 1 16 [.ref a] S (FP none (f_X0_init S a)) := by
  refine AM.mk (by decide) (Nat.le_of_ble_eq_true rfl) ?_
  intro p e s m below meth c hC hSt hin0
  have oa := ka.1
  have n0 : gn S = gn S + 0 := rfl
  refine aw_aload_n hC 0 dX0_init_0 rfl rfl ?_
  refine aw_objInit hC w_1 w_2 w_3 dX0_init_1 (Nat.le_of_ble_eq_true rfl) (Nat.le_of_ble_eq_true rfl) ?_
  refine aw_aload_n hC 0 dX0_init_4 rfl rfl ?_
  refine aw_bipush (v := 16) hC dX0_init_5 (by decide) ?_
  refine aw_newaI hC hSt 16 w_4 (by decide) (by decide) (by decide) (by rw [n0]; exact Nat.le_trans (Nat.add_le_add_left (show 0+1 ≤ 1 by decide) (gn S)) hb) (Nat.le_of_ble_eq_true rfl) (Nat.le_of_ble_eq_true rfl) dX0_init_7 ?_
  generalize eS1 : nw S 14 16 = S1
  have x1 : ExtF (gn S) S S1 := by rw [← eS1]; exact ExtF.nw _ _ _ _
  have n1 : gn S1 = gn S + 1 := by (rw [← eS1, gn_nw, n0]) <;> rfl
  have ka := x1.k ka
  have k1 : (gn S) < gn S1 ∧ gK S1 (gn S) = 14 ∧ gL S1 (gn S) = 16 := by rw [← eS1]; exact nw_k _ _ _
  refine aw_putFP hC hSt (hin0 rfl) 0 ka.1 ka.2.1 rfl (by decide) w_5 rfl rfl rfl (fun _ => rfl) (fun _ => rfl) dX0_init_9 ?_
  generalize eS2 : sP S1 a 0 (some (gn S)) = S2
  have x2 : ExtF a S1 S2 := by rw [← eS2]; exact ExtF.sP _ _ _ _
  have n2 : gn S2 = gn S + 1 := by (rw [← eS2, gn_sP, n1]) <;> rfl
  have ka := x2.k ka
  have k1 := x2.k k1
  exact aw_vret hC dX0_init_12 (Nat.le_of_ble_eq_true rfl) (Nat.le_of_ble_eq_true rfl) (FP.qV ((bd_eq eS1).trans ((bd_eq eS2).trans (rfl))))
noncomputable def f_X3_init (S : HSt) (a : Nat) : HSt := bd (nw S 15 11584) fun S1 => bd (sP S1 a 0 (some (gn S))) fun S2 => bd (nw S2 15 11584) fun S3 => bd (sP S3 a 1 (some (gn S2))) fun S4 => S4
theorem zz_X3_init (S : HSt) (a : Nat) (ha : a < gn S) : ExtF a S (f_X3_init S a) ∧ gn (f_X3_init S a) = gn S + 2 := by
  unfold f_X3_init
  have y0 : ExtF a S S := ExtF.refl a S
  have n0 : gn S = gn S + 0 := rfl
  refine bdE (P := fun T => ExtF a S T ∧ gn T = gn S + 2) (fun S1 eS1 => ?_)
  have y1 : ExtF a S S1 := y0.trans (b := a) (by rw [← eS1]; exact ExtF.nw _ _ _ _) (Or.inl rfl)
  have n1 : gn S1 = gn S + 1 := by (rw [← eS1, gn_nw, n0]) <;> rfl
  refine bdE (P := fun T => ExtF a S T ∧ gn T = gn S + 2) (fun S2 eS2 => ?_)
  have y2 : ExtF a S S2 := y1.trans (b := a) (by rw [← eS2]; exact ExtF.sP _ _ _ _) (Or.inl rfl)
  have n2 : gn S2 = gn S + 1 := by (rw [← eS2, gn_sP, n1]) <;> rfl
  refine bdE (P := fun T => ExtF a S T ∧ gn T = gn S + 2) (fun S3 eS3 => ?_)
  have y3 : ExtF a S S3 := y2.trans (b := a) (by rw [← eS3]; exact ExtF.nw _ _ _ _) (Or.inl rfl)
  have n3 : gn S3 = gn S + 2 := by (rw [← eS3, gn_nw, n2]) <;> rfl
  refine bdE (P := fun T => ExtF a S T ∧ gn T = gn S + 2) (fun S4 eS4 => ?_)
  have y4 : ExtF a S S4 := y3.trans (b := a) (by rw [← eS4]; exact ExtF.sP _ _ _ _) (Or.inl rfl)
  have n4 : gn S4 = gn S + 2 := by (rw [← eS4, gn_sP, n3]) <;> rfl
  exact ⟨y4, n4⟩
theorem z_X3_init (S : HSt) (a : Nat) (ha : a < gn S) : ExtF a S (f_X3_init S a) := (zz_X3_init S a ha).1
theorem z_X3_init_n (S : HSt) (a : Nat) (ha : a < gn S) : gn (f_X3_init S a) = gn S + 2 := (zz_X3_init S a ha).2
set_option maxRecDepth 100000 in
theorem t_X3_init (G : GG) (l : Launch) {S : HSt} (a : Nat) (ka : a < gn S ∧ gK S a = 3 ∧ gL S a = 0) (hb : gn S + 2 ≤ 1000) : AM G l yX3_init cX3_init 1 none (rmD 0 2 23168) 2 23168 [.ref a] S (FP none (f_X3_init S a)) := by
  refine AM.mk (by decide) (Nat.le_of_ble_eq_true rfl) ?_
  intro p e s m below meth c hC hSt hin0
  have oa := ka.1
  have n0 : gn S = gn S + 0 := rfl
  refine aw_aload_n hC 0 dX3_init_0 rfl rfl ?_
  refine aw_objInit hC w_266 w_2 w_3 dX3_init_1 (Nat.le_of_ble_eq_true rfl) (Nat.le_of_ble_eq_true rfl) ?_
  refine aw_aload_n hC 0 dX3_init_4 rfl rfl ?_
  refine aw_sipush (v := 11584) hC dX3_init_5 (by decide) ?_
  refine aw_newaJ hC hSt 11584 w_267 (by decide) (by decide) (by decide) (by rw [n0]; exact Nat.le_trans (Nat.add_le_add_left (show 0+1 ≤ 2 by decide) (gn S)) hb) (Nat.le_of_ble_eq_true rfl) (Nat.le_of_ble_eq_true rfl) dX3_init_8 ?_
  generalize eS1 : nw S 15 11584 = S1
  have x1 : ExtF (gn S) S S1 := by rw [← eS1]; exact ExtF.nw _ _ _ _
  have n1 : gn S1 = gn S + 1 := by (rw [← eS1, gn_nw, n0]) <;> rfl
  have ka := x1.k ka
  have k1 : (gn S) < gn S1 ∧ gK S1 (gn S) = 15 ∧ gL S1 (gn S) = 11584 := by rw [← eS1]; exact nw_k _ _ _
  refine aw_putP hC hSt 0 ka.1 ka.2.1 rfl (by decide) w_268 rfl rfl (fun _ => rfl) (fun _ => rfl) dX3_init_10 ?_
  generalize eS2 : sP S1 a 0 (some (gn S)) = S2
  have x2 : ExtF a S1 S2 := by rw [← eS2]; exact ExtF.sP _ _ _ _
  have n2 : gn S2 = gn S + 1 := by (rw [← eS2, gn_sP, n1]) <;> rfl
  have ka := x2.k ka
  have k1 := x2.k k1
  refine aw_aload_n hC 0 dX3_init_13 rfl rfl ?_
  refine aw_sipush (v := 11584) hC dX3_init_14 (by decide) ?_
  refine aw_newaJ hC hSt 11584 w_267 (by decide) (by decide) (by decide) (by rw [n2]; exact Nat.le_trans (Nat.add_le_add_left (show 1+1 ≤ 2 by decide) (gn S)) hb) (Nat.le_of_ble_eq_true rfl) (Nat.le_of_ble_eq_true rfl) dX3_init_17 ?_
  generalize eS3 : nw S2 15 11584 = S3
  have x3 : ExtF (gn S2) S2 S3 := by rw [← eS3]; exact ExtF.nw _ _ _ _
  have n3 : gn S3 = gn S + 2 := by (rw [← eS3, gn_nw, n2]) <;> rfl
  have ka := x3.k ka
  have k3 : (gn S2) < gn S3 ∧ gK S3 (gn S2) = 15 ∧ gL S3 (gn S2) = 11584 := by rw [← eS3]; exact nw_k _ _ _
  refine aw_putP hC hSt 1 ka.1 ka.2.1 rfl (by decide) w_269 rfl rfl (fun _ => rfl) (fun _ => rfl) dX3_init_19 ?_
  generalize eS4 : sP S3 a 1 (some (gn S2)) = S4
  have x4 : ExtF a S3 S4 := by rw [← eS4]; exact ExtF.sP _ _ _ _
  have n4 : gn S4 = gn S + 2 := by (rw [← eS4, gn_sP, n3]) <;> rfl
  have ka := x4.k ka
  have k3 := x4.k k3
  exact aw_vret hC dX3_init_22 (Nat.le_of_ble_eq_true rfl) (Nat.le_of_ble_eq_true rfl) (FP.qV ((bd_eq eS1).trans ((bd_eq eS2).trans ((bd_eq eS3).trans ((bd_eq eS4).trans (rfl))))))
noncomputable def f_X7_init (S : HSt) (a : Nat) : HSt := bd (nw S 10 0) fun S1 => bd (f_X10_init S1 (gn S)) fun S2 => bd (sP S2 a 0 (some (gn S))) fun S3 => bd (nw S3 1 0) fun S4 => bd (f_X1_init S4 (gn S3)) fun S5 => bd (sP S5 a 1 (some (gn S3))) fun S6 => S6
theorem zz_X7_init (S : HSt) (a : Nat) (ha : a < gn S) : ExtF a S (f_X7_init S a) ∧ gn (f_X7_init S a) = gn S + 4 := by
  unfold f_X7_init
  have y0 : ExtF a S S := ExtF.refl a S
  have n0 : gn S = gn S + 0 := rfl
  refine bdE (P := fun T => ExtF a S T ∧ gn T = gn S + 4) (fun S1 eS1 => ?_)
  have y1 : ExtF a S S1 := y0.trans (b := a) (by rw [← eS1]; exact ExtF.nw _ _ _ _) (Or.inl rfl)
  have n1 : gn S1 = gn S + 1 := by (rw [← eS1, gn_nw, n0]) <;> rfl
  refine bdE (P := fun T => ExtF a S T ∧ gn T = gn S + 4) (fun S2 eS2 => ?_)
  have y2 : ExtF a S S2 := y1.trans (b := (gn S)) (by rw [← eS2]; exact (z_X10_init _ _ (by rw [n1]; exact Nat.lt_add_of_pos_right (by decide)))) (Or.inr (Nat.le_refl _))
  have n2 : gn S2 = gn S + 3 := by (rw [← eS2, z_X10_init_n _ _ (by rw [n1]; exact Nat.lt_add_of_pos_right (by decide)), n1]) <;> rfl
  refine bdE (P := fun T => ExtF a S T ∧ gn T = gn S + 4) (fun S3 eS3 => ?_)
  have y3 : ExtF a S S3 := y2.trans (b := a) (by rw [← eS3]; exact ExtF.sP _ _ _ _) (Or.inl rfl)
  have n3 : gn S3 = gn S + 3 := by (rw [← eS3, gn_sP, n2]) <;> rfl
  refine bdE (P := fun T => ExtF a S T ∧ gn T = gn S + 4) (fun S4 eS4 => ?_)
  have y4 : ExtF a S S4 := y3.trans (b := a) (by rw [← eS4]; exact ExtF.nw _ _ _ _) (Or.inl rfl)
  have n4 : gn S4 = gn S + 4 := by (rw [← eS4, gn_nw, n3]) <;> rfl
  refine bdE (P := fun T => ExtF a S T ∧ gn T = gn S + 4) (fun S5 eS5 => ?_)
  have y5 : ExtF a S S5 := y4.trans (b := (gn S3)) (by rw [← eS5]; exact (z_X1_init _ _ (by rw [n4, n3]; exact Nat.add_lt_add_left (by decide) _))) (Or.inr (by rw [n3]; exact Nat.le_add_right _ _))
  have n5 : gn S5 = gn S + 4 := by (rw [← eS5, z_X1_init_n _ _ (by rw [n4, n3]; exact Nat.add_lt_add_left (by decide) _), n4]) <;> rfl
  refine bdE (P := fun T => ExtF a S T ∧ gn T = gn S + 4) (fun S6 eS6 => ?_)
  have y6 : ExtF a S S6 := y5.trans (b := a) (by rw [← eS6]; exact ExtF.sP _ _ _ _) (Or.inl rfl)
  have n6 : gn S6 = gn S + 4 := by (rw [← eS6, gn_sP, n5]) <;> rfl
  exact ⟨y6, n6⟩
theorem z_X7_init (S : HSt) (a : Nat) (ha : a < gn S) : ExtF a S (f_X7_init S a) := (zz_X7_init S a ha).1
theorem z_X7_init_n (S : HSt) (a : Nat) (ha : a < gn S) : gn (f_X7_init S a) = gn S + 4 := (zz_X7_init S a ha).2
set_option maxRecDepth 100000 in
theorem t_X7_init (G : GG) (l : Launch) {S : HSt} (a : Nat) (ka : a < gn S ∧ gK S a = 7 ∧ gL S a = 0) (hb : gn S + 4 ≤ 1000) : AM G l yX7_init cX7_init 1 none (rmD 1 4 200) 4 200 [.ref a] S (FP none (f_X7_init S a)) := by
  refine AM.mk (by decide) (Nat.le_of_ble_eq_true rfl) ?_
  intro p e s m below meth c hC hSt hin0
  have oa := ka.1
  have n0 : gn S = gn S + 0 := rfl
  refine aw_aload_n hC 0 dX7_init_0 rfl rfl ?_
  refine aw_objInit hC w_578 w_2 w_3 dX7_init_1 (Nat.le_of_ble_eq_true rfl) (Nat.le_of_ble_eq_true rfl) ?_
  refine aw_aload_n hC 0 dX7_init_4 rfl rfl ?_
  refine aw_new (ci := 10) hC hSt rfl w_579 w_324 w_18 (by rw [n0]; exact Nat.le_trans (Nat.add_le_add_left (show 0+1 ≤ 4 by decide) (gn S)) hb) (Nat.le_of_ble_eq_true rfl) (Nat.le_of_ble_eq_true rfl) dX7_init_5 ?_
  generalize eS1 : nw S 10 0 = S1
  have x1 : ExtF (gn S) S S1 := by rw [← eS1]; exact ExtF.nw _ _ _ _
  have n1 : gn S1 = gn S + 1 := by (rw [← eS1, gn_nw, n0]) <;> rfl
  have ka := x1.k ka
  have k1 : (gn S) < gn S1 ∧ gK S1 (gn S) = 10 ∧ gL S1 (gn S) = 0 := by rw [← eS1]; exact nw_k _ _ _
  refine aw_dup hC dX7_init_8 rfl ?_
  refine aw_cIN (b := (gn S)) hC hSt (t_X10_init G l (gn S) k1 (by rw [n1]; exact Nat.le_trans (Nat.add_le_add_left (show 1+2 ≤ 4 by decide) (gn S)) hb)) w_317 (by decide) w_18 w_326 rfl rfl rfl (by decide +kernel) ⟨(Nat.le_of_ble_eq_true rfl), (Nat.le_of_ble_eq_true rfl)⟩ (Nat.le_of_ble_eq_true rfl) dX7_init_9 ⟨(Nat.le_of_ble_eq_true rfl), (Nat.le_of_ble_eq_true rfl)⟩ ?_
  generalize eS2 : f_X10_init S1 (gn S) = S2
  have x2 : ExtF (gn S) S1 S2 := by rw [← eS2]; exact (z_X10_init _ _ k1.1)
  have n2 : gn S2 = gn S + 3 := by (rw [← eS2, z_X10_init_n _ _ k1.1, n1]) <;> rfl
  have ka := x2.k ka
  have k1 := x2.k k1
  refine aw_putFP hC hSt (hin0 rfl) 0 ka.1 ka.2.1 rfl (by decide) w_580 rfl rfl rfl (fun _ => rfl) (fun _ => rfl) dX7_init_12 ?_
  generalize eS3 : sP S2 a 0 (some (gn S)) = S3
  have x3 : ExtF a S2 S3 := by rw [← eS3]; exact ExtF.sP _ _ _ _
  have n3 : gn S3 = gn S + 3 := by (rw [← eS3, gn_sP, n2]) <;> rfl
  have ka := x3.k ka
  have k1 := x3.k k1
  refine aw_aload_n hC 0 dX7_init_15 rfl rfl ?_
  refine aw_new (ci := 1) hC hSt rfl w_581 w_142 w_84 (by rw [n3]; exact Nat.le_trans (Nat.add_le_add_left (show 3+1 ≤ 4 by decide) (gn S)) hb) (Nat.le_of_ble_eq_true rfl) (Nat.le_of_ble_eq_true rfl) dX7_init_16 ?_
  generalize eS4 : nw S3 1 0 = S4
  have x4 : ExtF (gn S3) S3 S4 := by rw [← eS4]; exact ExtF.nw _ _ _ _
  have n4 : gn S4 = gn S + 4 := by (rw [← eS4, gn_nw, n3]) <;> rfl
  have ka := x4.k ka
  have k4 : (gn S3) < gn S4 ∧ gK S4 (gn S3) = 1 ∧ gL S4 (gn S3) = 0 := by rw [← eS4]; exact nw_k _ _ _
  refine aw_dup hC dX7_init_19 rfl ?_
  refine aw_cIN (b := (gn S3)) hC hSt (t_X1_init G l (gn S3) k4 (by rw [n4]; exact Nat.le_trans (Nat.add_le_add_left (show 4+0 ≤ 4 by decide) (gn S)) hb)) w_69 (by decide) w_84 w_144 rfl rfl rfl (by decide +kernel) ⟨(Nat.le_of_ble_eq_true rfl), (Nat.le_of_ble_eq_true rfl)⟩ (Nat.le_of_ble_eq_true rfl) dX7_init_20 ⟨(Nat.le_of_ble_eq_true rfl), (Nat.le_of_ble_eq_true rfl)⟩ ?_
  generalize eS5 : f_X1_init S4 (gn S3) = S5
  have x5 : ExtF (gn S3) S4 S5 := by rw [← eS5]; exact (z_X1_init _ _ k4.1)
  have n5 : gn S5 = gn S + 4 := by (rw [← eS5, z_X1_init_n _ _ k4.1, n4]) <;> rfl
  have ka := x5.k ka
  have k4 := x5.k k4
  refine aw_putFP hC hSt (hin0 rfl) 1 ka.1 ka.2.1 rfl (by decide) w_582 rfl rfl rfl (fun _ => rfl) (fun _ => rfl) dX7_init_23 ?_
  generalize eS6 : sP S5 a 1 (some (gn S3)) = S6
  have x6 : ExtF a S5 S6 := by rw [← eS6]; exact ExtF.sP _ _ _ _
  have n6 : gn S6 = gn S + 4 := by (rw [← eS6, gn_sP, n5]) <;> rfl
  have ka := x6.k ka
  have k4 := x6.k k4
  exact aw_vret hC dX7_init_26 (Nat.le_of_ble_eq_true rfl) (Nat.le_of_ble_eq_true rfl) (FP.qV ((bd_eq eS1).trans ((bd_eq eS2).trans ((bd_eq eS3).trans ((bd_eq eS4).trans ((bd_eq eS5).trans ((bd_eq eS6).trans (rfl))))))))
noncomputable def f_X4_init (S : HSt) (a : Nat) : HSt := bd (nw S 13 600) fun S1 => bd (sP S1 a 0 (some (gn S))) fun S2 => bd (nw S2 10 0) fun S3 => bd (f_X10_init S3 (gn S2)) fun S4 => bd (sP S4 a 1 (some (gn S2))) fun S5 => S5
theorem zz_X4_init (S : HSt) (a : Nat) (ha : a < gn S) : ExtF a S (f_X4_init S a) ∧ gn (f_X4_init S a) = gn S + 4 := by
  unfold f_X4_init
  have y0 : ExtF a S S := ExtF.refl a S
  have n0 : gn S = gn S + 0 := rfl
  refine bdE (P := fun T => ExtF a S T ∧ gn T = gn S + 4) (fun S1 eS1 => ?_)
  have y1 : ExtF a S S1 := y0.trans (b := a) (by rw [← eS1]; exact ExtF.nw _ _ _ _) (Or.inl rfl)
  have n1 : gn S1 = gn S + 1 := by (rw [← eS1, gn_nw, n0]) <;> rfl
  refine bdE (P := fun T => ExtF a S T ∧ gn T = gn S + 4) (fun S2 eS2 => ?_)
  have y2 : ExtF a S S2 := y1.trans (b := a) (by rw [← eS2]; exact ExtF.sP _ _ _ _) (Or.inl rfl)
  have n2 : gn S2 = gn S + 1 := by (rw [← eS2, gn_sP, n1]) <;> rfl
  refine bdE (P := fun T => ExtF a S T ∧ gn T = gn S + 4) (fun S3 eS3 => ?_)
  have y3 : ExtF a S S3 := y2.trans (b := a) (by rw [← eS3]; exact ExtF.nw _ _ _ _) (Or.inl rfl)
  have n3 : gn S3 = gn S + 2 := by (rw [← eS3, gn_nw, n2]) <;> rfl
  refine bdE (P := fun T => ExtF a S T ∧ gn T = gn S + 4) (fun S4 eS4 => ?_)
  have y4 : ExtF a S S4 := y3.trans (b := (gn S2)) (by rw [← eS4]; exact (z_X10_init _ _ (by rw [n3, n2]; exact Nat.add_lt_add_left (by decide) _))) (Or.inr (by rw [n2]; exact Nat.le_add_right _ _))
  have n4 : gn S4 = gn S + 4 := by (rw [← eS4, z_X10_init_n _ _ (by rw [n3, n2]; exact Nat.add_lt_add_left (by decide) _), n3]) <;> rfl
  refine bdE (P := fun T => ExtF a S T ∧ gn T = gn S + 4) (fun S5 eS5 => ?_)
  have y5 : ExtF a S S5 := y4.trans (b := a) (by rw [← eS5]; exact ExtF.sP _ _ _ _) (Or.inl rfl)
  have n5 : gn S5 = gn S + 4 := by (rw [← eS5, gn_sP, n4]) <;> rfl
  exact ⟨y5, n5⟩
theorem z_X4_init (S : HSt) (a : Nat) (ha : a < gn S) : ExtF a S (f_X4_init S a) := (zz_X4_init S a ha).1
theorem z_X4_init_n (S : HSt) (a : Nat) (ha : a < gn S) : gn (f_X4_init S a) = gn S + 4 := (zz_X4_init S a ha).2
set_option maxRecDepth 100000 in
theorem t_X4_init (G : GG) (l : Launch) {S : HSt} (a : Nat) (ka : a < gn S ∧ gK S a = 4 ∧ gL S a = 0) (hb : gn S + 4 ≤ 1000) : AM G l yX4_init cX4_init 1 none (rmD 1 4 793) 4 793 [.ref a] S (FP none (f_X4_init S a)) := by
  refine AM.mk (by decide) (Nat.le_of_ble_eq_true rfl) ?_
  intro p e s m below meth c hC hSt hin0
  have oa := ka.1
  have n0 : gn S = gn S + 0 := rfl
  refine aw_aload_n hC 0 dX4_init_0 rfl rfl ?_
  refine aw_objInit hC w_320 w_2 w_3 dX4_init_1 (Nat.le_of_ble_eq_true rfl) (Nat.le_of_ble_eq_true rfl) ?_
  refine aw_aload_n hC 0 dX4_init_4 rfl rfl ?_
  refine aw_sipush (v := 600) hC dX4_init_5 (by decide) ?_
  refine aw_newaB hC hSt 600 w_321 (by decide) (by decide) (by decide) (by rw [n0]; exact Nat.le_trans (Nat.add_le_add_left (show 0+1 ≤ 4 by decide) (gn S)) hb) (Nat.le_of_ble_eq_true rfl) (Nat.le_of_ble_eq_true rfl) dX4_init_8 ?_
  generalize eS1 : nw S 13 600 = S1
  have x1 : ExtF (gn S) S S1 := by rw [← eS1]; exact ExtF.nw _ _ _ _
  have n1 : gn S1 = gn S + 1 := by (rw [← eS1, gn_nw, n0]) <;> rfl
  have ka := x1.k ka
  have k1 : (gn S) < gn S1 ∧ gK S1 (gn S) = 13 ∧ gL S1 (gn S) = 600 := by rw [← eS1]; exact nw_k _ _ _
  refine aw_putFP hC hSt (hin0 rfl) 0 ka.1 ka.2.1 rfl (by decide) w_322 rfl rfl rfl (fun _ => rfl) (fun _ => rfl) dX4_init_10 ?_
  generalize eS2 : sP S1 a 0 (some (gn S)) = S2
  have x2 : ExtF a S1 S2 := by rw [← eS2]; exact ExtF.sP _ _ _ _
  have n2 : gn S2 = gn S + 1 := by (rw [← eS2, gn_sP, n1]) <;> rfl
  have ka := x2.k ka
  have k1 := x2.k k1
  refine aw_aload_n hC 0 dX4_init_13 rfl rfl ?_
  refine aw_new (ci := 10) hC hSt rfl w_323 w_324 w_18 (by rw [n2]; exact Nat.le_trans (Nat.add_le_add_left (show 1+1 ≤ 4 by decide) (gn S)) hb) (Nat.le_of_ble_eq_true rfl) (Nat.le_of_ble_eq_true rfl) dX4_init_14 ?_
  generalize eS3 : nw S2 10 0 = S3
  have x3 : ExtF (gn S2) S2 S3 := by rw [← eS3]; exact ExtF.nw _ _ _ _
  have n3 : gn S3 = gn S + 2 := by (rw [← eS3, gn_nw, n2]) <;> rfl
  have ka := x3.k ka
  have k3 : (gn S2) < gn S3 ∧ gK S3 (gn S2) = 10 ∧ gL S3 (gn S2) = 0 := by rw [← eS3]; exact nw_k _ _ _
  refine aw_dup hC dX4_init_17 rfl ?_
  refine aw_cIN (b := (gn S2)) hC hSt (t_X10_init G l (gn S2) k3 (by rw [n3]; exact Nat.le_trans (Nat.add_le_add_left (show 2+2 ≤ 4 by decide) (gn S)) hb)) w_317 (by decide) w_18 w_326 rfl rfl rfl (by decide +kernel) ⟨(Nat.le_of_ble_eq_true rfl), (Nat.le_of_ble_eq_true rfl)⟩ (Nat.le_of_ble_eq_true rfl) dX4_init_18 ⟨(Nat.le_of_ble_eq_true rfl), (Nat.le_of_ble_eq_true rfl)⟩ ?_
  generalize eS4 : f_X10_init S3 (gn S2) = S4
  have x4 : ExtF (gn S2) S3 S4 := by rw [← eS4]; exact (z_X10_init _ _ k3.1)
  have n4 : gn S4 = gn S + 4 := by (rw [← eS4, z_X10_init_n _ _ k3.1, n3]) <;> rfl
  have ka := x4.k ka
  have k3 := x4.k k3
  refine aw_putFP hC hSt (hin0 rfl) 1 ka.1 ka.2.1 rfl (by decide) w_325 rfl rfl rfl (fun _ => rfl) (fun _ => rfl) dX4_init_21 ?_
  generalize eS5 : sP S4 a 1 (some (gn S2)) = S5
  have x5 : ExtF a S4 S5 := by rw [← eS5]; exact ExtF.sP _ _ _ _
  have n5 : gn S5 = gn S + 4 := by (rw [← eS5, gn_sP, n4]) <;> rfl
  have ka := x5.k ka
  have k3 := x5.k k3
  exact aw_vret hC dX4_init_24 (Nat.le_of_ble_eq_true rfl) (Nat.le_of_ble_eq_true rfl) (FP.qV ((bd_eq eS1).trans ((bd_eq eS2).trans ((bd_eq eS3).trans ((bd_eq eS4).trans ((bd_eq eS5).trans (rfl)))))))
noncomputable def f_X5_init (S : HSt) (a : Nat) : HSt := bd (mna S 8 40) fun S1 => bd (sP S1 a 0 (some (gn S))) fun S2 => bd (nw S2 14 8) fun S3 => bd (sP S3 a 1 (some (gn S2))) fun S4 => bd (nw S4 14 8) fun S5 => bd (sP S5 a 2 (some (gn S4))) fun S6 => bd (f_J7_fill_53178 S6 (gn S4) (-1 : Int32)) fun S7 => S7
theorem zz_X5_init (S : HSt) (a : Nat) (ha : a < gn S) : ExtF a S (f_X5_init S a) ∧ gn (f_X5_init S a) = gn S + 11 := by
  unfold f_X5_init
  have y0 : ExtF a S S := ExtF.refl a S
  have n0 : gn S = gn S + 0 := rfl
  refine bdE (P := fun T => ExtF a S T ∧ gn T = gn S + 11) (fun S1 eS1 => ?_)
  have y1 : ExtF a S S1 := y0.trans (b := a) (by rw [← eS1]; exact ExtF.mna _ _ _ _) (Or.inl rfl)
  have n1 : gn S1 = gn S + 9 := by (rw [← eS1, gn_mna, n0]) <;> rfl
  refine bdE (P := fun T => ExtF a S T ∧ gn T = gn S + 11) (fun S2 eS2 => ?_)
  have y2 : ExtF a S S2 := y1.trans (b := a) (by rw [← eS2]; exact ExtF.sP _ _ _ _) (Or.inl rfl)
  have n2 : gn S2 = gn S + 9 := by (rw [← eS2, gn_sP, n1]) <;> rfl
  refine bdE (P := fun T => ExtF a S T ∧ gn T = gn S + 11) (fun S3 eS3 => ?_)
  have y3 : ExtF a S S3 := y2.trans (b := a) (by rw [← eS3]; exact ExtF.nw _ _ _ _) (Or.inl rfl)
  have n3 : gn S3 = gn S + 10 := by (rw [← eS3, gn_nw, n2]) <;> rfl
  refine bdE (P := fun T => ExtF a S T ∧ gn T = gn S + 11) (fun S4 eS4 => ?_)
  have y4 : ExtF a S S4 := y3.trans (b := a) (by rw [← eS4]; exact ExtF.sP _ _ _ _) (Or.inl rfl)
  have n4 : gn S4 = gn S + 10 := by (rw [← eS4, gn_sP, n3]) <;> rfl
  refine bdE (P := fun T => ExtF a S T ∧ gn T = gn S + 11) (fun S5 eS5 => ?_)
  have y5 : ExtF a S S5 := y4.trans (b := a) (by rw [← eS5]; exact ExtF.nw _ _ _ _) (Or.inl rfl)
  have n5 : gn S5 = gn S + 11 := by (rw [← eS5, gn_nw, n4]) <;> rfl
  refine bdE (P := fun T => ExtF a S T ∧ gn T = gn S + 11) (fun S6 eS6 => ?_)
  have y6 : ExtF a S S6 := y5.trans (b := a) (by rw [← eS6]; exact ExtF.sP _ _ _ _) (Or.inl rfl)
  have n6 : gn S6 = gn S + 11 := by (rw [← eS6, gn_sP, n5]) <;> rfl
  refine bdE (P := fun T => ExtF a S T ∧ gn T = gn S + 11) (fun S7 eS7 => ?_)
  have y7 : ExtF a S S7 := y6.trans (b := (gn S4)) (by rw [← eS7]; exact ExtF.fill _ _ _) (Or.inr (by rw [n4]; exact Nat.le_add_right _ _))
  have n7 : gn S7 = gn S + 11 := by (rw [← eS7, gn_fill, n6]) <;> rfl
  exact ⟨y7, n7⟩
theorem z_X5_init (S : HSt) (a : Nat) (ha : a < gn S) : ExtF a S (f_X5_init S a) := (zz_X5_init S a ha).1
theorem z_X5_init_n (S : HSt) (a : Nat) (ha : a < gn S) : gn (f_X5_init S a) = gn S + 11 := (zz_X5_init S a ha).2
set_option maxRecDepth 100000 in
theorem t_X5_init (G : GG) (l : Launch) {S : HSt} (a : Nat) (ka : a < gn S ∧ gK S a = 5 ∧ gL S a = 0) (hb : gn S + 11 ≤ 1000) : AM G l yX5_init cX5_init 1 none (rmD 1 11 344) 11 344 [.ref a] S (FP none (f_X5_init S a)) := by
  refine AM.mk (by decide) (Nat.le_of_ble_eq_true rfl) ?_
  intro p e s m below meth c hC hSt hin0
  have oa := ka.1
  have n0 : gn S = gn S + 0 := rfl
  refine aw_aload_n hC 0 dX5_init_0 rfl rfl ?_
  refine aw_objInit hC w_463 w_2 w_3 dX5_init_1 (Nat.le_of_ble_eq_true rfl) (Nat.le_of_ble_eq_true rfl) ?_
  refine aw_aload_n hC 0 dX5_init_4 rfl rfl ?_
  refine aw_bipush (v := 8) hC dX5_init_5 (by decide) ?_
  refine aw_bipush (v := 40) hC dX5_init_7 (by decide) ?_
  refine aw_mna hC hSt 8 40 w_464 w_4 (by decide) (by decide) (by decide) (by decide) (by decide) (by decide) (by decide) (by rw [n0]; exact Nat.le_trans (Nat.add_le_add_left (show 0+9 ≤ 11 by decide) (gn S)) hb) (Nat.le_of_ble_eq_true rfl) (Nat.le_of_ble_eq_true rfl) dX5_init_9 ?_
  generalize eS1 : mna S 8 40 = S1
  have x1 : ExtF (gn S) S S1 := by rw [← eS1]; exact ExtF.mna _ _ _ _
  have n1 : gn S1 = gn S + 9 := by (rw [← eS1, gn_mna, n0]) <;> rfl
  have ka := x1.k ka
  have k1 : (gn S) < gn S1 ∧ gK S1 (gn S) = 19 ∧ gL S1 (gn S) = 8 := by rw [← eS1]; exact mna_k _ _ _
  refine aw_putFP hC hSt (hin0 rfl) 0 ka.1 ka.2.1 rfl (by decide) w_465 rfl rfl rfl (fun _ => rfl) (fun _ => rfl) dX5_init_13 ?_
  generalize eS2 : sP S1 a 0 (some (gn S)) = S2
  have x2 : ExtF a S1 S2 := by rw [← eS2]; exact ExtF.sP _ _ _ _
  have n2 : gn S2 = gn S + 9 := by (rw [← eS2, gn_sP, n1]) <;> rfl
  have ka := x2.k ka
  have k1 := x2.k k1
  refine aw_aload_n hC 0 dX5_init_16 rfl rfl ?_
  refine aw_bipush (v := 8) hC dX5_init_17 (by decide) ?_
  refine aw_newaI hC hSt 8 w_4 (by decide) (by decide) (by decide) (by rw [n2]; exact Nat.le_trans (Nat.add_le_add_left (show 9+1 ≤ 11 by decide) (gn S)) hb) (Nat.le_of_ble_eq_true rfl) (Nat.le_of_ble_eq_true rfl) dX5_init_19 ?_
  generalize eS3 : nw S2 14 8 = S3
  have x3 : ExtF (gn S2) S2 S3 := by rw [← eS3]; exact ExtF.nw _ _ _ _
  have n3 : gn S3 = gn S + 10 := by (rw [← eS3, gn_nw, n2]) <;> rfl
  have ka := x3.k ka
  have k3 : (gn S2) < gn S3 ∧ gK S3 (gn S2) = 14 ∧ gL S3 (gn S2) = 8 := by rw [← eS3]; exact nw_k _ _ _
  refine aw_putFP hC hSt (hin0 rfl) 1 ka.1 ka.2.1 rfl (by decide) w_466 rfl rfl rfl (fun _ => rfl) (fun _ => rfl) dX5_init_21 ?_
  generalize eS4 : sP S3 a 1 (some (gn S2)) = S4
  have x4 : ExtF a S3 S4 := by rw [← eS4]; exact ExtF.sP _ _ _ _
  have n4 : gn S4 = gn S + 10 := by (rw [← eS4, gn_sP, n3]) <;> rfl
  have ka := x4.k ka
  have k3 := x4.k k3
  refine aw_aload_n hC 0 dX5_init_24 rfl rfl ?_
  refine aw_bipush (v := 8) hC dX5_init_25 (by decide) ?_
  refine aw_newaI hC hSt 8 w_4 (by decide) (by decide) (by decide) (by rw [n4]; exact Nat.le_trans (Nat.add_le_add_left (show 10+1 ≤ 11 by decide) (gn S)) hb) (Nat.le_of_ble_eq_true rfl) (Nat.le_of_ble_eq_true rfl) dX5_init_27 ?_
  generalize eS5 : nw S4 14 8 = S5
  have x5 : ExtF (gn S4) S4 S5 := by rw [← eS5]; exact ExtF.nw _ _ _ _
  have n5 : gn S5 = gn S + 11 := by (rw [← eS5, gn_nw, n4]) <;> rfl
  have ka := x5.k ka
  have k5 : (gn S4) < gn S5 ∧ gK S5 (gn S4) = 14 ∧ gL S5 (gn S4) = 8 := by rw [← eS5]; exact nw_k _ _ _
  refine aw_putFP hC hSt (hin0 rfl) 2 ka.1 ka.2.1 rfl (by decide) w_467 rfl rfl rfl (fun _ => rfl) (fun _ => rfl) dX5_init_29 ?_
  generalize eS6 : sP S5 a 2 (some (gn S4)) = S6
  have x6 : ExtF a S5 S6 := by rw [← eS6]; exact ExtF.sP _ _ _ _
  have n6 : gn S6 = gn S + 11 := by (rw [← eS6, gn_sP, n5]) <;> rfl
  have ka := x6.k ka
  have k5 := x6.k k5
  have p2 : gP S6 a 2 = some (gn S4) := by rw [← eS6, gP_sP, if_pos rfl, if_pos rfl]
  refine aw_aload_n hC 0 dX5_init_32 rfl rfl ?_
  refine aw_getP (b := (gn S4)) hC hSt 2 ka.1 ka.2.1 rfl (by decide) w_467 rfl p2 dX5_init_33 ?_
  refine aw_iconst (v := -1) hC dX5_init_36 (by decide) ?_
  refine aw_cS2v hC hSt (tN_J7_fill_53178 G l (S := S6) ⟨k5.1, k5.2.1⟩ _ (p_fill _ k5.2.2 (by decide))) w_145 w_468 w_260 w_261 rfl rfl (by decide +kernel) ⟨(Nat.le_of_ble_eq_true rfl), (Nat.le_of_ble_eq_true rfl)⟩ (Nat.le_of_ble_eq_true rfl) dX5_init_37 ⟨(Nat.le_of_ble_eq_true rfl), (Nat.le_of_ble_eq_true rfl)⟩ ?_
  generalize eS7 : f_J7_fill_53178 S6 (gn S4) (-1 : Int32) = S7
  have x7 : ExtF (gn S4) S6 S7 := by rw [← eS7]; exact ExtF.fill _ _ _
  have p2 : gP S7 a 2 = some (gn S4) := x7.p ka.1 (by rw [n4]; exact Nat.ne_of_lt (Nat.lt_add_right _ oa)) p2
  have n7 : gn S7 = gn S + 11 := by (rw [← eS7, gn_fill, n6]) <;> rfl
  have ka := x7.k ka
  have k5 := x7.k k5
  exact aw_vret hC dX5_init_40 (Nat.le_of_ble_eq_true rfl) (Nat.le_of_ble_eq_true rfl) (FP.qV ((bd_eq eS1).trans ((bd_eq eS2).trans ((bd_eq eS3).trans ((bd_eq eS4).trans ((bd_eq eS5).trans ((bd_eq eS6).trans ((bd_eq eS7).trans (rfl)))))))))
noncomputable def f_X6_init (S : HSt) (a : Nat) : HSt := bd (nw S 1 0) fun S1 => bd (f_X1_init S1 (gn S)) fun S2 => bd (sP S2 a 0 (some (gn S))) fun S3 => bd (nw S3 9 0) fun S4 => bd (f_X9_init S4 (gn S3)) fun S5 => bd (sP S5 a 1 (some (gn S3))) fun S6 => S6
theorem zz_X6_init (S : HSt) (a : Nat) (ha : a < gn S) : ExtF a S (f_X6_init S a) ∧ gn (f_X6_init S a) = gn S + 2 := by
  unfold f_X6_init
  have y0 : ExtF a S S := ExtF.refl a S
  have n0 : gn S = gn S + 0 := rfl
  refine bdE (P := fun T => ExtF a S T ∧ gn T = gn S + 2) (fun S1 eS1 => ?_)
  have y1 : ExtF a S S1 := y0.trans (b := a) (by rw [← eS1]; exact ExtF.nw _ _ _ _) (Or.inl rfl)
  have n1 : gn S1 = gn S + 1 := by (rw [← eS1, gn_nw, n0]) <;> rfl
  refine bdE (P := fun T => ExtF a S T ∧ gn T = gn S + 2) (fun S2 eS2 => ?_)
  have y2 : ExtF a S S2 := y1.trans (b := (gn S)) (by rw [← eS2]; exact (z_X1_init _ _ (by rw [n1]; exact Nat.lt_add_of_pos_right (by decide)))) (Or.inr (Nat.le_refl _))
  have n2 : gn S2 = gn S + 1 := by (rw [← eS2, z_X1_init_n _ _ (by rw [n1]; exact Nat.lt_add_of_pos_right (by decide)), n1]) <;> rfl
  refine bdE (P := fun T => ExtF a S T ∧ gn T = gn S + 2) (fun S3 eS3 => ?_)
  have y3 : ExtF a S S3 := y2.trans (b := a) (by rw [← eS3]; exact ExtF.sP _ _ _ _) (Or.inl rfl)
  have n3 : gn S3 = gn S + 1 := by (rw [← eS3, gn_sP, n2]) <;> rfl
  refine bdE (P := fun T => ExtF a S T ∧ gn T = gn S + 2) (fun S4 eS4 => ?_)
  have y4 : ExtF a S S4 := y3.trans (b := a) (by rw [← eS4]; exact ExtF.nw _ _ _ _) (Or.inl rfl)
  have n4 : gn S4 = gn S + 2 := by (rw [← eS4, gn_nw, n3]) <;> rfl
  refine bdE (P := fun T => ExtF a S T ∧ gn T = gn S + 2) (fun S5 eS5 => ?_)
  have y5 : ExtF a S S5 := y4.trans (b := (gn S3)) (by rw [← eS5]; exact (z_X9_init _ _ (by rw [n4, n3]; exact Nat.add_lt_add_left (by decide) _))) (Or.inr (by rw [n3]; exact Nat.le_add_right _ _))
  have n5 : gn S5 = gn S + 2 := by (rw [← eS5, z_X9_init_n _ _ (by rw [n4, n3]; exact Nat.add_lt_add_left (by decide) _), n4]) <;> rfl
  refine bdE (P := fun T => ExtF a S T ∧ gn T = gn S + 2) (fun S6 eS6 => ?_)
  have y6 : ExtF a S S6 := y5.trans (b := a) (by rw [← eS6]; exact ExtF.sP _ _ _ _) (Or.inl rfl)
  have n6 : gn S6 = gn S + 2 := by (rw [← eS6, gn_sP, n5]) <;> rfl
  exact ⟨y6, n6⟩
theorem z_X6_init (S : HSt) (a : Nat) (ha : a < gn S) : ExtF a S (f_X6_init S a) := (zz_X6_init S a ha).1
theorem z_X6_init_n (S : HSt) (a : Nat) (ha : a < gn S) : gn (f_X6_init S a) = gn S + 2 := (zz_X6_init S a ha).2
set_option maxRecDepth 100000 in
theorem t_X6_init (G : GG) (l : Launch) {S : HSt} (a : Nat) (ka : a < gn S ∧ gK S a = 6 ∧ gL S a = 0) (hb : gn S + 2 ≤ 1000) : AM G l yX6_init cX6_init 1 none (rmD 1 2 18) 2 18 [.ref a] S (FP none (f_X6_init S a)) := by
  refine AM.mk (by decide) (Nat.le_of_ble_eq_true rfl) ?_
  intro p e s m below meth c hC hSt hin0
  have oa := ka.1
  have n0 : gn S = gn S + 0 := rfl
  refine aw_aload_n hC 0 dX6_init_0 rfl rfl ?_
  refine aw_objInit hC w_491 w_2 w_3 dX6_init_1 (Nat.le_of_ble_eq_true rfl) (Nat.le_of_ble_eq_true rfl) ?_
  refine aw_aload_n hC 0 dX6_init_4 rfl rfl ?_
  refine aw_new (ci := 1) hC hSt rfl w_492 w_142 w_84 (by rw [n0]; exact Nat.le_trans (Nat.add_le_add_left (show 0+1 ≤ 2 by decide) (gn S)) hb) (Nat.le_of_ble_eq_true rfl) (Nat.le_of_ble_eq_true rfl) dX6_init_5 ?_
  generalize eS1 : nw S 1 0 = S1
  have x1 : ExtF (gn S) S S1 := by rw [← eS1]; exact ExtF.nw _ _ _ _
  have n1 : gn S1 = gn S + 1 := by (rw [← eS1, gn_nw, n0]) <;> rfl
  have ka := x1.k ka
  have k1 : (gn S) < gn S1 ∧ gK S1 (gn S) = 1 ∧ gL S1 (gn S) = 0 := by rw [← eS1]; exact nw_k _ _ _
  refine aw_dup hC dX6_init_8 rfl ?_
  refine aw_cIN (b := (gn S)) hC hSt (t_X1_init G l (gn S) k1 (by rw [n1]; exact Nat.le_trans (Nat.add_le_add_left (show 1+0 ≤ 2 by decide) (gn S)) hb)) w_69 (by decide) w_84 w_144 rfl rfl rfl (by decide +kernel) ⟨(Nat.le_of_ble_eq_true rfl), (Nat.le_of_ble_eq_true rfl)⟩ (Nat.le_of_ble_eq_true rfl) dX6_init_9 ⟨(Nat.le_of_ble_eq_true rfl), (Nat.le_of_ble_eq_true rfl)⟩ ?_
  generalize eS2 : f_X1_init S1 (gn S) = S2
  have x2 : ExtF (gn S) S1 S2 := by rw [← eS2]; exact (z_X1_init _ _ k1.1)
  have n2 : gn S2 = gn S + 1 := by (rw [← eS2, z_X1_init_n _ _ k1.1, n1]) <;> rfl
  have ka := x2.k ka
  have k1 := x2.k k1
  refine aw_putFP hC hSt (hin0 rfl) 0 ka.1 ka.2.1 rfl (by decide) w_493 rfl rfl rfl (fun _ => rfl) (fun _ => rfl) dX6_init_12 ?_
  generalize eS3 : sP S2 a 0 (some (gn S)) = S3
  have x3 : ExtF a S2 S3 := by rw [← eS3]; exact ExtF.sP _ _ _ _
  have n3 : gn S3 = gn S + 1 := by (rw [← eS3, gn_sP, n2]) <;> rfl
  have ka := x3.k ka
  have k1 := x3.k k1
  refine aw_aload_n hC 0 dX6_init_15 rfl rfl ?_
  refine aw_new (ci := 9) hC hSt rfl w_494 w_139 w_140 (by rw [n3]; exact Nat.le_trans (Nat.add_le_add_left (show 1+1 ≤ 2 by decide) (gn S)) hb) (Nat.le_of_ble_eq_true rfl) (Nat.le_of_ble_eq_true rfl) dX6_init_16 ?_
  generalize eS4 : nw S3 9 0 = S4
  have x4 : ExtF (gn S3) S3 S4 := by rw [← eS4]; exact ExtF.nw _ _ _ _
  have n4 : gn S4 = gn S + 2 := by (rw [← eS4, gn_nw, n3]) <;> rfl
  have ka := x4.k ka
  have k4 : (gn S3) < gn S4 ∧ gK S4 (gn S3) = 9 ∧ gL S4 (gn S3) = 0 := by rw [← eS4]; exact nw_k _ _ _
  refine aw_dup hC dX6_init_19 rfl ?_
  refine aw_cIN (b := (gn S3)) hC hSt (t_X9_init G l (gn S3) k4 (by rw [n4]; exact Nat.le_trans (Nat.add_le_add_left (show 2+0 ≤ 2 by decide) (gn S)) hb)) w_127 (by decide) w_140 w_143 rfl rfl rfl (by decide +kernel) ⟨(Nat.le_of_ble_eq_true rfl), (Nat.le_of_ble_eq_true rfl)⟩ (Nat.le_of_ble_eq_true rfl) dX6_init_20 ⟨(Nat.le_of_ble_eq_true rfl), (Nat.le_of_ble_eq_true rfl)⟩ ?_
  generalize eS5 : f_X9_init S4 (gn S3) = S5
  have x5 : ExtF (gn S3) S4 S5 := by rw [← eS5]; exact (z_X9_init _ _ k4.1)
  have n5 : gn S5 = gn S + 2 := by (rw [← eS5, z_X9_init_n _ _ k4.1, n4]) <;> rfl
  have ka := x5.k ka
  have k4 := x5.k k4
  refine aw_putFP hC hSt (hin0 rfl) 1 ka.1 ka.2.1 rfl (by decide) w_495 rfl rfl rfl (fun _ => rfl) (fun _ => rfl) dX6_init_23 ?_
  generalize eS6 : sP S5 a 1 (some (gn S3)) = S6
  have x6 : ExtF a S5 S6 := by rw [← eS6]; exact ExtF.sP _ _ _ _
  have n6 : gn S6 = gn S + 2 := by (rw [← eS6, gn_sP, n5]) <;> rfl
  have ka := x6.k ka
  have k4 := x6.k k4
  exact aw_vret hC dX6_init_26 (Nat.le_of_ble_eq_true rfl) (Nat.le_of_ble_eq_true rfl) (FP.qV ((bd_eq eS1).trans ((bd_eq eS2).trans ((bd_eq eS3).trans ((bd_eq eS4).trans ((bd_eq eS5).trans ((bd_eq eS6).trans (rfl))))))))
noncomputable def f_X8_init (S : HSt) (a : Nat) : HSt := bd (nw S 14 384) fun S1 => bd (sP S1 a 0 (some (gn S))) fun S2 => bd (nw S2 14 6) fun S3 => bd (sP S3 a 1 (some (gn S2))) fun S4 => bd (nw S4 14 101) fun S5 => bd (sP S5 a 2 (some (gn S4))) fun S6 => bd (nw S6 1 0) fun S7 => bd (f_X1_init S7 (gn S6)) fun S8 => bd (sP S8 a 3 (some (gn S6))) fun S9 => S9
theorem zz_X8_init (S : HSt) (a : Nat) (ha : a < gn S) : ExtF a S (f_X8_init S a) ∧ gn (f_X8_init S a) = gn S + 4 := by
  unfold f_X8_init
  have y0 : ExtF a S S := ExtF.refl a S
  have n0 : gn S = gn S + 0 := rfl
  refine bdE (P := fun T => ExtF a S T ∧ gn T = gn S + 4) (fun S1 eS1 => ?_)
  have y1 : ExtF a S S1 := y0.trans (b := a) (by rw [← eS1]; exact ExtF.nw _ _ _ _) (Or.inl rfl)
  have n1 : gn S1 = gn S + 1 := by (rw [← eS1, gn_nw, n0]) <;> rfl
  refine bdE (P := fun T => ExtF a S T ∧ gn T = gn S + 4) (fun S2 eS2 => ?_)
  have y2 : ExtF a S S2 := y1.trans (b := a) (by rw [← eS2]; exact ExtF.sP _ _ _ _) (Or.inl rfl)
  have n2 : gn S2 = gn S + 1 := by (rw [← eS2, gn_sP, n1]) <;> rfl
  refine bdE (P := fun T => ExtF a S T ∧ gn T = gn S + 4) (fun S3 eS3 => ?_)
  have y3 : ExtF a S S3 := y2.trans (b := a) (by rw [← eS3]; exact ExtF.nw _ _ _ _) (Or.inl rfl)
  have n3 : gn S3 = gn S + 2 := by (rw [← eS3, gn_nw, n2]) <;> rfl
  refine bdE (P := fun T => ExtF a S T ∧ gn T = gn S + 4) (fun S4 eS4 => ?_)
  have y4 : ExtF a S S4 := y3.trans (b := a) (by rw [← eS4]; exact ExtF.sP _ _ _ _) (Or.inl rfl)
  have n4 : gn S4 = gn S + 2 := by (rw [← eS4, gn_sP, n3]) <;> rfl
  refine bdE (P := fun T => ExtF a S T ∧ gn T = gn S + 4) (fun S5 eS5 => ?_)
  have y5 : ExtF a S S5 := y4.trans (b := a) (by rw [← eS5]; exact ExtF.nw _ _ _ _) (Or.inl rfl)
  have n5 : gn S5 = gn S + 3 := by (rw [← eS5, gn_nw, n4]) <;> rfl
  refine bdE (P := fun T => ExtF a S T ∧ gn T = gn S + 4) (fun S6 eS6 => ?_)
  have y6 : ExtF a S S6 := y5.trans (b := a) (by rw [← eS6]; exact ExtF.sP _ _ _ _) (Or.inl rfl)
  have n6 : gn S6 = gn S + 3 := by (rw [← eS6, gn_sP, n5]) <;> rfl
  refine bdE (P := fun T => ExtF a S T ∧ gn T = gn S + 4) (fun S7 eS7 => ?_)
  have y7 : ExtF a S S7 := y6.trans (b := a) (by rw [← eS7]; exact ExtF.nw _ _ _ _) (Or.inl rfl)
  have n7 : gn S7 = gn S + 4 := by (rw [← eS7, gn_nw, n6]) <;> rfl
  refine bdE (P := fun T => ExtF a S T ∧ gn T = gn S + 4) (fun S8 eS8 => ?_)
  have y8 : ExtF a S S8 := y7.trans (b := (gn S6)) (by rw [← eS8]; exact (z_X1_init _ _ (by rw [n7, n6]; exact Nat.add_lt_add_left (by decide) _))) (Or.inr (by rw [n6]; exact Nat.le_add_right _ _))
  have n8 : gn S8 = gn S + 4 := by (rw [← eS8, z_X1_init_n _ _ (by rw [n7, n6]; exact Nat.add_lt_add_left (by decide) _), n7]) <;> rfl
  refine bdE (P := fun T => ExtF a S T ∧ gn T = gn S + 4) (fun S9 eS9 => ?_)
  have y9 : ExtF a S S9 := y8.trans (b := a) (by rw [← eS9]; exact ExtF.sP _ _ _ _) (Or.inl rfl)
  have n9 : gn S9 = gn S + 4 := by (rw [← eS9, gn_sP, n8]) <;> rfl
  exact ⟨y9, n9⟩
theorem z_X8_init (S : HSt) (a : Nat) (ha : a < gn S) : ExtF a S (f_X8_init S a) := (zz_X8_init S a ha).1
theorem z_X8_init_n (S : HSt) (a : Nat) (ha : a < gn S) : gn (f_X8_init S a) = gn S + 4 := (zz_X8_init S a ha).2
set_option maxRecDepth 100000 in
theorem t_X8_init (G : GG) (l : Launch) {S : HSt} (a : Nat) (ka : a < gn S ∧ gK S a = 8 ∧ gL S a = 0) (hb : gn S + 4 ≤ 1000) : AM G l yX8_init cX8_init 1 none (rmD 1 4 498) 4 498 [.ref a] S (FP none (f_X8_init S a)) := by
  refine AM.mk (by decide) (Nat.le_of_ble_eq_true rfl) ?_
  intro p e s m below meth c hC hSt hin0
  have oa := ka.1
  have n0 : gn S = gn S + 0 := rfl
  refine aw_aload_n hC 0 dX8_init_0 rfl rfl ?_
  refine aw_objInit hC w_613 w_2 w_3 dX8_init_1 (Nat.le_of_ble_eq_true rfl) (Nat.le_of_ble_eq_true rfl) ?_
  refine aw_aload_n hC 0 dX8_init_4 rfl rfl ?_
  refine aw_sipush (v := 384) hC dX8_init_5 (by decide) ?_
  refine aw_newaI hC hSt 384 w_4 (by decide) (by decide) (by decide) (by rw [n0]; exact Nat.le_trans (Nat.add_le_add_left (show 0+1 ≤ 4 by decide) (gn S)) hb) (Nat.le_of_ble_eq_true rfl) (Nat.le_of_ble_eq_true rfl) dX8_init_8 ?_
  generalize eS1 : nw S 14 384 = S1
  have x1 : ExtF (gn S) S S1 := by rw [← eS1]; exact ExtF.nw _ _ _ _
  have n1 : gn S1 = gn S + 1 := by (rw [← eS1, gn_nw, n0]) <;> rfl
  have ka := x1.k ka
  have k1 : (gn S) < gn S1 ∧ gK S1 (gn S) = 14 ∧ gL S1 (gn S) = 384 := by rw [← eS1]; exact nw_k _ _ _
  refine aw_putFP hC hSt (hin0 rfl) 0 ka.1 ka.2.1 rfl (by decide) w_614 rfl rfl rfl (fun _ => rfl) (fun _ => rfl) dX8_init_10 ?_
  generalize eS2 : sP S1 a 0 (some (gn S)) = S2
  have x2 : ExtF a S1 S2 := by rw [← eS2]; exact ExtF.sP _ _ _ _
  have n2 : gn S2 = gn S + 1 := by (rw [← eS2, gn_sP, n1]) <;> rfl
  have ka := x2.k ka
  have k1 := x2.k k1
  refine aw_aload_n hC 0 dX8_init_13 rfl rfl ?_
  refine aw_bipush (v := 6) hC dX8_init_14 (by decide) ?_
  refine aw_newaI hC hSt 6 w_4 (by decide) (by decide) (by decide) (by rw [n2]; exact Nat.le_trans (Nat.add_le_add_left (show 1+1 ≤ 4 by decide) (gn S)) hb) (Nat.le_of_ble_eq_true rfl) (Nat.le_of_ble_eq_true rfl) dX8_init_16 ?_
  generalize eS3 : nw S2 14 6 = S3
  have x3 : ExtF (gn S2) S2 S3 := by rw [← eS3]; exact ExtF.nw _ _ _ _
  have n3 : gn S3 = gn S + 2 := by (rw [← eS3, gn_nw, n2]) <;> rfl
  have ka := x3.k ka
  have k3 : (gn S2) < gn S3 ∧ gK S3 (gn S2) = 14 ∧ gL S3 (gn S2) = 6 := by rw [← eS3]; exact nw_k _ _ _
  refine aw_putFP hC hSt (hin0 rfl) 1 ka.1 ka.2.1 rfl (by decide) w_615 rfl rfl rfl (fun _ => rfl) (fun _ => rfl) dX8_init_18 ?_
  generalize eS4 : sP S3 a 1 (some (gn S2)) = S4
  have x4 : ExtF a S3 S4 := by rw [← eS4]; exact ExtF.sP _ _ _ _
  have n4 : gn S4 = gn S + 2 := by (rw [← eS4, gn_sP, n3]) <;> rfl
  have ka := x4.k ka
  have k3 := x4.k k3
  refine aw_aload_n hC 0 dX8_init_21 rfl rfl ?_
  refine aw_bipush (v := 101) hC dX8_init_22 (by decide) ?_
  refine aw_newaI hC hSt 101 w_4 (by decide) (by decide) (by decide) (by rw [n4]; exact Nat.le_trans (Nat.add_le_add_left (show 2+1 ≤ 4 by decide) (gn S)) hb) (Nat.le_of_ble_eq_true rfl) (Nat.le_of_ble_eq_true rfl) dX8_init_24 ?_
  generalize eS5 : nw S4 14 101 = S5
  have x5 : ExtF (gn S4) S4 S5 := by rw [← eS5]; exact ExtF.nw _ _ _ _
  have n5 : gn S5 = gn S + 3 := by (rw [← eS5, gn_nw, n4]) <;> rfl
  have ka := x5.k ka
  have k5 : (gn S4) < gn S5 ∧ gK S5 (gn S4) = 14 ∧ gL S5 (gn S4) = 101 := by rw [← eS5]; exact nw_k _ _ _
  refine aw_putFP hC hSt (hin0 rfl) 2 ka.1 ka.2.1 rfl (by decide) w_616 rfl rfl rfl (fun _ => rfl) (fun _ => rfl) dX8_init_26 ?_
  generalize eS6 : sP S5 a 2 (some (gn S4)) = S6
  have x6 : ExtF a S5 S6 := by rw [← eS6]; exact ExtF.sP _ _ _ _
  have n6 : gn S6 = gn S + 3 := by (rw [← eS6, gn_sP, n5]) <;> rfl
  have ka := x6.k ka
  have k5 := x6.k k5
  refine aw_aload_n hC 0 dX8_init_29 rfl rfl ?_
  refine aw_new (ci := 1) hC hSt rfl w_617 w_142 w_84 (by rw [n6]; exact Nat.le_trans (Nat.add_le_add_left (show 3+1 ≤ 4 by decide) (gn S)) hb) (Nat.le_of_ble_eq_true rfl) (Nat.le_of_ble_eq_true rfl) dX8_init_30 ?_
  generalize eS7 : nw S6 1 0 = S7
  have x7 : ExtF (gn S6) S6 S7 := by rw [← eS7]; exact ExtF.nw _ _ _ _
  have n7 : gn S7 = gn S + 4 := by (rw [← eS7, gn_nw, n6]) <;> rfl
  have ka := x7.k ka
  have k7 : (gn S6) < gn S7 ∧ gK S7 (gn S6) = 1 ∧ gL S7 (gn S6) = 0 := by rw [← eS7]; exact nw_k _ _ _
  refine aw_dup hC dX8_init_33 rfl ?_
  refine aw_cIN (b := (gn S6)) hC hSt (t_X1_init G l (gn S6) k7 (by rw [n7]; exact Nat.le_trans (Nat.add_le_add_left (show 4+0 ≤ 4 by decide) (gn S)) hb)) w_69 (by decide) w_84 w_144 rfl rfl rfl (by decide +kernel) ⟨(Nat.le_of_ble_eq_true rfl), (Nat.le_of_ble_eq_true rfl)⟩ (Nat.le_of_ble_eq_true rfl) dX8_init_34 ⟨(Nat.le_of_ble_eq_true rfl), (Nat.le_of_ble_eq_true rfl)⟩ ?_
  generalize eS8 : f_X1_init S7 (gn S6) = S8
  have x8 : ExtF (gn S6) S7 S8 := by rw [← eS8]; exact (z_X1_init _ _ k7.1)
  have n8 : gn S8 = gn S + 4 := by (rw [← eS8, z_X1_init_n _ _ k7.1, n7]) <;> rfl
  have ka := x8.k ka
  have k7 := x8.k k7
  refine aw_putFP hC hSt (hin0 rfl) 3 ka.1 ka.2.1 rfl (by decide) w_618 rfl rfl rfl (fun _ => rfl) (fun _ => rfl) dX8_init_37 ?_
  generalize eS9 : sP S8 a 3 (some (gn S6)) = S9
  have x9 : ExtF a S8 S9 := by rw [← eS9]; exact ExtF.sP _ _ _ _
  have n9 : gn S9 = gn S + 4 := by (rw [← eS9, gn_sP, n8]) <;> rfl
  have ka := x9.k ka
  have k7 := x9.k k7
  exact aw_vret hC dX8_init_40 (Nat.le_of_ble_eq_true rfl) (Nat.le_of_ble_eq_true rfl) (FP.qV ((bd_eq eS1).trans ((bd_eq eS2).trans ((bd_eq eS3).trans ((bd_eq eS4).trans ((bd_eq eS5).trans ((bd_eq eS6).trans ((bd_eq eS7).trans ((bd_eq eS8).trans ((bd_eq eS9).trans (rfl)))))))))))
noncomputable def f_X2_init (S : HSt) (a : Nat) : HSt := bd (nw S 17 6) fun S1 => bd (sP S1 a 0 (some (gn S))) fun S2 => bd (mna S2 6 5) fun S3 => bd (sP S3 a 1 (some (gn S2))) fun S4 => bd (nw S4 14 6) fun S5 => bd (sP S5 a 2 (some (gn S4))) fun S6 => bd (nw S6 14 6) fun S7 => bd (sP S7 a 3 (some (gn S6))) fun S8 => bd (nw S8 14 640) fun S9 => bd (sP S9 a 4 (some (gn S8))) fun S10 => bd (nw S10 9 0) fun S11 => bd (f_X9_init S11 (gn S10)) fun S12 => bd (sP S12 a 5 (some (gn S10))) fun S13 => bd (nw S13 1 0) fun S14 => bd (f_X1_init S14 (gn S13)) fun S15 => bd (sP S15 (gn S) (0 : Int32).toNatClampNeg (some (gn S13))) fun S16 => bd (nw S16 1 0) fun S17 => bd (f_X1_init S17 (gn S16)) fun S18 => bd (sP S18 (gn S) (1 : Int32).toNatClampNeg (some (gn S16))) fun S19 => bd (nw S19 1 0) fun S20 => bd (f_X1_init S20 (gn S19)) fun S21 => bd (sP S21 (gn S) (2 : Int32).toNatClampNeg (some (gn S19))) fun S22 => bd (nw S22 1 0) fun S23 => bd (f_X1_init S23 (gn S22)) fun S24 => bd (sP S24 (gn S) (3 : Int32).toNatClampNeg (some (gn S22))) fun S25 => bd (nw S25 1 0) fun S26 => bd (f_X1_init S26 (gn S25)) fun S27 => bd (sP S27 (gn S) (4 : Int32).toNatClampNeg (some (gn S25))) fun S28 => bd (nw S28 1 0) fun S29 => bd (f_X1_init S29 (gn S28)) fun S30 => bd (sP S30 (gn S) (5 : Int32).toNatClampNeg (some (gn S28))) fun S31 => S31
theorem zz_X2_init (S : HSt) (a : Nat) (ha : a < gn S) : ExtF a S (f_X2_init S a) ∧ gn (f_X2_init S a) = gn S + 18 := by
  unfold f_X2_init
  have y0 : ExtF a S S := ExtF.refl a S
  have n0 : gn S = gn S + 0 := rfl
  refine bdE (P := fun T => ExtF a S T ∧ gn T = gn S + 18) (fun S1 eS1 => ?_)
  have y1 : ExtF a S S1 := y0.trans (b := a) (by rw [← eS1]; exact ExtF.nw _ _ _ _) (Or.inl rfl)
  have n1 : gn S1 = gn S + 1 := by (rw [← eS1, gn_nw, n0]) <;> rfl
  refine bdE (P := fun T => ExtF a S T ∧ gn T = gn S + 18) (fun S2 eS2 => ?_)
  have y2 : ExtF a S S2 := y1.trans (b := a) (by rw [← eS2]; exact ExtF.sP _ _ _ _) (Or.inl rfl)
  have n2 : gn S2 = gn S + 1 := by (rw [← eS2, gn_sP, n1]) <;> rfl
  refine bdE (P := fun T => ExtF a S T ∧ gn T = gn S + 18) (fun S3 eS3 => ?_)
  have y3 : ExtF a S S3 := y2.trans (b := a) (by rw [← eS3]; exact ExtF.mna _ _ _ _) (Or.inl rfl)
  have n3 : gn S3 = gn S + 8 := by (rw [← eS3, gn_mna, n2]) <;> rfl
  refine bdE (P := fun T => ExtF a S T ∧ gn T = gn S + 18) (fun S4 eS4 => ?_)
  have y4 : ExtF a S S4 := y3.trans (b := a) (by rw [← eS4]; exact ExtF.sP _ _ _ _) (Or.inl rfl)
  have n4 : gn S4 = gn S + 8 := by (rw [← eS4, gn_sP, n3]) <;> rfl
  refine bdE (P := fun T => ExtF a S T ∧ gn T = gn S + 18) (fun S5 eS5 => ?_)
  have y5 : ExtF a S S5 := y4.trans (b := a) (by rw [← eS5]; exact ExtF.nw _ _ _ _) (Or.inl rfl)
  have n5 : gn S5 = gn S + 9 := by (rw [← eS5, gn_nw, n4]) <;> rfl
  refine bdE (P := fun T => ExtF a S T ∧ gn T = gn S + 18) (fun S6 eS6 => ?_)
  have y6 : ExtF a S S6 := y5.trans (b := a) (by rw [← eS6]; exact ExtF.sP _ _ _ _) (Or.inl rfl)
  have n6 : gn S6 = gn S + 9 := by (rw [← eS6, gn_sP, n5]) <;> rfl
  refine bdE (P := fun T => ExtF a S T ∧ gn T = gn S + 18) (fun S7 eS7 => ?_)
  have y7 : ExtF a S S7 := y6.trans (b := a) (by rw [← eS7]; exact ExtF.nw _ _ _ _) (Or.inl rfl)
  have n7 : gn S7 = gn S + 10 := by (rw [← eS7, gn_nw, n6]) <;> rfl
  refine bdE (P := fun T => ExtF a S T ∧ gn T = gn S + 18) (fun S8 eS8 => ?_)
  have y8 : ExtF a S S8 := y7.trans (b := a) (by rw [← eS8]; exact ExtF.sP _ _ _ _) (Or.inl rfl)
  have n8 : gn S8 = gn S + 10 := by (rw [← eS8, gn_sP, n7]) <;> rfl
  refine bdE (P := fun T => ExtF a S T ∧ gn T = gn S + 18) (fun S9 eS9 => ?_)
  have y9 : ExtF a S S9 := y8.trans (b := a) (by rw [← eS9]; exact ExtF.nw _ _ _ _) (Or.inl rfl)
  have n9 : gn S9 = gn S + 11 := by (rw [← eS9, gn_nw, n8]) <;> rfl
  refine bdE (P := fun T => ExtF a S T ∧ gn T = gn S + 18) (fun S10 eS10 => ?_)
  have y10 : ExtF a S S10 := y9.trans (b := a) (by rw [← eS10]; exact ExtF.sP _ _ _ _) (Or.inl rfl)
  have n10 : gn S10 = gn S + 11 := by (rw [← eS10, gn_sP, n9]) <;> rfl
  refine bdE (P := fun T => ExtF a S T ∧ gn T = gn S + 18) (fun S11 eS11 => ?_)
  have y11 : ExtF a S S11 := y10.trans (b := a) (by rw [← eS11]; exact ExtF.nw _ _ _ _) (Or.inl rfl)
  have n11 : gn S11 = gn S + 12 := by (rw [← eS11, gn_nw, n10]) <;> rfl
  refine bdE (P := fun T => ExtF a S T ∧ gn T = gn S + 18) (fun S12 eS12 => ?_)
  have y12 : ExtF a S S12 := y11.trans (b := (gn S10)) (by rw [← eS12]; exact (z_X9_init _ _ (by rw [n11, n10]; exact Nat.add_lt_add_left (by decide) _))) (Or.inr (by rw [n10]; exact Nat.le_add_right _ _))
  have n12 : gn S12 = gn S + 12 := by (rw [← eS12, z_X9_init_n _ _ (by rw [n11, n10]; exact Nat.add_lt_add_left (by decide) _), n11]) <;> rfl
  refine bdE (P := fun T => ExtF a S T ∧ gn T = gn S + 18) (fun S13 eS13 => ?_)
  have y13 : ExtF a S S13 := y12.trans (b := a) (by rw [← eS13]; exact ExtF.sP _ _ _ _) (Or.inl rfl)
  have n13 : gn S13 = gn S + 12 := by (rw [← eS13, gn_sP, n12]) <;> rfl
  refine bdE (P := fun T => ExtF a S T ∧ gn T = gn S + 18) (fun S14 eS14 => ?_)
  have y14 : ExtF a S S14 := y13.trans (b := a) (by rw [← eS14]; exact ExtF.nw _ _ _ _) (Or.inl rfl)
  have n14 : gn S14 = gn S + 13 := by (rw [← eS14, gn_nw, n13]) <;> rfl
  refine bdE (P := fun T => ExtF a S T ∧ gn T = gn S + 18) (fun S15 eS15 => ?_)
  have y15 : ExtF a S S15 := y14.trans (b := (gn S13)) (by rw [← eS15]; exact (z_X1_init _ _ (by rw [n14, n13]; exact Nat.add_lt_add_left (by decide) _))) (Or.inr (by rw [n13]; exact Nat.le_add_right _ _))
  have n15 : gn S15 = gn S + 13 := by (rw [← eS15, z_X1_init_n _ _ (by rw [n14, n13]; exact Nat.add_lt_add_left (by decide) _), n14]) <;> rfl
  refine bdE (P := fun T => ExtF a S T ∧ gn T = gn S + 18) (fun S16 eS16 => ?_)
  have y16 : ExtF a S S16 := y15.trans (b := (gn S)) (by rw [← eS16]; exact ExtF.sP _ _ _ _) (Or.inr (Nat.le_refl _))
  have n16 : gn S16 = gn S + 13 := by (rw [← eS16, gn_sP, n15]) <;> rfl
  refine bdE (P := fun T => ExtF a S T ∧ gn T = gn S + 18) (fun S17 eS17 => ?_)
  have y17 : ExtF a S S17 := y16.trans (b := a) (by rw [← eS17]; exact ExtF.nw _ _ _ _) (Or.inl rfl)
  have n17 : gn S17 = gn S + 14 := by (rw [← eS17, gn_nw, n16]) <;> rfl
  refine bdE (P := fun T => ExtF a S T ∧ gn T = gn S + 18) (fun S18 eS18 => ?_)
  have y18 : ExtF a S S18 := y17.trans (b := (gn S16)) (by rw [← eS18]; exact (z_X1_init _ _ (by rw [n17, n16]; exact Nat.add_lt_add_left (by decide) _))) (Or.inr (by rw [n16]; exact Nat.le_add_right _ _))
  have n18 : gn S18 = gn S + 14 := by (rw [← eS18, z_X1_init_n _ _ (by rw [n17, n16]; exact Nat.add_lt_add_left (by decide) _), n17]) <;> rfl
  refine bdE (P := fun T => ExtF a S T ∧ gn T = gn S + 18) (fun S19 eS19 => ?_)
  have y19 : ExtF a S S19 := y18.trans (b := (gn S)) (by rw [← eS19]; exact ExtF.sP _ _ _ _) (Or.inr (Nat.le_refl _))
  have n19 : gn S19 = gn S + 14 := by (rw [← eS19, gn_sP, n18]) <;> rfl
  refine bdE (P := fun T => ExtF a S T ∧ gn T = gn S + 18) (fun S20 eS20 => ?_)
  have y20 : ExtF a S S20 := y19.trans (b := a) (by rw [← eS20]; exact ExtF.nw _ _ _ _) (Or.inl rfl)
  have n20 : gn S20 = gn S + 15 := by (rw [← eS20, gn_nw, n19]) <;> rfl
  refine bdE (P := fun T => ExtF a S T ∧ gn T = gn S + 18) (fun S21 eS21 => ?_)
  have y21 : ExtF a S S21 := y20.trans (b := (gn S19)) (by rw [← eS21]; exact (z_X1_init _ _ (by rw [n20, n19]; exact Nat.add_lt_add_left (by decide) _))) (Or.inr (by rw [n19]; exact Nat.le_add_right _ _))
  have n21 : gn S21 = gn S + 15 := by (rw [← eS21, z_X1_init_n _ _ (by rw [n20, n19]; exact Nat.add_lt_add_left (by decide) _), n20]) <;> rfl
  refine bdE (P := fun T => ExtF a S T ∧ gn T = gn S + 18) (fun S22 eS22 => ?_)
  have y22 : ExtF a S S22 := y21.trans (b := (gn S)) (by rw [← eS22]; exact ExtF.sP _ _ _ _) (Or.inr (Nat.le_refl _))
  have n22 : gn S22 = gn S + 15 := by (rw [← eS22, gn_sP, n21]) <;> rfl
  refine bdE (P := fun T => ExtF a S T ∧ gn T = gn S + 18) (fun S23 eS23 => ?_)
  have y23 : ExtF a S S23 := y22.trans (b := a) (by rw [← eS23]; exact ExtF.nw _ _ _ _) (Or.inl rfl)
  have n23 : gn S23 = gn S + 16 := by (rw [← eS23, gn_nw, n22]) <;> rfl
  refine bdE (P := fun T => ExtF a S T ∧ gn T = gn S + 18) (fun S24 eS24 => ?_)
  have y24 : ExtF a S S24 := y23.trans (b := (gn S22)) (by rw [← eS24]; exact (z_X1_init _ _ (by rw [n23, n22]; exact Nat.add_lt_add_left (by decide) _))) (Or.inr (by rw [n22]; exact Nat.le_add_right _ _))
  have n24 : gn S24 = gn S + 16 := by (rw [← eS24, z_X1_init_n _ _ (by rw [n23, n22]; exact Nat.add_lt_add_left (by decide) _), n23]) <;> rfl
  refine bdE (P := fun T => ExtF a S T ∧ gn T = gn S + 18) (fun S25 eS25 => ?_)
  have y25 : ExtF a S S25 := y24.trans (b := (gn S)) (by rw [← eS25]; exact ExtF.sP _ _ _ _) (Or.inr (Nat.le_refl _))
  have n25 : gn S25 = gn S + 16 := by (rw [← eS25, gn_sP, n24]) <;> rfl
  refine bdE (P := fun T => ExtF a S T ∧ gn T = gn S + 18) (fun S26 eS26 => ?_)
  have y26 : ExtF a S S26 := y25.trans (b := a) (by rw [← eS26]; exact ExtF.nw _ _ _ _) (Or.inl rfl)
  have n26 : gn S26 = gn S + 17 := by (rw [← eS26, gn_nw, n25]) <;> rfl
  refine bdE (P := fun T => ExtF a S T ∧ gn T = gn S + 18) (fun S27 eS27 => ?_)
  have y27 : ExtF a S S27 := y26.trans (b := (gn S25)) (by rw [← eS27]; exact (z_X1_init _ _ (by rw [n26, n25]; exact Nat.add_lt_add_left (by decide) _))) (Or.inr (by rw [n25]; exact Nat.le_add_right _ _))
  have n27 : gn S27 = gn S + 17 := by (rw [← eS27, z_X1_init_n _ _ (by rw [n26, n25]; exact Nat.add_lt_add_left (by decide) _), n26]) <;> rfl
  refine bdE (P := fun T => ExtF a S T ∧ gn T = gn S + 18) (fun S28 eS28 => ?_)
  have y28 : ExtF a S S28 := y27.trans (b := (gn S)) (by rw [← eS28]; exact ExtF.sP _ _ _ _) (Or.inr (Nat.le_refl _))
  have n28 : gn S28 = gn S + 17 := by (rw [← eS28, gn_sP, n27]) <;> rfl
  refine bdE (P := fun T => ExtF a S T ∧ gn T = gn S + 18) (fun S29 eS29 => ?_)
  have y29 : ExtF a S S29 := y28.trans (b := a) (by rw [← eS29]; exact ExtF.nw _ _ _ _) (Or.inl rfl)
  have n29 : gn S29 = gn S + 18 := by (rw [← eS29, gn_nw, n28]) <;> rfl
  refine bdE (P := fun T => ExtF a S T ∧ gn T = gn S + 18) (fun S30 eS30 => ?_)
  have y30 : ExtF a S S30 := y29.trans (b := (gn S28)) (by rw [← eS30]; exact (z_X1_init _ _ (by rw [n29, n28]; exact Nat.add_lt_add_left (by decide) _))) (Or.inr (by rw [n28]; exact Nat.le_add_right _ _))
  have n30 : gn S30 = gn S + 18 := by (rw [← eS30, z_X1_init_n _ _ (by rw [n29, n28]; exact Nat.add_lt_add_left (by decide) _), n29]) <;> rfl
  refine bdE (P := fun T => ExtF a S T ∧ gn T = gn S + 18) (fun S31 eS31 => ?_)
  have y31 : ExtF a S S31 := y30.trans (b := (gn S)) (by rw [← eS31]; exact ExtF.sP _ _ _ _) (Or.inr (Nat.le_refl _))
  have n31 : gn S31 = gn S + 18 := by (rw [← eS31, gn_sP, n30]) <;> rfl
  exact ⟨y31, n31⟩
theorem z_X2_init (S : HSt) (a : Nat) (ha : a < gn S) : ExtF a S (f_X2_init S a) := (zz_X2_init S a ha).1
theorem z_X2_init_n (S : HSt) (a : Nat) (ha : a < gn S) : gn (f_X2_init S a) = gn S + 18 := (zz_X2_init S a ha).2
set_option maxRecDepth 100000 in
theorem t_X2_init (G : GG) (l : Launch) {S : HSt} (a : Nat) (ka : a < gn S ∧ gK S a = 2 ∧ gL S a = 0) (hb : gn S + 18 ≤ 1000) : AM G l yX2_init cX2_init 2 none (rmD 1 18 747) 18 747 [.ref a] S (FP none (f_X2_init S a)) := by
  refine AM.mk (by decide) (Nat.le_of_ble_eq_true rfl) ?_
  intro p e s m below meth c hC hSt hin0
  have oa := ka.1
  have n0 : gn S = gn S + 0 := rfl
  refine aw_aload_n hC 0 dX2_init_0 rfl rfl ?_
  refine aw_objInit hC w_130 w_2 w_3 dX2_init_1 (Nat.le_of_ble_eq_true rfl) (Nat.le_of_ble_eq_true rfl) ?_
  refine aw_aload_n hC 0 dX2_init_4 rfl rfl ?_
  refine aw_bipush (v := 6) hC dX2_init_5 (by decide) ?_
  refine aw_anewL hC hSt 6 w_131 (by decide) (by decide) (by decide) (by rw [n0]; exact Nat.le_trans (Nat.add_le_add_left (show 0+1 ≤ 18 by decide) (gn S)) hb) (Nat.le_of_ble_eq_true rfl) (Nat.le_of_ble_eq_true rfl) dX2_init_7 ?_
  generalize eS1 : nw S 17 6 = S1
  have x1 : ExtF (gn S) S S1 := by rw [← eS1]; exact ExtF.nw _ _ _ _
  have n1 : gn S1 = gn S + 1 := by (rw [← eS1, gn_nw, n0]) <;> rfl
  have ka := x1.k ka
  have k1 : (gn S) < gn S1 ∧ gK S1 (gn S) = 17 ∧ gL S1 (gn S) = 6 := by rw [← eS1]; exact nw_k _ _ _
  refine aw_putFP hC hSt (hin0 rfl) 0 ka.1 ka.2.1 rfl (by decide) w_132 rfl rfl rfl (fun _ => rfl) (fun _ => rfl) dX2_init_10 ?_
  generalize eS2 : sP S1 a 0 (some (gn S)) = S2
  have x2 : ExtF a S1 S2 := by rw [← eS2]; exact ExtF.sP _ _ _ _
  have n2 : gn S2 = gn S + 1 := by (rw [← eS2, gn_sP, n1]) <;> rfl
  have ka := x2.k ka
  have k1 := x2.k k1
  have p0 : gP S2 a 0 = some (gn S) := by rw [← eS2, gP_sP, if_pos rfl, if_pos rfl]
  refine aw_aload_n hC 0 dX2_init_13 rfl rfl ?_
  refine aw_bipush (v := 6) hC dX2_init_14 (by decide) ?_
  refine aw_iconst (v := 5) hC dX2_init_16 (by decide) ?_
  refine aw_mna hC hSt 6 5 w_133 w_4 (by decide) (by decide) (by decide) (by decide) (by decide) (by decide) (by decide) (by rw [n2]; exact Nat.le_trans (Nat.add_le_add_left (show 1+7 ≤ 18 by decide) (gn S)) hb) (Nat.le_of_ble_eq_true rfl) (Nat.le_of_ble_eq_true rfl) dX2_init_17 ?_
  generalize eS3 : mna S2 6 5 = S3
  have x3 : ExtF (gn S2) S2 S3 := by rw [← eS3]; exact ExtF.mna _ _ _ _
  have p0 : gP S3 a 0 = some (gn S) := x3.p ka.1 (by rw [n2]; exact Nat.ne_of_lt (Nat.lt_add_right _ oa)) p0
  have n3 : gn S3 = gn S + 8 := by (rw [← eS3, gn_mna, n2]) <;> rfl
  have ka := x3.k ka
  have k1 := x3.k k1
  have k3 : (gn S2) < gn S3 ∧ gK S3 (gn S2) = 19 ∧ gL S3 (gn S2) = 6 := by rw [← eS3]; exact mna_k _ _ _
  refine aw_putFP hC hSt (hin0 rfl) 1 ka.1 ka.2.1 rfl (by decide) w_134 rfl rfl rfl (fun _ => rfl) (fun _ => rfl) dX2_init_21 ?_
  generalize eS4 : sP S3 a 1 (some (gn S2)) = S4
  have x4 : ExtF a S3 S4 := by rw [← eS4]; exact ExtF.sP _ _ _ _
  have p0 : gP S4 a 0 = some (gn S) := by rw [← eS4, gP_sP, if_pos rfl, if_neg (by decide)]; exact p0
  have n4 : gn S4 = gn S + 8 := by (rw [← eS4, gn_sP, n3]) <;> rfl
  have ka := x4.k ka
  have k1 := x4.k k1
  have k3 := x4.k k3
  refine aw_aload_n hC 0 dX2_init_24 rfl rfl ?_
  refine aw_bipush (v := 6) hC dX2_init_25 (by decide) ?_
  refine aw_newaI hC hSt 6 w_4 (by decide) (by decide) (by decide) (by rw [n4]; exact Nat.le_trans (Nat.add_le_add_left (show 8+1 ≤ 18 by decide) (gn S)) hb) (Nat.le_of_ble_eq_true rfl) (Nat.le_of_ble_eq_true rfl) dX2_init_27 ?_
  generalize eS5 : nw S4 14 6 = S5
  have x5 : ExtF (gn S4) S4 S5 := by rw [← eS5]; exact ExtF.nw _ _ _ _
  have p0 : gP S5 a 0 = some (gn S) := x5.p ka.1 (by rw [n4]; exact Nat.ne_of_lt (Nat.lt_add_right _ oa)) p0
  have n5 : gn S5 = gn S + 9 := by (rw [← eS5, gn_nw, n4]) <;> rfl
  have ka := x5.k ka
  have k1 := x5.k k1
  have k5 : (gn S4) < gn S5 ∧ gK S5 (gn S4) = 14 ∧ gL S5 (gn S4) = 6 := by rw [← eS5]; exact nw_k _ _ _
  refine aw_putFP hC hSt (hin0 rfl) 2 ka.1 ka.2.1 rfl (by decide) w_135 rfl rfl rfl (fun _ => rfl) (fun _ => rfl) dX2_init_29 ?_
  generalize eS6 : sP S5 a 2 (some (gn S4)) = S6
  have x6 : ExtF a S5 S6 := by rw [← eS6]; exact ExtF.sP _ _ _ _
  have p0 : gP S6 a 0 = some (gn S) := by rw [← eS6, gP_sP, if_pos rfl, if_neg (by decide)]; exact p0
  have n6 : gn S6 = gn S + 9 := by (rw [← eS6, gn_sP, n5]) <;> rfl
  have ka := x6.k ka
  have k1 := x6.k k1
  have k5 := x6.k k5
  refine aw_aload_n hC 0 dX2_init_32 rfl rfl ?_
  refine aw_bipush (v := 6) hC dX2_init_33 (by decide) ?_
  refine aw_newaI hC hSt 6 w_4 (by decide) (by decide) (by decide) (by rw [n6]; exact Nat.le_trans (Nat.add_le_add_left (show 9+1 ≤ 18 by decide) (gn S)) hb) (Nat.le_of_ble_eq_true rfl) (Nat.le_of_ble_eq_true rfl) dX2_init_35 ?_
  generalize eS7 : nw S6 14 6 = S7
  have x7 : ExtF (gn S6) S6 S7 := by rw [← eS7]; exact ExtF.nw _ _ _ _
  have p0 : gP S7 a 0 = some (gn S) := x7.p ka.1 (by rw [n6]; exact Nat.ne_of_lt (Nat.lt_add_right _ oa)) p0
  have n7 : gn S7 = gn S + 10 := by (rw [← eS7, gn_nw, n6]) <;> rfl
  have ka := x7.k ka
  have k1 := x7.k k1
  have k7 : (gn S6) < gn S7 ∧ gK S7 (gn S6) = 14 ∧ gL S7 (gn S6) = 6 := by rw [← eS7]; exact nw_k _ _ _
  refine aw_putFP hC hSt (hin0 rfl) 3 ka.1 ka.2.1 rfl (by decide) w_136 rfl rfl rfl (fun _ => rfl) (fun _ => rfl) dX2_init_37 ?_
  generalize eS8 : sP S7 a 3 (some (gn S6)) = S8
  have x8 : ExtF a S7 S8 := by rw [← eS8]; exact ExtF.sP _ _ _ _
  have p0 : gP S8 a 0 = some (gn S) := by rw [← eS8, gP_sP, if_pos rfl, if_neg (by decide)]; exact p0
  have n8 : gn S8 = gn S + 10 := by (rw [← eS8, gn_sP, n7]) <;> rfl
  have ka := x8.k ka
  have k1 := x8.k k1
  have k7 := x8.k k7
  refine aw_aload_n hC 0 dX2_init_40 rfl rfl ?_
  refine aw_sipush (v := 640) hC dX2_init_41 (by decide) ?_
  refine aw_newaI hC hSt 640 w_4 (by decide) (by decide) (by decide) (by rw [n8]; exact Nat.le_trans (Nat.add_le_add_left (show 10+1 ≤ 18 by decide) (gn S)) hb) (Nat.le_of_ble_eq_true rfl) (Nat.le_of_ble_eq_true rfl) dX2_init_44 ?_
  generalize eS9 : nw S8 14 640 = S9
  have x9 : ExtF (gn S8) S8 S9 := by rw [← eS9]; exact ExtF.nw _ _ _ _
  have p0 : gP S9 a 0 = some (gn S) := x9.p ka.1 (by rw [n8]; exact Nat.ne_of_lt (Nat.lt_add_right _ oa)) p0
  have n9 : gn S9 = gn S + 11 := by (rw [← eS9, gn_nw, n8]) <;> rfl
  have ka := x9.k ka
  have k1 := x9.k k1
  have k9 : (gn S8) < gn S9 ∧ gK S9 (gn S8) = 14 ∧ gL S9 (gn S8) = 640 := by rw [← eS9]; exact nw_k _ _ _
  refine aw_putFP hC hSt (hin0 rfl) 4 ka.1 ka.2.1 rfl (by decide) w_137 rfl rfl rfl (fun _ => rfl) (fun _ => rfl) dX2_init_46 ?_
  generalize eS10 : sP S9 a 4 (some (gn S8)) = S10
  have x10 : ExtF a S9 S10 := by rw [← eS10]; exact ExtF.sP _ _ _ _
  have p0 : gP S10 a 0 = some (gn S) := by rw [← eS10, gP_sP, if_pos rfl, if_neg (by decide)]; exact p0
  have n10 : gn S10 = gn S + 11 := by (rw [← eS10, gn_sP, n9]) <;> rfl
  have ka := x10.k ka
  have k1 := x10.k k1
  have k9 := x10.k k9
  refine aw_aload_n hC 0 dX2_init_49 rfl rfl ?_
  refine aw_new (ci := 9) hC hSt rfl w_138 w_139 w_140 (by rw [n10]; exact Nat.le_trans (Nat.add_le_add_left (show 11+1 ≤ 18 by decide) (gn S)) hb) (Nat.le_of_ble_eq_true rfl) (Nat.le_of_ble_eq_true rfl) dX2_init_50 ?_
  generalize eS11 : nw S10 9 0 = S11
  have x11 : ExtF (gn S10) S10 S11 := by rw [← eS11]; exact ExtF.nw _ _ _ _
  have p0 : gP S11 a 0 = some (gn S) := x11.p ka.1 (by rw [n10]; exact Nat.ne_of_lt (Nat.lt_add_right _ oa)) p0
  have n11 : gn S11 = gn S + 12 := by (rw [← eS11, gn_nw, n10]) <;> rfl
  have ka := x11.k ka
  have k1 := x11.k k1
  have k11 : (gn S10) < gn S11 ∧ gK S11 (gn S10) = 9 ∧ gL S11 (gn S10) = 0 := by rw [← eS11]; exact nw_k _ _ _
  refine aw_dup hC dX2_init_53 rfl ?_
  refine aw_cIN (b := (gn S10)) hC hSt (t_X9_init G l (gn S10) k11 (by rw [n11]; exact Nat.le_trans (Nat.add_le_add_left (show 12+0 ≤ 18 by decide) (gn S)) hb)) w_127 (by decide) w_140 w_143 rfl rfl rfl (by decide +kernel) ⟨(Nat.le_of_ble_eq_true rfl), (Nat.le_of_ble_eq_true rfl)⟩ (Nat.le_of_ble_eq_true rfl) dX2_init_54 ⟨(Nat.le_of_ble_eq_true rfl), (Nat.le_of_ble_eq_true rfl)⟩ ?_
  generalize eS12 : f_X9_init S11 (gn S10) = S12
  have x12 : ExtF (gn S10) S11 S12 := by rw [← eS12]; exact (z_X9_init _ _ k11.1)
  have p0 : gP S12 a 0 = some (gn S) := x12.p ka.1 (by rw [n10]; exact Nat.ne_of_lt (Nat.lt_add_right _ oa)) p0
  have n12 : gn S12 = gn S + 12 := by (rw [← eS12, z_X9_init_n _ _ k11.1, n11]) <;> rfl
  have ka := x12.k ka
  have k1 := x12.k k1
  have k11 := x12.k k11
  refine aw_putFP hC hSt (hin0 rfl) 5 ka.1 ka.2.1 rfl (by decide) w_141 rfl rfl rfl (fun _ => rfl) (fun _ => rfl) dX2_init_57 ?_
  generalize eS13 : sP S12 a 5 (some (gn S10)) = S13
  have x13 : ExtF a S12 S13 := by rw [← eS13]; exact ExtF.sP _ _ _ _
  have p0 : gP S13 a 0 = some (gn S) := by rw [← eS13, gP_sP, if_pos rfl, if_neg (by decide)]; exact p0
  have n13 : gn S13 = gn S + 12 := by (rw [← eS13, gn_sP, n12]) <;> rfl
  have ka := x13.k ka
  have k1 := x13.k k1
  have k11 := x13.k k11
  refine aw_iconst (v := 0) hC dX2_init_60 (by decide) ?_
  refine aw_istore_n hC [(1, .int (0 : Int32)), (0, .ref a)] dX2_init_61 rfl (by decide) rfl ?_
  refine aw_iload_n hC 0 dX2_init_62 rfl rfl ?_
  refine aw_iconst (v := 5) hC dX2_init_63 (by decide) ?_
  refine aw_icmp_gt hC 86 dX2_init_64 (by decide) (fun h => absurd h (by decide)) (fun _ => ?_)
  refine aw_aload_n hC 1 dX2_init_67 rfl rfl ?_
  refine aw_getP (b := (gn S)) hC hSt 0 ka.1 ka.2.1 rfl (by decide) w_132 rfl p0 dX2_init_68 ?_
  refine aw_iload_n hC 0 dX2_init_71 rfl rfl ?_
  refine aw_new (ci := 1) hC hSt rfl w_131 w_142 w_84 (by rw [n13]; exact Nat.le_trans (Nat.add_le_add_left (show 12+1 ≤ 18 by decide) (gn S)) hb) (Nat.le_of_ble_eq_true rfl) (Nat.le_of_ble_eq_true rfl) dX2_init_72 ?_
  generalize eS14 : nw S13 1 0 = S14
  have x14 : ExtF (gn S13) S13 S14 := by rw [← eS14]; exact ExtF.nw _ _ _ _
  have p0 : gP S14 a 0 = some (gn S) := x14.p ka.1 (by rw [n13]; exact Nat.ne_of_lt (Nat.lt_add_right _ oa)) p0
  have n14 : gn S14 = gn S + 13 := by (rw [← eS14, gn_nw, n13]) <;> rfl
  have ka := x14.k ka
  have k1 := x14.k k1
  have k14 : (gn S13) < gn S14 ∧ gK S14 (gn S13) = 1 ∧ gL S14 (gn S13) = 0 := by rw [← eS14]; exact nw_k _ _ _
  refine aw_dup hC dX2_init_75 rfl ?_
  refine aw_cIN (b := (gn S13)) hC hSt (t_X1_init G l (gn S13) k14 (by rw [n14]; exact Nat.le_trans (Nat.add_le_add_left (show 13+0 ≤ 18 by decide) (gn S)) hb)) w_69 (by decide) w_84 w_144 rfl rfl rfl (by decide +kernel) ⟨(Nat.le_of_ble_eq_true rfl), (Nat.le_of_ble_eq_true rfl)⟩ (Nat.le_of_ble_eq_true rfl) dX2_init_76 ⟨(Nat.le_of_ble_eq_true rfl), (Nat.le_of_ble_eq_true rfl)⟩ ?_
  generalize eS15 : f_X1_init S14 (gn S13) = S15
  have x15 : ExtF (gn S13) S14 S15 := by rw [← eS15]; exact (z_X1_init _ _ k14.1)
  have p0 : gP S15 a 0 = some (gn S) := x15.p ka.1 (by rw [n13]; exact Nat.ne_of_lt (Nat.lt_add_right _ oa)) p0
  have n15 : gn S15 = gn S + 13 := by (rw [← eS15, z_X1_init_n _ _ k14.1, n14]) <;> rfl
  have ka := x15.k ka
  have k1 := x15.k k1
  have k14 := x15.k k14
  refine aw_aastL hC hSt k1.1 k1.2.1 (by rw [k1.2.2]; unfold vp_in; decide) k14.1 k14.2.1 dX2_init_79 ?_
  generalize eS16 : sP S15 (gn S) (0 : Int32).toNatClampNeg (some (gn S13)) = S16
  have x16 : ExtF (gn S) S15 S16 := by rw [← eS16]; exact ExtF.sP _ _ _ _
  have p0 : gP S16 a 0 = some (gn S) := x16.p ka.1 (Nat.ne_of_lt oa) p0
  have n16 : gn S16 = gn S + 13 := by (rw [← eS16, gn_sP, n15]) <;> rfl
  have ka := x16.k ka
  have k1 := x16.k k1
  have k14 := x16.k k14
  refine aw_iinc (v := (1 : Int32)) hC 0 [(1, .int (1 : Int32)), (0, .ref a)] dX2_init_80 rfl (by decide) (by decide) rfl ?_
  refine aw_goto hC 62 dX2_init_83 (by decide) ?_
  refine aw_iload_n hC 0 dX2_init_62 rfl rfl ?_
  refine aw_iconst (v := 5) hC dX2_init_63 (by decide) ?_
  refine aw_icmp_gt hC 86 dX2_init_64 (by decide) (fun h => absurd h (by decide)) (fun _ => ?_)
  refine aw_aload_n hC 1 dX2_init_67 rfl rfl ?_
  refine aw_getP (b := (gn S)) hC hSt 0 ka.1 ka.2.1 rfl (by decide) w_132 rfl p0 dX2_init_68 ?_
  refine aw_iload_n hC 0 dX2_init_71 rfl rfl ?_
  refine aw_new (ci := 1) hC hSt rfl w_131 w_142 w_84 (by rw [n16]; exact Nat.le_trans (Nat.add_le_add_left (show 13+1 ≤ 18 by decide) (gn S)) hb) (Nat.le_of_ble_eq_true rfl) (Nat.le_of_ble_eq_true rfl) dX2_init_72 ?_
  generalize eS17 : nw S16 1 0 = S17
  have x17 : ExtF (gn S16) S16 S17 := by rw [← eS17]; exact ExtF.nw _ _ _ _
  have p0 : gP S17 a 0 = some (gn S) := x17.p ka.1 (by rw [n16]; exact Nat.ne_of_lt (Nat.lt_add_right _ oa)) p0
  have n17 : gn S17 = gn S + 14 := by (rw [← eS17, gn_nw, n16]) <;> rfl
  have ka := x17.k ka
  have k1 := x17.k k1
  have k17 : (gn S16) < gn S17 ∧ gK S17 (gn S16) = 1 ∧ gL S17 (gn S16) = 0 := by rw [← eS17]; exact nw_k _ _ _
  refine aw_dup hC dX2_init_75 rfl ?_
  refine aw_cIN (b := (gn S16)) hC hSt (t_X1_init G l (gn S16) k17 (by rw [n17]; exact Nat.le_trans (Nat.add_le_add_left (show 14+0 ≤ 18 by decide) (gn S)) hb)) w_69 (by decide) w_84 w_144 rfl rfl rfl (by decide +kernel) ⟨(Nat.le_of_ble_eq_true rfl), (Nat.le_of_ble_eq_true rfl)⟩ (Nat.le_of_ble_eq_true rfl) dX2_init_76 ⟨(Nat.le_of_ble_eq_true rfl), (Nat.le_of_ble_eq_true rfl)⟩ ?_
  generalize eS18 : f_X1_init S17 (gn S16) = S18
  have x18 : ExtF (gn S16) S17 S18 := by rw [← eS18]; exact (z_X1_init _ _ k17.1)
  have p0 : gP S18 a 0 = some (gn S) := x18.p ka.1 (by rw [n16]; exact Nat.ne_of_lt (Nat.lt_add_right _ oa)) p0
  have n18 : gn S18 = gn S + 14 := by (rw [← eS18, z_X1_init_n _ _ k17.1, n17]) <;> rfl
  have ka := x18.k ka
  have k1 := x18.k k1
  have k17 := x18.k k17
  refine aw_aastL hC hSt k1.1 k1.2.1 (by rw [k1.2.2]; unfold vp_in; decide) k17.1 k17.2.1 dX2_init_79 ?_
  generalize eS19 : sP S18 (gn S) (1 : Int32).toNatClampNeg (some (gn S16)) = S19
  have x19 : ExtF (gn S) S18 S19 := by rw [← eS19]; exact ExtF.sP _ _ _ _
  have p0 : gP S19 a 0 = some (gn S) := x19.p ka.1 (Nat.ne_of_lt oa) p0
  have n19 : gn S19 = gn S + 14 := by (rw [← eS19, gn_sP, n18]) <;> rfl
  have ka := x19.k ka
  have k1 := x19.k k1
  have k17 := x19.k k17
  refine aw_iinc (v := (2 : Int32)) hC 0 [(1, .int (2 : Int32)), (0, .ref a)] dX2_init_80 rfl (by decide) (by decide) rfl ?_
  refine aw_goto hC 62 dX2_init_83 (by decide) ?_
  refine aw_iload_n hC 0 dX2_init_62 rfl rfl ?_
  refine aw_iconst (v := 5) hC dX2_init_63 (by decide) ?_
  refine aw_icmp_gt hC 86 dX2_init_64 (by decide) (fun h => absurd h (by decide)) (fun _ => ?_)
  refine aw_aload_n hC 1 dX2_init_67 rfl rfl ?_
  refine aw_getP (b := (gn S)) hC hSt 0 ka.1 ka.2.1 rfl (by decide) w_132 rfl p0 dX2_init_68 ?_
  refine aw_iload_n hC 0 dX2_init_71 rfl rfl ?_
  refine aw_new (ci := 1) hC hSt rfl w_131 w_142 w_84 (by rw [n19]; exact Nat.le_trans (Nat.add_le_add_left (show 14+1 ≤ 18 by decide) (gn S)) hb) (Nat.le_of_ble_eq_true rfl) (Nat.le_of_ble_eq_true rfl) dX2_init_72 ?_
  generalize eS20 : nw S19 1 0 = S20
  have x20 : ExtF (gn S19) S19 S20 := by rw [← eS20]; exact ExtF.nw _ _ _ _
  have p0 : gP S20 a 0 = some (gn S) := x20.p ka.1 (by rw [n19]; exact Nat.ne_of_lt (Nat.lt_add_right _ oa)) p0
  have n20 : gn S20 = gn S + 15 := by (rw [← eS20, gn_nw, n19]) <;> rfl
  have ka := x20.k ka
  have k1 := x20.k k1
  have k20 : (gn S19) < gn S20 ∧ gK S20 (gn S19) = 1 ∧ gL S20 (gn S19) = 0 := by rw [← eS20]; exact nw_k _ _ _
  refine aw_dup hC dX2_init_75 rfl ?_
  refine aw_cIN (b := (gn S19)) hC hSt (t_X1_init G l (gn S19) k20 (by rw [n20]; exact Nat.le_trans (Nat.add_le_add_left (show 15+0 ≤ 18 by decide) (gn S)) hb)) w_69 (by decide) w_84 w_144 rfl rfl rfl (by decide +kernel) ⟨(Nat.le_of_ble_eq_true rfl), (Nat.le_of_ble_eq_true rfl)⟩ (Nat.le_of_ble_eq_true rfl) dX2_init_76 ⟨(Nat.le_of_ble_eq_true rfl), (Nat.le_of_ble_eq_true rfl)⟩ ?_
  generalize eS21 : f_X1_init S20 (gn S19) = S21
  have x21 : ExtF (gn S19) S20 S21 := by rw [← eS21]; exact (z_X1_init _ _ k20.1)
  have p0 : gP S21 a 0 = some (gn S) := x21.p ka.1 (by rw [n19]; exact Nat.ne_of_lt (Nat.lt_add_right _ oa)) p0
  have n21 : gn S21 = gn S + 15 := by (rw [← eS21, z_X1_init_n _ _ k20.1, n20]) <;> rfl
  have ka := x21.k ka
  have k1 := x21.k k1
  have k20 := x21.k k20
  refine aw_aastL hC hSt k1.1 k1.2.1 (by rw [k1.2.2]; unfold vp_in; decide) k20.1 k20.2.1 dX2_init_79 ?_
  generalize eS22 : sP S21 (gn S) (2 : Int32).toNatClampNeg (some (gn S19)) = S22
  have x22 : ExtF (gn S) S21 S22 := by rw [← eS22]; exact ExtF.sP _ _ _ _
  have p0 : gP S22 a 0 = some (gn S) := x22.p ka.1 (Nat.ne_of_lt oa) p0
  have n22 : gn S22 = gn S + 15 := by (rw [← eS22, gn_sP, n21]) <;> rfl
  have ka := x22.k ka
  have k1 := x22.k k1
  have k20 := x22.k k20
  refine aw_iinc (v := (3 : Int32)) hC 0 [(1, .int (3 : Int32)), (0, .ref a)] dX2_init_80 rfl (by decide) (by decide) rfl ?_
  refine aw_goto hC 62 dX2_init_83 (by decide) ?_
  refine aw_iload_n hC 0 dX2_init_62 rfl rfl ?_
  refine aw_iconst (v := 5) hC dX2_init_63 (by decide) ?_
  refine aw_icmp_gt hC 86 dX2_init_64 (by decide) (fun h => absurd h (by decide)) (fun _ => ?_)
  refine aw_aload_n hC 1 dX2_init_67 rfl rfl ?_
  refine aw_getP (b := (gn S)) hC hSt 0 ka.1 ka.2.1 rfl (by decide) w_132 rfl p0 dX2_init_68 ?_
  refine aw_iload_n hC 0 dX2_init_71 rfl rfl ?_
  refine aw_new (ci := 1) hC hSt rfl w_131 w_142 w_84 (by rw [n22]; exact Nat.le_trans (Nat.add_le_add_left (show 15+1 ≤ 18 by decide) (gn S)) hb) (Nat.le_of_ble_eq_true rfl) (Nat.le_of_ble_eq_true rfl) dX2_init_72 ?_
  generalize eS23 : nw S22 1 0 = S23
  have x23 : ExtF (gn S22) S22 S23 := by rw [← eS23]; exact ExtF.nw _ _ _ _
  have p0 : gP S23 a 0 = some (gn S) := x23.p ka.1 (by rw [n22]; exact Nat.ne_of_lt (Nat.lt_add_right _ oa)) p0
  have n23 : gn S23 = gn S + 16 := by (rw [← eS23, gn_nw, n22]) <;> rfl
  have ka := x23.k ka
  have k1 := x23.k k1
  have k23 : (gn S22) < gn S23 ∧ gK S23 (gn S22) = 1 ∧ gL S23 (gn S22) = 0 := by rw [← eS23]; exact nw_k _ _ _
  refine aw_dup hC dX2_init_75 rfl ?_
  refine aw_cIN (b := (gn S22)) hC hSt (t_X1_init G l (gn S22) k23 (by rw [n23]; exact Nat.le_trans (Nat.add_le_add_left (show 16+0 ≤ 18 by decide) (gn S)) hb)) w_69 (by decide) w_84 w_144 rfl rfl rfl (by decide +kernel) ⟨(Nat.le_of_ble_eq_true rfl), (Nat.le_of_ble_eq_true rfl)⟩ (Nat.le_of_ble_eq_true rfl) dX2_init_76 ⟨(Nat.le_of_ble_eq_true rfl), (Nat.le_of_ble_eq_true rfl)⟩ ?_
  generalize eS24 : f_X1_init S23 (gn S22) = S24
  have x24 : ExtF (gn S22) S23 S24 := by rw [← eS24]; exact (z_X1_init _ _ k23.1)
  have p0 : gP S24 a 0 = some (gn S) := x24.p ka.1 (by rw [n22]; exact Nat.ne_of_lt (Nat.lt_add_right _ oa)) p0
  have n24 : gn S24 = gn S + 16 := by (rw [← eS24, z_X1_init_n _ _ k23.1, n23]) <;> rfl
  have ka := x24.k ka
  have k1 := x24.k k1
  have k23 := x24.k k23
  refine aw_aastL hC hSt k1.1 k1.2.1 (by rw [k1.2.2]; unfold vp_in; decide) k23.1 k23.2.1 dX2_init_79 ?_
  generalize eS25 : sP S24 (gn S) (3 : Int32).toNatClampNeg (some (gn S22)) = S25
  have x25 : ExtF (gn S) S24 S25 := by rw [← eS25]; exact ExtF.sP _ _ _ _
  have p0 : gP S25 a 0 = some (gn S) := x25.p ka.1 (Nat.ne_of_lt oa) p0
  have n25 : gn S25 = gn S + 16 := by (rw [← eS25, gn_sP, n24]) <;> rfl
  have ka := x25.k ka
  have k1 := x25.k k1
  have k23 := x25.k k23
  refine aw_iinc (v := (4 : Int32)) hC 0 [(1, .int (4 : Int32)), (0, .ref a)] dX2_init_80 rfl (by decide) (by decide) rfl ?_
  refine aw_goto hC 62 dX2_init_83 (by decide) ?_
  refine aw_iload_n hC 0 dX2_init_62 rfl rfl ?_
  refine aw_iconst (v := 5) hC dX2_init_63 (by decide) ?_
  refine aw_icmp_gt hC 86 dX2_init_64 (by decide) (fun h => absurd h (by decide)) (fun _ => ?_)
  refine aw_aload_n hC 1 dX2_init_67 rfl rfl ?_
  refine aw_getP (b := (gn S)) hC hSt 0 ka.1 ka.2.1 rfl (by decide) w_132 rfl p0 dX2_init_68 ?_
  refine aw_iload_n hC 0 dX2_init_71 rfl rfl ?_
  refine aw_new (ci := 1) hC hSt rfl w_131 w_142 w_84 (by rw [n25]; exact Nat.le_trans (Nat.add_le_add_left (show 16+1 ≤ 18 by decide) (gn S)) hb) (Nat.le_of_ble_eq_true rfl) (Nat.le_of_ble_eq_true rfl) dX2_init_72 ?_
  generalize eS26 : nw S25 1 0 = S26
  have x26 : ExtF (gn S25) S25 S26 := by rw [← eS26]; exact ExtF.nw _ _ _ _
  have p0 : gP S26 a 0 = some (gn S) := x26.p ka.1 (by rw [n25]; exact Nat.ne_of_lt (Nat.lt_add_right _ oa)) p0
  have n26 : gn S26 = gn S + 17 := by (rw [← eS26, gn_nw, n25]) <;> rfl
  have ka := x26.k ka
  have k1 := x26.k k1
  have k26 : (gn S25) < gn S26 ∧ gK S26 (gn S25) = 1 ∧ gL S26 (gn S25) = 0 := by rw [← eS26]; exact nw_k _ _ _
  refine aw_dup hC dX2_init_75 rfl ?_
  refine aw_cIN (b := (gn S25)) hC hSt (t_X1_init G l (gn S25) k26 (by rw [n26]; exact Nat.le_trans (Nat.add_le_add_left (show 17+0 ≤ 18 by decide) (gn S)) hb)) w_69 (by decide) w_84 w_144 rfl rfl rfl (by decide +kernel) ⟨(Nat.le_of_ble_eq_true rfl), (Nat.le_of_ble_eq_true rfl)⟩ (Nat.le_of_ble_eq_true rfl) dX2_init_76 ⟨(Nat.le_of_ble_eq_true rfl), (Nat.le_of_ble_eq_true rfl)⟩ ?_
  generalize eS27 : f_X1_init S26 (gn S25) = S27
  have x27 : ExtF (gn S25) S26 S27 := by rw [← eS27]; exact (z_X1_init _ _ k26.1)
  have p0 : gP S27 a 0 = some (gn S) := x27.p ka.1 (by rw [n25]; exact Nat.ne_of_lt (Nat.lt_add_right _ oa)) p0
  have n27 : gn S27 = gn S + 17 := by (rw [← eS27, z_X1_init_n _ _ k26.1, n26]) <;> rfl
  have ka := x27.k ka
  have k1 := x27.k k1
  have k26 := x27.k k26
  refine aw_aastL hC hSt k1.1 k1.2.1 (by rw [k1.2.2]; unfold vp_in; decide) k26.1 k26.2.1 dX2_init_79 ?_
  generalize eS28 : sP S27 (gn S) (4 : Int32).toNatClampNeg (some (gn S25)) = S28
  have x28 : ExtF (gn S) S27 S28 := by rw [← eS28]; exact ExtF.sP _ _ _ _
  have p0 : gP S28 a 0 = some (gn S) := x28.p ka.1 (Nat.ne_of_lt oa) p0
  have n28 : gn S28 = gn S + 17 := by (rw [← eS28, gn_sP, n27]) <;> rfl
  have ka := x28.k ka
  have k1 := x28.k k1
  have k26 := x28.k k26
  refine aw_iinc (v := (5 : Int32)) hC 0 [(1, .int (5 : Int32)), (0, .ref a)] dX2_init_80 rfl (by decide) (by decide) rfl ?_
  refine aw_goto hC 62 dX2_init_83 (by decide) ?_
  refine aw_iload_n hC 0 dX2_init_62 rfl rfl ?_
  refine aw_iconst (v := 5) hC dX2_init_63 (by decide) ?_
  refine aw_icmp_gt hC 86 dX2_init_64 (by decide) (fun h => absurd h (by decide)) (fun _ => ?_)
  refine aw_aload_n hC 1 dX2_init_67 rfl rfl ?_
  refine aw_getP (b := (gn S)) hC hSt 0 ka.1 ka.2.1 rfl (by decide) w_132 rfl p0 dX2_init_68 ?_
  refine aw_iload_n hC 0 dX2_init_71 rfl rfl ?_
  refine aw_new (ci := 1) hC hSt rfl w_131 w_142 w_84 (by rw [n28]; exact Nat.le_trans (Nat.add_le_add_left (show 17+1 ≤ 18 by decide) (gn S)) hb) (Nat.le_of_ble_eq_true rfl) (Nat.le_of_ble_eq_true rfl) dX2_init_72 ?_
  generalize eS29 : nw S28 1 0 = S29
  have x29 : ExtF (gn S28) S28 S29 := by rw [← eS29]; exact ExtF.nw _ _ _ _
  have p0 : gP S29 a 0 = some (gn S) := x29.p ka.1 (by rw [n28]; exact Nat.ne_of_lt (Nat.lt_add_right _ oa)) p0
  have n29 : gn S29 = gn S + 18 := by (rw [← eS29, gn_nw, n28]) <;> rfl
  have ka := x29.k ka
  have k1 := x29.k k1
  have k29 : (gn S28) < gn S29 ∧ gK S29 (gn S28) = 1 ∧ gL S29 (gn S28) = 0 := by rw [← eS29]; exact nw_k _ _ _
  refine aw_dup hC dX2_init_75 rfl ?_
  refine aw_cIN (b := (gn S28)) hC hSt (t_X1_init G l (gn S28) k29 (by rw [n29]; exact Nat.le_trans (Nat.add_le_add_left (show 18+0 ≤ 18 by decide) (gn S)) hb)) w_69 (by decide) w_84 w_144 rfl rfl rfl (by decide +kernel) ⟨(Nat.le_of_ble_eq_true rfl), (Nat.le_of_ble_eq_true rfl)⟩ (Nat.le_of_ble_eq_true rfl) dX2_init_76 ⟨(Nat.le_of_ble_eq_true rfl), (Nat.le_of_ble_eq_true rfl)⟩ ?_
  generalize eS30 : f_X1_init S29 (gn S28) = S30
  have x30 : ExtF (gn S28) S29 S30 := by rw [← eS30]; exact (z_X1_init _ _ k29.1)
  have p0 : gP S30 a 0 = some (gn S) := x30.p ka.1 (by rw [n28]; exact Nat.ne_of_lt (Nat.lt_add_right _ oa)) p0
  have n30 : gn S30 = gn S + 18 := by (rw [← eS30, z_X1_init_n _ _ k29.1, n29]) <;> rfl
  have ka := x30.k ka
  have k1 := x30.k k1
  have k29 := x30.k k29
  refine aw_aastL hC hSt k1.1 k1.2.1 (by rw [k1.2.2]; unfold vp_in; decide) k29.1 k29.2.1 dX2_init_79 ?_
  generalize eS31 : sP S30 (gn S) (5 : Int32).toNatClampNeg (some (gn S28)) = S31
  have x31 : ExtF (gn S) S30 S31 := by rw [← eS31]; exact ExtF.sP _ _ _ _
  have p0 : gP S31 a 0 = some (gn S) := x31.p ka.1 (Nat.ne_of_lt oa) p0
  have n31 : gn S31 = gn S + 18 := by (rw [← eS31, gn_sP, n30]) <;> rfl
  have ka := x31.k ka
  have k1 := x31.k k1
  have k29 := x31.k k29
  refine aw_iinc (v := (6 : Int32)) hC 0 [(1, .int (6 : Int32)), (0, .ref a)] dX2_init_80 rfl (by decide) (by decide) rfl ?_
  refine aw_goto hC 62 dX2_init_83 (by decide) ?_
  refine aw_iload_n hC 0 dX2_init_62 rfl rfl ?_
  refine aw_iconst (v := 5) hC dX2_init_63 (by decide) ?_
  refine aw_icmp_gt hC 86 dX2_init_64 (by decide) (fun _ => ?_) (fun h => absurd (by decide) h)
  exact aw_vret hC dX2_init_86 (Nat.le_of_ble_eq_true rfl) (Nat.le_of_ble_eq_true rfl) (FP.qV ((bd_eq eS1).trans ((bd_eq eS2).trans ((bd_eq eS3).trans ((bd_eq eS4).trans ((bd_eq eS5).trans ((bd_eq eS6).trans ((bd_eq eS7).trans ((bd_eq eS8).trans ((bd_eq eS9).trans ((bd_eq eS10).trans ((bd_eq eS11).trans ((bd_eq eS12).trans ((bd_eq eS13).trans ((bd_eq eS14).trans ((bd_eq eS15).trans ((bd_eq eS16).trans ((bd_eq eS17).trans ((bd_eq eS18).trans ((bd_eq eS19).trans ((bd_eq eS20).trans ((bd_eq eS21).trans ((bd_eq eS22).trans ((bd_eq eS23).trans ((bd_eq eS24).trans ((bd_eq eS25).trans ((bd_eq eS26).trans ((bd_eq eS27).trans ((bd_eq eS28).trans ((bd_eq eS29).trans ((bd_eq eS30).trans ((bd_eq eS31).trans (rfl)))))))))))))))))))))))))))))))))
noncomputable def f_X12_init (S : HSt) (a : Nat) : HSt := bd (nw S 14 8) fun S1 => bd (sI S1 (gn S) (0 : Int32).toNatClampNeg (-1 : Int32)) fun S2 => bd (sI S2 (gn S) (1 : Int32).toNatClampNeg (-1 : Int32)) fun S3 => bd (sI S3 (gn S) (2 : Int32).toNatClampNeg (-1 : Int32)) fun S4 => bd (sI S4 (gn S) (3 : Int32).toNatClampNeg (-1 : Int32)) fun S5 => bd (sI S5 (gn S) (4 : Int32).toNatClampNeg (-1 : Int32)) fun S6 => bd (sI S6 (gn S) (5 : Int32).toNatClampNeg (-1 : Int32)) fun S7 => bd (sI S7 (gn S) (6 : Int32).toNatClampNeg (-1 : Int32)) fun S8 => bd (sI S8 (gn S) (7 : Int32).toNatClampNeg (-1 : Int32)) fun S9 => bd (sP S9 a 2 (some (gn S))) fun S10 => bd (nw S10 14 8) fun S11 => bd (sP S11 a 3 (some (gn S10))) fun S12 => bd (nw S12 14 320) fun S13 => bd (sP S13 a 4 (some (gn S12))) fun S14 => bd (nw S14 14 172) fun S15 => bd (sP S15 a 5 (some (gn S14))) fun S16 => bd (nw S16 14 172) fun S17 => bd (sP S17 a 6 (some (gn S16))) fun S18 => bd (nw S18 14 600) fun S19 => bd (sP S19 a 8 (some (gn S18))) fun S20 => bd (sI S20 a 19 (-1000000 : Int32)) fun S21 => bd (nw S21 14 7) fun S22 => bd (sP S22 a 27 (some (gn S21))) fun S23 => bd (nw S23 14 42) fun S24 => bd (sP S24 a 33 (some (gn S23))) fun S25 => bd (nw S25 14 6) fun S26 => bd (sP S26 a 34 (some (gn S25))) fun S27 => bd (nw S27 14 6) fun S28 => bd (sP S28 a 35 (some (gn S27))) fun S29 => bd (nw S29 14 6) fun S30 => bd (sP S30 a 36 (some (gn S29))) fun S31 => bd (nw S31 14 5) fun S32 => bd (sP S32 a 37 (some (gn S31))) fun S33 => bd (nw S33 16 582096) fun S34 => bd (sP S34 a 40 (some (gn S33))) fun S35 => bd (nw S35 16 582096) fun S36 => bd (sP S36 a 41 (some (gn S35))) fun S37 => bd (nw S37 14 7) fun S38 => bd (sP S38 a 42 (some (gn S37))) fun S39 => bd (nw S39 14 6) fun S40 => bd (sP S40 a 43 (some (gn S39))) fun S41 => bd (nw S41 14 101) fun S42 => bd (sP S42 a 44 (some (gn S41))) fun S43 => bd (nw S43 16 2) fun S44 => bd (sP S44 a 45 (some (gn S43))) fun S45 => bd (nw S45 14 344) fun S46 => bd (sP S46 a 46 (some (gn S45))) fun S47 => bd (nw S47 14 14) fun S48 => bd (sP S48 a 47 (some (gn S47))) fun S49 => bd (nw S49 14 2) fun S50 => bd (sP S50 a 48 (some (gn S49))) fun S51 => bd (nw S51 14 2) fun S52 => bd (sP S52 a 49 (some (gn S51))) fun S53 => bd (nw S53 14 16) fun S54 => bd (sP S54 a 50 (some (gn S53))) fun S55 => S55
theorem zz_X12_init (S : HSt) (a : Nat) (ha : a < gn S) : ExtF a S (f_X12_init S a) ∧ gn (f_X12_init S a) = gn S + 23 := by
  unfold f_X12_init
  have y0 : ExtF a S S := ExtF.refl a S
  have n0 : gn S = gn S + 0 := rfl
  refine bdE (P := fun T => ExtF a S T ∧ gn T = gn S + 23) (fun S1 eS1 => ?_)
  have y1 : ExtF a S S1 := y0.trans (b := a) (by rw [← eS1]; exact ExtF.nw _ _ _ _) (Or.inl rfl)
  have n1 : gn S1 = gn S + 1 := by (rw [← eS1, gn_nw, n0]) <;> rfl
  refine bdE (P := fun T => ExtF a S T ∧ gn T = gn S + 23) (fun S2 eS2 => ?_)
  have y2 : ExtF a S S2 := y1.trans (b := (gn S)) (by rw [← eS2]; exact ExtF.sI _ _ _ _) (Or.inr (Nat.le_refl _))
  have n2 : gn S2 = gn S + 1 := by (rw [← eS2, gn_sI, n1]) <;> rfl
  refine bdE (P := fun T => ExtF a S T ∧ gn T = gn S + 23) (fun S3 eS3 => ?_)
  have y3 : ExtF a S S3 := y2.trans (b := (gn S)) (by rw [← eS3]; exact ExtF.sI _ _ _ _) (Or.inr (Nat.le_refl _))
  have n3 : gn S3 = gn S + 1 := by (rw [← eS3, gn_sI, n2]) <;> rfl
  refine bdE (P := fun T => ExtF a S T ∧ gn T = gn S + 23) (fun S4 eS4 => ?_)
  have y4 : ExtF a S S4 := y3.trans (b := (gn S)) (by rw [← eS4]; exact ExtF.sI _ _ _ _) (Or.inr (Nat.le_refl _))
  have n4 : gn S4 = gn S + 1 := by (rw [← eS4, gn_sI, n3]) <;> rfl
  refine bdE (P := fun T => ExtF a S T ∧ gn T = gn S + 23) (fun S5 eS5 => ?_)
  have y5 : ExtF a S S5 := y4.trans (b := (gn S)) (by rw [← eS5]; exact ExtF.sI _ _ _ _) (Or.inr (Nat.le_refl _))
  have n5 : gn S5 = gn S + 1 := by (rw [← eS5, gn_sI, n4]) <;> rfl
  refine bdE (P := fun T => ExtF a S T ∧ gn T = gn S + 23) (fun S6 eS6 => ?_)
  have y6 : ExtF a S S6 := y5.trans (b := (gn S)) (by rw [← eS6]; exact ExtF.sI _ _ _ _) (Or.inr (Nat.le_refl _))
  have n6 : gn S6 = gn S + 1 := by (rw [← eS6, gn_sI, n5]) <;> rfl
  refine bdE (P := fun T => ExtF a S T ∧ gn T = gn S + 23) (fun S7 eS7 => ?_)
  have y7 : ExtF a S S7 := y6.trans (b := (gn S)) (by rw [← eS7]; exact ExtF.sI _ _ _ _) (Or.inr (Nat.le_refl _))
  have n7 : gn S7 = gn S + 1 := by (rw [← eS7, gn_sI, n6]) <;> rfl
  refine bdE (P := fun T => ExtF a S T ∧ gn T = gn S + 23) (fun S8 eS8 => ?_)
  have y8 : ExtF a S S8 := y7.trans (b := (gn S)) (by rw [← eS8]; exact ExtF.sI _ _ _ _) (Or.inr (Nat.le_refl _))
  have n8 : gn S8 = gn S + 1 := by (rw [← eS8, gn_sI, n7]) <;> rfl
  refine bdE (P := fun T => ExtF a S T ∧ gn T = gn S + 23) (fun S9 eS9 => ?_)
  have y9 : ExtF a S S9 := y8.trans (b := (gn S)) (by rw [← eS9]; exact ExtF.sI _ _ _ _) (Or.inr (Nat.le_refl _))
  have n9 : gn S9 = gn S + 1 := by (rw [← eS9, gn_sI, n8]) <;> rfl
  refine bdE (P := fun T => ExtF a S T ∧ gn T = gn S + 23) (fun S10 eS10 => ?_)
  have y10 : ExtF a S S10 := y9.trans (b := a) (by rw [← eS10]; exact ExtF.sP _ _ _ _) (Or.inl rfl)
  have n10 : gn S10 = gn S + 1 := by (rw [← eS10, gn_sP, n9]) <;> rfl
  refine bdE (P := fun T => ExtF a S T ∧ gn T = gn S + 23) (fun S11 eS11 => ?_)
  have y11 : ExtF a S S11 := y10.trans (b := a) (by rw [← eS11]; exact ExtF.nw _ _ _ _) (Or.inl rfl)
  have n11 : gn S11 = gn S + 2 := by (rw [← eS11, gn_nw, n10]) <;> rfl
  refine bdE (P := fun T => ExtF a S T ∧ gn T = gn S + 23) (fun S12 eS12 => ?_)
  have y12 : ExtF a S S12 := y11.trans (b := a) (by rw [← eS12]; exact ExtF.sP _ _ _ _) (Or.inl rfl)
  have n12 : gn S12 = gn S + 2 := by (rw [← eS12, gn_sP, n11]) <;> rfl
  refine bdE (P := fun T => ExtF a S T ∧ gn T = gn S + 23) (fun S13 eS13 => ?_)
  have y13 : ExtF a S S13 := y12.trans (b := a) (by rw [← eS13]; exact ExtF.nw _ _ _ _) (Or.inl rfl)
  have n13 : gn S13 = gn S + 3 := by (rw [← eS13, gn_nw, n12]) <;> rfl
  refine bdE (P := fun T => ExtF a S T ∧ gn T = gn S + 23) (fun S14 eS14 => ?_)
  have y14 : ExtF a S S14 := y13.trans (b := a) (by rw [← eS14]; exact ExtF.sP _ _ _ _) (Or.inl rfl)
  have n14 : gn S14 = gn S + 3 := by (rw [← eS14, gn_sP, n13]) <;> rfl
  refine bdE (P := fun T => ExtF a S T ∧ gn T = gn S + 23) (fun S15 eS15 => ?_)
  have y15 : ExtF a S S15 := y14.trans (b := a) (by rw [← eS15]; exact ExtF.nw _ _ _ _) (Or.inl rfl)
  have n15 : gn S15 = gn S + 4 := by (rw [← eS15, gn_nw, n14]) <;> rfl
  refine bdE (P := fun T => ExtF a S T ∧ gn T = gn S + 23) (fun S16 eS16 => ?_)
  have y16 : ExtF a S S16 := y15.trans (b := a) (by rw [← eS16]; exact ExtF.sP _ _ _ _) (Or.inl rfl)
  have n16 : gn S16 = gn S + 4 := by (rw [← eS16, gn_sP, n15]) <;> rfl
  refine bdE (P := fun T => ExtF a S T ∧ gn T = gn S + 23) (fun S17 eS17 => ?_)
  have y17 : ExtF a S S17 := y16.trans (b := a) (by rw [← eS17]; exact ExtF.nw _ _ _ _) (Or.inl rfl)
  have n17 : gn S17 = gn S + 5 := by (rw [← eS17, gn_nw, n16]) <;> rfl
  refine bdE (P := fun T => ExtF a S T ∧ gn T = gn S + 23) (fun S18 eS18 => ?_)
  have y18 : ExtF a S S18 := y17.trans (b := a) (by rw [← eS18]; exact ExtF.sP _ _ _ _) (Or.inl rfl)
  have n18 : gn S18 = gn S + 5 := by (rw [← eS18, gn_sP, n17]) <;> rfl
  refine bdE (P := fun T => ExtF a S T ∧ gn T = gn S + 23) (fun S19 eS19 => ?_)
  have y19 : ExtF a S S19 := y18.trans (b := a) (by rw [← eS19]; exact ExtF.nw _ _ _ _) (Or.inl rfl)
  have n19 : gn S19 = gn S + 6 := by (rw [← eS19, gn_nw, n18]) <;> rfl
  refine bdE (P := fun T => ExtF a S T ∧ gn T = gn S + 23) (fun S20 eS20 => ?_)
  have y20 : ExtF a S S20 := y19.trans (b := a) (by rw [← eS20]; exact ExtF.sP _ _ _ _) (Or.inl rfl)
  have n20 : gn S20 = gn S + 6 := by (rw [← eS20, gn_sP, n19]) <;> rfl
  refine bdE (P := fun T => ExtF a S T ∧ gn T = gn S + 23) (fun S21 eS21 => ?_)
  have y21 : ExtF a S S21 := y20.trans (b := a) (by rw [← eS21]; exact ExtF.sI _ _ _ _) (Or.inl rfl)
  have n21 : gn S21 = gn S + 6 := by (rw [← eS21, gn_sI, n20]) <;> rfl
  refine bdE (P := fun T => ExtF a S T ∧ gn T = gn S + 23) (fun S22 eS22 => ?_)
  have y22 : ExtF a S S22 := y21.trans (b := a) (by rw [← eS22]; exact ExtF.nw _ _ _ _) (Or.inl rfl)
  have n22 : gn S22 = gn S + 7 := by (rw [← eS22, gn_nw, n21]) <;> rfl
  refine bdE (P := fun T => ExtF a S T ∧ gn T = gn S + 23) (fun S23 eS23 => ?_)
  have y23 : ExtF a S S23 := y22.trans (b := a) (by rw [← eS23]; exact ExtF.sP _ _ _ _) (Or.inl rfl)
  have n23 : gn S23 = gn S + 7 := by (rw [← eS23, gn_sP, n22]) <;> rfl
  refine bdE (P := fun T => ExtF a S T ∧ gn T = gn S + 23) (fun S24 eS24 => ?_)
  have y24 : ExtF a S S24 := y23.trans (b := a) (by rw [← eS24]; exact ExtF.nw _ _ _ _) (Or.inl rfl)
  have n24 : gn S24 = gn S + 8 := by (rw [← eS24, gn_nw, n23]) <;> rfl
  refine bdE (P := fun T => ExtF a S T ∧ gn T = gn S + 23) (fun S25 eS25 => ?_)
  have y25 : ExtF a S S25 := y24.trans (b := a) (by rw [← eS25]; exact ExtF.sP _ _ _ _) (Or.inl rfl)
  have n25 : gn S25 = gn S + 8 := by (rw [← eS25, gn_sP, n24]) <;> rfl
  refine bdE (P := fun T => ExtF a S T ∧ gn T = gn S + 23) (fun S26 eS26 => ?_)
  have y26 : ExtF a S S26 := y25.trans (b := a) (by rw [← eS26]; exact ExtF.nw _ _ _ _) (Or.inl rfl)
  have n26 : gn S26 = gn S + 9 := by (rw [← eS26, gn_nw, n25]) <;> rfl
  refine bdE (P := fun T => ExtF a S T ∧ gn T = gn S + 23) (fun S27 eS27 => ?_)
  have y27 : ExtF a S S27 := y26.trans (b := a) (by rw [← eS27]; exact ExtF.sP _ _ _ _) (Or.inl rfl)
  have n27 : gn S27 = gn S + 9 := by (rw [← eS27, gn_sP, n26]) <;> rfl
  refine bdE (P := fun T => ExtF a S T ∧ gn T = gn S + 23) (fun S28 eS28 => ?_)
  have y28 : ExtF a S S28 := y27.trans (b := a) (by rw [← eS28]; exact ExtF.nw _ _ _ _) (Or.inl rfl)
  have n28 : gn S28 = gn S + 10 := by (rw [← eS28, gn_nw, n27]) <;> rfl
  refine bdE (P := fun T => ExtF a S T ∧ gn T = gn S + 23) (fun S29 eS29 => ?_)
  have y29 : ExtF a S S29 := y28.trans (b := a) (by rw [← eS29]; exact ExtF.sP _ _ _ _) (Or.inl rfl)
  have n29 : gn S29 = gn S + 10 := by (rw [← eS29, gn_sP, n28]) <;> rfl
  refine bdE (P := fun T => ExtF a S T ∧ gn T = gn S + 23) (fun S30 eS30 => ?_)
  have y30 : ExtF a S S30 := y29.trans (b := a) (by rw [← eS30]; exact ExtF.nw _ _ _ _) (Or.inl rfl)
  have n30 : gn S30 = gn S + 11 := by (rw [← eS30, gn_nw, n29]) <;> rfl
  refine bdE (P := fun T => ExtF a S T ∧ gn T = gn S + 23) (fun S31 eS31 => ?_)
  have y31 : ExtF a S S31 := y30.trans (b := a) (by rw [← eS31]; exact ExtF.sP _ _ _ _) (Or.inl rfl)
  have n31 : gn S31 = gn S + 11 := by (rw [← eS31, gn_sP, n30]) <;> rfl
  refine bdE (P := fun T => ExtF a S T ∧ gn T = gn S + 23) (fun S32 eS32 => ?_)
  have y32 : ExtF a S S32 := y31.trans (b := a) (by rw [← eS32]; exact ExtF.nw _ _ _ _) (Or.inl rfl)
  have n32 : gn S32 = gn S + 12 := by (rw [← eS32, gn_nw, n31]) <;> rfl
  refine bdE (P := fun T => ExtF a S T ∧ gn T = gn S + 23) (fun S33 eS33 => ?_)
  have y33 : ExtF a S S33 := y32.trans (b := a) (by rw [← eS33]; exact ExtF.sP _ _ _ _) (Or.inl rfl)
  have n33 : gn S33 = gn S + 12 := by (rw [← eS33, gn_sP, n32]) <;> rfl
  refine bdE (P := fun T => ExtF a S T ∧ gn T = gn S + 23) (fun S34 eS34 => ?_)
  have y34 : ExtF a S S34 := y33.trans (b := a) (by rw [← eS34]; exact ExtF.nw _ _ _ _) (Or.inl rfl)
  have n34 : gn S34 = gn S + 13 := by (rw [← eS34, gn_nw, n33]) <;> rfl
  refine bdE (P := fun T => ExtF a S T ∧ gn T = gn S + 23) (fun S35 eS35 => ?_)
  have y35 : ExtF a S S35 := y34.trans (b := a) (by rw [← eS35]; exact ExtF.sP _ _ _ _) (Or.inl rfl)
  have n35 : gn S35 = gn S + 13 := by (rw [← eS35, gn_sP, n34]) <;> rfl
  refine bdE (P := fun T => ExtF a S T ∧ gn T = gn S + 23) (fun S36 eS36 => ?_)
  have y36 : ExtF a S S36 := y35.trans (b := a) (by rw [← eS36]; exact ExtF.nw _ _ _ _) (Or.inl rfl)
  have n36 : gn S36 = gn S + 14 := by (rw [← eS36, gn_nw, n35]) <;> rfl
  refine bdE (P := fun T => ExtF a S T ∧ gn T = gn S + 23) (fun S37 eS37 => ?_)
  have y37 : ExtF a S S37 := y36.trans (b := a) (by rw [← eS37]; exact ExtF.sP _ _ _ _) (Or.inl rfl)
  have n37 : gn S37 = gn S + 14 := by (rw [← eS37, gn_sP, n36]) <;> rfl
  refine bdE (P := fun T => ExtF a S T ∧ gn T = gn S + 23) (fun S38 eS38 => ?_)
  have y38 : ExtF a S S38 := y37.trans (b := a) (by rw [← eS38]; exact ExtF.nw _ _ _ _) (Or.inl rfl)
  have n38 : gn S38 = gn S + 15 := by (rw [← eS38, gn_nw, n37]) <;> rfl
  refine bdE (P := fun T => ExtF a S T ∧ gn T = gn S + 23) (fun S39 eS39 => ?_)
  have y39 : ExtF a S S39 := y38.trans (b := a) (by rw [← eS39]; exact ExtF.sP _ _ _ _) (Or.inl rfl)
  have n39 : gn S39 = gn S + 15 := by (rw [← eS39, gn_sP, n38]) <;> rfl
  refine bdE (P := fun T => ExtF a S T ∧ gn T = gn S + 23) (fun S40 eS40 => ?_)
  have y40 : ExtF a S S40 := y39.trans (b := a) (by rw [← eS40]; exact ExtF.nw _ _ _ _) (Or.inl rfl)
  have n40 : gn S40 = gn S + 16 := by (rw [← eS40, gn_nw, n39]) <;> rfl
  refine bdE (P := fun T => ExtF a S T ∧ gn T = gn S + 23) (fun S41 eS41 => ?_)
  have y41 : ExtF a S S41 := y40.trans (b := a) (by rw [← eS41]; exact ExtF.sP _ _ _ _) (Or.inl rfl)
  have n41 : gn S41 = gn S + 16 := by (rw [← eS41, gn_sP, n40]) <;> rfl
  refine bdE (P := fun T => ExtF a S T ∧ gn T = gn S + 23) (fun S42 eS42 => ?_)
  have y42 : ExtF a S S42 := y41.trans (b := a) (by rw [← eS42]; exact ExtF.nw _ _ _ _) (Or.inl rfl)
  have n42 : gn S42 = gn S + 17 := by (rw [← eS42, gn_nw, n41]) <;> rfl
  refine bdE (P := fun T => ExtF a S T ∧ gn T = gn S + 23) (fun S43 eS43 => ?_)
  have y43 : ExtF a S S43 := y42.trans (b := a) (by rw [← eS43]; exact ExtF.sP _ _ _ _) (Or.inl rfl)
  have n43 : gn S43 = gn S + 17 := by (rw [← eS43, gn_sP, n42]) <;> rfl
  refine bdE (P := fun T => ExtF a S T ∧ gn T = gn S + 23) (fun S44 eS44 => ?_)
  have y44 : ExtF a S S44 := y43.trans (b := a) (by rw [← eS44]; exact ExtF.nw _ _ _ _) (Or.inl rfl)
  have n44 : gn S44 = gn S + 18 := by (rw [← eS44, gn_nw, n43]) <;> rfl
  refine bdE (P := fun T => ExtF a S T ∧ gn T = gn S + 23) (fun S45 eS45 => ?_)
  have y45 : ExtF a S S45 := y44.trans (b := a) (by rw [← eS45]; exact ExtF.sP _ _ _ _) (Or.inl rfl)
  have n45 : gn S45 = gn S + 18 := by (rw [← eS45, gn_sP, n44]) <;> rfl
  refine bdE (P := fun T => ExtF a S T ∧ gn T = gn S + 23) (fun S46 eS46 => ?_)
  have y46 : ExtF a S S46 := y45.trans (b := a) (by rw [← eS46]; exact ExtF.nw _ _ _ _) (Or.inl rfl)
  have n46 : gn S46 = gn S + 19 := by (rw [← eS46, gn_nw, n45]) <;> rfl
  refine bdE (P := fun T => ExtF a S T ∧ gn T = gn S + 23) (fun S47 eS47 => ?_)
  have y47 : ExtF a S S47 := y46.trans (b := a) (by rw [← eS47]; exact ExtF.sP _ _ _ _) (Or.inl rfl)
  have n47 : gn S47 = gn S + 19 := by (rw [← eS47, gn_sP, n46]) <;> rfl
  refine bdE (P := fun T => ExtF a S T ∧ gn T = gn S + 23) (fun S48 eS48 => ?_)
  have y48 : ExtF a S S48 := y47.trans (b := a) (by rw [← eS48]; exact ExtF.nw _ _ _ _) (Or.inl rfl)
  have n48 : gn S48 = gn S + 20 := by (rw [← eS48, gn_nw, n47]) <;> rfl
  refine bdE (P := fun T => ExtF a S T ∧ gn T = gn S + 23) (fun S49 eS49 => ?_)
  have y49 : ExtF a S S49 := y48.trans (b := a) (by rw [← eS49]; exact ExtF.sP _ _ _ _) (Or.inl rfl)
  have n49 : gn S49 = gn S + 20 := by (rw [← eS49, gn_sP, n48]) <;> rfl
  refine bdE (P := fun T => ExtF a S T ∧ gn T = gn S + 23) (fun S50 eS50 => ?_)
  have y50 : ExtF a S S50 := y49.trans (b := a) (by rw [← eS50]; exact ExtF.nw _ _ _ _) (Or.inl rfl)
  have n50 : gn S50 = gn S + 21 := by (rw [← eS50, gn_nw, n49]) <;> rfl
  refine bdE (P := fun T => ExtF a S T ∧ gn T = gn S + 23) (fun S51 eS51 => ?_)
  have y51 : ExtF a S S51 := y50.trans (b := a) (by rw [← eS51]; exact ExtF.sP _ _ _ _) (Or.inl rfl)
  have n51 : gn S51 = gn S + 21 := by (rw [← eS51, gn_sP, n50]) <;> rfl
  refine bdE (P := fun T => ExtF a S T ∧ gn T = gn S + 23) (fun S52 eS52 => ?_)
  have y52 : ExtF a S S52 := y51.trans (b := a) (by rw [← eS52]; exact ExtF.nw _ _ _ _) (Or.inl rfl)
  have n52 : gn S52 = gn S + 22 := by (rw [← eS52, gn_nw, n51]) <;> rfl
  refine bdE (P := fun T => ExtF a S T ∧ gn T = gn S + 23) (fun S53 eS53 => ?_)
  have y53 : ExtF a S S53 := y52.trans (b := a) (by rw [← eS53]; exact ExtF.sP _ _ _ _) (Or.inl rfl)
  have n53 : gn S53 = gn S + 22 := by (rw [← eS53, gn_sP, n52]) <;> rfl
  refine bdE (P := fun T => ExtF a S T ∧ gn T = gn S + 23) (fun S54 eS54 => ?_)
  have y54 : ExtF a S S54 := y53.trans (b := a) (by rw [← eS54]; exact ExtF.nw _ _ _ _) (Or.inl rfl)
  have n54 : gn S54 = gn S + 23 := by (rw [← eS54, gn_nw, n53]) <;> rfl
  refine bdE (P := fun T => ExtF a S T ∧ gn T = gn S + 23) (fun S55 eS55 => ?_)
  have y55 : ExtF a S S55 := y54.trans (b := a) (by rw [← eS55]; exact ExtF.sP _ _ _ _) (Or.inl rfl)
  have n55 : gn S55 = gn S + 23 := by (rw [← eS55, gn_sP, n54]) <;> rfl
  exact ⟨y55, n55⟩
theorem z_X12_init (S : HSt) (a : Nat) (ha : a < gn S) : ExtF a S (f_X12_init S a) := (zz_X12_init S a ha).1
theorem z_X12_init_n (S : HSt) (a : Nat) (ha : a < gn S) : gn (f_X12_init S a) = gn S + 23 := (zz_X12_init S a ha).2
set_option maxRecDepth 100000 in
theorem t_X12_init (G : GG) (l : Launch) {S : HSt} (a : Nat) (ka : a < gn S ∧ gK S a = 12 ∧ gL S a = 0) (hb : gn S + 23 ≤ 1000) : AM G l yX12_init cX12_init 1 none (rmD 0 23 1166038) 23 1166038 [.ref a] S (FP none (f_X12_init S a)) := by
  refine AM.mk (by decide) (Nat.le_of_ble_eq_true rfl) ?_
  intro p e s m below meth c hC hSt hin0
  have oa := ka.1
  have n0 : gn S = gn S + 0 := rfl
  refine aw_aload_n hC 0 dX12_init_0 rfl rfl ?_
  refine aw_objInit hC w_916 w_2 w_3 dX12_init_1 (Nat.le_of_ble_eq_true rfl) (Nat.le_of_ble_eq_true rfl) ?_
  refine aw_aload_n hC 0 dX12_init_4 rfl rfl ?_
  refine aw_bipush (v := 8) hC dX12_init_5 (by decide) ?_
  refine aw_newaI hC hSt 8 w_4 (by decide) (by decide) (by decide) (by rw [n0]; exact Nat.le_trans (Nat.add_le_add_left (show 0+1 ≤ 23 by decide) (gn S)) hb) (Nat.le_of_ble_eq_true rfl) (Nat.le_of_ble_eq_true rfl) dX12_init_7 ?_
  generalize eS1 : nw S 14 8 = S1
  have x1 : ExtF (gn S) S S1 := by rw [← eS1]; exact ExtF.nw _ _ _ _
  have n1 : gn S1 = gn S + 1 := by (rw [← eS1, gn_nw, n0]) <;> rfl
  have ka := x1.k ka
  have k1 : (gn S) < gn S1 ∧ gK S1 (gn S) = 14 ∧ gL S1 (gn S) = 8 := by rw [← eS1]; exact nw_k _ _ _
  refine aw_dup hC dX12_init_9 rfl ?_
  refine aw_iconst (v := 0) hC dX12_init_10 (by decide) ?_
  refine aw_iconst (v := -1) hC dX12_init_11 (by decide) ?_
  refine aw_iast hC hSt k1.1 k1.2.1 (by rw [k1.2.2]; unfold vp_in; decide) dX12_init_12 ?_
  generalize eS2 : sI S1 (gn S) (0 : Int32).toNatClampNeg (-1 : Int32) = S2
  have x2 : ExtF (gn S) S1 S2 := by rw [← eS2]; exact ExtF.sI _ _ _ _
  have n2 : gn S2 = gn S + 1 := by (rw [← eS2, gn_sI, n1]) <;> rfl
  have ka := x2.k ka
  have k1 := x2.k k1
  refine aw_dup hC dX12_init_13 rfl ?_
  refine aw_iconst (v := 1) hC dX12_init_14 (by decide) ?_
  refine aw_iconst (v := -1) hC dX12_init_15 (by decide) ?_
  refine aw_iast hC hSt k1.1 k1.2.1 (by rw [k1.2.2]; unfold vp_in; decide) dX12_init_16 ?_
  generalize eS3 : sI S2 (gn S) (1 : Int32).toNatClampNeg (-1 : Int32) = S3
  have x3 : ExtF (gn S) S2 S3 := by rw [← eS3]; exact ExtF.sI _ _ _ _
  have n3 : gn S3 = gn S + 1 := by (rw [← eS3, gn_sI, n2]) <;> rfl
  have ka := x3.k ka
  have k1 := x3.k k1
  refine aw_dup hC dX12_init_17 rfl ?_
  refine aw_iconst (v := 2) hC dX12_init_18 (by decide) ?_
  refine aw_iconst (v := -1) hC dX12_init_19 (by decide) ?_
  refine aw_iast hC hSt k1.1 k1.2.1 (by rw [k1.2.2]; unfold vp_in; decide) dX12_init_20 ?_
  generalize eS4 : sI S3 (gn S) (2 : Int32).toNatClampNeg (-1 : Int32) = S4
  have x4 : ExtF (gn S) S3 S4 := by rw [← eS4]; exact ExtF.sI _ _ _ _
  have n4 : gn S4 = gn S + 1 := by (rw [← eS4, gn_sI, n3]) <;> rfl
  have ka := x4.k ka
  have k1 := x4.k k1
  refine aw_dup hC dX12_init_21 rfl ?_
  refine aw_iconst (v := 3) hC dX12_init_22 (by decide) ?_
  refine aw_iconst (v := -1) hC dX12_init_23 (by decide) ?_
  refine aw_iast hC hSt k1.1 k1.2.1 (by rw [k1.2.2]; unfold vp_in; decide) dX12_init_24 ?_
  generalize eS5 : sI S4 (gn S) (3 : Int32).toNatClampNeg (-1 : Int32) = S5
  have x5 : ExtF (gn S) S4 S5 := by rw [← eS5]; exact ExtF.sI _ _ _ _
  have n5 : gn S5 = gn S + 1 := by (rw [← eS5, gn_sI, n4]) <;> rfl
  have ka := x5.k ka
  have k1 := x5.k k1
  refine aw_dup hC dX12_init_25 rfl ?_
  refine aw_iconst (v := 4) hC dX12_init_26 (by decide) ?_
  refine aw_iconst (v := -1) hC dX12_init_27 (by decide) ?_
  refine aw_iast hC hSt k1.1 k1.2.1 (by rw [k1.2.2]; unfold vp_in; decide) dX12_init_28 ?_
  generalize eS6 : sI S5 (gn S) (4 : Int32).toNatClampNeg (-1 : Int32) = S6
  have x6 : ExtF (gn S) S5 S6 := by rw [← eS6]; exact ExtF.sI _ _ _ _
  have n6 : gn S6 = gn S + 1 := by (rw [← eS6, gn_sI, n5]) <;> rfl
  have ka := x6.k ka
  have k1 := x6.k k1
  refine aw_dup hC dX12_init_29 rfl ?_
  refine aw_iconst (v := 5) hC dX12_init_30 (by decide) ?_
  refine aw_iconst (v := -1) hC dX12_init_31 (by decide) ?_
  refine aw_iast hC hSt k1.1 k1.2.1 (by rw [k1.2.2]; unfold vp_in; decide) dX12_init_32 ?_
  generalize eS7 : sI S6 (gn S) (5 : Int32).toNatClampNeg (-1 : Int32) = S7
  have x7 : ExtF (gn S) S6 S7 := by rw [← eS7]; exact ExtF.sI _ _ _ _
  have n7 : gn S7 = gn S + 1 := by (rw [← eS7, gn_sI, n6]) <;> rfl
  have ka := x7.k ka
  have k1 := x7.k k1
  refine aw_dup hC dX12_init_33 rfl ?_
  refine aw_bipush (v := 6) hC dX12_init_34 (by decide) ?_
  refine aw_iconst (v := -1) hC dX12_init_36 (by decide) ?_
  refine aw_iast hC hSt k1.1 k1.2.1 (by rw [k1.2.2]; unfold vp_in; decide) dX12_init_37 ?_
  generalize eS8 : sI S7 (gn S) (6 : Int32).toNatClampNeg (-1 : Int32) = S8
  have x8 : ExtF (gn S) S7 S8 := by rw [← eS8]; exact ExtF.sI _ _ _ _
  have n8 : gn S8 = gn S + 1 := by (rw [← eS8, gn_sI, n7]) <;> rfl
  have ka := x8.k ka
  have k1 := x8.k k1
  refine aw_dup hC dX12_init_38 rfl ?_
  refine aw_bipush (v := 7) hC dX12_init_39 (by decide) ?_
  refine aw_iconst (v := -1) hC dX12_init_41 (by decide) ?_
  refine aw_iast hC hSt k1.1 k1.2.1 (by rw [k1.2.2]; unfold vp_in; decide) dX12_init_42 ?_
  generalize eS9 : sI S8 (gn S) (7 : Int32).toNatClampNeg (-1 : Int32) = S9
  have x9 : ExtF (gn S) S8 S9 := by rw [← eS9]; exact ExtF.sI _ _ _ _
  have n9 : gn S9 = gn S + 1 := by (rw [← eS9, gn_sI, n8]) <;> rfl
  have ka := x9.k ka
  have k1 := x9.k k1
  refine aw_putFP hC hSt (hin0 rfl) 2 ka.1 ka.2.1 rfl (by decide) w_917 rfl rfl rfl (fun _ => rfl) (fun _ => rfl) dX12_init_43 ?_
  generalize eS10 : sP S9 a 2 (some (gn S)) = S10
  have x10 : ExtF a S9 S10 := by rw [← eS10]; exact ExtF.sP _ _ _ _
  have n10 : gn S10 = gn S + 1 := by (rw [← eS10, gn_sP, n9]) <;> rfl
  have ka := x10.k ka
  have k1 := x10.k k1
  refine aw_aload_n hC 0 dX12_init_46 rfl rfl ?_
  refine aw_bipush (v := 8) hC dX12_init_47 (by decide) ?_
  refine aw_newaI hC hSt 8 w_4 (by decide) (by decide) (by decide) (by rw [n10]; exact Nat.le_trans (Nat.add_le_add_left (show 1+1 ≤ 23 by decide) (gn S)) hb) (Nat.le_of_ble_eq_true rfl) (Nat.le_of_ble_eq_true rfl) dX12_init_49 ?_
  generalize eS11 : nw S10 14 8 = S11
  have x11 : ExtF (gn S10) S10 S11 := by rw [← eS11]; exact ExtF.nw _ _ _ _
  have n11 : gn S11 = gn S + 2 := by (rw [← eS11, gn_nw, n10]) <;> rfl
  have ka := x11.k ka
  have k11 : (gn S10) < gn S11 ∧ gK S11 (gn S10) = 14 ∧ gL S11 (gn S10) = 8 := by rw [← eS11]; exact nw_k _ _ _
  refine aw_putFP hC hSt (hin0 rfl) 3 ka.1 ka.2.1 rfl (by decide) w_918 rfl rfl rfl (fun _ => rfl) (fun _ => rfl) dX12_init_51 ?_
  generalize eS12 : sP S11 a 3 (some (gn S10)) = S12
  have x12 : ExtF a S11 S12 := by rw [← eS12]; exact ExtF.sP _ _ _ _
  have n12 : gn S12 = gn S + 2 := by (rw [← eS12, gn_sP, n11]) <;> rfl
  have ka := x12.k ka
  have k11 := x12.k k11
  refine aw_aload_n hC 0 dX12_init_54 rfl rfl ?_
  refine aw_sipush (v := 320) hC dX12_init_55 (by decide) ?_
  refine aw_newaI hC hSt 320 w_4 (by decide) (by decide) (by decide) (by rw [n12]; exact Nat.le_trans (Nat.add_le_add_left (show 2+1 ≤ 23 by decide) (gn S)) hb) (Nat.le_of_ble_eq_true rfl) (Nat.le_of_ble_eq_true rfl) dX12_init_58 ?_
  generalize eS13 : nw S12 14 320 = S13
  have x13 : ExtF (gn S12) S12 S13 := by rw [← eS13]; exact ExtF.nw _ _ _ _
  have n13 : gn S13 = gn S + 3 := by (rw [← eS13, gn_nw, n12]) <;> rfl
  have ka := x13.k ka
  have k13 : (gn S12) < gn S13 ∧ gK S13 (gn S12) = 14 ∧ gL S13 (gn S12) = 320 := by rw [← eS13]; exact nw_k _ _ _
  refine aw_putFP hC hSt (hin0 rfl) 4 ka.1 ka.2.1 rfl (by decide) w_919 rfl rfl rfl (fun _ => rfl) (fun _ => rfl) dX12_init_60 ?_
  generalize eS14 : sP S13 a 4 (some (gn S12)) = S14
  have x14 : ExtF a S13 S14 := by rw [← eS14]; exact ExtF.sP _ _ _ _
  have n14 : gn S14 = gn S + 3 := by (rw [← eS14, gn_sP, n13]) <;> rfl
  have ka := x14.k ka
  have k13 := x14.k k13
  refine aw_aload_n hC 0 dX12_init_63 rfl rfl ?_
  refine aw_sipush (v := 172) hC dX12_init_64 (by decide) ?_
  refine aw_newaI hC hSt 172 w_4 (by decide) (by decide) (by decide) (by rw [n14]; exact Nat.le_trans (Nat.add_le_add_left (show 3+1 ≤ 23 by decide) (gn S)) hb) (Nat.le_of_ble_eq_true rfl) (Nat.le_of_ble_eq_true rfl) dX12_init_67 ?_
  generalize eS15 : nw S14 14 172 = S15
  have x15 : ExtF (gn S14) S14 S15 := by rw [← eS15]; exact ExtF.nw _ _ _ _
  have n15 : gn S15 = gn S + 4 := by (rw [← eS15, gn_nw, n14]) <;> rfl
  have ka := x15.k ka
  have k15 : (gn S14) < gn S15 ∧ gK S15 (gn S14) = 14 ∧ gL S15 (gn S14) = 172 := by rw [← eS15]; exact nw_k _ _ _
  refine aw_putFP hC hSt (hin0 rfl) 5 ka.1 ka.2.1 rfl (by decide) w_920 rfl rfl rfl (fun _ => rfl) (fun _ => rfl) dX12_init_69 ?_
  generalize eS16 : sP S15 a 5 (some (gn S14)) = S16
  have x16 : ExtF a S15 S16 := by rw [← eS16]; exact ExtF.sP _ _ _ _
  have n16 : gn S16 = gn S + 4 := by (rw [← eS16, gn_sP, n15]) <;> rfl
  have ka := x16.k ka
  have k15 := x16.k k15
  refine aw_aload_n hC 0 dX12_init_72 rfl rfl ?_
  refine aw_sipush (v := 172) hC dX12_init_73 (by decide) ?_
  refine aw_newaI hC hSt 172 w_4 (by decide) (by decide) (by decide) (by rw [n16]; exact Nat.le_trans (Nat.add_le_add_left (show 4+1 ≤ 23 by decide) (gn S)) hb) (Nat.le_of_ble_eq_true rfl) (Nat.le_of_ble_eq_true rfl) dX12_init_76 ?_
  generalize eS17 : nw S16 14 172 = S17
  have x17 : ExtF (gn S16) S16 S17 := by rw [← eS17]; exact ExtF.nw _ _ _ _
  have n17 : gn S17 = gn S + 5 := by (rw [← eS17, gn_nw, n16]) <;> rfl
  have ka := x17.k ka
  have k17 : (gn S16) < gn S17 ∧ gK S17 (gn S16) = 14 ∧ gL S17 (gn S16) = 172 := by rw [← eS17]; exact nw_k _ _ _
  refine aw_putFP hC hSt (hin0 rfl) 6 ka.1 ka.2.1 rfl (by decide) w_921 rfl rfl rfl (fun _ => rfl) (fun _ => rfl) dX12_init_78 ?_
  generalize eS18 : sP S17 a 6 (some (gn S16)) = S18
  have x18 : ExtF a S17 S18 := by rw [← eS18]; exact ExtF.sP _ _ _ _
  have n18 : gn S18 = gn S + 5 := by (rw [← eS18, gn_sP, n17]) <;> rfl
  have ka := x18.k ka
  have k17 := x18.k k17
  refine aw_aload_n hC 0 dX12_init_81 rfl rfl ?_
  refine aw_sipush (v := 600) hC dX12_init_82 (by decide) ?_
  refine aw_newaI hC hSt 600 w_4 (by decide) (by decide) (by decide) (by rw [n18]; exact Nat.le_trans (Nat.add_le_add_left (show 5+1 ≤ 23 by decide) (gn S)) hb) (Nat.le_of_ble_eq_true rfl) (Nat.le_of_ble_eq_true rfl) dX12_init_85 ?_
  generalize eS19 : nw S18 14 600 = S19
  have x19 : ExtF (gn S18) S18 S19 := by rw [← eS19]; exact ExtF.nw _ _ _ _
  have n19 : gn S19 = gn S + 6 := by (rw [← eS19, gn_nw, n18]) <;> rfl
  have ka := x19.k ka
  have k19 : (gn S18) < gn S19 ∧ gK S19 (gn S18) = 14 ∧ gL S19 (gn S18) = 600 := by rw [← eS19]; exact nw_k _ _ _
  refine aw_putFP hC hSt (hin0 rfl) 8 ka.1 ka.2.1 rfl (by decide) w_922 rfl rfl rfl (fun _ => rfl) (fun _ => rfl) dX12_init_87 ?_
  generalize eS20 : sP S19 a 8 (some (gn S18)) = S20
  have x20 : ExtF a S19 S20 := by rw [← eS20]; exact ExtF.sP _ _ _ _
  have n20 : gn S20 = gn S + 6 := by (rw [← eS20, gn_sP, n19]) <;> rfl
  have ka := x20.k ka
  have k19 := x20.k k19
  refine aw_aload_n hC 0 dX12_init_90 rfl rfl ?_
  refine aw_ldc (v := -1000000) hC w_923 dX12_init_91 ?_
  refine aw_putI hC hSt 19 ka.1 ka.2.1 rfl (by decide) w_924 rfl rfl rfl rfl dX12_init_93 ?_
  generalize eS21 : sI S20 a 19 (-1000000 : Int32) = S21
  have x21 : ExtF a S20 S21 := by rw [← eS21]; exact ExtF.sI _ _ _ _
  have n21 : gn S21 = gn S + 6 := by (rw [← eS21, gn_sI, n20]) <;> rfl
  have ka := x21.k ka
  refine aw_aload_n hC 0 dX12_init_96 rfl rfl ?_
  refine aw_bipush (v := 7) hC dX12_init_97 (by decide) ?_
  refine aw_newaI hC hSt 7 w_4 (by decide) (by decide) (by decide) (by rw [n21]; exact Nat.le_trans (Nat.add_le_add_left (show 6+1 ≤ 23 by decide) (gn S)) hb) (Nat.le_of_ble_eq_true rfl) (Nat.le_of_ble_eq_true rfl) dX12_init_99 ?_
  generalize eS22 : nw S21 14 7 = S22
  have x22 : ExtF (gn S21) S21 S22 := by rw [← eS22]; exact ExtF.nw _ _ _ _
  have n22 : gn S22 = gn S + 7 := by (rw [← eS22, gn_nw, n21]) <;> rfl
  have ka := x22.k ka
  have k22 : (gn S21) < gn S22 ∧ gK S22 (gn S21) = 14 ∧ gL S22 (gn S21) = 7 := by rw [← eS22]; exact nw_k _ _ _
  refine aw_putFP hC hSt (hin0 rfl) 27 ka.1 ka.2.1 rfl (by decide) w_925 rfl rfl rfl (fun _ => rfl) (fun _ => rfl) dX12_init_101 ?_
  generalize eS23 : sP S22 a 27 (some (gn S21)) = S23
  have x23 : ExtF a S22 S23 := by rw [← eS23]; exact ExtF.sP _ _ _ _
  have n23 : gn S23 = gn S + 7 := by (rw [← eS23, gn_sP, n22]) <;> rfl
  have ka := x23.k ka
  have k22 := x23.k k22
  refine aw_aload_n hC 0 dX12_init_104 rfl rfl ?_
  refine aw_bipush (v := 42) hC dX12_init_105 (by decide) ?_
  refine aw_newaI hC hSt 42 w_4 (by decide) (by decide) (by decide) (by rw [n23]; exact Nat.le_trans (Nat.add_le_add_left (show 7+1 ≤ 23 by decide) (gn S)) hb) (Nat.le_of_ble_eq_true rfl) (Nat.le_of_ble_eq_true rfl) dX12_init_107 ?_
  generalize eS24 : nw S23 14 42 = S24
  have x24 : ExtF (gn S23) S23 S24 := by rw [← eS24]; exact ExtF.nw _ _ _ _
  have n24 : gn S24 = gn S + 8 := by (rw [← eS24, gn_nw, n23]) <;> rfl
  have ka := x24.k ka
  have k24 : (gn S23) < gn S24 ∧ gK S24 (gn S23) = 14 ∧ gL S24 (gn S23) = 42 := by rw [← eS24]; exact nw_k _ _ _
  refine aw_putFP hC hSt (hin0 rfl) 33 ka.1 ka.2.1 rfl (by decide) w_926 rfl rfl rfl (fun _ => rfl) (fun _ => rfl) dX12_init_109 ?_
  generalize eS25 : sP S24 a 33 (some (gn S23)) = S25
  have x25 : ExtF a S24 S25 := by rw [← eS25]; exact ExtF.sP _ _ _ _
  have n25 : gn S25 = gn S + 8 := by (rw [← eS25, gn_sP, n24]) <;> rfl
  have ka := x25.k ka
  have k24 := x25.k k24
  refine aw_aload_n hC 0 dX12_init_112 rfl rfl ?_
  refine aw_bipush (v := 6) hC dX12_init_113 (by decide) ?_
  refine aw_newaI hC hSt 6 w_4 (by decide) (by decide) (by decide) (by rw [n25]; exact Nat.le_trans (Nat.add_le_add_left (show 8+1 ≤ 23 by decide) (gn S)) hb) (Nat.le_of_ble_eq_true rfl) (Nat.le_of_ble_eq_true rfl) dX12_init_115 ?_
  generalize eS26 : nw S25 14 6 = S26
  have x26 : ExtF (gn S25) S25 S26 := by rw [← eS26]; exact ExtF.nw _ _ _ _
  have n26 : gn S26 = gn S + 9 := by (rw [← eS26, gn_nw, n25]) <;> rfl
  have ka := x26.k ka
  have k26 : (gn S25) < gn S26 ∧ gK S26 (gn S25) = 14 ∧ gL S26 (gn S25) = 6 := by rw [← eS26]; exact nw_k _ _ _
  refine aw_putFP hC hSt (hin0 rfl) 34 ka.1 ka.2.1 rfl (by decide) w_927 rfl rfl rfl (fun _ => rfl) (fun _ => rfl) dX12_init_117 ?_
  generalize eS27 : sP S26 a 34 (some (gn S25)) = S27
  have x27 : ExtF a S26 S27 := by rw [← eS27]; exact ExtF.sP _ _ _ _
  have n27 : gn S27 = gn S + 9 := by (rw [← eS27, gn_sP, n26]) <;> rfl
  have ka := x27.k ka
  have k26 := x27.k k26
  refine aw_aload_n hC 0 dX12_init_120 rfl rfl ?_
  refine aw_bipush (v := 6) hC dX12_init_121 (by decide) ?_
  refine aw_newaI hC hSt 6 w_4 (by decide) (by decide) (by decide) (by rw [n27]; exact Nat.le_trans (Nat.add_le_add_left (show 9+1 ≤ 23 by decide) (gn S)) hb) (Nat.le_of_ble_eq_true rfl) (Nat.le_of_ble_eq_true rfl) dX12_init_123 ?_
  generalize eS28 : nw S27 14 6 = S28
  have x28 : ExtF (gn S27) S27 S28 := by rw [← eS28]; exact ExtF.nw _ _ _ _
  have n28 : gn S28 = gn S + 10 := by (rw [← eS28, gn_nw, n27]) <;> rfl
  have ka := x28.k ka
  have k28 : (gn S27) < gn S28 ∧ gK S28 (gn S27) = 14 ∧ gL S28 (gn S27) = 6 := by rw [← eS28]; exact nw_k _ _ _
  refine aw_putFP hC hSt (hin0 rfl) 35 ka.1 ka.2.1 rfl (by decide) w_928 rfl rfl rfl (fun _ => rfl) (fun _ => rfl) dX12_init_125 ?_
  generalize eS29 : sP S28 a 35 (some (gn S27)) = S29
  have x29 : ExtF a S28 S29 := by rw [← eS29]; exact ExtF.sP _ _ _ _
  have n29 : gn S29 = gn S + 10 := by (rw [← eS29, gn_sP, n28]) <;> rfl
  have ka := x29.k ka
  have k28 := x29.k k28
  refine aw_aload_n hC 0 dX12_init_128 rfl rfl ?_
  refine aw_bipush (v := 6) hC dX12_init_129 (by decide) ?_
  refine aw_newaI hC hSt 6 w_4 (by decide) (by decide) (by decide) (by rw [n29]; exact Nat.le_trans (Nat.add_le_add_left (show 10+1 ≤ 23 by decide) (gn S)) hb) (Nat.le_of_ble_eq_true rfl) (Nat.le_of_ble_eq_true rfl) dX12_init_131 ?_
  generalize eS30 : nw S29 14 6 = S30
  have x30 : ExtF (gn S29) S29 S30 := by rw [← eS30]; exact ExtF.nw _ _ _ _
  have n30 : gn S30 = gn S + 11 := by (rw [← eS30, gn_nw, n29]) <;> rfl
  have ka := x30.k ka
  have k30 : (gn S29) < gn S30 ∧ gK S30 (gn S29) = 14 ∧ gL S30 (gn S29) = 6 := by rw [← eS30]; exact nw_k _ _ _
  refine aw_putFP hC hSt (hin0 rfl) 36 ka.1 ka.2.1 rfl (by decide) w_929 rfl rfl rfl (fun _ => rfl) (fun _ => rfl) dX12_init_133 ?_
  generalize eS31 : sP S30 a 36 (some (gn S29)) = S31
  have x31 : ExtF a S30 S31 := by rw [← eS31]; exact ExtF.sP _ _ _ _
  have n31 : gn S31 = gn S + 11 := by (rw [← eS31, gn_sP, n30]) <;> rfl
  have ka := x31.k ka
  have k30 := x31.k k30
  refine aw_aload_n hC 0 dX12_init_136 rfl rfl ?_
  refine aw_iconst (v := 5) hC dX12_init_137 (by decide) ?_
  refine aw_newaI hC hSt 5 w_4 (by decide) (by decide) (by decide) (by rw [n31]; exact Nat.le_trans (Nat.add_le_add_left (show 11+1 ≤ 23 by decide) (gn S)) hb) (Nat.le_of_ble_eq_true rfl) (Nat.le_of_ble_eq_true rfl) dX12_init_138 ?_
  generalize eS32 : nw S31 14 5 = S32
  have x32 : ExtF (gn S31) S31 S32 := by rw [← eS32]; exact ExtF.nw _ _ _ _
  have n32 : gn S32 = gn S + 12 := by (rw [← eS32, gn_nw, n31]) <;> rfl
  have ka := x32.k ka
  have k32 : (gn S31) < gn S32 ∧ gK S32 (gn S31) = 14 ∧ gL S32 (gn S31) = 5 := by rw [← eS32]; exact nw_k _ _ _
  refine aw_putFP hC hSt (hin0 rfl) 37 ka.1 ka.2.1 rfl (by decide) w_930 rfl rfl rfl (fun _ => rfl) (fun _ => rfl) dX12_init_140 ?_
  generalize eS33 : sP S32 a 37 (some (gn S31)) = S33
  have x33 : ExtF a S32 S33 := by rw [← eS33]; exact ExtF.sP _ _ _ _
  have n33 : gn S33 = gn S + 12 := by (rw [← eS33, gn_sP, n32]) <;> rfl
  have ka := x33.k ka
  have k32 := x33.k k32
  refine aw_aload_n hC 0 dX12_init_143 rfl rfl ?_
  refine aw_ldc (v := 582096) hC w_931 dX12_init_144 ?_
  refine aw_newaZ hC hSt 582096 w_932 (by decide) (by decide) (by decide) (by rw [n33]; exact Nat.le_trans (Nat.add_le_add_left (show 12+1 ≤ 23 by decide) (gn S)) hb) (Nat.le_of_ble_eq_true rfl) (Nat.le_of_ble_eq_true rfl) dX12_init_146 ?_
  generalize eS34 : nw S33 16 582096 = S34
  have x34 : ExtF (gn S33) S33 S34 := by rw [← eS34]; exact ExtF.nw _ _ _ _
  have n34 : gn S34 = gn S + 13 := by (rw [← eS34, gn_nw, n33]) <;> rfl
  have ka := x34.k ka
  have k34 : (gn S33) < gn S34 ∧ gK S34 (gn S33) = 16 ∧ gL S34 (gn S33) = 582096 := by rw [← eS34]; exact nw_k _ _ _
  refine aw_putFP hC hSt (hin0 rfl) 40 ka.1 ka.2.1 rfl (by decide) w_933 rfl rfl rfl (fun _ => rfl) (fun _ => rfl) dX12_init_148 ?_
  generalize eS35 : sP S34 a 40 (some (gn S33)) = S35
  have x35 : ExtF a S34 S35 := by rw [← eS35]; exact ExtF.sP _ _ _ _
  have n35 : gn S35 = gn S + 13 := by (rw [← eS35, gn_sP, n34]) <;> rfl
  have ka := x35.k ka
  have k34 := x35.k k34
  refine aw_aload_n hC 0 dX12_init_151 rfl rfl ?_
  refine aw_ldc (v := 582096) hC w_931 dX12_init_152 ?_
  refine aw_newaZ hC hSt 582096 w_932 (by decide) (by decide) (by decide) (by rw [n35]; exact Nat.le_trans (Nat.add_le_add_left (show 13+1 ≤ 23 by decide) (gn S)) hb) (Nat.le_of_ble_eq_true rfl) (Nat.le_of_ble_eq_true rfl) dX12_init_154 ?_
  generalize eS36 : nw S35 16 582096 = S36
  have x36 : ExtF (gn S35) S35 S36 := by rw [← eS36]; exact ExtF.nw _ _ _ _
  have n36 : gn S36 = gn S + 14 := by (rw [← eS36, gn_nw, n35]) <;> rfl
  have ka := x36.k ka
  have k36 : (gn S35) < gn S36 ∧ gK S36 (gn S35) = 16 ∧ gL S36 (gn S35) = 582096 := by rw [← eS36]; exact nw_k _ _ _
  refine aw_putFP hC hSt (hin0 rfl) 41 ka.1 ka.2.1 rfl (by decide) w_934 rfl rfl rfl (fun _ => rfl) (fun _ => rfl) dX12_init_156 ?_
  generalize eS37 : sP S36 a 41 (some (gn S35)) = S37
  have x37 : ExtF a S36 S37 := by rw [← eS37]; exact ExtF.sP _ _ _ _
  have n37 : gn S37 = gn S + 14 := by (rw [← eS37, gn_sP, n36]) <;> rfl
  have ka := x37.k ka
  have k36 := x37.k k36
  refine aw_aload_n hC 0 dX12_init_159 rfl rfl ?_
  refine aw_bipush (v := 7) hC dX12_init_160 (by decide) ?_
  refine aw_newaI hC hSt 7 w_4 (by decide) (by decide) (by decide) (by rw [n37]; exact Nat.le_trans (Nat.add_le_add_left (show 14+1 ≤ 23 by decide) (gn S)) hb) (Nat.le_of_ble_eq_true rfl) (Nat.le_of_ble_eq_true rfl) dX12_init_162 ?_
  generalize eS38 : nw S37 14 7 = S38
  have x38 : ExtF (gn S37) S37 S38 := by rw [← eS38]; exact ExtF.nw _ _ _ _
  have n38 : gn S38 = gn S + 15 := by (rw [← eS38, gn_nw, n37]) <;> rfl
  have ka := x38.k ka
  have k38 : (gn S37) < gn S38 ∧ gK S38 (gn S37) = 14 ∧ gL S38 (gn S37) = 7 := by rw [← eS38]; exact nw_k _ _ _
  refine aw_putFP hC hSt (hin0 rfl) 42 ka.1 ka.2.1 rfl (by decide) w_935 rfl rfl rfl (fun _ => rfl) (fun _ => rfl) dX12_init_164 ?_
  generalize eS39 : sP S38 a 42 (some (gn S37)) = S39
  have x39 : ExtF a S38 S39 := by rw [← eS39]; exact ExtF.sP _ _ _ _
  have n39 : gn S39 = gn S + 15 := by (rw [← eS39, gn_sP, n38]) <;> rfl
  have ka := x39.k ka
  have k38 := x39.k k38
  refine aw_aload_n hC 0 dX12_init_167 rfl rfl ?_
  refine aw_bipush (v := 6) hC dX12_init_168 (by decide) ?_
  refine aw_newaI hC hSt 6 w_4 (by decide) (by decide) (by decide) (by rw [n39]; exact Nat.le_trans (Nat.add_le_add_left (show 15+1 ≤ 23 by decide) (gn S)) hb) (Nat.le_of_ble_eq_true rfl) (Nat.le_of_ble_eq_true rfl) dX12_init_170 ?_
  generalize eS40 : nw S39 14 6 = S40
  have x40 : ExtF (gn S39) S39 S40 := by rw [← eS40]; exact ExtF.nw _ _ _ _
  have n40 : gn S40 = gn S + 16 := by (rw [← eS40, gn_nw, n39]) <;> rfl
  have ka := x40.k ka
  have k40 : (gn S39) < gn S40 ∧ gK S40 (gn S39) = 14 ∧ gL S40 (gn S39) = 6 := by rw [← eS40]; exact nw_k _ _ _
  refine aw_putFP hC hSt (hin0 rfl) 43 ka.1 ka.2.1 rfl (by decide) w_936 rfl rfl rfl (fun _ => rfl) (fun _ => rfl) dX12_init_172 ?_
  generalize eS41 : sP S40 a 43 (some (gn S39)) = S41
  have x41 : ExtF a S40 S41 := by rw [← eS41]; exact ExtF.sP _ _ _ _
  have n41 : gn S41 = gn S + 16 := by (rw [← eS41, gn_sP, n40]) <;> rfl
  have ka := x41.k ka
  have k40 := x41.k k40
  refine aw_aload_n hC 0 dX12_init_175 rfl rfl ?_
  refine aw_bipush (v := 101) hC dX12_init_176 (by decide) ?_
  refine aw_newaI hC hSt 101 w_4 (by decide) (by decide) (by decide) (by rw [n41]; exact Nat.le_trans (Nat.add_le_add_left (show 16+1 ≤ 23 by decide) (gn S)) hb) (Nat.le_of_ble_eq_true rfl) (Nat.le_of_ble_eq_true rfl) dX12_init_178 ?_
  generalize eS42 : nw S41 14 101 = S42
  have x42 : ExtF (gn S41) S41 S42 := by rw [← eS42]; exact ExtF.nw _ _ _ _
  have n42 : gn S42 = gn S + 17 := by (rw [← eS42, gn_nw, n41]) <;> rfl
  have ka := x42.k ka
  have k42 : (gn S41) < gn S42 ∧ gK S42 (gn S41) = 14 ∧ gL S42 (gn S41) = 101 := by rw [← eS42]; exact nw_k _ _ _
  refine aw_putFP hC hSt (hin0 rfl) 44 ka.1 ka.2.1 rfl (by decide) w_937 rfl rfl rfl (fun _ => rfl) (fun _ => rfl) dX12_init_180 ?_
  generalize eS43 : sP S42 a 44 (some (gn S41)) = S43
  have x43 : ExtF a S42 S43 := by rw [← eS43]; exact ExtF.sP _ _ _ _
  have n43 : gn S43 = gn S + 17 := by (rw [← eS43, gn_sP, n42]) <;> rfl
  have ka := x43.k ka
  have k42 := x43.k k42
  refine aw_aload_n hC 0 dX12_init_183 rfl rfl ?_
  refine aw_iconst (v := 2) hC dX12_init_184 (by decide) ?_
  refine aw_newaZ hC hSt 2 w_932 (by decide) (by decide) (by decide) (by rw [n43]; exact Nat.le_trans (Nat.add_le_add_left (show 17+1 ≤ 23 by decide) (gn S)) hb) (Nat.le_of_ble_eq_true rfl) (Nat.le_of_ble_eq_true rfl) dX12_init_185 ?_
  generalize eS44 : nw S43 16 2 = S44
  have x44 : ExtF (gn S43) S43 S44 := by rw [← eS44]; exact ExtF.nw _ _ _ _
  have n44 : gn S44 = gn S + 18 := by (rw [← eS44, gn_nw, n43]) <;> rfl
  have ka := x44.k ka
  have k44 : (gn S43) < gn S44 ∧ gK S44 (gn S43) = 16 ∧ gL S44 (gn S43) = 2 := by rw [← eS44]; exact nw_k _ _ _
  refine aw_putFP hC hSt (hin0 rfl) 45 ka.1 ka.2.1 rfl (by decide) w_938 rfl rfl rfl (fun _ => rfl) (fun _ => rfl) dX12_init_187 ?_
  generalize eS45 : sP S44 a 45 (some (gn S43)) = S45
  have x45 : ExtF a S44 S45 := by rw [← eS45]; exact ExtF.sP _ _ _ _
  have n45 : gn S45 = gn S + 18 := by (rw [← eS45, gn_sP, n44]) <;> rfl
  have ka := x45.k ka
  have k44 := x45.k k44
  refine aw_aload_n hC 0 dX12_init_190 rfl rfl ?_
  refine aw_sipush (v := 344) hC dX12_init_191 (by decide) ?_
  refine aw_newaI hC hSt 344 w_4 (by decide) (by decide) (by decide) (by rw [n45]; exact Nat.le_trans (Nat.add_le_add_left (show 18+1 ≤ 23 by decide) (gn S)) hb) (Nat.le_of_ble_eq_true rfl) (Nat.le_of_ble_eq_true rfl) dX12_init_194 ?_
  generalize eS46 : nw S45 14 344 = S46
  have x46 : ExtF (gn S45) S45 S46 := by rw [← eS46]; exact ExtF.nw _ _ _ _
  have n46 : gn S46 = gn S + 19 := by (rw [← eS46, gn_nw, n45]) <;> rfl
  have ka := x46.k ka
  have k46 : (gn S45) < gn S46 ∧ gK S46 (gn S45) = 14 ∧ gL S46 (gn S45) = 344 := by rw [← eS46]; exact nw_k _ _ _
  refine aw_putFP hC hSt (hin0 rfl) 46 ka.1 ka.2.1 rfl (by decide) w_939 rfl rfl rfl (fun _ => rfl) (fun _ => rfl) dX12_init_196 ?_
  generalize eS47 : sP S46 a 46 (some (gn S45)) = S47
  have x47 : ExtF a S46 S47 := by rw [← eS47]; exact ExtF.sP _ _ _ _
  have n47 : gn S47 = gn S + 19 := by (rw [← eS47, gn_sP, n46]) <;> rfl
  have ka := x47.k ka
  have k46 := x47.k k46
  refine aw_aload_n hC 0 dX12_init_199 rfl rfl ?_
  refine aw_bipush (v := 14) hC dX12_init_200 (by decide) ?_
  refine aw_newaI hC hSt 14 w_4 (by decide) (by decide) (by decide) (by rw [n47]; exact Nat.le_trans (Nat.add_le_add_left (show 19+1 ≤ 23 by decide) (gn S)) hb) (Nat.le_of_ble_eq_true rfl) (Nat.le_of_ble_eq_true rfl) dX12_init_202 ?_
  generalize eS48 : nw S47 14 14 = S48
  have x48 : ExtF (gn S47) S47 S48 := by rw [← eS48]; exact ExtF.nw _ _ _ _
  have n48 : gn S48 = gn S + 20 := by (rw [← eS48, gn_nw, n47]) <;> rfl
  have ka := x48.k ka
  have k48 : (gn S47) < gn S48 ∧ gK S48 (gn S47) = 14 ∧ gL S48 (gn S47) = 14 := by rw [← eS48]; exact nw_k _ _ _
  refine aw_putFP hC hSt (hin0 rfl) 47 ka.1 ka.2.1 rfl (by decide) w_940 rfl rfl rfl (fun _ => rfl) (fun _ => rfl) dX12_init_204 ?_
  generalize eS49 : sP S48 a 47 (some (gn S47)) = S49
  have x49 : ExtF a S48 S49 := by rw [← eS49]; exact ExtF.sP _ _ _ _
  have n49 : gn S49 = gn S + 20 := by (rw [← eS49, gn_sP, n48]) <;> rfl
  have ka := x49.k ka
  have k48 := x49.k k48
  refine aw_aload_n hC 0 dX12_init_207 rfl rfl ?_
  refine aw_iconst (v := 2) hC dX12_init_208 (by decide) ?_
  refine aw_newaI hC hSt 2 w_4 (by decide) (by decide) (by decide) (by rw [n49]; exact Nat.le_trans (Nat.add_le_add_left (show 20+1 ≤ 23 by decide) (gn S)) hb) (Nat.le_of_ble_eq_true rfl) (Nat.le_of_ble_eq_true rfl) dX12_init_209 ?_
  generalize eS50 : nw S49 14 2 = S50
  have x50 : ExtF (gn S49) S49 S50 := by rw [← eS50]; exact ExtF.nw _ _ _ _
  have n50 : gn S50 = gn S + 21 := by (rw [← eS50, gn_nw, n49]) <;> rfl
  have ka := x50.k ka
  have k50 : (gn S49) < gn S50 ∧ gK S50 (gn S49) = 14 ∧ gL S50 (gn S49) = 2 := by rw [← eS50]; exact nw_k _ _ _
  refine aw_putFP hC hSt (hin0 rfl) 48 ka.1 ka.2.1 rfl (by decide) w_941 rfl rfl rfl (fun _ => rfl) (fun _ => rfl) dX12_init_211 ?_
  generalize eS51 : sP S50 a 48 (some (gn S49)) = S51
  have x51 : ExtF a S50 S51 := by rw [← eS51]; exact ExtF.sP _ _ _ _
  have n51 : gn S51 = gn S + 21 := by (rw [← eS51, gn_sP, n50]) <;> rfl
  have ka := x51.k ka
  have k50 := x51.k k50
  refine aw_aload_n hC 0 dX12_init_214 rfl rfl ?_
  refine aw_iconst (v := 2) hC dX12_init_215 (by decide) ?_
  refine aw_newaI hC hSt 2 w_4 (by decide) (by decide) (by decide) (by rw [n51]; exact Nat.le_trans (Nat.add_le_add_left (show 21+1 ≤ 23 by decide) (gn S)) hb) (Nat.le_of_ble_eq_true rfl) (Nat.le_of_ble_eq_true rfl) dX12_init_216 ?_
  generalize eS52 : nw S51 14 2 = S52
  have x52 : ExtF (gn S51) S51 S52 := by rw [← eS52]; exact ExtF.nw _ _ _ _
  have n52 : gn S52 = gn S + 22 := by (rw [← eS52, gn_nw, n51]) <;> rfl
  have ka := x52.k ka
  have k52 : (gn S51) < gn S52 ∧ gK S52 (gn S51) = 14 ∧ gL S52 (gn S51) = 2 := by rw [← eS52]; exact nw_k _ _ _
  refine aw_putFP hC hSt (hin0 rfl) 49 ka.1 ka.2.1 rfl (by decide) w_942 rfl rfl rfl (fun _ => rfl) (fun _ => rfl) dX12_init_218 ?_
  generalize eS53 : sP S52 a 49 (some (gn S51)) = S53
  have x53 : ExtF a S52 S53 := by rw [← eS53]; exact ExtF.sP _ _ _ _
  have n53 : gn S53 = gn S + 22 := by (rw [← eS53, gn_sP, n52]) <;> rfl
  have ka := x53.k ka
  have k52 := x53.k k52
  refine aw_aload_n hC 0 dX12_init_221 rfl rfl ?_
  refine aw_bipush (v := 16) hC dX12_init_222 (by decide) ?_
  refine aw_newaI hC hSt 16 w_4 (by decide) (by decide) (by decide) (by rw [n53]; exact Nat.le_trans (Nat.add_le_add_left (show 22+1 ≤ 23 by decide) (gn S)) hb) (Nat.le_of_ble_eq_true rfl) (Nat.le_of_ble_eq_true rfl) dX12_init_224 ?_
  generalize eS54 : nw S53 14 16 = S54
  have x54 : ExtF (gn S53) S53 S54 := by rw [← eS54]; exact ExtF.nw _ _ _ _
  have n54 : gn S54 = gn S + 23 := by (rw [← eS54, gn_nw, n53]) <;> rfl
  have ka := x54.k ka
  have k54 : (gn S53) < gn S54 ∧ gK S54 (gn S53) = 14 ∧ gL S54 (gn S53) = 16 := by rw [← eS54]; exact nw_k _ _ _
  refine aw_putFP hC hSt (hin0 rfl) 50 ka.1 ka.2.1 rfl (by decide) w_943 rfl rfl rfl (fun _ => rfl) (fun _ => rfl) dX12_init_226 ?_
  generalize eS55 : sP S54 a 50 (some (gn S53)) = S55
  have x55 : ExtF a S54 S55 := by rw [← eS55]; exact ExtF.sP _ _ _ _
  have n55 : gn S55 = gn S + 23 := by (rw [← eS55, gn_sP, n54]) <;> rfl
  have ka := x55.k ka
  have k54 := x55.k k54
  exact aw_vret hC dX12_init_229 (Nat.le_of_ble_eq_true rfl) (Nat.le_of_ble_eq_true rfl) (FP.qV ((bd_eq eS1).trans ((bd_eq eS2).trans ((bd_eq eS3).trans ((bd_eq eS4).trans ((bd_eq eS5).trans ((bd_eq eS6).trans ((bd_eq eS7).trans ((bd_eq eS8).trans ((bd_eq eS9).trans ((bd_eq eS10).trans ((bd_eq eS11).trans ((bd_eq eS12).trans ((bd_eq eS13).trans ((bd_eq eS14).trans ((bd_eq eS15).trans ((bd_eq eS16).trans ((bd_eq eS17).trans ((bd_eq eS18).trans ((bd_eq eS19).trans ((bd_eq eS20).trans ((bd_eq eS21).trans ((bd_eq eS22).trans ((bd_eq eS23).trans ((bd_eq eS24).trans ((bd_eq eS25).trans ((bd_eq eS26).trans ((bd_eq eS27).trans ((bd_eq eS28).trans ((bd_eq eS29).trans ((bd_eq eS30).trans ((bd_eq eS31).trans ((bd_eq eS32).trans ((bd_eq eS33).trans ((bd_eq eS34).trans ((bd_eq eS35).trans ((bd_eq eS36).trans ((bd_eq eS37).trans ((bd_eq eS38).trans ((bd_eq eS39).trans ((bd_eq eS40).trans ((bd_eq eS41).trans ((bd_eq eS42).trans ((bd_eq eS43).trans ((bd_eq eS44).trans ((bd_eq eS45).trans ((bd_eq eS46).trans ((bd_eq eS47).trans ((bd_eq eS48).trans ((bd_eq eS49).trans ((bd_eq eS50).trans ((bd_eq eS51).trans ((bd_eq eS52).trans ((bd_eq eS53).trans ((bd_eq eS54).trans ((bd_eq eS55).trans (rfl)))))))))))))))))))))))))))))))))))))))))))))))))))))))))
noncomputable def f_X11_init (S : HSt) (a : Nat) : HSt := bd (nw S 5 0) fun S1 => bd (f_X5_init S1 (gn S)) fun S2 => bd (sP S2 a 0 (some (gn S))) fun S3 => bd (nw S3 4 0) fun S4 => bd (f_X4_init S4 (gn S3)) fun S5 => bd (sP S5 a 1 (some (gn S3))) fun S6 => bd (nw S6 7 0) fun S7 => bd (f_X7_init S7 (gn S6)) fun S8 => bd (sP S8 a 2 (some (gn S6))) fun S9 => bd (nw S9 18 2) fun S10 => bd (sP S10 a 3 (some (gn S9))) fun S11 => bd (nw S11 7 0) fun S12 => bd (f_X7_init S12 (gn S11)) fun S13 => bd (sP S13 (gn S9) (0 : Int32).toNatClampNeg (some (gn S11))) fun S14 => bd (nw S14 7 0) fun S15 => bd (f_X7_init S15 (gn S14)) fun S16 => bd (sP S16 (gn S9) (1 : Int32).toNatClampNeg (some (gn S14))) fun S17 => bd (nw S17 9 0) fun S18 => bd (f_X9_init S18 (gn S17)) fun S19 => bd (sP S19 a 4 (some (gn S17))) fun S20 => bd (nw S20 6 0) fun S21 => bd (f_X6_init S21 (gn S20)) fun S22 => bd (sP S22 a 5 (some (gn S20))) fun S23 => bd (nw S23 8 0) fun S24 => bd (f_X8_init S24 (gn S23)) fun S25 => bd (sP S25 a 6 (some (gn S23))) fun S26 => bd (nw S26 2 0) fun S27 => bd (f_X2_init S27 (gn S26)) fun S28 => bd (sP S28 a 7 (some (gn S26))) fun S29 => bd (nw S29 0 0) fun S30 => bd (f_X0_init S30 (gn S29)) fun S31 => bd (sP S31 a 8 (some (gn S29))) fun S32 => bd (sP S32 a 9 none) fun S33 => bd (sI S33 a 10 (0 : Int32)) fun S34 => S34
theorem zz_X11_init (S : HSt) (a : Nat) (ha : a < gn S) : ExtF a S (f_X11_init S a) ∧ gn (f_X11_init S a) = gn S + 63 := by
  unfold f_X11_init
  have y0 : ExtF a S S := ExtF.refl a S
  have n0 : gn S = gn S + 0 := rfl
  refine bdE (P := fun T => ExtF a S T ∧ gn T = gn S + 63) (fun S1 eS1 => ?_)
  have y1 : ExtF a S S1 := y0.trans (b := a) (by rw [← eS1]; exact ExtF.nw _ _ _ _) (Or.inl rfl)
  have n1 : gn S1 = gn S + 1 := by (rw [← eS1, gn_nw, n0]) <;> rfl
  refine bdE (P := fun T => ExtF a S T ∧ gn T = gn S + 63) (fun S2 eS2 => ?_)
  have y2 : ExtF a S S2 := y1.trans (b := (gn S)) (by rw [← eS2]; exact (z_X5_init _ _ (by rw [n1]; exact Nat.lt_add_of_pos_right (by decide)))) (Or.inr (Nat.le_refl _))
  have n2 : gn S2 = gn S + 12 := by (rw [← eS2, z_X5_init_n _ _ (by rw [n1]; exact Nat.lt_add_of_pos_right (by decide)), n1]) <;> rfl
  refine bdE (P := fun T => ExtF a S T ∧ gn T = gn S + 63) (fun S3 eS3 => ?_)
  have y3 : ExtF a S S3 := y2.trans (b := a) (by rw [← eS3]; exact ExtF.sP _ _ _ _) (Or.inl rfl)
  have n3 : gn S3 = gn S + 12 := by (rw [← eS3, gn_sP, n2]) <;> rfl
  refine bdE (P := fun T => ExtF a S T ∧ gn T = gn S + 63) (fun S4 eS4 => ?_)
  have y4 : ExtF a S S4 := y3.trans (b := a) (by rw [← eS4]; exact ExtF.nw _ _ _ _) (Or.inl rfl)
  have n4 : gn S4 = gn S + 13 := by (rw [← eS4, gn_nw, n3]) <;> rfl
  refine bdE (P := fun T => ExtF a S T ∧ gn T = gn S + 63) (fun S5 eS5 => ?_)
  have y5 : ExtF a S S5 := y4.trans (b := (gn S3)) (by rw [← eS5]; exact (z_X4_init _ _ (by rw [n4, n3]; exact Nat.add_lt_add_left (by decide) _))) (Or.inr (by rw [n3]; exact Nat.le_add_right _ _))
  have n5 : gn S5 = gn S + 17 := by (rw [← eS5, z_X4_init_n _ _ (by rw [n4, n3]; exact Nat.add_lt_add_left (by decide) _), n4]) <;> rfl
  refine bdE (P := fun T => ExtF a S T ∧ gn T = gn S + 63) (fun S6 eS6 => ?_)
  have y6 : ExtF a S S6 := y5.trans (b := a) (by rw [← eS6]; exact ExtF.sP _ _ _ _) (Or.inl rfl)
  have n6 : gn S6 = gn S + 17 := by (rw [← eS6, gn_sP, n5]) <;> rfl
  refine bdE (P := fun T => ExtF a S T ∧ gn T = gn S + 63) (fun S7 eS7 => ?_)
  have y7 : ExtF a S S7 := y6.trans (b := a) (by rw [← eS7]; exact ExtF.nw _ _ _ _) (Or.inl rfl)
  have n7 : gn S7 = gn S + 18 := by (rw [← eS7, gn_nw, n6]) <;> rfl
  refine bdE (P := fun T => ExtF a S T ∧ gn T = gn S + 63) (fun S8 eS8 => ?_)
  have y8 : ExtF a S S8 := y7.trans (b := (gn S6)) (by rw [← eS8]; exact (z_X7_init _ _ (by rw [n7, n6]; exact Nat.add_lt_add_left (by decide) _))) (Or.inr (by rw [n6]; exact Nat.le_add_right _ _))
  have n8 : gn S8 = gn S + 22 := by (rw [← eS8, z_X7_init_n _ _ (by rw [n7, n6]; exact Nat.add_lt_add_left (by decide) _), n7]) <;> rfl
  refine bdE (P := fun T => ExtF a S T ∧ gn T = gn S + 63) (fun S9 eS9 => ?_)
  have y9 : ExtF a S S9 := y8.trans (b := a) (by rw [← eS9]; exact ExtF.sP _ _ _ _) (Or.inl rfl)
  have n9 : gn S9 = gn S + 22 := by (rw [← eS9, gn_sP, n8]) <;> rfl
  refine bdE (P := fun T => ExtF a S T ∧ gn T = gn S + 63) (fun S10 eS10 => ?_)
  have y10 : ExtF a S S10 := y9.trans (b := a) (by rw [← eS10]; exact ExtF.nw _ _ _ _) (Or.inl rfl)
  have n10 : gn S10 = gn S + 23 := by (rw [← eS10, gn_nw, n9]) <;> rfl
  refine bdE (P := fun T => ExtF a S T ∧ gn T = gn S + 63) (fun S11 eS11 => ?_)
  have y11 : ExtF a S S11 := y10.trans (b := a) (by rw [← eS11]; exact ExtF.sP _ _ _ _) (Or.inl rfl)
  have n11 : gn S11 = gn S + 23 := by (rw [← eS11, gn_sP, n10]) <;> rfl
  refine bdE (P := fun T => ExtF a S T ∧ gn T = gn S + 63) (fun S12 eS12 => ?_)
  have y12 : ExtF a S S12 := y11.trans (b := a) (by rw [← eS12]; exact ExtF.nw _ _ _ _) (Or.inl rfl)
  have n12 : gn S12 = gn S + 24 := by (rw [← eS12, gn_nw, n11]) <;> rfl
  refine bdE (P := fun T => ExtF a S T ∧ gn T = gn S + 63) (fun S13 eS13 => ?_)
  have y13 : ExtF a S S13 := y12.trans (b := (gn S11)) (by rw [← eS13]; exact (z_X7_init _ _ (by rw [n12, n11]; exact Nat.add_lt_add_left (by decide) _))) (Or.inr (by rw [n11]; exact Nat.le_add_right _ _))
  have n13 : gn S13 = gn S + 28 := by (rw [← eS13, z_X7_init_n _ _ (by rw [n12, n11]; exact Nat.add_lt_add_left (by decide) _), n12]) <;> rfl
  refine bdE (P := fun T => ExtF a S T ∧ gn T = gn S + 63) (fun S14 eS14 => ?_)
  have y14 : ExtF a S S14 := y13.trans (b := (gn S9)) (by rw [← eS14]; exact ExtF.sP _ _ _ _) (Or.inr (by rw [n9]; exact Nat.le_add_right _ _))
  have n14 : gn S14 = gn S + 28 := by (rw [← eS14, gn_sP, n13]) <;> rfl
  refine bdE (P := fun T => ExtF a S T ∧ gn T = gn S + 63) (fun S15 eS15 => ?_)
  have y15 : ExtF a S S15 := y14.trans (b := a) (by rw [← eS15]; exact ExtF.nw _ _ _ _) (Or.inl rfl)
  have n15 : gn S15 = gn S + 29 := by (rw [← eS15, gn_nw, n14]) <;> rfl
  refine bdE (P := fun T => ExtF a S T ∧ gn T = gn S + 63) (fun S16 eS16 => ?_)
  have y16 : ExtF a S S16 := y15.trans (b := (gn S14)) (by rw [← eS16]; exact (z_X7_init _ _ (by rw [n15, n14]; exact Nat.add_lt_add_left (by decide) _))) (Or.inr (by rw [n14]; exact Nat.le_add_right _ _))
  have n16 : gn S16 = gn S + 33 := by (rw [← eS16, z_X7_init_n _ _ (by rw [n15, n14]; exact Nat.add_lt_add_left (by decide) _), n15]) <;> rfl
  refine bdE (P := fun T => ExtF a S T ∧ gn T = gn S + 63) (fun S17 eS17 => ?_)
  have y17 : ExtF a S S17 := y16.trans (b := (gn S9)) (by rw [← eS17]; exact ExtF.sP _ _ _ _) (Or.inr (by rw [n9]; exact Nat.le_add_right _ _))
  have n17 : gn S17 = gn S + 33 := by (rw [← eS17, gn_sP, n16]) <;> rfl
  refine bdE (P := fun T => ExtF a S T ∧ gn T = gn S + 63) (fun S18 eS18 => ?_)
  have y18 : ExtF a S S18 := y17.trans (b := a) (by rw [← eS18]; exact ExtF.nw _ _ _ _) (Or.inl rfl)
  have n18 : gn S18 = gn S + 34 := by (rw [← eS18, gn_nw, n17]) <;> rfl
  refine bdE (P := fun T => ExtF a S T ∧ gn T = gn S + 63) (fun S19 eS19 => ?_)
  have y19 : ExtF a S S19 := y18.trans (b := (gn S17)) (by rw [← eS19]; exact (z_X9_init _ _ (by rw [n18, n17]; exact Nat.add_lt_add_left (by decide) _))) (Or.inr (by rw [n17]; exact Nat.le_add_right _ _))
  have n19 : gn S19 = gn S + 34 := by (rw [← eS19, z_X9_init_n _ _ (by rw [n18, n17]; exact Nat.add_lt_add_left (by decide) _), n18]) <;> rfl
  refine bdE (P := fun T => ExtF a S T ∧ gn T = gn S + 63) (fun S20 eS20 => ?_)
  have y20 : ExtF a S S20 := y19.trans (b := a) (by rw [← eS20]; exact ExtF.sP _ _ _ _) (Or.inl rfl)
  have n20 : gn S20 = gn S + 34 := by (rw [← eS20, gn_sP, n19]) <;> rfl
  refine bdE (P := fun T => ExtF a S T ∧ gn T = gn S + 63) (fun S21 eS21 => ?_)
  have y21 : ExtF a S S21 := y20.trans (b := a) (by rw [← eS21]; exact ExtF.nw _ _ _ _) (Or.inl rfl)
  have n21 : gn S21 = gn S + 35 := by (rw [← eS21, gn_nw, n20]) <;> rfl
  refine bdE (P := fun T => ExtF a S T ∧ gn T = gn S + 63) (fun S22 eS22 => ?_)
  have y22 : ExtF a S S22 := y21.trans (b := (gn S20)) (by rw [← eS22]; exact (z_X6_init _ _ (by rw [n21, n20]; exact Nat.add_lt_add_left (by decide) _))) (Or.inr (by rw [n20]; exact Nat.le_add_right _ _))
  have n22 : gn S22 = gn S + 37 := by (rw [← eS22, z_X6_init_n _ _ (by rw [n21, n20]; exact Nat.add_lt_add_left (by decide) _), n21]) <;> rfl
  refine bdE (P := fun T => ExtF a S T ∧ gn T = gn S + 63) (fun S23 eS23 => ?_)
  have y23 : ExtF a S S23 := y22.trans (b := a) (by rw [← eS23]; exact ExtF.sP _ _ _ _) (Or.inl rfl)
  have n23 : gn S23 = gn S + 37 := by (rw [← eS23, gn_sP, n22]) <;> rfl
  refine bdE (P := fun T => ExtF a S T ∧ gn T = gn S + 63) (fun S24 eS24 => ?_)
  have y24 : ExtF a S S24 := y23.trans (b := a) (by rw [← eS24]; exact ExtF.nw _ _ _ _) (Or.inl rfl)
  have n24 : gn S24 = gn S + 38 := by (rw [← eS24, gn_nw, n23]) <;> rfl
  refine bdE (P := fun T => ExtF a S T ∧ gn T = gn S + 63) (fun S25 eS25 => ?_)
  have y25 : ExtF a S S25 := y24.trans (b := (gn S23)) (by rw [← eS25]; exact (z_X8_init _ _ (by rw [n24, n23]; exact Nat.add_lt_add_left (by decide) _))) (Or.inr (by rw [n23]; exact Nat.le_add_right _ _))
  have n25 : gn S25 = gn S + 42 := by (rw [← eS25, z_X8_init_n _ _ (by rw [n24, n23]; exact Nat.add_lt_add_left (by decide) _), n24]) <;> rfl
  refine bdE (P := fun T => ExtF a S T ∧ gn T = gn S + 63) (fun S26 eS26 => ?_)
  have y26 : ExtF a S S26 := y25.trans (b := a) (by rw [← eS26]; exact ExtF.sP _ _ _ _) (Or.inl rfl)
  have n26 : gn S26 = gn S + 42 := by (rw [← eS26, gn_sP, n25]) <;> rfl
  refine bdE (P := fun T => ExtF a S T ∧ gn T = gn S + 63) (fun S27 eS27 => ?_)
  have y27 : ExtF a S S27 := y26.trans (b := a) (by rw [← eS27]; exact ExtF.nw _ _ _ _) (Or.inl rfl)
  have n27 : gn S27 = gn S + 43 := by (rw [← eS27, gn_nw, n26]) <;> rfl
  refine bdE (P := fun T => ExtF a S T ∧ gn T = gn S + 63) (fun S28 eS28 => ?_)
  have y28 : ExtF a S S28 := y27.trans (b := (gn S26)) (by rw [← eS28]; exact (z_X2_init _ _ (by rw [n27, n26]; exact Nat.add_lt_add_left (by decide) _))) (Or.inr (by rw [n26]; exact Nat.le_add_right _ _))
  have n28 : gn S28 = gn S + 61 := by (rw [← eS28, z_X2_init_n _ _ (by rw [n27, n26]; exact Nat.add_lt_add_left (by decide) _), n27]) <;> rfl
  refine bdE (P := fun T => ExtF a S T ∧ gn T = gn S + 63) (fun S29 eS29 => ?_)
  have y29 : ExtF a S S29 := y28.trans (b := a) (by rw [← eS29]; exact ExtF.sP _ _ _ _) (Or.inl rfl)
  have n29 : gn S29 = gn S + 61 := by (rw [← eS29, gn_sP, n28]) <;> rfl
  refine bdE (P := fun T => ExtF a S T ∧ gn T = gn S + 63) (fun S30 eS30 => ?_)
  have y30 : ExtF a S S30 := y29.trans (b := a) (by rw [← eS30]; exact ExtF.nw _ _ _ _) (Or.inl rfl)
  have n30 : gn S30 = gn S + 62 := by (rw [← eS30, gn_nw, n29]) <;> rfl
  refine bdE (P := fun T => ExtF a S T ∧ gn T = gn S + 63) (fun S31 eS31 => ?_)
  have y31 : ExtF a S S31 := y30.trans (b := (gn S29)) (by rw [← eS31]; exact (z_X0_init _ _ (by rw [n30, n29]; exact Nat.add_lt_add_left (by decide) _))) (Or.inr (by rw [n29]; exact Nat.le_add_right _ _))
  have n31 : gn S31 = gn S + 63 := by (rw [← eS31, z_X0_init_n _ _ (by rw [n30, n29]; exact Nat.add_lt_add_left (by decide) _), n30]) <;> rfl
  refine bdE (P := fun T => ExtF a S T ∧ gn T = gn S + 63) (fun S32 eS32 => ?_)
  have y32 : ExtF a S S32 := y31.trans (b := a) (by rw [← eS32]; exact ExtF.sP _ _ _ _) (Or.inl rfl)
  have n32 : gn S32 = gn S + 63 := by (rw [← eS32, gn_sP, n31]) <;> rfl
  refine bdE (P := fun T => ExtF a S T ∧ gn T = gn S + 63) (fun S33 eS33 => ?_)
  have y33 : ExtF a S S33 := y32.trans (b := a) (by rw [← eS33]; exact ExtF.sP _ _ _ _) (Or.inl rfl)
  have n33 : gn S33 = gn S + 63 := by (rw [← eS33, gn_sP, n32]) <;> rfl
  refine bdE (P := fun T => ExtF a S T ∧ gn T = gn S + 63) (fun S34 eS34 => ?_)
  have y34 : ExtF a S S34 := y33.trans (b := a) (by rw [← eS34]; exact ExtF.sI _ _ _ _) (Or.inl rfl)
  have n34 : gn S34 = gn S + 63 := by (rw [← eS34, gn_sI, n33]) <;> rfl
  exact ⟨y34, n34⟩
theorem z_X11_init (S : HSt) (a : Nat) (ha : a < gn S) : ExtF a S (f_X11_init S a) := (zz_X11_init S a ha).1
theorem z_X11_init_n (S : HSt) (a : Nat) (ha : a < gn S) : gn (f_X11_init S a) = gn S + 63 := (zz_X11_init S a ha).2
set_option maxRecDepth 100000 in
theorem t_X11_init (G : GG) (l : Launch) {S : HSt} (a : Nat) (ka : a < gn S ∧ gK S a = 11 ∧ gL S a = 0) (hb : gn S + 63 ≤ 1000) : AM G l yX11_init cX11_init 2 none (rmD 2 63 3098) 63 3098 [.ref a] S (FP none (f_X11_init S a)) := by
  refine AM.mk (by decide) (Nat.le_of_ble_eq_true rfl) ?_
  intro p e s m below meth c hC hSt hin0
  have oa := ka.1
  have n0 : gn S = gn S + 0 := rfl
  refine aw_aload_n hC 0 dX11_init_0 rfl rfl ?_
  refine aw_objInit hC w_669 w_2 w_3 dX11_init_1 (Nat.le_of_ble_eq_true rfl) (Nat.le_of_ble_eq_true rfl) ?_
  refine aw_aload_n hC 0 dX11_init_4 rfl rfl ?_
  refine aw_new (ci := 5) hC hSt rfl w_670 w_671 w_473 (by rw [n0]; exact Nat.le_trans (Nat.add_le_add_left (show 0+1 ≤ 63 by decide) (gn S)) hb) (Nat.le_of_ble_eq_true rfl) (Nat.le_of_ble_eq_true rfl) dX11_init_5 ?_
  generalize eS1 : nw S 5 0 = S1
  have x1 : ExtF (gn S) S S1 := by rw [← eS1]; exact ExtF.nw _ _ _ _
  have n1 : gn S1 = gn S + 1 := by (rw [← eS1, gn_nw, n0]) <;> rfl
  have ka := x1.k ka
  have k1 : (gn S) < gn S1 ∧ gK S1 (gn S) = 5 ∧ gL S1 (gn S) = 0 := by rw [← eS1]; exact nw_k _ _ _
  refine aw_dup hC dX11_init_8 rfl ?_
  refine aw_cI (b := (gn S)) hC hSt (t_X5_init G l (gn S) k1 (by rw [n1]; exact Nat.le_trans (Nat.add_le_add_left (show 1+11 ≤ 63 by decide) (gn S)) hb)) w_462 w_696 w_473 w_697 rfl rfl rfl (by decide +kernel) ⟨(Nat.le_of_ble_eq_true rfl), (Nat.le_of_ble_eq_true rfl)⟩ (Nat.le_of_ble_eq_true rfl) dX11_init_9 ⟨(Nat.le_of_ble_eq_true rfl), (Nat.le_of_ble_eq_true rfl)⟩ ?_
  generalize eS2 : f_X5_init S1 (gn S) = S2
  have x2 : ExtF (gn S) S1 S2 := by rw [← eS2]; exact (z_X5_init _ _ k1.1)
  have n2 : gn S2 = gn S + 12 := by (rw [← eS2, z_X5_init_n _ _ k1.1, n1]) <;> rfl
  have ka := x2.k ka
  have k1 := x2.k k1
  refine aw_putFP hC hSt (hin0 rfl) 0 ka.1 ka.2.1 rfl (by decide) w_672 rfl rfl rfl (fun _ => rfl) (fun _ => rfl) dX11_init_12 ?_
  generalize eS3 : sP S2 a 0 (some (gn S)) = S3
  have x3 : ExtF a S2 S3 := by rw [← eS3]; exact ExtF.sP _ _ _ _
  have n3 : gn S3 = gn S + 12 := by (rw [← eS3, gn_sP, n2]) <;> rfl
  have ka := x3.k ka
  have k1 := x3.k k1
  refine aw_aload_n hC 0 dX11_init_15 rfl rfl ?_
  refine aw_new (ci := 4) hC hSt rfl w_673 w_674 w_351 (by rw [n3]; exact Nat.le_trans (Nat.add_le_add_left (show 12+1 ≤ 63 by decide) (gn S)) hb) (Nat.le_of_ble_eq_true rfl) (Nat.le_of_ble_eq_true rfl) dX11_init_16 ?_
  generalize eS4 : nw S3 4 0 = S4
  have x4 : ExtF (gn S3) S3 S4 := by rw [← eS4]; exact ExtF.nw _ _ _ _
  have n4 : gn S4 = gn S + 13 := by (rw [← eS4, gn_nw, n3]) <;> rfl
  have ka := x4.k ka
  have k4 : (gn S3) < gn S4 ∧ gK S4 (gn S3) = 4 ∧ gL S4 (gn S3) = 0 := by rw [← eS4]; exact nw_k _ _ _
  refine aw_dup hC dX11_init_19 rfl ?_
  refine aw_cIN (b := (gn S3)) hC hSt (t_X4_init G l (gn S3) k4 (by rw [n4]; exact Nat.le_trans (Nat.add_le_add_left (show 13+4 ≤ 63 by decide) (gn S)) hb)) w_319 (by decide) w_351 w_698 rfl rfl rfl (by decide +kernel) ⟨(Nat.le_of_ble_eq_true rfl), (Nat.le_of_ble_eq_true rfl)⟩ (Nat.le_of_ble_eq_true rfl) dX11_init_20 ⟨(Nat.le_of_ble_eq_true rfl), (Nat.le_of_ble_eq_true rfl)⟩ ?_
  generalize eS5 : f_X4_init S4 (gn S3) = S5
  have x5 : ExtF (gn S3) S4 S5 := by rw [← eS5]; exact (z_X4_init _ _ k4.1)
  have n5 : gn S5 = gn S + 17 := by (rw [← eS5, z_X4_init_n _ _ k4.1, n4]) <;> rfl
  have ka := x5.k ka
  have k4 := x5.k k4
  refine aw_putFP hC hSt (hin0 rfl) 1 ka.1 ka.2.1 rfl (by decide) w_675 rfl rfl rfl (fun _ => rfl) (fun _ => rfl) dX11_init_23 ?_
  generalize eS6 : sP S5 a 1 (some (gn S3)) = S6
  have x6 : ExtF a S5 S6 := by rw [← eS6]; exact ExtF.sP _ _ _ _
  have n6 : gn S6 = gn S + 17 := by (rw [← eS6, gn_sP, n5]) <;> rfl
  have ka := x6.k ka
  have k4 := x6.k k4
  refine aw_aload_n hC 0 dX11_init_26 rfl rfl ?_
  refine aw_new (ci := 7) hC hSt rfl w_676 w_677 w_114 (by rw [n6]; exact Nat.le_trans (Nat.add_le_add_left (show 17+1 ≤ 63 by decide) (gn S)) hb) (Nat.le_of_ble_eq_true rfl) (Nat.le_of_ble_eq_true rfl) dX11_init_27 ?_
  generalize eS7 : nw S6 7 0 = S7
  have x7 : ExtF (gn S6) S6 S7 := by rw [← eS7]; exact ExtF.nw _ _ _ _
  have n7 : gn S7 = gn S + 18 := by (rw [← eS7, gn_nw, n6]) <;> rfl
  have ka := x7.k ka
  have k7 : (gn S6) < gn S7 ∧ gK S7 (gn S6) = 7 ∧ gL S7 (gn S6) = 0 := by rw [← eS7]; exact nw_k _ _ _
  refine aw_dup hC dX11_init_30 rfl ?_
  refine aw_cIN (b := (gn S6)) hC hSt (t_X7_init G l (gn S6) k7 (by rw [n7]; exact Nat.le_trans (Nat.add_le_add_left (show 18+4 ≤ 63 by decide) (gn S)) hb)) w_577 (by decide) w_114 w_699 rfl rfl rfl (by decide +kernel) ⟨(Nat.le_of_ble_eq_true rfl), (Nat.le_of_ble_eq_true rfl)⟩ (Nat.le_of_ble_eq_true rfl) dX11_init_31 ⟨(Nat.le_of_ble_eq_true rfl), (Nat.le_of_ble_eq_true rfl)⟩ ?_
  generalize eS8 : f_X7_init S7 (gn S6) = S8
  have x8 : ExtF (gn S6) S7 S8 := by rw [← eS8]; exact (z_X7_init _ _ k7.1)
  have n8 : gn S8 = gn S + 22 := by (rw [← eS8, z_X7_init_n _ _ k7.1, n7]) <;> rfl
  have ka := x8.k ka
  have k7 := x8.k k7
  refine aw_putFP hC hSt (hin0 rfl) 2 ka.1 ka.2.1 rfl (by decide) w_678 rfl rfl rfl (fun _ => rfl) (fun _ => rfl) dX11_init_34 ?_
  generalize eS9 : sP S8 a 2 (some (gn S6)) = S9
  have x9 : ExtF a S8 S9 := by rw [← eS9]; exact ExtF.sP _ _ _ _
  have n9 : gn S9 = gn S + 22 := by (rw [← eS9, gn_sP, n8]) <;> rfl
  have ka := x9.k ka
  have k7 := x9.k k7
  refine aw_aload_n hC 0 dX11_init_37 rfl rfl ?_
  refine aw_iconst (v := 2) hC dX11_init_38 (by decide) ?_
  refine aw_anewS hC hSt 2 w_676 (by decide) (by decide) (by decide) (by rw [n9]; exact Nat.le_trans (Nat.add_le_add_left (show 22+1 ≤ 63 by decide) (gn S)) hb) (Nat.le_of_ble_eq_true rfl) (Nat.le_of_ble_eq_true rfl) dX11_init_39 ?_
  generalize eS10 : nw S9 18 2 = S10
  have x10 : ExtF (gn S9) S9 S10 := by rw [← eS10]; exact ExtF.nw _ _ _ _
  have n10 : gn S10 = gn S + 23 := by (rw [← eS10, gn_nw, n9]) <;> rfl
  have ka := x10.k ka
  have k10 : (gn S9) < gn S10 ∧ gK S10 (gn S9) = 18 ∧ gL S10 (gn S9) = 2 := by rw [← eS10]; exact nw_k _ _ _
  refine aw_putFP hC hSt (hin0 rfl) 3 ka.1 ka.2.1 rfl (by decide) w_679 rfl rfl rfl (fun _ => rfl) (fun _ => rfl) dX11_init_42 ?_
  generalize eS11 : sP S10 a 3 (some (gn S9)) = S11
  have x11 : ExtF a S10 S11 := by rw [← eS11]; exact ExtF.sP _ _ _ _
  have n11 : gn S11 = gn S + 23 := by (rw [← eS11, gn_sP, n10]) <;> rfl
  have ka := x11.k ka
  have k10 := x11.k k10
  have p3 : gP S11 a 3 = some (gn S9) := by rw [← eS11, gP_sP, if_pos rfl, if_pos rfl]
  refine aw_iconst (v := 0) hC dX11_init_45 (by decide) ?_
  refine aw_istore_n hC [(1, .int (0 : Int32)), (0, .ref a)] dX11_init_46 rfl (by decide) rfl ?_
  refine aw_iload_n hC 0 dX11_init_47 rfl rfl ?_
  refine aw_iconst (v := 2) hC dX11_init_48 (by decide) ?_
  refine aw_icmp_ge hC 71 dX11_init_49 (by decide) (fun h => absurd h (by decide)) (fun _ => ?_)
  refine aw_aload_n hC 1 dX11_init_52 rfl rfl ?_
  refine aw_getP (b := (gn S9)) hC hSt 3 ka.1 ka.2.1 rfl (by decide) w_679 rfl p3 dX11_init_53 ?_
  refine aw_iload_n hC 0 dX11_init_56 rfl rfl ?_
  refine aw_new (ci := 7) hC hSt rfl w_676 w_677 w_114 (by rw [n11]; exact Nat.le_trans (Nat.add_le_add_left (show 23+1 ≤ 63 by decide) (gn S)) hb) (Nat.le_of_ble_eq_true rfl) (Nat.le_of_ble_eq_true rfl) dX11_init_57 ?_
  generalize eS12 : nw S11 7 0 = S12
  have x12 : ExtF (gn S11) S11 S12 := by rw [← eS12]; exact ExtF.nw _ _ _ _
  have p3 : gP S12 a 3 = some (gn S9) := x12.p ka.1 (by rw [n11]; exact Nat.ne_of_lt (Nat.lt_add_right _ oa)) p3
  have n12 : gn S12 = gn S + 24 := by (rw [← eS12, gn_nw, n11]) <;> rfl
  have ka := x12.k ka
  have k10 := x12.k k10
  have k12 : (gn S11) < gn S12 ∧ gK S12 (gn S11) = 7 ∧ gL S12 (gn S11) = 0 := by rw [← eS12]; exact nw_k _ _ _
  refine aw_dup hC dX11_init_60 rfl ?_
  refine aw_cIN (b := (gn S11)) hC hSt (t_X7_init G l (gn S11) k12 (by rw [n12]; exact Nat.le_trans (Nat.add_le_add_left (show 24+4 ≤ 63 by decide) (gn S)) hb)) w_577 (by decide) w_114 w_699 rfl rfl rfl (by decide +kernel) ⟨(Nat.le_of_ble_eq_true rfl), (Nat.le_of_ble_eq_true rfl)⟩ (Nat.le_of_ble_eq_true rfl) dX11_init_61 ⟨(Nat.le_of_ble_eq_true rfl), (Nat.le_of_ble_eq_true rfl)⟩ ?_
  generalize eS13 : f_X7_init S12 (gn S11) = S13
  have x13 : ExtF (gn S11) S12 S13 := by rw [← eS13]; exact (z_X7_init _ _ k12.1)
  have p3 : gP S13 a 3 = some (gn S9) := x13.p ka.1 (by rw [n11]; exact Nat.ne_of_lt (Nat.lt_add_right _ oa)) p3
  have n13 : gn S13 = gn S + 28 := by (rw [← eS13, z_X7_init_n _ _ k12.1, n12]) <;> rfl
  have ka := x13.k ka
  have k10 := x13.k k10
  have k12 := x13.k k12
  refine aw_aastS hC hSt k10.1 k10.2.1 (by rw [k10.2.2]; unfold vp_in; decide) k12.1 k12.2.1 dX11_init_64 ?_
  generalize eS14 : sP S13 (gn S9) (0 : Int32).toNatClampNeg (some (gn S11)) = S14
  have x14 : ExtF (gn S9) S13 S14 := by rw [← eS14]; exact ExtF.sP _ _ _ _
  have p3 : gP S14 a 3 = some (gn S9) := x14.p ka.1 (by rw [n9]; exact Nat.ne_of_lt (Nat.lt_add_right _ oa)) p3
  have n14 : gn S14 = gn S + 28 := by (rw [← eS14, gn_sP, n13]) <;> rfl
  have ka := x14.k ka
  have k10 := x14.k k10
  have k12 := x14.k k12
  refine aw_iinc (v := (1 : Int32)) hC 0 [(1, .int (1 : Int32)), (0, .ref a)] dX11_init_65 rfl (by decide) (by decide) rfl ?_
  refine aw_goto hC 47 dX11_init_68 (by decide) ?_
  refine aw_iload_n hC 0 dX11_init_47 rfl rfl ?_
  refine aw_iconst (v := 2) hC dX11_init_48 (by decide) ?_
  refine aw_icmp_ge hC 71 dX11_init_49 (by decide) (fun h => absurd h (by decide)) (fun _ => ?_)
  refine aw_aload_n hC 1 dX11_init_52 rfl rfl ?_
  refine aw_getP (b := (gn S9)) hC hSt 3 ka.1 ka.2.1 rfl (by decide) w_679 rfl p3 dX11_init_53 ?_
  refine aw_iload_n hC 0 dX11_init_56 rfl rfl ?_
  refine aw_new (ci := 7) hC hSt rfl w_676 w_677 w_114 (by rw [n14]; exact Nat.le_trans (Nat.add_le_add_left (show 28+1 ≤ 63 by decide) (gn S)) hb) (Nat.le_of_ble_eq_true rfl) (Nat.le_of_ble_eq_true rfl) dX11_init_57 ?_
  generalize eS15 : nw S14 7 0 = S15
  have x15 : ExtF (gn S14) S14 S15 := by rw [← eS15]; exact ExtF.nw _ _ _ _
  have p3 : gP S15 a 3 = some (gn S9) := x15.p ka.1 (by rw [n14]; exact Nat.ne_of_lt (Nat.lt_add_right _ oa)) p3
  have n15 : gn S15 = gn S + 29 := by (rw [← eS15, gn_nw, n14]) <;> rfl
  have ka := x15.k ka
  have k10 := x15.k k10
  have k15 : (gn S14) < gn S15 ∧ gK S15 (gn S14) = 7 ∧ gL S15 (gn S14) = 0 := by rw [← eS15]; exact nw_k _ _ _
  refine aw_dup hC dX11_init_60 rfl ?_
  refine aw_cIN (b := (gn S14)) hC hSt (t_X7_init G l (gn S14) k15 (by rw [n15]; exact Nat.le_trans (Nat.add_le_add_left (show 29+4 ≤ 63 by decide) (gn S)) hb)) w_577 (by decide) w_114 w_699 rfl rfl rfl (by decide +kernel) ⟨(Nat.le_of_ble_eq_true rfl), (Nat.le_of_ble_eq_true rfl)⟩ (Nat.le_of_ble_eq_true rfl) dX11_init_61 ⟨(Nat.le_of_ble_eq_true rfl), (Nat.le_of_ble_eq_true rfl)⟩ ?_
  generalize eS16 : f_X7_init S15 (gn S14) = S16
  have x16 : ExtF (gn S14) S15 S16 := by rw [← eS16]; exact (z_X7_init _ _ k15.1)
  have p3 : gP S16 a 3 = some (gn S9) := x16.p ka.1 (by rw [n14]; exact Nat.ne_of_lt (Nat.lt_add_right _ oa)) p3
  have n16 : gn S16 = gn S + 33 := by (rw [← eS16, z_X7_init_n _ _ k15.1, n15]) <;> rfl
  have ka := x16.k ka
  have k10 := x16.k k10
  have k15 := x16.k k15
  refine aw_aastS hC hSt k10.1 k10.2.1 (by rw [k10.2.2]; unfold vp_in; decide) k15.1 k15.2.1 dX11_init_64 ?_
  generalize eS17 : sP S16 (gn S9) (1 : Int32).toNatClampNeg (some (gn S14)) = S17
  have x17 : ExtF (gn S9) S16 S17 := by rw [← eS17]; exact ExtF.sP _ _ _ _
  have p3 : gP S17 a 3 = some (gn S9) := x17.p ka.1 (by rw [n9]; exact Nat.ne_of_lt (Nat.lt_add_right _ oa)) p3
  have n17 : gn S17 = gn S + 33 := by (rw [← eS17, gn_sP, n16]) <;> rfl
  have ka := x17.k ka
  have k10 := x17.k k10
  have k15 := x17.k k15
  refine aw_iinc (v := (2 : Int32)) hC 0 [(1, .int (2 : Int32)), (0, .ref a)] dX11_init_65 rfl (by decide) (by decide) rfl ?_
  refine aw_goto hC 47 dX11_init_68 (by decide) ?_
  refine aw_iload_n hC 0 dX11_init_47 rfl rfl ?_
  refine aw_iconst (v := 2) hC dX11_init_48 (by decide) ?_
  refine aw_icmp_ge hC 71 dX11_init_49 (by decide) (fun _ => ?_) (fun h => absurd (by decide) h)
  refine aw_aload_n hC 1 dX11_init_71 rfl rfl ?_
  refine aw_new (ci := 9) hC hSt rfl w_680 w_139 w_140 (by rw [n17]; exact Nat.le_trans (Nat.add_le_add_left (show 33+1 ≤ 63 by decide) (gn S)) hb) (Nat.le_of_ble_eq_true rfl) (Nat.le_of_ble_eq_true rfl) dX11_init_72 ?_
  generalize eS18 : nw S17 9 0 = S18
  have x18 : ExtF (gn S17) S17 S18 := by rw [← eS18]; exact ExtF.nw _ _ _ _
  have p3 : gP S18 a 3 = some (gn S9) := x18.p ka.1 (by rw [n17]; exact Nat.ne_of_lt (Nat.lt_add_right _ oa)) p3
  have n18 : gn S18 = gn S + 34 := by (rw [← eS18, gn_nw, n17]) <;> rfl
  have ka := x18.k ka
  have k10 := x18.k k10
  have k18 : (gn S17) < gn S18 ∧ gK S18 (gn S17) = 9 ∧ gL S18 (gn S17) = 0 := by rw [← eS18]; exact nw_k _ _ _
  refine aw_dup hC dX11_init_75 rfl ?_
  refine aw_cIN (b := (gn S17)) hC hSt (t_X9_init G l (gn S17) k18 (by rw [n18]; exact Nat.le_trans (Nat.add_le_add_left (show 34+0 ≤ 63 by decide) (gn S)) hb)) w_127 (by decide) w_140 w_143 rfl rfl rfl (by decide +kernel) ⟨(Nat.le_of_ble_eq_true rfl), (Nat.le_of_ble_eq_true rfl)⟩ (Nat.le_of_ble_eq_true rfl) dX11_init_76 ⟨(Nat.le_of_ble_eq_true rfl), (Nat.le_of_ble_eq_true rfl)⟩ ?_
  generalize eS19 : f_X9_init S18 (gn S17) = S19
  have x19 : ExtF (gn S17) S18 S19 := by rw [← eS19]; exact (z_X9_init _ _ k18.1)
  have p3 : gP S19 a 3 = some (gn S9) := x19.p ka.1 (by rw [n17]; exact Nat.ne_of_lt (Nat.lt_add_right _ oa)) p3
  have n19 : gn S19 = gn S + 34 := by (rw [← eS19, z_X9_init_n _ _ k18.1, n18]) <;> rfl
  have ka := x19.k ka
  have k10 := x19.k k10
  have k18 := x19.k k18
  refine aw_putFP hC hSt (hin0 rfl) 4 ka.1 ka.2.1 rfl (by decide) w_681 rfl rfl rfl (fun _ => rfl) (fun _ => rfl) dX11_init_79 ?_
  generalize eS20 : sP S19 a 4 (some (gn S17)) = S20
  have x20 : ExtF a S19 S20 := by rw [← eS20]; exact ExtF.sP _ _ _ _
  have p3 : gP S20 a 3 = some (gn S9) := by rw [← eS20, gP_sP, if_pos rfl, if_neg (by decide)]; exact p3
  have n20 : gn S20 = gn S + 34 := by (rw [← eS20, gn_sP, n19]) <;> rfl
  have ka := x20.k ka
  have k10 := x20.k k10
  have k18 := x20.k k18
  refine aw_aload_n hC 1 dX11_init_82 rfl rfl ?_
  refine aw_new (ci := 6) hC hSt rfl w_682 w_683 w_540 (by rw [n20]; exact Nat.le_trans (Nat.add_le_add_left (show 34+1 ≤ 63 by decide) (gn S)) hb) (Nat.le_of_ble_eq_true rfl) (Nat.le_of_ble_eq_true rfl) dX11_init_83 ?_
  generalize eS21 : nw S20 6 0 = S21
  have x21 : ExtF (gn S20) S20 S21 := by rw [← eS21]; exact ExtF.nw _ _ _ _
  have p3 : gP S21 a 3 = some (gn S9) := x21.p ka.1 (by rw [n20]; exact Nat.ne_of_lt (Nat.lt_add_right _ oa)) p3
  have n21 : gn S21 = gn S + 35 := by (rw [← eS21, gn_nw, n20]) <;> rfl
  have ka := x21.k ka
  have k10 := x21.k k10
  have k21 : (gn S20) < gn S21 ∧ gK S21 (gn S20) = 6 ∧ gL S21 (gn S20) = 0 := by rw [← eS21]; exact nw_k _ _ _
  refine aw_dup hC dX11_init_86 rfl ?_
  refine aw_cIN (b := (gn S20)) hC hSt (t_X6_init G l (gn S20) k21 (by rw [n21]; exact Nat.le_trans (Nat.add_le_add_left (show 35+2 ≤ 63 by decide) (gn S)) hb)) w_490 (by decide) w_540 w_700 rfl rfl rfl (by decide +kernel) ⟨(Nat.le_of_ble_eq_true rfl), (Nat.le_of_ble_eq_true rfl)⟩ (Nat.le_of_ble_eq_true rfl) dX11_init_87 ⟨(Nat.le_of_ble_eq_true rfl), (Nat.le_of_ble_eq_true rfl)⟩ ?_
  generalize eS22 : f_X6_init S21 (gn S20) = S22
  have x22 : ExtF (gn S20) S21 S22 := by rw [← eS22]; exact (z_X6_init _ _ k21.1)
  have p3 : gP S22 a 3 = some (gn S9) := x22.p ka.1 (by rw [n20]; exact Nat.ne_of_lt (Nat.lt_add_right _ oa)) p3
  have n22 : gn S22 = gn S + 37 := by (rw [← eS22, z_X6_init_n _ _ k21.1, n21]) <;> rfl
  have ka := x22.k ka
  have k10 := x22.k k10
  have k21 := x22.k k21
  refine aw_putFP hC hSt (hin0 rfl) 5 ka.1 ka.2.1 rfl (by decide) w_684 rfl rfl rfl (fun _ => rfl) (fun _ => rfl) dX11_init_90 ?_
  generalize eS23 : sP S22 a 5 (some (gn S20)) = S23
  have x23 : ExtF a S22 S23 := by rw [← eS23]; exact ExtF.sP _ _ _ _
  have p3 : gP S23 a 3 = some (gn S9) := by rw [← eS23, gP_sP, if_pos rfl, if_neg (by decide)]; exact p3
  have n23 : gn S23 = gn S + 37 := by (rw [← eS23, gn_sP, n22]) <;> rfl
  have ka := x23.k ka
  have k10 := x23.k k10
  have k21 := x23.k k21
  refine aw_aload_n hC 1 dX11_init_93 rfl rfl ?_
  refine aw_new (ci := 8) hC hSt rfl w_685 w_686 w_625 (by rw [n23]; exact Nat.le_trans (Nat.add_le_add_left (show 37+1 ≤ 63 by decide) (gn S)) hb) (Nat.le_of_ble_eq_true rfl) (Nat.le_of_ble_eq_true rfl) dX11_init_94 ?_
  generalize eS24 : nw S23 8 0 = S24
  have x24 : ExtF (gn S23) S23 S24 := by rw [← eS24]; exact ExtF.nw _ _ _ _
  have p3 : gP S24 a 3 = some (gn S9) := x24.p ka.1 (by rw [n23]; exact Nat.ne_of_lt (Nat.lt_add_right _ oa)) p3
  have n24 : gn S24 = gn S + 38 := by (rw [← eS24, gn_nw, n23]) <;> rfl
  have ka := x24.k ka
  have k10 := x24.k k10
  have k24 : (gn S23) < gn S24 ∧ gK S24 (gn S23) = 8 ∧ gL S24 (gn S23) = 0 := by rw [← eS24]; exact nw_k _ _ _
  refine aw_dup hC dX11_init_97 rfl ?_
  refine aw_cIN (b := (gn S23)) hC hSt (t_X8_init G l (gn S23) k24 (by rw [n24]; exact Nat.le_trans (Nat.add_le_add_left (show 38+4 ≤ 63 by decide) (gn S)) hb)) w_612 (by decide) w_625 w_701 rfl rfl rfl (by decide +kernel) ⟨(Nat.le_of_ble_eq_true rfl), (Nat.le_of_ble_eq_true rfl)⟩ (Nat.le_of_ble_eq_true rfl) dX11_init_98 ⟨(Nat.le_of_ble_eq_true rfl), (Nat.le_of_ble_eq_true rfl)⟩ ?_
  generalize eS25 : f_X8_init S24 (gn S23) = S25
  have x25 : ExtF (gn S23) S24 S25 := by rw [← eS25]; exact (z_X8_init _ _ k24.1)
  have p3 : gP S25 a 3 = some (gn S9) := x25.p ka.1 (by rw [n23]; exact Nat.ne_of_lt (Nat.lt_add_right _ oa)) p3
  have n25 : gn S25 = gn S + 42 := by (rw [← eS25, z_X8_init_n _ _ k24.1, n24]) <;> rfl
  have ka := x25.k ka
  have k10 := x25.k k10
  have k24 := x25.k k24
  refine aw_putFP hC hSt (hin0 rfl) 6 ka.1 ka.2.1 rfl (by decide) w_687 rfl rfl rfl (fun _ => rfl) (fun _ => rfl) dX11_init_101 ?_
  generalize eS26 : sP S25 a 6 (some (gn S23)) = S26
  have x26 : ExtF a S25 S26 := by rw [← eS26]; exact ExtF.sP _ _ _ _
  have p3 : gP S26 a 3 = some (gn S9) := by rw [← eS26, gP_sP, if_pos rfl, if_neg (by decide)]; exact p3
  have n26 : gn S26 = gn S + 42 := by (rw [← eS26, gn_sP, n25]) <;> rfl
  have ka := x26.k ka
  have k10 := x26.k k10
  have k24 := x26.k k24
  refine aw_aload_n hC 1 dX11_init_104 rfl rfl ?_
  refine aw_new (ci := 2) hC hSt rfl w_688 w_689 w_219 (by rw [n26]; exact Nat.le_trans (Nat.add_le_add_left (show 42+1 ≤ 63 by decide) (gn S)) hb) (Nat.le_of_ble_eq_true rfl) (Nat.le_of_ble_eq_true rfl) dX11_init_105 ?_
  generalize eS27 : nw S26 2 0 = S27
  have x27 : ExtF (gn S26) S26 S27 := by rw [← eS27]; exact ExtF.nw _ _ _ _
  have p3 : gP S27 a 3 = some (gn S9) := x27.p ka.1 (by rw [n26]; exact Nat.ne_of_lt (Nat.lt_add_right _ oa)) p3
  have n27 : gn S27 = gn S + 43 := by (rw [← eS27, gn_nw, n26]) <;> rfl
  have ka := x27.k ka
  have k10 := x27.k k10
  have k27 : (gn S26) < gn S27 ∧ gK S27 (gn S26) = 2 ∧ gL S27 (gn S26) = 0 := by rw [← eS27]; exact nw_k _ _ _
  refine aw_dup hC dX11_init_108 rfl ?_
  refine aw_cI (b := (gn S26)) hC hSt (t_X2_init G l (gn S26) k27 (by rw [n27]; exact Nat.le_trans (Nat.add_le_add_left (show 43+18 ≤ 63 by decide) (gn S)) hb)) w_129 w_702 w_219 w_703 rfl rfl rfl (by decide +kernel) ⟨(Nat.le_of_ble_eq_true rfl), (Nat.le_of_ble_eq_true rfl)⟩ (Nat.le_of_ble_eq_true rfl) dX11_init_109 ⟨(Nat.le_of_ble_eq_true rfl), (Nat.le_of_ble_eq_true rfl)⟩ ?_
  generalize eS28 : f_X2_init S27 (gn S26) = S28
  have x28 : ExtF (gn S26) S27 S28 := by rw [← eS28]; exact (z_X2_init _ _ k27.1)
  have p3 : gP S28 a 3 = some (gn S9) := x28.p ka.1 (by rw [n26]; exact Nat.ne_of_lt (Nat.lt_add_right _ oa)) p3
  have n28 : gn S28 = gn S + 61 := by (rw [← eS28, z_X2_init_n _ _ k27.1, n27]) <;> rfl
  have ka := x28.k ka
  have k10 := x28.k k10
  have k27 := x28.k k27
  refine aw_putFP hC hSt (hin0 rfl) 7 ka.1 ka.2.1 rfl (by decide) w_690 rfl rfl rfl (fun _ => rfl) (fun _ => rfl) dX11_init_112 ?_
  generalize eS29 : sP S28 a 7 (some (gn S26)) = S29
  have x29 : ExtF a S28 S29 := by rw [← eS29]; exact ExtF.sP _ _ _ _
  have p3 : gP S29 a 3 = some (gn S9) := by rw [← eS29, gP_sP, if_pos rfl, if_neg (by decide)]; exact p3
  have n29 : gn S29 = gn S + 61 := by (rw [← eS29, gn_sP, n28]) <;> rfl
  have ka := x29.k ka
  have k10 := x29.k k10
  have k27 := x29.k k27
  refine aw_aload_n hC 1 dX11_init_115 rfl rfl ?_
  refine aw_new (ci := 0) hC hSt rfl w_691 w_692 w_23 (by rw [n29]; exact Nat.le_trans (Nat.add_le_add_left (show 61+1 ≤ 63 by decide) (gn S)) hb) (Nat.le_of_ble_eq_true rfl) (Nat.le_of_ble_eq_true rfl) dX11_init_116 ?_
  generalize eS30 : nw S29 0 0 = S30
  have x30 : ExtF (gn S29) S29 S30 := by rw [← eS30]; exact ExtF.nw _ _ _ _
  have p3 : gP S30 a 3 = some (gn S9) := x30.p ka.1 (by rw [n29]; exact Nat.ne_of_lt (Nat.lt_add_right _ oa)) p3
  have n30 : gn S30 = gn S + 62 := by (rw [← eS30, gn_nw, n29]) <;> rfl
  have ka := x30.k ka
  have k10 := x30.k k10
  have k30 : (gn S29) < gn S30 ∧ gK S30 (gn S29) = 0 ∧ gL S30 (gn S29) = 0 := by rw [← eS30]; exact nw_k _ _ _
  refine aw_dup hC dX11_init_119 rfl ?_
  refine aw_cIN (b := (gn S29)) hC hSt (t_X0_init G l (gn S29) k30 (by rw [n30]; exact Nat.le_trans (Nat.add_le_add_left (show 62+1 ≤ 63 by decide) (gn S)) hb)) w_0 (by decide) w_23 w_704 rfl rfl rfl (by decide +kernel) ⟨(Nat.le_of_ble_eq_true rfl), (Nat.le_of_ble_eq_true rfl)⟩ (Nat.le_of_ble_eq_true rfl) dX11_init_120 ⟨(Nat.le_of_ble_eq_true rfl), (Nat.le_of_ble_eq_true rfl)⟩ ?_
  generalize eS31 : f_X0_init S30 (gn S29) = S31
  have x31 : ExtF (gn S29) S30 S31 := by rw [← eS31]; exact (z_X0_init _ _ k30.1)
  have p3 : gP S31 a 3 = some (gn S9) := x31.p ka.1 (by rw [n29]; exact Nat.ne_of_lt (Nat.lt_add_right _ oa)) p3
  have n31 : gn S31 = gn S + 63 := by (rw [← eS31, z_X0_init_n _ _ k30.1, n30]) <;> rfl
  have ka := x31.k ka
  have k10 := x31.k k10
  have k30 := x31.k k30
  refine aw_putFP hC hSt (hin0 rfl) 8 ka.1 ka.2.1 rfl (by decide) w_693 rfl rfl rfl (fun _ => rfl) (fun _ => rfl) dX11_init_123 ?_
  generalize eS32 : sP S31 a 8 (some (gn S29)) = S32
  have x32 : ExtF a S31 S32 := by rw [← eS32]; exact ExtF.sP _ _ _ _
  have p3 : gP S32 a 3 = some (gn S9) := by rw [← eS32, gP_sP, if_pos rfl, if_neg (by decide)]; exact p3
  have n32 : gn S32 = gn S + 63 := by (rw [← eS32, gn_sP, n31]) <;> rfl
  have ka := x32.k ka
  have k10 := x32.k k10
  have k30 := x32.k k30
  refine aw_aload_n hC 1 dX11_init_126 rfl rfl ?_
  refine aw_null hC dX11_init_127 ?_
  refine aw_putN hC hSt 9 ka.1 ka.2.1 rfl (by decide) w_694 rfl rfl rfl rfl dX11_init_128 ?_
  generalize eS33 : sP S32 a 9 none = S33
  have x33 : ExtF a S32 S33 := by rw [← eS33]; exact ExtF.sP _ _ _ _
  have p3 : gP S33 a 3 = some (gn S9) := by rw [← eS33, gP_sP, if_pos rfl, if_neg (by decide)]; exact p3
  have n33 : gn S33 = gn S + 63 := by (rw [← eS33, gn_sP, n32]) <;> rfl
  have ka := x33.k ka
  have k10 := x33.k k10
  refine aw_aload_n hC 1 dX11_init_131 rfl rfl ?_
  refine aw_iconst (v := 0) hC dX11_init_132 (by decide) ?_
  refine aw_putI hC hSt 10 ka.1 ka.2.1 rfl (by decide) w_695 rfl rfl rfl rfl dX11_init_133 ?_
  generalize eS34 : sI S33 a 10 (0 : Int32) = S34
  have x34 : ExtF a S33 S34 := by rw [← eS34]; exact ExtF.sI _ _ _ _
  have n34 : gn S34 = gn S + 63 := by (rw [← eS34, gn_sI, n33]) <;> rfl
  have ka := x34.k ka
  have k10 := x34.k k10
  exact aw_vret hC dX11_init_136 (Nat.le_of_ble_eq_true rfl) (Nat.le_of_ble_eq_true rfl) (FP.qV ((bd_eq eS1).trans ((bd_eq eS2).trans ((bd_eq eS3).trans ((bd_eq eS4).trans ((bd_eq eS5).trans ((bd_eq eS6).trans ((bd_eq eS7).trans ((bd_eq eS8).trans ((bd_eq eS9).trans ((bd_eq eS10).trans ((bd_eq eS11).trans ((bd_eq eS12).trans ((bd_eq eS13).trans ((bd_eq eS14).trans ((bd_eq eS15).trans ((bd_eq eS16).trans ((bd_eq eS17).trans ((bd_eq eS18).trans ((bd_eq eS19).trans ((bd_eq eS20).trans ((bd_eq eS21).trans ((bd_eq eS22).trans ((bd_eq eS23).trans ((bd_eq eS24).trans ((bd_eq eS25).trans ((bd_eq eS26).trans ((bd_eq eS27).trans ((bd_eq eS28).trans ((bd_eq eS29).trans ((bd_eq eS30).trans ((bd_eq eS31).trans ((bd_eq eS32).trans ((bd_eq eS33).trans ((bd_eq eS34).trans (rfl))))))))))))))))))))))))))))))))))))