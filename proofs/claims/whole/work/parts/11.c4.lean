noncomputable def L_X4_isHere_20 (wd1 : Nat) : Nat → HSt → Int32 → Int32 × Int32 × Int32
  | 0, S, v2 => ((1 : Int32), 0, v2)
  | n + 1, S, v2 =>
    if (f_J0_length_8abf5 S wd1) ≤ v2 then ((pr ((0 : Int32)) (pr (0) (v2)))) else (if (gI S 14 ((gI S 13 4) + v2).toNatClampNeg) = (f_J0_charAt_5068e S wd1 v2) then (L_X4_isHere_20 wd1 n S (v2 + (1 : Int32))) else ((pr ((1 : Int32)) (pr ((0 : Int32)) (v2)))))
def T_X4_isHere_20 (wd1 : Nat) : Nat → HSt → Int32 → Prop
  | 0, _, _ => False
  | n + 1, S, v2 => ((¬ (f_J0_length_8abf5 S wd1) ≤ v2) → vp_in ((gI S 13 4) + v2) 600) ∧ ((¬ (f_J0_length_8abf5 S wd1) ≤ v2) → p_J0_charAt_5068e S wd1 v2) ∧ ((¬ (f_J0_length_8abf5 S wd1) ≤ v2) → ((gI S 14 ((gI S 13 4) + v2).toNatClampNeg) = (f_J0_charAt_5068e S wd1 v2)) → T_X4_isHere_20 wd1 n S (v2 + (1 : Int32)))
set_option maxRecDepth 100000 in
theorem l_X4_isHere_20 {p : Program} {l : Launch} {e : Env} {s : State} {m : MethodId} {args : Array Value} {below : List Frame} {meth : Method} {c : Code} {G : GG} {Post : Option Value → HSt → Prop} (hC : ACx p s m args meth c cX4_isHere RX4 3 (some .boolean)) (hSt : St G s) {wd1 : Nat} (hwd1 : sK wd1) : ∀ (n : Nat) (S : HSt) (v2 : Int32), CS S → T_X4_isHere_20 wd1 n S v2 → ((L_X4_isHere_20 wd1 n S v2).1 = 1 → Post (some (.int (L_X4_isHere_20 wd1 n S v2).2.1)) S) → ((L_X4_isHere_20 wd1 n S v2).1 ≠ 1 → AW p l e (rmD 4 0 0) s m args below meth c G 3 (AQ G below args s 0 0 Post) S 0 0 55 [(0, .ref 13), (1, .ref wd1), (2, .int (L_X4_isHere_20 wd1 n S v2).2.2)] []) → AW p l e (rmD 4 0 0) s m args below meth c G 3 (AQ G below args s 0 0 Post) S 0 0 20 [(0, .ref 13), (1, .ref wd1), (2, .int v2)] [] := by
  intro n
  induction n with
  | zero => intro S v2 _ hT; exact hT.elim
  | succ n ih =>
    intro S v2 hM hT hr hk
    unfold T_X4_isHere_20 at hT
    obtain ⟨h0, h1, h2⟩ := hT
    refine aw_iload_n hC 2 dX4_isHere_20 rfl rfl ?_
    refine aw_aload_n hC 1 dX4_isHere_21 rfl rfl ?_
    refine aw_cU0r hC hSt hwd1 rfl (t_J0_length_8abf5 G l  _ hwd1) w_363 w_403 w_404 w_405 w_368 rfl rfl (by decide +kernel) ⟨Nat.le_of_ble_eq_true rfl, Nat.le_of_ble_eq_true rfl⟩ (Nat.le_of_ble_eq_true rfl) dX4_isHere_22 ⟨Nat.zero_le _, Nat.zero_le _⟩ ?_
    refine aw_icmp_ge hC 55 dX4_isHere_25 (by decide) (fun c1002 => ?_) (fun c1002 => ?_)
    · refine aw_sub [0, 1, 2] rfl ?_
      have E : L_X4_isHere_20 wd1 (n + 1) S v2 = _ := (if_pos c1002).trans (rfl)
      rw [E] at hk hr
      exact hk (by show ¬ (0 : Int32) = 1; decide)
    · refine aw_aload_n hC 0 dX4_isHere_28 rfl rfl ?_
      refine aw_getP (b := 14) hC hSt 0 (cs_lt 13 4 0 (by decide) hM) (cs_k 13 4 0 (by decide) hM) rfl (by decide) w_322 rfl (cs_p 13 0 14 (by decide) hM) dX4_isHere_29 ?_
      refine aw_aload_n hC 0 dX4_isHere_32 rfl rfl ?_
      refine aw_getI hC hSt 4 (cs_lt 13 4 0 (by decide) hM) (cs_k 13 4 0 (by decide) hM) rfl (by decide) w_346 rfl dX4_isHere_33 ?_
      refine aw_iload_n hC 2 dX4_isHere_36 rfl rfl ?_
      refine aw_iadd hC dX4_isHere_37 ?_
      refine aw_bald hC hSt (cs_lt 14 13 600 (by decide) hM) (cs_k 14 13 600 (by decide) hM) (vp_len (n := 600) (cs_l 14 13 600 (by decide) hM) (h0 c1002)) dX4_isHere_38 ?_
      refine aw_aload_n hC 1 dX4_isHere_39 rfl rfl ?_
      refine aw_iload_n hC 2 dX4_isHere_40 rfl rfl ?_
      refine aw_cU1r hC hSt hwd1 rfl (t_J0_charAt_5068e G l  _ _ hwd1 (h1 c1002)) w_402 w_406 w_407 w_408 w_368 rfl rfl (by decide +kernel) ⟨Nat.le_of_ble_eq_true rfl, Nat.le_of_ble_eq_true rfl⟩ (Nat.le_of_ble_eq_true rfl) dX4_isHere_41 ⟨Nat.zero_le _, Nat.zero_le _⟩ ?_
      refine aw_icmp_eq hC 49 dX4_isHere_44 (by decide) (fun c1003 => ?_) (fun c1003 => ?_)
      · refine aw_iinc (v := (v2 + (1 : Int32))) hC 2 [(2, .int _), (0, .ref 13), (1, .ref wd1)] dX4_isHere_49 rfl rfl (by decide) rfl ?_
        refine aw_goto hC 20 dX4_isHere_52 (by decide) ?_
        refine aw_sub [1, 2, 0] rfl ?_
        have hTn := (h2 c1002 c1003)
        have hMn : CS S := hM
        have E : L_X4_isHere_20 wd1 (n + 1) S v2 = _ := (if_neg c1002).trans ((if_pos c1003).trans (rfl))
        rw [E] at hk hr
        exact ih _ _ hMn hTn hr hk
      · refine aw_iconst (v := 0) hC dX4_isHere_47 (by decide) ?_
        refine aw_zret hC dX4_isHere_48 (Nat.le_refl _) (Nat.le_refl _) (by decide) ?_
        have E : L_X4_isHere_20 wd1 (n + 1) S v2 = _ := (if_neg c1002).trans ((if_neg c1003).trans (rfl))
        rw [E] at hr
        exact hr rfl
noncomputable def F_X4_isHere (S : HSt) (_o0 : Nat) (wd1 : Nat) : Int32 × HSt := if ((gI S 13 5) - (gI S 13 4)) = (f_J0_length_8abf5 S wd1) then (bd (L_X4_isHere_20 wd1 1000 S (0 : Int32)) fun r2 => if r2.1 = 1 then (pr (r2.2.1) (S)) else (pr ((1 : Int32)) (S))) else (pr ((0 : Int32)) (S))
noncomputable def f_X4_isHere (S : HSt) (_o0 : Nat) (wd1 : Nat) : Int32 := (F_X4_isHere S _o0 wd1).1
def p_X4_isHere (S : HSt) (_o0 : Nat) (wd1 : Nat) : Prop := ((((gI S 13 5) - (gI S 13 4)) = (f_J0_length_8abf5 S wd1)) → T_X4_isHere_20 wd1 1000 S (0 : Int32))
set_option maxRecDepth 100000 in
theorem t_X4_isHere (G : GG) (l : Launch) {S : HSt} (hM : CS S) (wd1 : Nat) (hwd1 : sK wd1) (hp : p_X4_isHere S 13 wd1) : AM G l yX4_isHere cX4_isHere 3 (some .boolean) (rmD 4 0 0) 0 0 [.ref 13, .ref wd1] S (FP (some (.int (f_X4_isHere S 13 wd1))) (S)) := by
  have h0 := hp
  unfold p_X4_isHere at h0
  refine AM.mk (by decide) (Nat.le_of_ble_eq_true rfl) ?_
  intro p e s m below meth c hC hSt _
  refine aw_aload_n hC 0 dX4_isHere_0 rfl rfl ?_
  refine aw_getI hC hSt 5 (cs_lt 13 4 0 (by decide) hM) (cs_k 13 4 0 (by decide) hM) rfl (by decide) w_345 rfl dX4_isHere_1 ?_
  refine aw_aload_n hC 0 dX4_isHere_4 rfl rfl ?_
  refine aw_getI hC hSt 4 (cs_lt 13 4 0 (by decide) hM) (cs_k 13 4 0 (by decide) hM) rfl (by decide) w_346 rfl dX4_isHere_5 ?_
  refine aw_isub hC dX4_isHere_8 ?_
  refine aw_aload_n hC 1 dX4_isHere_9 rfl rfl ?_
  refine aw_cU0r hC hSt hwd1 rfl (t_J0_length_8abf5 G l  _ hwd1) w_363 w_403 w_404 w_405 w_368 rfl rfl (by decide +kernel) ⟨Nat.le_of_ble_eq_true rfl, Nat.le_of_ble_eq_true rfl⟩ (Nat.le_of_ble_eq_true rfl) dX4_isHere_10 ⟨Nat.zero_le _, Nat.zero_le _⟩ ?_
  refine aw_icmp_eq hC 18 dX4_isHere_13 (by decide) (fun c1 => ?_) (fun c1 => ?_)
  · refine aw_iconst (v := 0) hC dX4_isHere_18 (by decide) ?_
    refine aw_istore_n hC [(2, .int _), (0, .ref 13), (1, .ref wd1)] dX4_isHere_19 rfl (by decide) rfl ?_
    refine aw_sub [1, 2, 0] rfl ?_
    refine l_X4_isHere_20 hC hSt hwd1 1000 _ _ hM (h0 c1) (fun c3 => ?_) (fun c3 => ?_)
    · revert c3
      generalize er2 : L_X4_isHere_20 wd1 1000 S (0 : Int32) = r2
      intro c3
      exact FP.pI ((if_pos c1).trans ((bd_eq er2).trans ((if_pos c3).trans (rfl))))
    · revert c3
      generalize er2 : L_X4_isHere_20 wd1 1000 S (0 : Int32) = r2
      intro c3
      refine aw_iconst (v := 1) hC dX4_isHere_55 (by decide) ?_
      refine aw_zret hC dX4_isHere_56 (Nat.le_refl _) (Nat.le_refl _) (by decide) ?_
      exact FP.pI ((if_pos c1).trans ((bd_eq er2).trans ((if_neg c3).trans (rfl))))
  · refine aw_iconst (v := 0) hC dX4_isHere_16 (by decide) ?_
    refine aw_zret hC dX4_isHere_17 (Nat.le_refl _) (Nat.le_refl _) (by decide) ?_
    exact FP.pI ((if_neg c1).trans (rfl))
noncomputable def L_X4_wordHere_2 : Nat → HSt → Int32 → Int32 × Int32 × Int32
  | 0, S, v1 => ((1 : Int32), 0, v1)
  | n + 1, S, v1 =>
    if (10 : Int32) ≤ v1 then ((pr ((0 : Int32)) (pr (0) (v1)))) else (if (f_X4_isHere S 13 (f_X4_wordOf S v1)) = 0 then (L_X4_wordHere_2 n S (v1 + (1 : Int32))) else ((pr ((1 : Int32)) (pr (v1) (v1)))))
def T_X4_wordHere_2 : Nat → HSt → Int32 → Prop
  | 0, _, _ => False
  | n + 1, S, v1 => ((¬ (10 : Int32) ≤ v1) → p_X4_isHere S 13 (f_X4_wordOf S v1)) ∧ ((¬ (10 : Int32) ≤ v1) → ((f_X4_isHere S 13 (f_X4_wordOf S v1)) = 0) → T_X4_wordHere_2 n S (v1 + (1 : Int32)))
set_option maxRecDepth 100000 in
theorem l_X4_wordHere_2 {p : Program} {l : Launch} {e : Env} {s : State} {m : MethodId} {args : Array Value} {below : List Frame} {meth : Method} {c : Code} {G : GG} {Post : Option Value → HSt → Prop} (hC : ACx p s m args meth c cX4_wordHere RX4 2 (some .int)) (hSt : St G s)   : ∀ (n : Nat) (S : HSt) (v1 : Int32), CS S → T_X4_wordHere_2 n S v1 → ((L_X4_wordHere_2 n S v1).1 = 1 → Post (some (.int (L_X4_wordHere_2 n S v1).2.1)) S) → ((L_X4_wordHere_2 n S v1).1 ≠ 1 → AW p l e (rmD 5 0 0) s m args below meth c G 2 (AQ G below args s 0 0 Post) S 0 0 27 [(0, .ref 13), (1, .int (L_X4_wordHere_2 n S v1).2.2)] []) → AW p l e (rmD 5 0 0) s m args below meth c G 2 (AQ G below args s 0 0 Post) S 0 0 2 [(0, .ref 13), (1, .int v1)] [] := by
  intro n
  induction n with
  | zero => intro S v1 _ hT; exact hT.elim
  | succ n ih =>
    intro S v1 hM hT hr hk
    unfold T_X4_wordHere_2 at hT
    obtain ⟨h0, h1⟩ := hT
    refine aw_iload_n hC 1 dX4_wordHere_2 rfl rfl ?_
    refine aw_bipush (v := 10) hC dX4_wordHere_3 (by decide) ?_
    refine aw_icmp_ge hC 27 dX4_wordHere_5 (by decide) (fun c1001 => ?_) (fun c1001 => ?_)
    · refine aw_sub [0, 1] rfl ?_
      have E : L_X4_wordHere_2 (n + 1) S v1 = _ := (if_pos c1001).trans (rfl)
      rw [E] at hk hr
      exact hk (by show ¬ (0 : Int32) = 1; decide)
    · refine aw_aload_n hC 0 dX4_wordHere_8 rfl rfl ?_
      refine aw_iload_n hC 1 dX4_wordHere_9 rfl rfl ?_
      refine aw_cS1r hC hSt (t_X4_wordOf G l  _) w_359 w_410 w_411 w_351 rfl rfl (by decide +kernel) ⟨Nat.le_of_ble_eq_true rfl, Nat.le_of_ble_eq_true rfl⟩ (Nat.le_of_ble_eq_true rfl) dX4_wordHere_10 ⟨Nat.zero_le _, Nat.zero_le _⟩ ?_
      refine aw_cV1r hC hSt (t_X4_isHere G l hM _ (wo_s _ _) (h0 c1001)) w_409 w_412 w_413 w_414 w_351 rfl rfl (by decide +kernel) ⟨Nat.le_of_ble_eq_true rfl, Nat.le_of_ble_eq_true rfl⟩ (cs_lt 13 4 0 (by decide) hM) (cs_k 13 4 0 (by decide) hM) rfl (Nat.le_of_ble_eq_true rfl) dX4_wordHere_13 ⟨Nat.zero_le _, Nat.zero_le _⟩ ?_
      refine aw_if_eq hC 21 dX4_wordHere_16 (by decide) (fun c1002 => ?_) (fun c1002 => ?_)
      · refine aw_iinc (v := (v1 + (1 : Int32))) hC 1 [(1, .int _), (0, .ref 13)] dX4_wordHere_21 rfl rfl (by decide) rfl ?_
        refine aw_goto hC 2 dX4_wordHere_24 (by decide) ?_
        refine aw_sub [1, 0] rfl ?_
        have hTn := (h1 c1001 c1002)
        have hMn : CS S := hM
        have E : L_X4_wordHere_2 (n + 1) S v1 = _ := (if_neg c1001).trans ((if_pos c1002).trans (rfl))
        rw [E] at hk hr
        exact ih _ _ hMn hTn hr hk
      · refine aw_iload_n hC 1 dX4_wordHere_19 rfl rfl ?_
        refine aw_iret hC dX4_wordHere_20 (Nat.le_refl _) (Nat.le_refl _) ?_
        have E : L_X4_wordHere_2 (n + 1) S v1 = _ := (if_neg c1001).trans ((if_neg c1002).trans (rfl))
        rw [E] at hr
        exact hr rfl
noncomputable def F_X4_wordHere (S : HSt) (_o0 : Nat) : Int32 × HSt := bd (L_X4_wordHere_2 1000 S (0 : Int32)) fun r1 => if r1.1 = 1 then (pr (r1.2.1) (S)) else (pr ((10 : Int32)) (S))
noncomputable def f_X4_wordHere (S : HSt) (_o0 : Nat) : Int32 := (F_X4_wordHere S _o0).1
def p_X4_wordHere (S : HSt) (_o0 : Nat) : Prop := (T_X4_wordHere_2 1000 S (0 : Int32))
set_option maxRecDepth 100000 in
theorem t_X4_wordHere (G : GG) (l : Launch) {S : HSt} (hM : CS S)   (hp : p_X4_wordHere S 13) : AM G l yX4_wordHere cX4_wordHere 2 (some .int) (rmD 5 0 0) 0 0 [.ref 13] S (FP (some (.int (f_X4_wordHere S 13))) (S)) := by
  have h0 := hp
  unfold p_X4_wordHere at h0
  refine AM.mk (by decide) (Nat.le_of_ble_eq_true rfl) ?_
  intro p e s m below meth c hC hSt _
  refine aw_iconst (v := 0) hC dX4_wordHere_0 (by decide) ?_
  refine aw_istore_n hC [(1, .int _), (0, .ref 13)] dX4_wordHere_1 rfl (by decide) rfl ?_
  refine aw_sub [1, 0] rfl ?_
  refine l_X4_wordHere_2 hC hSt 1000 _ _ hM (h0) (fun c2 => ?_) (fun c2 => ?_)
  · revert c2
    generalize er1 : L_X4_wordHere_2 1000 S (0 : Int32) = r1
    intro c2
    exact FP.pI ((bd_eq er1).trans ((if_pos c2).trans (rfl)))
  · revert c2
    generalize er1 : L_X4_wordHere_2 1000 S (0 : Int32) = r1
    intro c2
    refine aw_bipush (v := 10) hC dX4_wordHere_27 (by decide) ?_
    refine aw_iret hC dX4_wordHere_29 (Nat.le_refl _) (Nat.le_refl _) ?_
    exact FP.pI ((bd_eq er1).trans ((if_neg c2).trans (rfl)))
noncomputable def L_X4_readText_4 : Nat → HSt → Int32 → Int32 → Int32 × Int32 × Int32 × Int32 × HSt
  | 0, S, v1, v2 => ((1 : Int32), 0, v1, v2, S)
  | n + 1, S, v1, v2 =>
    if (600 : Int32) < v2 then ((pr ((0 : Int32)) (pr (0) (pr (v1) (pr (v2) (S)))))) else (bd ((if (f_X10_howMany S 15 (0 : Int32)) ≤ 0 then (0 : Int32) else (1 : Int32))) fun x1003 => if (gI S 13 3) = 0 then (if x1003 = 0 then (bd ((if (gI S 13 3) = (1 : Int32) then (f_X4_wordHere S 13) else (10 : Int32))) fun x1032 => bd ((if (5 : Int32) < x1032 then (5 : Int32) else x1032)) fun x1033 => bd ((if x1033 = (4 : Int32) then (if (f_X10_isFull S 15 (4 : Int32)) = 0 then (0 : Int32) else (1 : Int32)) else (0 : Int32))) fun x1036 => if (10 : Int32) ≤ x1032 then (bd (f_X4_fail S 13 (1 : Int32)) fun r1038 => (pr ((1 : Int32)) (pr (r1038.1) (pr (v1) (pr (v2) (r1038.2)))))) else (if x1033 < v1 then (bd (f_X4_fail S 13 (1 : Int32)) fun r1040 => (pr ((1 : Int32)) (pr (r1040.1) (pr (v1) (pr (v2) (r1040.2)))))) else (if x1033 ≤ 0 then (if x1036 = 0 then (if (f_X10_isFull S 15 x1033) = 0 then (bd (f_X4_readThing S 13 x1032 x1033) fun r1044 => if r1044.1 = 0 then ((pr ((1 : Int32)) (pr ((0 : Int32)) (pr (x1033) (pr (v2) (r1044.2)))))) else (L_X4_readText_4 n r1044.2 x1033 (v2 + (1 : Int32)))) else (bd (f_X4_fail S 13 (3 : Int32)) fun r1046 => (pr ((1 : Int32)) (pr (r1046.1) (pr (v1) (pr (v2) (r1046.2))))))) else (bd (f_X4_fail S 13 (1 : Int32)) fun r1047 => (pr ((1 : Int32)) (pr (r1047.1) (pr (v1) (pr (v2) (r1047.2))))))) else (if x1003 = 0 then (bd (f_X4_fail S 13 (1 : Int32)) fun r1049 => (pr ((1 : Int32)) (pr (r1049.1) (pr (v1) (pr (v2) (r1049.2)))))) else (if x1036 = 0 then (if (f_X10_isFull S 15 x1033) = 0 then (bd (f_X4_readThing S 13 x1032 x1033) fun r1052 => if r1052.1 = 0 then ((pr ((1 : Int32)) (pr ((0 : Int32)) (pr (x1033) (pr (v2) (r1052.2)))))) else (L_X4_readText_4 n r1052.2 x1033 (v2 + (1 : Int32)))) else (bd (f_X4_fail S 13 (3 : Int32)) fun r1054 => (pr ((1 : Int32)) (pr (r1054.1) (pr (v1) (pr (v2) (r1054.2))))))) else (bd (f_X4_fail S 13 (1 : Int32)) fun r1055 => (pr ((1 : Int32)) (pr (r1055.1) (pr (v1) (pr (v2) (r1055.2))))))))))) else ((pr ((1 : Int32)) (pr ((1 : Int32)) (pr (v1) (pr (v2) (S))))))) else (bd ((if (gI S 13 3) = (1 : Int32) then (f_X4_wordHere S 13) else (10 : Int32))) fun x1006 => bd ((if (5 : Int32) < x1006 then (5 : Int32) else x1006)) fun x1007 => bd ((if x1007 = (4 : Int32) then (if (f_X10_isFull S 15 (4 : Int32)) = 0 then (0 : Int32) else (1 : Int32)) else (0 : Int32))) fun x1010 => if (10 : Int32) ≤ x1006 then (bd (f_X4_fail S 13 (1 : Int32)) fun r1012 => (pr ((1 : Int32)) (pr (r1012.1) (pr (v1) (pr (v2) (r1012.2)))))) else (if x1007 < v1 then (bd (f_X4_fail S 13 (1 : Int32)) fun r1014 => (pr ((1 : Int32)) (pr (r1014.1) (pr (v1) (pr (v2) (r1014.2)))))) else (if x1007 ≤ 0 then (if x1010 = 0 then (if (f_X10_isFull S 15 x1007) = 0 then (bd (f_X4_readThing S 13 x1006 x1007) fun r1018 => if r1018.1 = 0 then ((pr ((1 : Int32)) (pr ((0 : Int32)) (pr (x1007) (pr (v2) (r1018.2)))))) else (L_X4_readText_4 n r1018.2 x1007 (v2 + (1 : Int32)))) else (bd (f_X4_fail S 13 (3 : Int32)) fun r1020 => (pr ((1 : Int32)) (pr (r1020.1) (pr (v1) (pr (v2) (r1020.2))))))) else (bd (f_X4_fail S 13 (1 : Int32)) fun r1021 => (pr ((1 : Int32)) (pr (r1021.1) (pr (v1) (pr (v2) (r1021.2))))))) else (if x1003 = 0 then (bd (f_X4_fail S 13 (1 : Int32)) fun r1023 => (pr ((1 : Int32)) (pr (r1023.1) (pr (v1) (pr (v2) (r1023.2)))))) else (if x1010 = 0 then (if (f_X10_isFull S 15 x1007) = 0 then (bd (f_X4_readThing S 13 x1006 x1007) fun r1026 => if r1026.1 = 0 then ((pr ((1 : Int32)) (pr ((0 : Int32)) (pr (x1007) (pr (v2) (r1026.2)))))) else (L_X4_readText_4 n r1026.2 x1007 (v2 + (1 : Int32)))) else (bd (f_X4_fail S 13 (3 : Int32)) fun r1028 => (pr ((1 : Int32)) (pr (r1028.1) (pr (v1) (pr (v2) (r1028.2))))))) else (bd (f_X4_fail S 13 (1 : Int32)) fun r1029 => (pr ((1 : Int32)) (pr (r1029.1) (pr (v1) (pr (v2) (r1029.2))))))))))))
def T_X4_readText_4 : Nat → HSt → Int32 → Int32 → Prop
  | 0, _, _, _ => False
  | n + 1, S, v1, v2 => ((¬ (600 : Int32) < v2) → p_X10_howMany S 15 (0 : Int32)) ∧ ((¬ (600 : Int32) < v2) → ∀ x1003 : Int32, (if (f_X10_howMany S 15 (0 : Int32)) ≤ 0 then (0 : Int32) else (1 : Int32)) = x1003 → (¬ (gI S 13 3) = 0) → ((gI S 13 3) = (1 : Int32)) → p_X4_wordHere S 13) ∧ ((¬ (600 : Int32) < v2) → ∀ x1003 : Int32, (if (f_X10_howMany S 15 (0 : Int32)) ≤ 0 then (0 : Int32) else (1 : Int32)) = x1003 → (¬ (gI S 13 3) = 0) → ∀ x1006 : Int32, (if (gI S 13 3) = (1 : Int32) then (f_X4_wordHere S 13) else (10 : Int32)) = x1006 → ∀ x1007 : Int32, (if (5 : Int32) < x1006 then (5 : Int32) else x1006) = x1007 → (x1007 = (4 : Int32)) → p_X10_isFull S 15 (4 : Int32)) ∧ ((¬ (600 : Int32) < v2) → ∀ x1003 : Int32, (if (f_X10_howMany S 15 (0 : Int32)) ≤ 0 then (0 : Int32) else (1 : Int32)) = x1003 → (¬ (gI S 13 3) = 0) → ∀ x1006 : Int32, (if (gI S 13 3) = (1 : Int32) then (f_X4_wordHere S 13) else (10 : Int32)) = x1006 → ∀ x1007 : Int32, (if (5 : Int32) < x1006 then (5 : Int32) else x1006) = x1007 → ∀ x1010 : Int32, (if x1007 = (4 : Int32) then (if (f_X10_isFull S 15 (4 : Int32)) = 0 then (0 : Int32) else (1 : Int32)) else (0 : Int32)) = x1010 → ((10 : Int32) ≤ x1006) → ∀ r1012, f_X4_fail S 13 (1 : Int32) = r1012 → Bz r1012.1) ∧ ((¬ (600 : Int32) < v2) → ∀ x1003 : Int32, (if (f_X10_howMany S 15 (0 : Int32)) ≤ 0 then (0 : Int32) else (1 : Int32)) = x1003 → (¬ (gI S 13 3) = 0) → ∀ x1006 : Int32, (if (gI S 13 3) = (1 : Int32) then (f_X4_wordHere S 13) else (10 : Int32)) = x1006 → ∀ x1007 : Int32, (if (5 : Int32) < x1006 then (5 : Int32) else x1006) = x1007 → ∀ x1010 : Int32, (if x1007 = (4 : Int32) then (if (f_X10_isFull S 15 (4 : Int32)) = 0 then (0 : Int32) else (1 : Int32)) else (0 : Int32)) = x1010 → (¬ (10 : Int32) ≤ x1006) → (x1007 < v1) → ∀ r1014, f_X4_fail S 13 (1 : Int32) = r1014 → Bz r1014.1) ∧ ((¬ (600 : Int32) < v2) → ∀ x1003 : Int32, (if (f_X10_howMany S 15 (0 : Int32)) ≤ 0 then (0 : Int32) else (1 : Int32)) = x1003 → (¬ (gI S 13 3) = 0) → ∀ x1006 : Int32, (if (gI S 13 3) = (1 : Int32) then (f_X4_wordHere S 13) else (10 : Int32)) = x1006 → ∀ x1007 : Int32, (if (5 : Int32) < x1006 then (5 : Int32) else x1006) = x1007 → ∀ x1010 : Int32, (if x1007 = (4 : Int32) then (if (f_X10_isFull S 15 (4 : Int32)) = 0 then (0 : Int32) else (1 : Int32)) else (0 : Int32)) = x1010 → (¬ (10 : Int32) ≤ x1006) → (¬ x1007 < v1) → (x1007 ≤ 0) → (x1010 = 0) → p_X10_isFull S 15 x1007) ∧ ((¬ (600 : Int32) < v2) → ∀ x1003 : Int32, (if (f_X10_howMany S 15 (0 : Int32)) ≤ 0 then (0 : Int32) else (1 : Int32)) = x1003 → (¬ (gI S 13 3) = 0) → ∀ x1006 : Int32, (if (gI S 13 3) = (1 : Int32) then (f_X4_wordHere S 13) else (10 : Int32)) = x1006 → ∀ x1007 : Int32, (if (5 : Int32) < x1006 then (5 : Int32) else x1006) = x1007 → ∀ x1010 : Int32, (if x1007 = (4 : Int32) then (if (f_X10_isFull S 15 (4 : Int32)) = 0 then (0 : Int32) else (1 : Int32)) else (0 : Int32)) = x1010 → (¬ (10 : Int32) ≤ x1006) → (¬ x1007 < v1) → (x1007 ≤ 0) → (x1010 = 0) → ((f_X10_isFull S 15 x1007) = 0) → p_X4_readThing S 13 x1006 x1007) ∧ ((¬ (600 : Int32) < v2) → ∀ x1003 : Int32, (if (f_X10_howMany S 15 (0 : Int32)) ≤ 0 then (0 : Int32) else (1 : Int32)) = x1003 → (¬ (gI S 13 3) = 0) → ∀ x1006 : Int32, (if (gI S 13 3) = (1 : Int32) then (f_X4_wordHere S 13) else (10 : Int32)) = x1006 → ∀ x1007 : Int32, (if (5 : Int32) < x1006 then (5 : Int32) else x1006) = x1007 → ∀ x1010 : Int32, (if x1007 = (4 : Int32) then (if (f_X10_isFull S 15 (4 : Int32)) = 0 then (0 : Int32) else (1 : Int32)) else (0 : Int32)) = x1010 → (¬ (10 : Int32) ≤ x1006) → (¬ x1007 < v1) → (x1007 ≤ 0) → (x1010 = 0) → ((f_X10_isFull S 15 x1007) = 0) → ∀ r1018, f_X4_readThing S 13 x1006 x1007 = r1018 → (¬ r1018.1 = 0) → T_X4_readText_4 n r1018.2 x1007 (v2 + (1 : Int32))) ∧ ((¬ (600 : Int32) < v2) → ∀ x1003 : Int32, (if (f_X10_howMany S 15 (0 : Int32)) ≤ 0 then (0 : Int32) else (1 : Int32)) = x1003 → (¬ (gI S 13 3) = 0) → ∀ x1006 : Int32, (if (gI S 13 3) = (1 : Int32) then (f_X4_wordHere S 13) else (10 : Int32)) = x1006 → ∀ x1007 : Int32, (if (5 : Int32) < x1006 then (5 : Int32) else x1006) = x1007 → ∀ x1010 : Int32, (if x1007 = (4 : Int32) then (if (f_X10_isFull S 15 (4 : Int32)) = 0 then (0 : Int32) else (1 : Int32)) else (0 : Int32)) = x1010 → (¬ (10 : Int32) ≤ x1006) → (¬ x1007 < v1) → (x1007 ≤ 0) → (x1010 = 0) → (¬ (f_X10_isFull S 15 x1007) = 0) → ∀ r1020, f_X4_fail S 13 (3 : Int32) = r1020 → Bz r1020.1) ∧ ((¬ (600 : Int32) < v2) → ∀ x1003 : Int32, (if (f_X10_howMany S 15 (0 : Int32)) ≤ 0 then (0 : Int32) else (1 : Int32)) = x1003 → (¬ (gI S 13 3) = 0) → ∀ x1006 : Int32, (if (gI S 13 3) = (1 : Int32) then (f_X4_wordHere S 13) else (10 : Int32)) = x1006 → ∀ x1007 : Int32, (if (5 : Int32) < x1006 then (5 : Int32) else x1006) = x1007 → ∀ x1010 : Int32, (if x1007 = (4 : Int32) then (if (f_X10_isFull S 15 (4 : Int32)) = 0 then (0 : Int32) else (1 : Int32)) else (0 : Int32)) = x1010 → (¬ (10 : Int32) ≤ x1006) → (¬ x1007 < v1) → (x1007 ≤ 0) → (¬ x1010 = 0) → ∀ r1021, f_X4_fail S 13 (1 : Int32) = r1021 → Bz r1021.1) ∧ ((¬ (600 : Int32) < v2) → ∀ x1003 : Int32, (if (f_X10_howMany S 15 (0 : Int32)) ≤ 0 then (0 : Int32) else (1 : Int32)) = x1003 → (¬ (gI S 13 3) = 0) → ∀ x1006 : Int32, (if (gI S 13 3) = (1 : Int32) then (f_X4_wordHere S 13) else (10 : Int32)) = x1006 → ∀ x1007 : Int32, (if (5 : Int32) < x1006 then (5 : Int32) else x1006) = x1007 → ∀ x1010 : Int32, (if x1007 = (4 : Int32) then (if (f_X10_isFull S 15 (4 : Int32)) = 0 then (0 : Int32) else (1 : Int32)) else (0 : Int32)) = x1010 → (¬ (10 : Int32) ≤ x1006) → (¬ x1007 < v1) → (¬ x1007 ≤ 0) → (x1003 = 0) → ∀ r1023, f_X4_fail S 13 (1 : Int32) = r1023 → Bz r1023.1) ∧ ((¬ (600 : Int32) < v2) → ∀ x1003 : Int32, (if (f_X10_howMany S 15 (0 : Int32)) ≤ 0 then (0 : Int32) else (1 : Int32)) = x1003 → (¬ (gI S 13 3) = 0) → ∀ x1006 : Int32, (if (gI S 13 3) = (1 : Int32) then (f_X4_wordHere S 13) else (10 : Int32)) = x1006 → ∀ x1007 : Int32, (if (5 : Int32) < x1006 then (5 : Int32) else x1006) = x1007 → ∀ x1010 : Int32, (if x1007 = (4 : Int32) then (if (f_X10_isFull S 15 (4 : Int32)) = 0 then (0 : Int32) else (1 : Int32)) else (0 : Int32)) = x1010 → (¬ (10 : Int32) ≤ x1006) → (¬ x1007 < v1) → (¬ x1007 ≤ 0) → (¬ x1003 = 0) → (x1010 = 0) → p_X10_isFull S 15 x1007) ∧ ((¬ (600 : Int32) < v2) → ∀ x1003 : Int32, (if (f_X10_howMany S 15 (0 : Int32)) ≤ 0 then (0 : Int32) else (1 : Int32)) = x1003 → (¬ (gI S 13 3) = 0) → ∀ x1006 : Int32, (if (gI S 13 3) = (1 : Int32) then (f_X4_wordHere S 13) else (10 : Int32)) = x1006 → ∀ x1007 : Int32, (if (5 : Int32) < x1006 then (5 : Int32) else x1006) = x1007 → ∀ x1010 : Int32, (if x1007 = (4 : Int32) then (if (f_X10_isFull S 15 (4 : Int32)) = 0 then (0 : Int32) else (1 : Int32)) else (0 : Int32)) = x1010 → (¬ (10 : Int32) ≤ x1006) → (¬ x1007 < v1) → (¬ x1007 ≤ 0) → (¬ x1003 = 0) → (x1010 = 0) → ((f_X10_isFull S 15 x1007) = 0) → p_X4_readThing S 13 x1006 x1007) ∧ ((¬ (600 : Int32) < v2) → ∀ x1003 : Int32, (if (f_X10_howMany S 15 (0 : Int32)) ≤ 0 then (0 : Int32) else (1 : Int32)) = x1003 → (¬ (gI S 13 3) = 0) → ∀ x1006 : Int32, (if (gI S 13 3) = (1 : Int32) then (f_X4_wordHere S 13) else (10 : Int32)) = x1006 → ∀ x1007 : Int32, (if (5 : Int32) < x1006 then (5 : Int32) else x1006) = x1007 → ∀ x1010 : Int32, (if x1007 = (4 : Int32) then (if (f_X10_isFull S 15 (4 : Int32)) = 0 then (0 : Int32) else (1 : Int32)) else (0 : Int32)) = x1010 → (¬ (10 : Int32) ≤ x1006) → (¬ x1007 < v1) → (¬ x1007 ≤ 0) → (¬ x1003 = 0) → (x1010 = 0) → ((f_X10_isFull S 15 x1007) = 0) → ∀ r1026, f_X4_readThing S 13 x1006 x1007 = r1026 → (¬ r1026.1 = 0) → T_X4_readText_4 n r1026.2 x1007 (v2 + (1 : Int32))) ∧ ((¬ (600 : Int32) < v2) → ∀ x1003 : Int32, (if (f_X10_howMany S 15 (0 : Int32)) ≤ 0 then (0 : Int32) else (1 : Int32)) = x1003 → (¬ (gI S 13 3) = 0) → ∀ x1006 : Int32, (if (gI S 13 3) = (1 : Int32) then (f_X4_wordHere S 13) else (10 : Int32)) = x1006 → ∀ x1007 : Int32, (if (5 : Int32) < x1006 then (5 : Int32) else x1006) = x1007 → ∀ x1010 : Int32, (if x1007 = (4 : Int32) then (if (f_X10_isFull S 15 (4 : Int32)) = 0 then (0 : Int32) else (1 : Int32)) else (0 : Int32)) = x1010 → (¬ (10 : Int32) ≤ x1006) → (¬ x1007 < v1) → (¬ x1007 ≤ 0) → (¬ x1003 = 0) → (x1010 = 0) → (¬ (f_X10_isFull S 15 x1007) = 0) → ∀ r1028, f_X4_fail S 13 (3 : Int32) = r1028 → Bz r1028.1) ∧ ((¬ (600 : Int32) < v2) → ∀ x1003 : Int32, (if (f_X10_howMany S 15 (0 : Int32)) ≤ 0 then (0 : Int32) else (1 : Int32)) = x1003 → (¬ (gI S 13 3) = 0) → ∀ x1006 : Int32, (if (gI S 13 3) = (1 : Int32) then (f_X4_wordHere S 13) else (10 : Int32)) = x1006 → ∀ x1007 : Int32, (if (5 : Int32) < x1006 then (5 : Int32) else x1006) = x1007 → ∀ x1010 : Int32, (if x1007 = (4 : Int32) then (if (f_X10_isFull S 15 (4 : Int32)) = 0 then (0 : Int32) else (1 : Int32)) else (0 : Int32)) = x1010 → (¬ (10 : Int32) ≤ x1006) → (¬ x1007 < v1) → (¬ x1007 ≤ 0) → (¬ x1003 = 0) → (¬ x1010 = 0) → ∀ r1029, f_X4_fail S 13 (1 : Int32) = r1029 → Bz r1029.1) ∧ ((¬ (600 : Int32) < v2) → ∀ x1003 : Int32, (if (f_X10_howMany S 15 (0 : Int32)) ≤ 0 then (0 : Int32) else (1 : Int32)) = x1003 → ((gI S 13 3) = 0) → (x1003 = 0) → ((gI S 13 3) = (1 : Int32)) → p_X4_wordHere S 13) ∧ ((¬ (600 : Int32) < v2) → ∀ x1003 : Int32, (if (f_X10_howMany S 15 (0 : Int32)) ≤ 0 then (0 : Int32) else (1 : Int32)) = x1003 → ((gI S 13 3) = 0) → (x1003 = 0) → ∀ x1032 : Int32, (if (gI S 13 3) = (1 : Int32) then (f_X4_wordHere S 13) else (10 : Int32)) = x1032 → ∀ x1033 : Int32, (if (5 : Int32) < x1032 then (5 : Int32) else x1032) = x1033 → (x1033 = (4 : Int32)) → p_X10_isFull S 15 (4 : Int32)) ∧ ((¬ (600 : Int32) < v2) → ∀ x1003 : Int32, (if (f_X10_howMany S 15 (0 : Int32)) ≤ 0 then (0 : Int32) else (1 : Int32)) = x1003 → ((gI S 13 3) = 0) → (x1003 = 0) → ∀ x1032 : Int32, (if (gI S 13 3) = (1 : Int32) then (f_X4_wordHere S 13) else (10 : Int32)) = x1032 → ∀ x1033 : Int32, (if (5 : Int32) < x1032 then (5 : Int32) else x1032) = x1033 → ∀ x1036 : Int32, (if x1033 = (4 : Int32) then (if (f_X10_isFull S 15 (4 : Int32)) = 0 then (0 : Int32) else (1 : Int32)) else (0 : Int32)) = x1036 → ((10 : Int32) ≤ x1032) → ∀ r1038, f_X4_fail S 13 (1 : Int32) = r1038 → Bz r1038.1) ∧ ((¬ (600 : Int32) < v2) → ∀ x1003 : Int32, (if (f_X10_howMany S 15 (0 : Int32)) ≤ 0 then (0 : Int32) else (1 : Int32)) = x1003 → ((gI S 13 3) = 0) → (x1003 = 0) → ∀ x1032 : Int32, (if (gI S 13 3) = (1 : Int32) then (f_X4_wordHere S 13) else (10 : Int32)) = x1032 → ∀ x1033 : Int32, (if (5 : Int32) < x1032 then (5 : Int32) else x1032) = x1033 → ∀ x1036 : Int32, (if x1033 = (4 : Int32) then (if (f_X10_isFull S 15 (4 : Int32)) = 0 then (0 : Int32) else (1 : Int32)) else (0 : Int32)) = x1036 → (¬ (10 : Int32) ≤ x1032) → (x1033 < v1) → ∀ r1040, f_X4_fail S 13 (1 : Int32) = r1040 → Bz r1040.1) ∧ ((¬ (600 : Int32) < v2) → ∀ x1003 : Int32, (if (f_X10_howMany S 15 (0 : Int32)) ≤ 0 then (0 : Int32) else (1 : Int32)) = x1003 → ((gI S 13 3) = 0) → (x1003 = 0) → ∀ x1032 : Int32, (if (gI S 13 3) = (1 : Int32) then (f_X4_wordHere S 13) else (10 : Int32)) = x1032 → ∀ x1033 : Int32, (if (5 : Int32) < x1032 then (5 : Int32) else x1032) = x1033 → ∀ x1036 : Int32, (if x1033 = (4 : Int32) then (if (f_X10_isFull S 15 (4 : Int32)) = 0 then (0 : Int32) else (1 : Int32)) else (0 : Int32)) = x1036 → (¬ (10 : Int32) ≤ x1032) → (¬ x1033 < v1) → (x1033 ≤ 0) → (x1036 = 0) → p_X10_isFull S 15 x1033) ∧ ((¬ (600 : Int32) < v2) → ∀ x1003 : Int32, (if (f_X10_howMany S 15 (0 : Int32)) ≤ 0 then (0 : Int32) else (1 : Int32)) = x1003 → ((gI S 13 3) = 0) → (x1003 = 0) → ∀ x1032 : Int32, (if (gI S 13 3) = (1 : Int32) then (f_X4_wordHere S 13) else (10 : Int32)) = x1032 → ∀ x1033 : Int32, (if (5 : Int32) < x1032 then (5 : Int32) else x1032) = x1033 → ∀ x1036 : Int32, (if x1033 = (4 : Int32) then (if (f_X10_isFull S 15 (4 : Int32)) = 0 then (0 : Int32) else (1 : Int32)) else (0 : Int32)) = x1036 → (¬ (10 : Int32) ≤ x1032) → (¬ x1033 < v1) → (x1033 ≤ 0) → (x1036 = 0) → ((f_X10_isFull S 15 x1033) = 0) → p_X4_readThing S 13 x1032 x1033) ∧ ((¬ (600 : Int32) < v2) → ∀ x1003 : Int32, (if (f_X10_howMany S 15 (0 : Int32)) ≤ 0 then (0 : Int32) else (1 : Int32)) = x1003 → ((gI S 13 3) = 0) → (x1003 = 0) → ∀ x1032 : Int32, (if (gI S 13 3) = (1 : Int32) then (f_X4_wordHere S 13) else (10 : Int32)) = x1032 → ∀ x1033 : Int32, (if (5 : Int32) < x1032 then (5 : Int32) else x1032) = x1033 → ∀ x1036 : Int32, (if x1033 = (4 : Int32) then (if (f_X10_isFull S 15 (4 : Int32)) = 0 then (0 : Int32) else (1 : Int32)) else (0 : Int32)) = x1036 → (¬ (10 : Int32) ≤ x1032) → (¬ x1033 < v1) → (x1033 ≤ 0) → (x1036 = 0) → ((f_X10_isFull S 15 x1033) = 0) → ∀ r1044, f_X4_readThing S 13 x1032 x1033 = r1044 → (¬ r1044.1 = 0) → T_X4_readText_4 n r1044.2 x1033 (v2 + (1 : Int32))) ∧ ((¬ (600 : Int32) < v2) → ∀ x1003 : Int32, (if (f_X10_howMany S 15 (0 : Int32)) ≤ 0 then (0 : Int32) else (1 : Int32)) = x1003 → ((gI S 13 3) = 0) → (x1003 = 0) → ∀ x1032 : Int32, (if (gI S 13 3) = (1 : Int32) then (f_X4_wordHere S 13) else (10 : Int32)) = x1032 → ∀ x1033 : Int32, (if (5 : Int32) < x1032 then (5 : Int32) else x1032) = x1033 → ∀ x1036 : Int32, (if x1033 = (4 : Int32) then (if (f_X10_isFull S 15 (4 : Int32)) = 0 then (0 : Int32) else (1 : Int32)) else (0 : Int32)) = x1036 → (¬ (10 : Int32) ≤ x1032) → (¬ x1033 < v1) → (x1033 ≤ 0) → (x1036 = 0) → (¬ (f_X10_isFull S 15 x1033) = 0) → ∀ r1046, f_X4_fail S 13 (3 : Int32) = r1046 → Bz r1046.1) ∧ ((¬ (600 : Int32) < v2) → ∀ x1003 : Int32, (if (f_X10_howMany S 15 (0 : Int32)) ≤ 0 then (0 : Int32) else (1 : Int32)) = x1003 → ((gI S 13 3) = 0) → (x1003 = 0) → ∀ x1032 : Int32, (if (gI S 13 3) = (1 : Int32) then (f_X4_wordHere S 13) else (10 : Int32)) = x1032 → ∀ x1033 : Int32, (if (5 : Int32) < x1032 then (5 : Int32) else x1032) = x1033 → ∀ x1036 : Int32, (if x1033 = (4 : Int32) then (if (f_X10_isFull S 15 (4 : Int32)) = 0 then (0 : Int32) else (1 : Int32)) else (0 : Int32)) = x1036 → (¬ (10 : Int32) ≤ x1032) → (¬ x1033 < v1) → (x1033 ≤ 0) → (¬ x1036 = 0) → ∀ r1047, f_X4_fail S 13 (1 : Int32) = r1047 → Bz r1047.1) ∧ ((¬ (600 : Int32) < v2) → ∀ x1003 : Int32, (if (f_X10_howMany S 15 (0 : Int32)) ≤ 0 then (0 : Int32) else (1 : Int32)) = x1003 → ((gI S 13 3) = 0) → (x1003 = 0) → ∀ x1032 : Int32, (if (gI S 13 3) = (1 : Int32) then (f_X4_wordHere S 13) else (10 : Int32)) = x1032 → ∀ x1033 : Int32, (if (5 : Int32) < x1032 then (5 : Int32) else x1032) = x1033 → ∀ x1036 : Int32, (if x1033 = (4 : Int32) then (if (f_X10_isFull S 15 (4 : Int32)) = 0 then (0 : Int32) else (1 : Int32)) else (0 : Int32)) = x1036 → (¬ (10 : Int32) ≤ x1032) → (¬ x1033 < v1) → (¬ x1033 ≤ 0) → (x1003 = 0) → ∀ r1049, f_X4_fail S 13 (1 : Int32) = r1049 → Bz r1049.1) ∧ ((¬ (600 : Int32) < v2) → ∀ x1003 : Int32, (if (f_X10_howMany S 15 (0 : Int32)) ≤ 0 then (0 : Int32) else (1 : Int32)) = x1003 → ((gI S 13 3) = 0) → (x1003 = 0) → ∀ x1032 : Int32, (if (gI S 13 3) = (1 : Int32) then (f_X4_wordHere S 13) else (10 : Int32)) = x1032 → ∀ x1033 : Int32, (if (5 : Int32) < x1032 then (5 : Int32) else x1032) = x1033 → ∀ x1036 : Int32, (if x1033 = (4 : Int32) then (if (f_X10_isFull S 15 (4 : Int32)) = 0 then (0 : Int32) else (1 : Int32)) else (0 : Int32)) = x1036 → (¬ (10 : Int32) ≤ x1032) → (¬ x1033 < v1) → (¬ x1033 ≤ 0) → (¬ x1003 = 0) → (x1036 = 0) → p_X10_isFull S 15 x1033) ∧ ((¬ (600 : Int32) < v2) → ∀ x1003 : Int32, (if (f_X10_howMany S 15 (0 : Int32)) ≤ 0 then (0 : Int32) else (1 : Int32)) = x1003 → ((gI S 13 3) = 0) → (x1003 = 0) → ∀ x1032 : Int32, (if (gI S 13 3) = (1 : Int32) then (f_X4_wordHere S 13) else (10 : Int32)) = x1032 → ∀ x1033 : Int32, (if (5 : Int32) < x1032 then (5 : Int32) else x1032) = x1033 → ∀ x1036 : Int32, (if x1033 = (4 : Int32) then (if (f_X10_isFull S 15 (4 : Int32)) = 0 then (0 : Int32) else (1 : Int32)) else (0 : Int32)) = x1036 → (¬ (10 : Int32) ≤ x1032) → (¬ x1033 < v1) → (¬ x1033 ≤ 0) → (¬ x1003 = 0) → (x1036 = 0) → ((f_X10_isFull S 15 x1033) = 0) → p_X4_readThing S 13 x1032 x1033) ∧ ((¬ (600 : Int32) < v2) → ∀ x1003 : Int32, (if (f_X10_howMany S 15 (0 : Int32)) ≤ 0 then (0 : Int32) else (1 : Int32)) = x1003 → ((gI S 13 3) = 0) → (x1003 = 0) → ∀ x1032 : Int32, (if (gI S 13 3) = (1 : Int32) then (f_X4_wordHere S 13) else (10 : Int32)) = x1032 → ∀ x1033 : Int32, (if (5 : Int32) < x1032 then (5 : Int32) else x1032) = x1033 → ∀ x1036 : Int32, (if x1033 = (4 : Int32) then (if (f_X10_isFull S 15 (4 : Int32)) = 0 then (0 : Int32) else (1 : Int32)) else (0 : Int32)) = x1036 → (¬ (10 : Int32) ≤ x1032) → (¬ x1033 < v1) → (¬ x1033 ≤ 0) → (¬ x1003 = 0) → (x1036 = 0) → ((f_X10_isFull S 15 x1033) = 0) → ∀ r1052, f_X4_readThing S 13 x1032 x1033 = r1052 → (¬ r1052.1 = 0) → T_X4_readText_4 n r1052.2 x1033 (v2 + (1 : Int32))) ∧ ((¬ (600 : Int32) < v2) → ∀ x1003 : Int32, (if (f_X10_howMany S 15 (0 : Int32)) ≤ 0 then (0 : Int32) else (1 : Int32)) = x1003 → ((gI S 13 3) = 0) → (x1003 = 0) → ∀ x1032 : Int32, (if (gI S 13 3) = (1 : Int32) then (f_X4_wordHere S 13) else (10 : Int32)) = x1032 → ∀ x1033 : Int32, (if (5 : Int32) < x1032 then (5 : Int32) else x1032) = x1033 → ∀ x1036 : Int32, (if x1033 = (4 : Int32) then (if (f_X10_isFull S 15 (4 : Int32)) = 0 then (0 : Int32) else (1 : Int32)) else (0 : Int32)) = x1036 → (¬ (10 : Int32) ≤ x1032) → (¬ x1033 < v1) → (¬ x1033 ≤ 0) → (¬ x1003 = 0) → (x1036 = 0) → (¬ (f_X10_isFull S 15 x1033) = 0) → ∀ r1054, f_X4_fail S 13 (3 : Int32) = r1054 → Bz r1054.1) ∧ ((¬ (600 : Int32) < v2) → ∀ x1003 : Int32, (if (f_X10_howMany S 15 (0 : Int32)) ≤ 0 then (0 : Int32) else (1 : Int32)) = x1003 → ((gI S 13 3) = 0) → (x1003 = 0) → ∀ x1032 : Int32, (if (gI S 13 3) = (1 : Int32) then (f_X4_wordHere S 13) else (10 : Int32)) = x1032 → ∀ x1033 : Int32, (if (5 : Int32) < x1032 then (5 : Int32) else x1032) = x1033 → ∀ x1036 : Int32, (if x1033 = (4 : Int32) then (if (f_X10_isFull S 15 (4 : Int32)) = 0 then (0 : Int32) else (1 : Int32)) else (0 : Int32)) = x1036 → (¬ (10 : Int32) ≤ x1032) → (¬ x1033 < v1) → (¬ x1033 ≤ 0) → (¬ x1003 = 0) → (¬ x1036 = 0) → ∀ r1055, f_X4_fail S 13 (1 : Int32) = r1055 → Bz r1055.1)
theorem qL_X4_readText_4 : ∀ (n : Nat) (S : HSt) (v1 : Int32) (v2 : Int32), shp (L_X4_readText_4 n S v1 v2).2.2.2.2 = shp S := by
  intro n
  induction n with
  | zero => intros; rfl
  | succ n ih =>
    intro S v1 v2
    unfold L_X4_readText_4
    repeat' (first | with_reducible refine shpr4 ?_ | with_reducible rfl | with_reducible refine (ih _ _ _).trans ?_ | with_reducible refine (q_X4_fail _ _ _).trans ?_ | with_reducible refine (q_X4_readThing _ _ _ _).trans ?_ | with_reducible refine (shp_sI _ _ _ _).trans ?_ | with_reducible refine (shp_sJ _ _ _ _).trans ?_ | with_reducible refine (shp_rI _ _ _).trans ?_ | with_reducible refine shi ?_ ?_ | with_reducible refine shb (fun _ _ => ?_) | with_reducible refine shiP (fun q : Int32 × Int32 × Int32 × Int32 × HSt => q.2.2.2.2) ?_ ?_ | with_reducible refine shbP (fun q : Int32 × Int32 × Int32 × Int32 × HSt => q.2.2.2.2) (fun _ _ => ?_) | (subst_vars; with_reducible rfl) | (subst_vars; with_reducible refine (ih _ _ _).trans ?_) | (subst_vars; with_reducible refine (q_X4_fail _ _ _).trans ?_) | (subst_vars; with_reducible refine (q_X4_readThing _ _ _ _).trans ?_) | (subst_vars; with_reducible refine (shp_sI _ _ _ _).trans ?_) | (subst_vars; with_reducible refine (shp_sJ _ _ _ _).trans ?_) | (subst_vars; with_reducible refine (shp_rI _ _ _).trans ?_) | (subst_vars; with_reducible refine shi ?_ ?_) | (subst_vars; with_reducible refine shb (fun _ _ => ?_)))
set_option maxRecDepth 100000 in
theorem l_X4_readText_4 {p : Program} {l : Launch} {e : Env} {s : State} {m : MethodId} {args : Array Value} {below : List Frame} {meth : Method} {c : Code} {G : GG} {Post : Option Value → HSt → Prop} (hC : ACx p s m args meth c cX4_readText RX4 7 (some .boolean)) (hSt : St G s)   : ∀ (n : Nat) (S : HSt) (v1 : Int32) (v2 : Int32), CS S → T_X4_readText_4 n S v1 v2 → ((L_X4_readText_4 n S v1 v2).1 = 1 → Post (some (.int (L_X4_readText_4 n S v1 v2).2.1)) (L_X4_readText_4 n S v1 v2).2.2.2.2) → ((L_X4_readText_4 n S v1 v2).1 ≠ 1 → AW p l e (rmD 6 0 0) s m args below meth c G 7 (AQ G below args s 0 0 Post) (L_X4_readText_4 n S v1 v2).2.2.2.2 0 0 165 [(0, .ref 13), (1, .int (L_X4_readText_4 n S v1 v2).2.2.1), (2, .int (L_X4_readText_4 n S v1 v2).2.2.2.1)] []) → AW p l e (rmD 6 0 0) s m args below meth c G 7 (AQ G below args s 0 0 Post) S 0 0 4 [(0, .ref 13), (1, .int v1), (2, .int v2)] [] := by
  intro n
  induction n with
  | zero => intro S v1 v2 _ hT; exact hT.elim
  | succ n ih =>
    intro S v1 v2 hM hT hr hk
    unfold T_X4_readText_4 at hT
    obtain ⟨h0, h1, h2, h3, h4, h5, h6, h7, h8, h9, h10, h11, h12, h13, h14, h15, h16, h17, h18, h19, h20, h21, h22, h23, h24, h25, h26, h27, h28, h29, h30⟩ := hT
    refine aw_iload_n hC 2 dX4_readText_4 rfl rfl ?_
    refine aw_sipush (v := 600) hC dX4_readText_5 (by decide) ?_
    refine aw_icmp_gt hC 165 dX4_readText_8 (by decide) (fun c1001 => ?_) (fun c1001 => ?_)
    · refine aw_sub [0, 1, 2] rfl ?_
      have E : L_X4_readText_4 (n + 1) S v1 v2 = _ := (if_pos c1001).trans (rfl)
      rw [E] at hk hr
      exact hk (by show ¬ (0 : Int32) = 1; decide)
    · refine aw_aload_n hC 0 dX4_readText_11 rfl rfl ?_
      refine aw_getP (b := 15) hC hSt 1 (cs_lt 13 4 0 (by decide) hM) (cs_k 13 4 0 (by decide) hM) rfl (by decide) w_325 rfl (cs_p 13 1 15 (by decide) hM) dX4_readText_12 ?_
      refine aw_iconst (v := 0) hC dX4_readText_15 (by decide) ?_
      refine aw_cV1r hC hSt (t_X10_howMany G l hM _ _ (by decide) (h0 c1001)) w_152 w_423 w_237 w_238 w_18 rfl rfl (by decide +kernel) ⟨Nat.le_of_ble_eq_true rfl, Nat.le_of_ble_eq_true rfl⟩ (cs_lt 15 10 0 (by decide) hM) (cs_k 15 10 0 (by decide) hM) rfl (Nat.le_of_ble_eq_true rfl) dX4_readText_16 ⟨Nat.zero_le _, Nat.zero_le _⟩ ?_
      refine aw_cut (S' := S) (pc' := 27) (lv' := [(0, .ref 13), (1, .int v1), (2, .int v2)]) (st' := [.int (if (f_X10_howMany S 15 (0 : Int32)) ≤ 0 then (0 : Int32) else (1 : Int32))]) ?_ (fun Jc1002 => ?_)
      · generalize ex1003 : (if (f_X10_howMany S 15 (0 : Int32)) ≤ 0 then (0 : Int32) else (1 : Int32)) = x1003
        refine aw_istore_n hC [(3, .int _), (0, .ref 13), (1, .int _), (2, .int _)] dX4_readText_27 rfl (by decide) rfl ?_
        refine aw_aload_n hC 1 dX4_readText_28 rfl rfl ?_
        refine aw_getI hC hSt 3 (cs_lt 13 4 0 (by decide) hM) (cs_k 13 4 0 (by decide) hM) rfl (by decide) w_347 rfl dX4_readText_29 ?_
        refine aw_if_ne hC 41 dX4_readText_32 (by decide) (fun c1004 => ?_) (fun c1004 => ?_)
        · refine aw_aload_n hC 1 dX4_readText_41 rfl rfl ?_
          refine aw_getI hC hSt 3 (cs_lt 13 4 0 (by decide) hM) (cs_k 13 4 0 (by decide) hM) rfl (by decide) w_347 rfl dX4_readText_42 ?_
          refine aw_iconst (v := 1) hC dX4_readText_45 (by decide) ?_
          refine aw_cut (S' := S) (pc' := 58) (lv' := [(3, .int x1003), (0, .ref 13), (1, .int v1), (2, .int v2)]) (st' := [.int (if (gI S 13 3) = (1 : Int32) then (f_X4_wordHere S 13) else (10 : Int32))]) ?_ (fun Jc1005 => ?_)
          · generalize ex1006 : (if (gI S 13 3) = (1 : Int32) then (f_X4_wordHere S 13) else (10 : Int32)) = x1006
            refine aw_istore hC [(4, .int _), (3, .int _), (0, .ref 13), (1, .int _), (2, .int _)] dX4_readText_58 (by decide) rfl ?_
            refine aw_iload hC 0 dX4_readText_60 rfl ?_
            refine aw_iconst (v := 5) hC dX4_readText_62 (by decide) ?_
            refine aw_min hC w_446 w_95 w_92 w_96 (by decide) (Nat.le_of_ble_eq_true rfl) (by decide) (by decide) dX4_readText_63 ?_
            refine aw_istore hC [(5, .int _), (4, .int _), (3, .int _), (0, .ref 13), (1, .int _), (2, .int _)] dX4_readText_66 (by decide) rfl ?_
            generalize ex1007 : (if (5 : Int32) < x1006 then (5 : Int32) else x1006) = x1007
            refine aw_iload hC 0 dX4_readText_68 rfl ?_
            refine aw_iconst (v := 4) hC dX4_readText_70 (by decide) ?_
            refine aw_cut (S' := S) (pc' := 90) (lv' := [(5, .int x1007), (4, .int x1006), (3, .int x1003), (0, .ref 13), (1, .int v1), (2, .int v2)]) (st' := [.int (if x1007 = (4 : Int32) then (if (f_X10_isFull S 15 (4 : Int32)) = 0 then (0 : Int32) else (1 : Int32)) else (0 : Int32))]) ?_ (fun Jc1008 => ?_)
            · generalize ex1010 : (if x1007 = (4 : Int32) then (if (f_X10_isFull S 15 (4 : Int32)) = 0 then (0 : Int32) else (1 : Int32)) else (0 : Int32)) = x1010
              refine aw_istore hC [(6, .int _), (5, .int _), (4, .int _), (3, .int _), (0, .ref 13), (1, .int _), (2, .int _)] dX4_readText_90 (by decide) rfl ?_
              refine aw_iload hC 2 dX4_readText_92 rfl ?_
              refine aw_bipush (v := 10) hC dX4_readText_94 (by decide) ?_
              refine aw_icmp_ge hC 119 dX4_readText_96 (by decide) (fun c1011 => ?_) (fun c1011 => ?_)
              · refine aw_aload_n hC 4 dX4_readText_119 rfl rfl ?_
                refine aw_iconst (v := 1) hC dX4_readText_120 (by decide) ?_
                refine aw_cV1r hC hSt (t_X4_fail G l hM _) w_417 w_432 w_433 w_434 w_351 rfl rfl (by decide +kernel) ⟨Nat.le_of_ble_eq_true rfl, Nat.le_of_ble_eq_true rfl⟩ (cs_lt 13 4 0 (by decide) hM) (cs_k 13 4 0 (by decide) hM) rfl (Nat.le_of_ble_eq_true rfl) dX4_readText_121 ⟨Nat.zero_le _, Nat.zero_le _⟩ ?_
                generalize er1012 : f_X4_fail S 13 (1 : Int32) = r1012
                have hM : CS r1012.2 := CS.of (by rw [← er1012]; exact q_X4_fail _ _ _) hM
                refine aw_zret hC dX4_readText_124 (Nat.le_refl _) (Nat.le_refl _) (Bz.n (h3 c1001 x1003 ex1003 c1004 x1006 ex1006 x1007 ex1007 x1010 ex1010 c1011 r1012 er1012)) ?_
                have E : L_X4_readText_4 (n + 1) S v1 v2 = _ := (if_neg c1001).trans ((bd_eq ex1003).trans ((if_neg c1004).trans ((bd_eq ex1006).trans ((bd_eq ex1007).trans ((bd_eq ex1010).trans ((if_pos c1011).trans ((bd_eq er1012).trans (rfl))))))))
                rw [E] at hr
                exact hr rfl
              · refine aw_iload hC 1 dX4_readText_99 rfl ?_
                refine aw_iload_n hC 5 dX4_readText_101 rfl rfl ?_
                refine aw_icmp_lt hC 119 dX4_readText_102 (by decide) (fun c1013 => ?_) (fun c1013 => ?_)
                · refine aw_aload_n hC 4 dX4_readText_119 rfl rfl ?_
                  refine aw_iconst (v := 1) hC dX4_readText_120 (by decide) ?_
                  refine aw_cV1r hC hSt (t_X4_fail G l hM _) w_417 w_432 w_433 w_434 w_351 rfl rfl (by decide +kernel) ⟨Nat.le_of_ble_eq_true rfl, Nat.le_of_ble_eq_true rfl⟩ (cs_lt 13 4 0 (by decide) hM) (cs_k 13 4 0 (by decide) hM) rfl (Nat.le_of_ble_eq_true rfl) dX4_readText_121 ⟨Nat.zero_le _, Nat.zero_le _⟩ ?_
                  generalize er1014 : f_X4_fail S 13 (1 : Int32) = r1014
                  have hM : CS r1014.2 := CS.of (by rw [← er1014]; exact q_X4_fail _ _ _) hM
                  refine aw_zret hC dX4_readText_124 (Nat.le_refl _) (Nat.le_refl _) (Bz.n (h4 c1001 x1003 ex1003 c1004 x1006 ex1006 x1007 ex1007 x1010 ex1010 c1011 c1013 r1014 er1014)) ?_
                  have E : L_X4_readText_4 (n + 1) S v1 v2 = _ := (if_neg c1001).trans ((bd_eq ex1003).trans ((if_neg c1004).trans ((bd_eq ex1006).trans ((bd_eq ex1007).trans ((bd_eq ex1010).trans ((if_neg c1011).trans ((if_pos c1013).trans ((bd_eq er1014).trans (rfl)))))))))
                  rw [E] at hr
                  exact hr rfl
                · refine aw_iload hC 1 dX4_readText_105 rfl ?_
                  refine aw_if_le hC 114 dX4_readText_107 (by decide) (fun c1015 => ?_) (fun c1015 => ?_)
                  · refine aw_iload hC 0 dX4_readText_114 rfl ?_
                    refine aw_if_eq hC 125 dX4_readText_116 (by decide) (fun c1016 => ?_) (fun c1016 => ?_)
                    · refine aw_aload_n hC 4 dX4_readText_125 rfl rfl ?_
                      refine aw_getP (b := 15) hC hSt 1 (cs_lt 13 4 0 (by decide) hM) (cs_k 13 4 0 (by decide) hM) rfl (by decide) w_325 rfl (cs_p 13 1 15 (by decide) hM) dX4_readText_126 ?_
                      refine aw_iload hC 1 dX4_readText_129 rfl ?_
                      refine aw_cV1r hC hSt (t_X10_isFull G l hM _ _ (by decide) (h5 c1001 x1003 ex1003 c1004 x1006 ex1006 x1007 ex1007 x1010 ex1010 c1011 c1013 c1015 c1016)) w_416 w_450 w_426 w_427 w_18 rfl rfl (by decide +kernel) ⟨Nat.le_of_ble_eq_true rfl, Nat.le_of_ble_eq_true rfl⟩ (cs_lt 15 10 0 (by decide) hM) (cs_k 15 10 0 (by decide) hM) rfl (Nat.le_of_ble_eq_true rfl) dX4_readText_131 ⟨Nat.zero_le _, Nat.zero_le _⟩ ?_
                      refine aw_if_eq hC 143 dX4_readText_134 (by decide) (fun c1017 => ?_) (fun c1017 => ?_)
                      · refine aw_iload hC 1 dX4_readText_143 rfl ?_
                        refine aw_istore_n hC [(1, .int _), (6, .int _), (5, .int _), (4, .int _), (3, .int _), (0, .ref 13), (2, .int _)] dX4_readText_145 rfl (by decide) rfl ?_
                        refine aw_aload_n hC 5 dX4_readText_146 rfl rfl ?_
                        refine aw_iload hC 3 dX4_readText_147 rfl ?_
                        refine aw_iload hC 2 dX4_readText_149 rfl ?_
                        refine aw_cV2r hC hSt (t_X4_readThing G l hM _ _ (h6 c1001 x1003 ex1003 c1004 x1006 ex1006 x1007 ex1007 x1010 ex1010 c1011 c1013 c1015 c1016 c1017)) w_445 w_451 w_452 w_453 w_351 rfl rfl (by decide +kernel) ⟨Nat.le_of_ble_eq_true rfl, Nat.le_of_ble_eq_true rfl⟩ (cs_lt 13 4 0 (by decide) hM) (cs_k 13 4 0 (by decide) hM) rfl (Nat.le_of_ble_eq_true rfl) dX4_readText_151 ⟨Nat.zero_le _, Nat.zero_le _⟩ ?_
                        generalize er1018 : f_X4_readThing S 13 x1006 x1007 = r1018
                        have hM : CS r1018.2 := CS.of (by rw [← er1018]; exact q_X4_readThing _ _ _ _) hM
                        refine aw_if_ne hC 159 dX4_readText_154 (by decide) (fun c1019 => ?_) (fun c1019 => ?_)
                        · refine aw_iinc (v := (v2 + (1 : Int32))) hC 6 [(2, .int _), (1, .int _), (6, .int _), (5, .int _), (4, .int _), (3, .int _), (0, .ref 13)] dX4_readText_159 rfl rfl (by decide) rfl ?_
                          refine aw_goto hC 4 dX4_readText_162 (by decide) ?_
                          refine aw_sub [6, 1, 0] rfl ?_
                          have hTn := (h7 c1001 x1003 ex1003 c1004 x1006 ex1006 x1007 ex1007 x1010 ex1010 c1011 c1013 c1015 c1016 c1017 r1018 er1018 c1019)
                          have hMn : CS r1018.2 := hM
                          have E : L_X4_readText_4 (n + 1) S v1 v2 = _ := (if_neg c1001).trans ((bd_eq ex1003).trans ((if_neg c1004).trans ((bd_eq ex1006).trans ((bd_eq ex1007).trans ((bd_eq ex1010).trans ((if_neg c1011).trans ((if_neg c1013).trans ((if_pos c1015).trans ((if_pos c1016).trans ((if_pos c1017).trans ((bd_eq er1018).trans ((if_neg c1019).trans (rfl)))))))))))))
                          rw [E] at hk hr
                          exact ih _ _ _ hMn hTn hr hk
                        · refine aw_iconst (v := 0) hC dX4_readText_157 (by decide) ?_
                          refine aw_zret hC dX4_readText_158 (Nat.le_refl _) (Nat.le_refl _) (by decide) ?_
                          have E : L_X4_readText_4 (n + 1) S v1 v2 = _ := (if_neg c1001).trans ((bd_eq ex1003).trans ((if_neg c1004).trans ((bd_eq ex1006).trans ((bd_eq ex1007).trans ((bd_eq ex1010).trans ((if_neg c1011).trans ((if_neg c1013).trans ((if_pos c1015).trans ((if_pos c1016).trans ((if_pos c1017).trans ((bd_eq er1018).trans ((if_pos c1019).trans (rfl)))))))))))))
                          rw [E] at hr
                          exact hr rfl
                      · refine aw_aload_n hC 4 dX4_readText_137 rfl rfl ?_
                        refine aw_iconst (v := 3) hC dX4_readText_138 (by decide) ?_
                        refine aw_cV1r hC hSt (t_X4_fail G l hM _) w_417 w_432 w_433 w_434 w_351 rfl rfl (by decide +kernel) ⟨Nat.le_of_ble_eq_true rfl, Nat.le_of_ble_eq_true rfl⟩ (cs_lt 13 4 0 (by decide) hM) (cs_k 13 4 0 (by decide) hM) rfl (Nat.le_of_ble_eq_true rfl) dX4_readText_139 ⟨Nat.zero_le _, Nat.zero_le _⟩ ?_
                        generalize er1020 : f_X4_fail S 13 (3 : Int32) = r1020
                        have hM : CS r1020.2 := CS.of (by rw [← er1020]; exact q_X4_fail _ _ _) hM
                        refine aw_zret hC dX4_readText_142 (Nat.le_refl _) (Nat.le_refl _) (Bz.n (h8 c1001 x1003 ex1003 c1004 x1006 ex1006 x1007 ex1007 x1010 ex1010 c1011 c1013 c1015 c1016 c1017 r1020 er1020)) ?_
                        have E : L_X4_readText_4 (n + 1) S v1 v2 = _ := (if_neg c1001).trans ((bd_eq ex1003).trans ((if_neg c1004).trans ((bd_eq ex1006).trans ((bd_eq ex1007).trans ((bd_eq ex1010).trans ((if_neg c1011).trans ((if_neg c1013).trans ((if_pos c1015).trans ((if_pos c1016).trans ((if_neg c1017).trans ((bd_eq er1020).trans (rfl))))))))))))
                        rw [E] at hr
                        exact hr rfl
                    · refine aw_aload_n hC 4 dX4_readText_119 rfl rfl ?_
                      refine aw_iconst (v := 1) hC dX4_readText_120 (by decide) ?_
                      refine aw_cV1r hC hSt (t_X4_fail G l hM _) w_417 w_432 w_433 w_434 w_351 rfl rfl (by decide +kernel) ⟨Nat.le_of_ble_eq_true rfl, Nat.le_of_ble_eq_true rfl⟩ (cs_lt 13 4 0 (by decide) hM) (cs_k 13 4 0 (by decide) hM) rfl (Nat.le_of_ble_eq_true rfl) dX4_readText_121 ⟨Nat.zero_le _, Nat.zero_le _⟩ ?_
                      generalize er1021 : f_X4_fail S 13 (1 : Int32) = r1021
                      have hM : CS r1021.2 := CS.of (by rw [← er1021]; exact q_X4_fail _ _ _) hM
                      refine aw_zret hC dX4_readText_124 (Nat.le_refl _) (Nat.le_refl _) (Bz.n (h9 c1001 x1003 ex1003 c1004 x1006 ex1006 x1007 ex1007 x1010 ex1010 c1011 c1013 c1015 c1016 r1021 er1021)) ?_
                      have E : L_X4_readText_4 (n + 1) S v1 v2 = _ := (if_neg c1001).trans ((bd_eq ex1003).trans ((if_neg c1004).trans ((bd_eq ex1006).trans ((bd_eq ex1007).trans ((bd_eq ex1010).trans ((if_neg c1011).trans ((if_neg c1013).trans ((if_pos c1015).trans ((if_neg c1016).trans ((bd_eq er1021).trans (rfl)))))))))))
                      rw [E] at hr
                      exact hr rfl
                  · refine aw_iload_n hC 3 dX4_readText_110 rfl rfl ?_
                    refine aw_if_eq hC 119 dX4_readText_111 (by decide) (fun c1022 => ?_) (fun c1022 => ?_)
                    · refine aw_aload_n hC 4 dX4_readText_119 rfl rfl ?_
                      refine aw_iconst (v := 1) hC dX4_readText_120 (by decide) ?_
                      refine aw_cV1r hC hSt (t_X4_fail G l hM _) w_417 w_432 w_433 w_434 w_351 rfl rfl (by decide +kernel) ⟨Nat.le_of_ble_eq_true rfl, Nat.le_of_ble_eq_true rfl⟩ (cs_lt 13 4 0 (by decide) hM) (cs_k 13 4 0 (by decide) hM) rfl (Nat.le_of_ble_eq_true rfl) dX4_readText_121 ⟨Nat.zero_le _, Nat.zero_le _⟩ ?_
                      generalize er1023 : f_X4_fail S 13 (1 : Int32) = r1023
                      have hM : CS r1023.2 := CS.of (by rw [← er1023]; exact q_X4_fail _ _ _) hM
                      refine aw_zret hC dX4_readText_124 (Nat.le_refl _) (Nat.le_refl _) (Bz.n (h10 c1001 x1003 ex1003 c1004 x1006 ex1006 x1007 ex1007 x1010 ex1010 c1011 c1013 c1015 c1022 r1023 er1023)) ?_
                      have E : L_X4_readText_4 (n + 1) S v1 v2 = _ := (if_neg c1001).trans ((bd_eq ex1003).trans ((if_neg c1004).trans ((bd_eq ex1006).trans ((bd_eq ex1007).trans ((bd_eq ex1010).trans ((if_neg c1011).trans ((if_neg c1013).trans ((if_neg c1015).trans ((if_pos c1022).trans ((bd_eq er1023).trans (rfl)))))))))))
                      rw [E] at hr
                      exact hr rfl
                    · refine aw_iload hC 0 dX4_readText_114 rfl ?_
                      refine aw_if_eq hC 125 dX4_readText_116 (by decide) (fun c1024 => ?_) (fun c1024 => ?_)
                      · refine aw_aload_n hC 4 dX4_readText_125 rfl rfl ?_
                        refine aw_getP (b := 15) hC hSt 1 (cs_lt 13 4 0 (by decide) hM) (cs_k 13 4 0 (by decide) hM) rfl (by decide) w_325 rfl (cs_p 13 1 15 (by decide) hM) dX4_readText_126 ?_
                        refine aw_iload hC 1 dX4_readText_129 rfl ?_
                        refine aw_cV1r hC hSt (t_X10_isFull G l hM _ _ (by decide) (h11 c1001 x1003 ex1003 c1004 x1006 ex1006 x1007 ex1007 x1010 ex1010 c1011 c1013 c1015 c1022 c1024)) w_416 w_450 w_426 w_427 w_18 rfl rfl (by decide +kernel) ⟨Nat.le_of_ble_eq_true rfl, Nat.le_of_ble_eq_true rfl⟩ (cs_lt 15 10 0 (by decide) hM) (cs_k 15 10 0 (by decide) hM) rfl (Nat.le_of_ble_eq_true rfl) dX4_readText_131 ⟨Nat.zero_le _, Nat.zero_le _⟩ ?_
                        refine aw_if_eq hC 143 dX4_readText_134 (by decide) (fun c1025 => ?_) (fun c1025 => ?_)
                        · refine aw_iload hC 1 dX4_readText_143 rfl ?_
                          refine aw_istore_n hC [(1, .int _), (6, .int _), (5, .int _), (4, .int _), (3, .int _), (0, .ref 13), (2, .int _)] dX4_readText_145 rfl (by decide) rfl ?_
                          refine aw_aload_n hC 5 dX4_readText_146 rfl rfl ?_
                          refine aw_iload hC 3 dX4_readText_147 rfl ?_
                          refine aw_iload hC 2 dX4_readText_149 rfl ?_
                          refine aw_cV2r hC hSt (t_X4_readThing G l hM _ _ (h12 c1001 x1003 ex1003 c1004 x1006 ex1006 x1007 ex1007 x1010 ex1010 c1011 c1013 c1015 c1022 c1024 c1025)) w_445 w_451 w_452 w_453 w_351 rfl rfl (by decide +kernel) ⟨Nat.le_of_ble_eq_true rfl, Nat.le_of_ble_eq_true rfl⟩ (cs_lt 13 4 0 (by decide) hM) (cs_k 13 4 0 (by decide) hM) rfl (Nat.le_of_ble_eq_true rfl) dX4_readText_151 ⟨Nat.zero_le _, Nat.zero_le _⟩ ?_
                          generalize er1026 : f_X4_readThing S 13 x1006 x1007 = r1026
                          have hM : CS r1026.2 := CS.of (by rw [← er1026]; exact q_X4_readThing _ _ _ _) hM
                          refine aw_if_ne hC 159 dX4_readText_154 (by decide) (fun c1027 => ?_) (fun c1027 => ?_)
                          · refine aw_iinc (v := (v2 + (1 : Int32))) hC 6 [(2, .int _), (1, .int _), (6, .int _), (5, .int _), (4, .int _), (3, .int _), (0, .ref 13)] dX4_readText_159 rfl rfl (by decide) rfl ?_
                            refine aw_goto hC 4 dX4_readText_162 (by decide) ?_
                            refine aw_sub [6, 1, 0] rfl ?_
                            have hTn := (h13 c1001 x1003 ex1003 c1004 x1006 ex1006 x1007 ex1007 x1010 ex1010 c1011 c1013 c1015 c1022 c1024 c1025 r1026 er1026 c1027)
                            have hMn : CS r1026.2 := hM
                            have E : L_X4_readText_4 (n + 1) S v1 v2 = _ := (if_neg c1001).trans ((bd_eq ex1003).trans ((if_neg c1004).trans ((bd_eq ex1006).trans ((bd_eq ex1007).trans ((bd_eq ex1010).trans ((if_neg c1011).trans ((if_neg c1013).trans ((if_neg c1015).trans ((if_neg c1022).trans ((if_pos c1024).trans ((if_pos c1025).trans ((bd_eq er1026).trans ((if_neg c1027).trans (rfl))))))))))))))
                            rw [E] at hk hr
                            exact ih _ _ _ hMn hTn hr hk
                          · refine aw_iconst (v := 0) hC dX4_readText_157 (by decide) ?_
                            refine aw_zret hC dX4_readText_158 (Nat.le_refl _) (Nat.le_refl _) (by decide) ?_
                            have E : L_X4_readText_4 (n + 1) S v1 v2 = _ := (if_neg c1001).trans ((bd_eq ex1003).trans ((if_neg c1004).trans ((bd_eq ex1006).trans ((bd_eq ex1007).trans ((bd_eq ex1010).trans ((if_neg c1011).trans ((if_neg c1013).trans ((if_neg c1015).trans ((if_neg c1022).trans ((if_pos c1024).trans ((if_pos c1025).trans ((bd_eq er1026).trans ((if_pos c1027).trans (rfl))))))))))))))
                            rw [E] at hr
                            exact hr rfl
                        · refine aw_aload_n hC 4 dX4_readText_137 rfl rfl ?_
                          refine aw_iconst (v := 3) hC dX4_readText_138 (by decide) ?_
                          refine aw_cV1r hC hSt (t_X4_fail G l hM _) w_417 w_432 w_433 w_434 w_351 rfl rfl (by decide +kernel) ⟨Nat.le_of_ble_eq_true rfl, Nat.le_of_ble_eq_true rfl⟩ (cs_lt 13 4 0 (by decide) hM) (cs_k 13 4 0 (by decide) hM) rfl (Nat.le_of_ble_eq_true rfl) dX4_readText_139 ⟨Nat.zero_le _, Nat.zero_le _⟩ ?_
                          generalize er1028 : f_X4_fail S 13 (3 : Int32) = r1028
                          have hM : CS r1028.2 := CS.of (by rw [← er1028]; exact q_X4_fail _ _ _) hM
                          refine aw_zret hC dX4_readText_142 (Nat.le_refl _) (Nat.le_refl _) (Bz.n (h14 c1001 x1003 ex1003 c1004 x1006 ex1006 x1007 ex1007 x1010 ex1010 c1011 c1013 c1015 c1022 c1024 c1025 r1028 er1028)) ?_
                          have E : L_X4_readText_4 (n + 1) S v1 v2 = _ := (if_neg c1001).trans ((bd_eq ex1003).trans ((if_neg c1004).trans ((bd_eq ex1006).trans ((bd_eq ex1007).trans ((bd_eq ex1010).trans ((if_neg c1011).trans ((if_neg c1013).trans ((if_neg c1015).trans ((if_neg c1022).trans ((if_pos c1024).trans ((if_neg c1025).trans ((bd_eq er1028).trans (rfl)))))))))))))
                          rw [E] at hr
                          exact hr rfl
                      · refine aw_aload_n hC 4 dX4_readText_119 rfl rfl ?_
                        refine aw_iconst (v := 1) hC dX4_readText_120 (by decide) ?_
                        refine aw_cV1r hC hSt (t_X4_fail G l hM _) w_417 w_432 w_433 w_434 w_351 rfl rfl (by decide +kernel) ⟨Nat.le_of_ble_eq_true rfl, Nat.le_of_ble_eq_true rfl⟩ (cs_lt 13 4 0 (by decide) hM) (cs_k 13 4 0 (by decide) hM) rfl (Nat.le_of_ble_eq_true rfl) dX4_readText_121 ⟨Nat.zero_le _, Nat.zero_le _⟩ ?_
                        generalize er1029 : f_X4_fail S 13 (1 : Int32) = r1029
                        have hM : CS r1029.2 := CS.of (by rw [← er1029]; exact q_X4_fail _ _ _) hM
                        refine aw_zret hC dX4_readText_124 (Nat.le_refl _) (Nat.le_refl _) (Bz.n (h15 c1001 x1003 ex1003 c1004 x1006 ex1006 x1007 ex1007 x1010 ex1010 c1011 c1013 c1015 c1022 c1024 r1029 er1029)) ?_
                        have E : L_X4_readText_4 (n + 1) S v1 v2 = _ := (if_neg c1001).trans ((bd_eq ex1003).trans ((if_neg c1004).trans ((bd_eq ex1006).trans ((bd_eq ex1007).trans ((bd_eq ex1010).trans ((if_neg c1011).trans ((if_neg c1013).trans ((if_neg c1015).trans ((if_neg c1022).trans ((if_neg c1024).trans ((bd_eq er1029).trans (rfl))))))))))))
                        rw [E] at hr
                        exact hr rfl
            · refine aw_icmp_ne hC 89 dX4_readText_71 (by decide) (fun c1008 => ?_) (fun c1008 => ?_)
              · refine aw_iconst (v := 0) hC dX4_readText_89 (by decide) ?_
                simp only [bd_def, if_neg c1008] at Jc1008 ⊢
                exact Jc1008
              · refine aw_aload_n hC 3 dX4_readText_74 rfl rfl ?_
                refine aw_getP (b := 15) hC hSt 1 (cs_lt 13 4 0 (by decide) hM) (cs_k 13 4 0 (by decide) hM) rfl (by decide) w_325 rfl (cs_p 13 1 15 (by decide) hM) dX4_readText_75 ?_
                refine aw_iconst (v := 4) hC dX4_readText_78 (by decide) ?_
                refine aw_cV1r hC hSt (t_X10_isFull G l hM _ _ (by decide) (h2 c1001 x1003 ex1003 c1004 x1006 ex1006 x1007 ex1007 c1008)) w_416 w_450 w_426 w_427 w_18 rfl rfl (by decide +kernel) ⟨Nat.le_of_ble_eq_true rfl, Nat.le_of_ble_eq_true rfl⟩ (cs_lt 15 10 0 (by decide) hM) (cs_k 15 10 0 (by decide) hM) rfl (Nat.le_of_ble_eq_true rfl) dX4_readText_79 ⟨Nat.zero_le _, Nat.zero_le _⟩ ?_
                refine aw_if_eq hC 89 dX4_readText_82 (by decide) (fun c1009 => ?_) (fun c1009 => ?_)
                · refine aw_iconst (v := 0) hC dX4_readText_89 (by decide) ?_
                  simp only [bd_def, if_pos c1008, if_pos c1009] at Jc1008 ⊢
                  exact Jc1008
                · refine aw_iconst (v := 1) hC dX4_readText_85 (by decide) ?_
                  refine aw_goto hC 90 dX4_readText_86 (by decide) ?_
                  simp only [bd_def, if_pos c1008, if_neg c1009] at Jc1008 ⊢
                  exact Jc1008
          · refine aw_icmp_ne hC 56 dX4_readText_46 (by decide) (fun c1005 => ?_) (fun c1005 => ?_)
            · refine aw_bipush (v := 10) hC dX4_readText_56 (by decide) ?_
              simp only [bd_def, if_neg c1005] at Jc1005 ⊢
              exact Jc1005
            · refine aw_aload_n hC 1 dX4_readText_49 rfl rfl ?_
              refine aw_cV0r hC hSt (t_X4_wordHere G l hM  (h1 c1001 x1003 ex1003 c1004 c1005)) w_415 w_447 w_448 w_449 w_351 rfl rfl (by decide +kernel) ⟨Nat.le_of_ble_eq_true rfl, Nat.le_of_ble_eq_true rfl⟩ (cs_lt 13 4 0 (by decide) hM) (cs_k 13 4 0 (by decide) hM) rfl (Nat.le_of_ble_eq_true rfl) dX4_readText_50 ⟨Nat.zero_le _, Nat.zero_le _⟩ ?_
              refine aw_goto hC 58 dX4_readText_53 (by decide) ?_
              simp only [bd_def, if_pos c1005] at Jc1005 ⊢
              exact Jc1005
        · refine aw_iload_n hC 0 dX4_readText_35 rfl rfl ?_
          refine aw_if_eq hC 41 dX4_readText_36 (by decide) (fun c1030 => ?_) (fun c1030 => ?_)
          · refine aw_aload_n hC 1 dX4_readText_41 rfl rfl ?_
            refine aw_getI hC hSt 3 (cs_lt 13 4 0 (by decide) hM) (cs_k 13 4 0 (by decide) hM) rfl (by decide) w_347 rfl dX4_readText_42 ?_
            refine aw_iconst (v := 1) hC dX4_readText_45 (by decide) ?_
            refine aw_cut (S' := S) (pc' := 58) (lv' := [(3, .int x1003), (0, .ref 13), (1, .int v1), (2, .int v2)]) (st' := [.int (if (gI S 13 3) = (1 : Int32) then (f_X4_wordHere S 13) else (10 : Int32))]) ?_ (fun Jc1031 => ?_)
            · generalize ex1032 : (if (gI S 13 3) = (1 : Int32) then (f_X4_wordHere S 13) else (10 : Int32)) = x1032
              refine aw_istore hC [(4, .int _), (3, .int _), (0, .ref 13), (1, .int _), (2, .int _)] dX4_readText_58 (by decide) rfl ?_
              refine aw_iload hC 0 dX4_readText_60 rfl ?_
              refine aw_iconst (v := 5) hC dX4_readText_62 (by decide) ?_
              refine aw_min hC w_446 w_95 w_92 w_96 (by decide) (Nat.le_of_ble_eq_true rfl) (by decide) (by decide) dX4_readText_63 ?_
              refine aw_istore hC [(5, .int _), (4, .int _), (3, .int _), (0, .ref 13), (1, .int _), (2, .int _)] dX4_readText_66 (by decide) rfl ?_
              generalize ex1033 : (if (5 : Int32) < x1032 then (5 : Int32) else x1032) = x1033
              refine aw_iload hC 0 dX4_readText_68 rfl ?_
              refine aw_iconst (v := 4) hC dX4_readText_70 (by decide) ?_
              refine aw_cut (S' := S) (pc' := 90) (lv' := [(5, .int x1033), (4, .int x1032), (3, .int x1003), (0, .ref 13), (1, .int v1), (2, .int v2)]) (st' := [.int (if x1033 = (4 : Int32) then (if (f_X10_isFull S 15 (4 : Int32)) = 0 then (0 : Int32) else (1 : Int32)) else (0 : Int32))]) ?_ (fun Jc1034 => ?_)
              · generalize ex1036 : (if x1033 = (4 : Int32) then (if (f_X10_isFull S 15 (4 : Int32)) = 0 then (0 : Int32) else (1 : Int32)) else (0 : Int32)) = x1036
                refine aw_istore hC [(6, .int _), (5, .int _), (4, .int _), (3, .int _), (0, .ref 13), (1, .int _), (2, .int _)] dX4_readText_90 (by decide) rfl ?_
                refine aw_iload hC 2 dX4_readText_92 rfl ?_
                refine aw_bipush (v := 10) hC dX4_readText_94 (by decide) ?_
                refine aw_icmp_ge hC 119 dX4_readText_96 (by decide) (fun c1037 => ?_) (fun c1037 => ?_)
                · refine aw_aload_n hC 4 dX4_readText_119 rfl rfl ?_
                  refine aw_iconst (v := 1) hC dX4_readText_120 (by decide) ?_
                  refine aw_cV1r hC hSt (t_X4_fail G l hM _) w_417 w_432 w_433 w_434 w_351 rfl rfl (by decide +kernel) ⟨Nat.le_of_ble_eq_true rfl, Nat.le_of_ble_eq_true rfl⟩ (cs_lt 13 4 0 (by decide) hM) (cs_k 13 4 0 (by decide) hM) rfl (Nat.le_of_ble_eq_true rfl) dX4_readText_121 ⟨Nat.zero_le _, Nat.zero_le _⟩ ?_
                  generalize er1038 : f_X4_fail S 13 (1 : Int32) = r1038
                  have hM : CS r1038.2 := CS.of (by rw [← er1038]; exact q_X4_fail _ _ _) hM
                  refine aw_zret hC dX4_readText_124 (Nat.le_refl _) (Nat.le_refl _) (Bz.n (h18 c1001 x1003 ex1003 c1004 c1030 x1032 ex1032 x1033 ex1033 x1036 ex1036 c1037 r1038 er1038)) ?_
                  have E : L_X4_readText_4 (n + 1) S v1 v2 = _ := (if_neg c1001).trans ((bd_eq ex1003).trans ((if_pos c1004).trans ((if_pos c1030).trans ((bd_eq ex1032).trans ((bd_eq ex1033).trans ((bd_eq ex1036).trans ((if_pos c1037).trans ((bd_eq er1038).trans (rfl)))))))))
                  rw [E] at hr
                  exact hr rfl
                · refine aw_iload hC 1 dX4_readText_99 rfl ?_
                  refine aw_iload_n hC 5 dX4_readText_101 rfl rfl ?_
                  refine aw_icmp_lt hC 119 dX4_readText_102 (by decide) (fun c1039 => ?_) (fun c1039 => ?_)
                  · refine aw_aload_n hC 4 dX4_readText_119 rfl rfl ?_
                    refine aw_iconst (v := 1) hC dX4_readText_120 (by decide) ?_
                    refine aw_cV1r hC hSt (t_X4_fail G l hM _) w_417 w_432 w_433 w_434 w_351 rfl rfl (by decide +kernel) ⟨Nat.le_of_ble_eq_true rfl, Nat.le_of_ble_eq_true rfl⟩ (cs_lt 13 4 0 (by decide) hM) (cs_k 13 4 0 (by decide) hM) rfl (Nat.le_of_ble_eq_true rfl) dX4_readText_121 ⟨Nat.zero_le _, Nat.zero_le _⟩ ?_
                    generalize er1040 : f_X4_fail S 13 (1 : Int32) = r1040
                    have hM : CS r1040.2 := CS.of (by rw [← er1040]; exact q_X4_fail _ _ _) hM
                    refine aw_zret hC dX4_readText_124 (Nat.le_refl _) (Nat.le_refl _) (Bz.n (h19 c1001 x1003 ex1003 c1004 c1030 x1032 ex1032 x1033 ex1033 x1036 ex1036 c1037 c1039 r1040 er1040)) ?_
                    have E : L_X4_readText_4 (n + 1) S v1 v2 = _ := (if_neg c1001).trans ((bd_eq ex1003).trans ((if_pos c1004).trans ((if_pos c1030).trans ((bd_eq ex1032).trans ((bd_eq ex1033).trans ((bd_eq ex1036).trans ((if_neg c1037).trans ((if_pos c1039).trans ((bd_eq er1040).trans (rfl))))))))))
                    rw [E] at hr
                    exact hr rfl
                  · refine aw_iload hC 1 dX4_readText_105 rfl ?_
                    refine aw_if_le hC 114 dX4_readText_107 (by decide) (fun c1041 => ?_) (fun c1041 => ?_)
                    · refine aw_iload hC 0 dX4_readText_114 rfl ?_
                      refine aw_if_eq hC 125 dX4_readText_116 (by decide) (fun c1042 => ?_) (fun c1042 => ?_)
                      · refine aw_aload_n hC 4 dX4_readText_125 rfl rfl ?_
                        refine aw_getP (b := 15) hC hSt 1 (cs_lt 13 4 0 (by decide) hM) (cs_k 13 4 0 (by decide) hM) rfl (by decide) w_325 rfl (cs_p 13 1 15 (by decide) hM) dX4_readText_126 ?_
                        refine aw_iload hC 1 dX4_readText_129 rfl ?_
                        refine aw_cV1r hC hSt (t_X10_isFull G l hM _ _ (by decide) (h20 c1001 x1003 ex1003 c1004 c1030 x1032 ex1032 x1033 ex1033 x1036 ex1036 c1037 c1039 c1041 c1042)) w_416 w_450 w_426 w_427 w_18 rfl rfl (by decide +kernel) ⟨Nat.le_of_ble_eq_true rfl, Nat.le_of_ble_eq_true rfl⟩ (cs_lt 15 10 0 (by decide) hM) (cs_k 15 10 0 (by decide) hM) rfl (Nat.le_of_ble_eq_true rfl) dX4_readText_131 ⟨Nat.zero_le _, Nat.zero_le _⟩ ?_
                        refine aw_if_eq hC 143 dX4_readText_134 (by decide) (fun c1043 => ?_) (fun c1043 => ?_)
                        · refine aw_iload hC 1 dX4_readText_143 rfl ?_
                          refine aw_istore_n hC [(1, .int _), (6, .int _), (5, .int _), (4, .int _), (3, .int _), (0, .ref 13), (2, .int _)] dX4_readText_145 rfl (by decide) rfl ?_
                          refine aw_aload_n hC 5 dX4_readText_146 rfl rfl ?_
                          refine aw_iload hC 3 dX4_readText_147 rfl ?_
                          refine aw_iload hC 2 dX4_readText_149 rfl ?_
                          refine aw_cV2r hC hSt (t_X4_readThing G l hM _ _ (h21 c1001 x1003 ex1003 c1004 c1030 x1032 ex1032 x1033 ex1033 x1036 ex1036 c1037 c1039 c1041 c1042 c1043)) w_445 w_451 w_452 w_453 w_351 rfl rfl (by decide +kernel) ⟨Nat.le_of_ble_eq_true rfl, Nat.le_of_ble_eq_true rfl⟩ (cs_lt 13 4 0 (by decide) hM) (cs_k 13 4 0 (by decide) hM) rfl (Nat.le_of_ble_eq_true rfl) dX4_readText_151 ⟨Nat.zero_le _, Nat.zero_le _⟩ ?_
                          generalize er1044 : f_X4_readThing S 13 x1032 x1033 = r1044
                          have hM : CS r1044.2 := CS.of (by rw [← er1044]; exact q_X4_readThing _ _ _ _) hM
                          refine aw_if_ne hC 159 dX4_readText_154 (by decide) (fun c1045 => ?_) (fun c1045 => ?_)
                          · refine aw_iinc (v := (v2 + (1 : Int32))) hC 6 [(2, .int _), (1, .int _), (6, .int _), (5, .int _), (4, .int _), (3, .int _), (0, .ref 13)] dX4_readText_159 rfl rfl (by decide) rfl ?_
                            refine aw_goto hC 4 dX4_readText_162 (by decide) ?_
                            refine aw_sub [6, 1, 0] rfl ?_
                            have hTn := (h22 c1001 x1003 ex1003 c1004 c1030 x1032 ex1032 x1033 ex1033 x1036 ex1036 c1037 c1039 c1041 c1042 c1043 r1044 er1044 c1045)
                            have hMn : CS r1044.2 := hM
                            have E : L_X4_readText_4 (n + 1) S v1 v2 = _ := (if_neg c1001).trans ((bd_eq ex1003).trans ((if_pos c1004).trans ((if_pos c1030).trans ((bd_eq ex1032).trans ((bd_eq ex1033).trans ((bd_eq ex1036).trans ((if_neg c1037).trans ((if_neg c1039).trans ((if_pos c1041).trans ((if_pos c1042).trans ((if_pos c1043).trans ((bd_eq er1044).trans ((if_neg c1045).trans (rfl))))))))))))))
                            rw [E] at hk hr
                            exact ih _ _ _ hMn hTn hr hk
                          · refine aw_iconst (v := 0) hC dX4_readText_157 (by decide) ?_
                            refine aw_zret hC dX4_readText_158 (Nat.le_refl _) (Nat.le_refl _) (by decide) ?_
                            have E : L_X4_readText_4 (n + 1) S v1 v2 = _ := (if_neg c1001).trans ((bd_eq ex1003).trans ((if_pos c1004).trans ((if_pos c1030).trans ((bd_eq ex1032).trans ((bd_eq ex1033).trans ((bd_eq ex1036).trans ((if_neg c1037).trans ((if_neg c1039).trans ((if_pos c1041).trans ((if_pos c1042).trans ((if_pos c1043).trans ((bd_eq er1044).trans ((if_pos c1045).trans (rfl))))))))))))))
                            rw [E] at hr
                            exact hr rfl
                        · refine aw_aload_n hC 4 dX4_readText_137 rfl rfl ?_
                          refine aw_iconst (v := 3) hC dX4_readText_138 (by decide) ?_
                          refine aw_cV1r hC hSt (t_X4_fail G l hM _) w_417 w_432 w_433 w_434 w_351 rfl rfl (by decide +kernel) ⟨Nat.le_of_ble_eq_true rfl, Nat.le_of_ble_eq_true rfl⟩ (cs_lt 13 4 0 (by decide) hM) (cs_k 13 4 0 (by decide) hM) rfl (Nat.le_of_ble_eq_true rfl) dX4_readText_139 ⟨Nat.zero_le _, Nat.zero_le _⟩ ?_
                          generalize er1046 : f_X4_fail S 13 (3 : Int32) = r1046
                          have hM : CS r1046.2 := CS.of (by rw [← er1046]; exact q_X4_fail _ _ _) hM
                          refine aw_zret hC dX4_readText_142 (Nat.le_refl _) (Nat.le_refl _) (Bz.n (h23 c1001 x1003 ex1003 c1004 c1030 x1032 ex1032 x1033 ex1033 x1036 ex1036 c1037 c1039 c1041 c1042 c1043 r1046 er1046)) ?_
                          have E : L_X4_readText_4 (n + 1) S v1 v2 = _ := (if_neg c1001).trans ((bd_eq ex1003).trans ((if_pos c1004).trans ((if_pos c1030).trans ((bd_eq ex1032).trans ((bd_eq ex1033).trans ((bd_eq ex1036).trans ((if_neg c1037).trans ((if_neg c1039).trans ((if_pos c1041).trans ((if_pos c1042).trans ((if_neg c1043).trans ((bd_eq er1046).trans (rfl)))))))))))))
                          rw [E] at hr
                          exact hr rfl
                      · refine aw_aload_n hC 4 dX4_readText_119 rfl rfl ?_
                        refine aw_iconst (v := 1) hC dX4_readText_120 (by decide) ?_
                        refine aw_cV1r hC hSt (t_X4_fail G l hM _) w_417 w_432 w_433 w_434 w_351 rfl rfl (by decide +kernel) ⟨Nat.le_of_ble_eq_true rfl, Nat.le_of_ble_eq_true rfl⟩ (cs_lt 13 4 0 (by decide) hM) (cs_k 13 4 0 (by decide) hM) rfl (Nat.le_of_ble_eq_true rfl) dX4_readText_121 ⟨Nat.zero_le _, Nat.zero_le _⟩ ?_
                        generalize er1047 : f_X4_fail S 13 (1 : Int32) = r1047
                        have hM : CS r1047.2 := CS.of (by rw [← er1047]; exact q_X4_fail _ _ _) hM
                        refine aw_zret hC dX4_readText_124 (Nat.le_refl _) (Nat.le_refl _) (Bz.n (h24 c1001 x1003 ex1003 c1004 c1030 x1032 ex1032 x1033 ex1033 x1036 ex1036 c1037 c1039 c1041 c1042 r1047 er1047)) ?_
                        have E : L_X4_readText_4 (n + 1) S v1 v2 = _ := (if_neg c1001).trans ((bd_eq ex1003).trans ((if_pos c1004).trans ((if_pos c1030).trans ((bd_eq ex1032).trans ((bd_eq ex1033).trans ((bd_eq ex1036).trans ((if_neg c1037).trans ((if_neg c1039).trans ((if_pos c1041).trans ((if_neg c1042).trans ((bd_eq er1047).trans (rfl))))))))))))
                        rw [E] at hr
                        exact hr rfl
                    · refine aw_iload_n hC 3 dX4_readText_110 rfl rfl ?_
                      refine aw_if_eq hC 119 dX4_readText_111 (by decide) (fun c1048 => ?_) (fun c1048 => ?_)
                      · refine aw_aload_n hC 4 dX4_readText_119 rfl rfl ?_
                        refine aw_iconst (v := 1) hC dX4_readText_120 (by decide) ?_
                        refine aw_cV1r hC hSt (t_X4_fail G l hM _) w_417 w_432 w_433 w_434 w_351 rfl rfl (by decide +kernel) ⟨Nat.le_of_ble_eq_true rfl, Nat.le_of_ble_eq_true rfl⟩ (cs_lt 13 4 0 (by decide) hM) (cs_k 13 4 0 (by decide) hM) rfl (Nat.le_of_ble_eq_true rfl) dX4_readText_121 ⟨Nat.zero_le _, Nat.zero_le _⟩ ?_
                        generalize er1049 : f_X4_fail S 13 (1 : Int32) = r1049
                        have hM : CS r1049.2 := CS.of (by rw [← er1049]; exact q_X4_fail _ _ _) hM
                        refine aw_zret hC dX4_readText_124 (Nat.le_refl _) (Nat.le_refl _) (Bz.n (h25 c1001 x1003 ex1003 c1004 c1030 x1032 ex1032 x1033 ex1033 x1036 ex1036 c1037 c1039 c1041 c1048 r1049 er1049)) ?_
                        have E : L_X4_readText_4 (n + 1) S v1 v2 = _ := (if_neg c1001).trans ((bd_eq ex1003).trans ((if_pos c1004).trans ((if_pos c1030).trans ((bd_eq ex1032).trans ((bd_eq ex1033).trans ((bd_eq ex1036).trans ((if_neg c1037).trans ((if_neg c1039).trans ((if_neg c1041).trans ((if_pos c1048).trans ((bd_eq er1049).trans (rfl))))))))))))
                        rw [E] at hr
                        exact hr rfl
                      · refine aw_iload hC 0 dX4_readText_114 rfl ?_
                        refine aw_if_eq hC 125 dX4_readText_116 (by decide) (fun c1050 => ?_) (fun c1050 => ?_)
                        · refine aw_aload_n hC 4 dX4_readText_125 rfl rfl ?_
                          refine aw_getP (b := 15) hC hSt 1 (cs_lt 13 4 0 (by decide) hM) (cs_k 13 4 0 (by decide) hM) rfl (by decide) w_325 rfl (cs_p 13 1 15 (by decide) hM) dX4_readText_126 ?_
                          refine aw_iload hC 1 dX4_readText_129 rfl ?_
                          refine aw_cV1r hC hSt (t_X10_isFull G l hM _ _ (by decide) (h26 c1001 x1003 ex1003 c1004 c1030 x1032 ex1032 x1033 ex1033 x1036 ex1036 c1037 c1039 c1041 c1048 c1050)) w_416 w_450 w_426 w_427 w_18 rfl rfl (by decide +kernel) ⟨Nat.le_of_ble_eq_true rfl, Nat.le_of_ble_eq_true rfl⟩ (cs_lt 15 10 0 (by decide) hM) (cs_k 15 10 0 (by decide) hM) rfl (Nat.le_of_ble_eq_true rfl) dX4_readText_131 ⟨Nat.zero_le _, Nat.zero_le _⟩ ?_
                          refine aw_if_eq hC 143 dX4_readText_134 (by decide) (fun c1051 => ?_) (fun c1051 => ?_)
                          · refine aw_iload hC 1 dX4_readText_143 rfl ?_
                            refine aw_istore_n hC [(1, .int _), (6, .int _), (5, .int _), (4, .int _), (3, .int _), (0, .ref 13), (2, .int _)] dX4_readText_145 rfl (by decide) rfl ?_
                            refine aw_aload_n hC 5 dX4_readText_146 rfl rfl ?_
                            refine aw_iload hC 3 dX4_readText_147 rfl ?_
                            refine aw_iload hC 2 dX4_readText_149 rfl ?_
                            refine aw_cV2r hC hSt (t_X4_readThing G l hM _ _ (h27 c1001 x1003 ex1003 c1004 c1030 x1032 ex1032 x1033 ex1033 x1036 ex1036 c1037 c1039 c1041 c1048 c1050 c1051)) w_445 w_451 w_452 w_453 w_351 rfl rfl (by decide +kernel) ⟨Nat.le_of_ble_eq_true rfl, Nat.le_of_ble_eq_true rfl⟩ (cs_lt 13 4 0 (by decide) hM) (cs_k 13 4 0 (by decide) hM) rfl (Nat.le_of_ble_eq_true rfl) dX4_readText_151 ⟨Nat.zero_le _, Nat.zero_le _⟩ ?_
                            generalize er1052 : f_X4_readThing S 13 x1032 x1033 = r1052
                            have hM : CS r1052.2 := CS.of (by rw [← er1052]; exact q_X4_readThing _ _ _ _) hM
                            refine aw_if_ne hC 159 dX4_readText_154 (by decide) (fun c1053 => ?_) (fun c1053 => ?_)
                            · refine aw_iinc (v := (v2 + (1 : Int32))) hC 6 [(2, .int _), (1, .int _), (6, .int _), (5, .int _), (4, .int _), (3, .int _), (0, .ref 13)] dX4_readText_159 rfl rfl (by decide) rfl ?_
                              refine aw_goto hC 4 dX4_readText_162 (by decide) ?_
                              refine aw_sub [6, 1, 0] rfl ?_
                              have hTn := (h28 c1001 x1003 ex1003 c1004 c1030 x1032 ex1032 x1033 ex1033 x1036 ex1036 c1037 c1039 c1041 c1048 c1050 c1051 r1052 er1052 c1053)
                              have hMn : CS r1052.2 := hM
                              have E : L_X4_readText_4 (n + 1) S v1 v2 = _ := (if_neg c1001).trans ((bd_eq ex1003).trans ((if_pos c1004).trans ((if_pos c1030).trans ((bd_eq ex1032).trans ((bd_eq ex1033).trans ((bd_eq ex1036).trans ((if_neg c1037).trans ((if_neg c1039).trans ((if_neg c1041).trans ((if_neg c1048).trans ((if_pos c1050).trans ((if_pos c1051).trans ((bd_eq er1052).trans ((if_neg c1053).trans (rfl)))))))))))))))
                              rw [E] at hk hr
                              exact ih _ _ _ hMn hTn hr hk
                            · refine aw_iconst (v := 0) hC dX4_readText_157 (by decide) ?_
                              refine aw_zret hC dX4_readText_158 (Nat.le_refl _) (Nat.le_refl _) (by decide) ?_
                              have E : L_X4_readText_4 (n + 1) S v1 v2 = _ := (if_neg c1001).trans ((bd_eq ex1003).trans ((if_pos c1004).trans ((if_pos c1030).trans ((bd_eq ex1032).trans ((bd_eq ex1033).trans ((bd_eq ex1036).trans ((if_neg c1037).trans ((if_neg c1039).trans ((if_neg c1041).trans ((if_neg c1048).trans ((if_pos c1050).trans ((if_pos c1051).trans ((bd_eq er1052).trans ((if_pos c1053).trans (rfl)))))))))))))))
                              rw [E] at hr
                              exact hr rfl
                          · refine aw_aload_n hC 4 dX4_readText_137 rfl rfl ?_
                            refine aw_iconst (v := 3) hC dX4_readText_138 (by decide) ?_
                            refine aw_cV1r hC hSt (t_X4_fail G l hM _) w_417 w_432 w_433 w_434 w_351 rfl rfl (by decide +kernel) ⟨Nat.le_of_ble_eq_true rfl, Nat.le_of_ble_eq_true rfl⟩ (cs_lt 13 4 0 (by decide) hM) (cs_k 13 4 0 (by decide) hM) rfl (Nat.le_of_ble_eq_true rfl) dX4_readText_139 ⟨Nat.zero_le _, Nat.zero_le _⟩ ?_
                            generalize er1054 : f_X4_fail S 13 (3 : Int32) = r1054
                            have hM : CS r1054.2 := CS.of (by rw [← er1054]; exact q_X4_fail _ _ _) hM
                            refine aw_zret hC dX4_readText_142 (Nat.le_refl _) (Nat.le_refl _) (Bz.n (h29 c1001 x1003 ex1003 c1004 c1030 x1032 ex1032 x1033 ex1033 x1036 ex1036 c1037 c1039 c1041 c1048 c1050 c1051 r1054 er1054)) ?_
                            have E : L_X4_readText_4 (n + 1) S v1 v2 = _ := (if_neg c1001).trans ((bd_eq ex1003).trans ((if_pos c1004).trans ((if_pos c1030).trans ((bd_eq ex1032).trans ((bd_eq ex1033).trans ((bd_eq ex1036).trans ((if_neg c1037).trans ((if_neg c1039).trans ((if_neg c1041).trans ((if_neg c1048).trans ((if_pos c1050).trans ((if_neg c1051).trans ((bd_eq er1054).trans (rfl))))))))))))))
                            rw [E] at hr
                            exact hr rfl
                        · refine aw_aload_n hC 4 dX4_readText_119 rfl rfl ?_
                          refine aw_iconst (v := 1) hC dX4_readText_120 (by decide) ?_
                          refine aw_cV1r hC hSt (t_X4_fail G l hM _) w_417 w_432 w_433 w_434 w_351 rfl rfl (by decide +kernel) ⟨Nat.le_of_ble_eq_true rfl, Nat.le_of_ble_eq_true rfl⟩ (cs_lt 13 4 0 (by decide) hM) (cs_k 13 4 0 (by decide) hM) rfl (Nat.le_of_ble_eq_true rfl) dX4_readText_121 ⟨Nat.zero_le _, Nat.zero_le _⟩ ?_
                          generalize er1055 : f_X4_fail S 13 (1 : Int32) = r1055
                          have hM : CS r1055.2 := CS.of (by rw [← er1055]; exact q_X4_fail _ _ _) hM
                          refine aw_zret hC dX4_readText_124 (Nat.le_refl _) (Nat.le_refl _) (Bz.n (h30 c1001 x1003 ex1003 c1004 c1030 x1032 ex1032 x1033 ex1033 x1036 ex1036 c1037 c1039 c1041 c1048 c1050 r1055 er1055)) ?_
                          have E : L_X4_readText_4 (n + 1) S v1 v2 = _ := (if_neg c1001).trans ((bd_eq ex1003).trans ((if_pos c1004).trans ((if_pos c1030).trans ((bd_eq ex1032).trans ((bd_eq ex1033).trans ((bd_eq ex1036).trans ((if_neg c1037).trans ((if_neg c1039).trans ((if_neg c1041).trans ((if_neg c1048).trans ((if_neg c1050).trans ((bd_eq er1055).trans (rfl)))))))))))))
                          rw [E] at hr
                          exact hr rfl
              · refine aw_icmp_ne hC 89 dX4_readText_71 (by decide) (fun c1034 => ?_) (fun c1034 => ?_)
                · refine aw_iconst (v := 0) hC dX4_readText_89 (by decide) ?_
                  simp only [bd_def, if_neg c1034] at Jc1034 ⊢
                  exact Jc1034
                · refine aw_aload_n hC 3 dX4_readText_74 rfl rfl ?_
                  refine aw_getP (b := 15) hC hSt 1 (cs_lt 13 4 0 (by decide) hM) (cs_k 13 4 0 (by decide) hM) rfl (by decide) w_325 rfl (cs_p 13 1 15 (by decide) hM) dX4_readText_75 ?_
                  refine aw_iconst (v := 4) hC dX4_readText_78 (by decide) ?_
                  refine aw_cV1r hC hSt (t_X10_isFull G l hM _ _ (by decide) (h17 c1001 x1003 ex1003 c1004 c1030 x1032 ex1032 x1033 ex1033 c1034)) w_416 w_450 w_426 w_427 w_18 rfl rfl (by decide +kernel) ⟨Nat.le_of_ble_eq_true rfl, Nat.le_of_ble_eq_true rfl⟩ (cs_lt 15 10 0 (by decide) hM) (cs_k 15 10 0 (by decide) hM) rfl (Nat.le_of_ble_eq_true rfl) dX4_readText_79 ⟨Nat.zero_le _, Nat.zero_le _⟩ ?_
                  refine aw_if_eq hC 89 dX4_readText_82 (by decide) (fun c1035 => ?_) (fun c1035 => ?_)
                  · refine aw_iconst (v := 0) hC dX4_readText_89 (by decide) ?_
                    simp only [bd_def, if_pos c1034, if_pos c1035] at Jc1034 ⊢
                    exact Jc1034
                  · refine aw_iconst (v := 1) hC dX4_readText_85 (by decide) ?_
                    refine aw_goto hC 90 dX4_readText_86 (by decide) ?_
                    simp only [bd_def, if_pos c1034, if_neg c1035] at Jc1034 ⊢
                    exact Jc1034
            · refine aw_icmp_ne hC 56 dX4_readText_46 (by decide) (fun c1031 => ?_) (fun c1031 => ?_)
              · refine aw_bipush (v := 10) hC dX4_readText_56 (by decide) ?_
                simp only [bd_def, if_neg c1031] at Jc1031 ⊢
                exact Jc1031
              · refine aw_aload_n hC 1 dX4_readText_49 rfl rfl ?_
                refine aw_cV0r hC hSt (t_X4_wordHere G l hM  (h16 c1001 x1003 ex1003 c1004 c1030 c1031)) w_415 w_447 w_448 w_449 w_351 rfl rfl (by decide +kernel) ⟨Nat.le_of_ble_eq_true rfl, Nat.le_of_ble_eq_true rfl⟩ (cs_lt 13 4 0 (by decide) hM) (cs_k 13 4 0 (by decide) hM) rfl (Nat.le_of_ble_eq_true rfl) dX4_readText_50 ⟨Nat.zero_le _, Nat.zero_le _⟩ ?_
                refine aw_goto hC 58 dX4_readText_53 (by decide) ?_
                simp only [bd_def, if_pos c1031] at Jc1031 ⊢
                exact Jc1031
          · refine aw_iconst (v := 1) hC dX4_readText_39 (by decide) ?_
            refine aw_zret hC dX4_readText_40 (Nat.le_refl _) (Nat.le_refl _) (by decide) ?_
            have E : L_X4_readText_4 (n + 1) S v1 v2 = _ := (if_neg c1001).trans ((bd_eq ex1003).trans ((if_pos c1004).trans ((if_neg c1030).trans (rfl))))
            rw [E] at hr
            exact hr rfl
      · refine aw_if_le hC 26 dX4_readText_19 (by decide) (fun c1002 => ?_) (fun c1002 => ?_)
        · refine aw_iconst (v := 0) hC dX4_readText_26 (by decide) ?_
          simp only [bd_def, if_pos c1002] at Jc1002 ⊢
          exact Jc1002
        · refine aw_iconst (v := 1) hC dX4_readText_22 (by decide) ?_
          refine aw_goto hC 27 dX4_readText_23 (by decide) ?_
          simp only [bd_def, if_neg c1002] at Jc1002 ⊢
          exact Jc1002
noncomputable def f_X4_readText (S : HSt) (_o0 : Nat) : Int32 × HSt := bd (L_X4_readText_4 1000 S (0 : Int32) (0 : Int32)) fun r1 => if r1.1 = 1 then (pr (r1.2.1) (r1.2.2.2.2)) else (pr ((0 : Int32)) (r1.2.2.2.2))
def p_X4_readText (S : HSt) (_o0 : Nat) : Prop := (T_X4_readText_4 1000 S (0 : Int32) (0 : Int32))
set_option maxRecDepth 100000 in
theorem t_X4_readText (G : GG) (l : Launch) {S : HSt} (hM : CS S)   (hp : p_X4_readText S 13) : AM G l yX4_readText cX4_readText 7 (some .boolean) (rmD 6 0 0) 0 0 [.ref 13] S (FP (some (.int (f_X4_readText S 13).1)) ((f_X4_readText S 13).2)) := by
  have h0 := hp
  unfold p_X4_readText at h0
  refine AM.mk (by decide) (Nat.le_of_ble_eq_true rfl) ?_
  intro p e s m below meth c hC hSt _
  refine aw_iconst (v := 0) hC dX4_readText_0 (by decide) ?_
  refine aw_istore_n hC [(1, .int _), (0, .ref 13)] dX4_readText_1 rfl (by decide) rfl ?_
  refine aw_iconst (v := 0) hC dX4_readText_2 (by decide) ?_
  refine aw_istore_n hC [(2, .int _), (1, .int _), (0, .ref 13)] dX4_readText_3 rfl (by decide) rfl ?_
  refine aw_sub [2, 1, 0] rfl ?_
  refine l_X4_readText_4 hC hSt 1000 _ _ _ hM (h0) (fun c2 => ?_) (fun c2 => ?_)
  · revert c2
    generalize er1 : L_X4_readText_4 1000 S (0 : Int32) (0 : Int32) = r1
    intro c2
    exact FP.qI ((bd_eq er1).trans ((if_pos c2).trans (rfl)))
  · revert c2
    generalize er1 : L_X4_readText_4 1000 S (0 : Int32) (0 : Int32) = r1
    have hM : CS r1.2.2.2.2 := CS.of (by rw [← er1]; exact qL_X4_readText_4 _ _ _ _) hM
    intro c2
    refine aw_iconst (v := 0) hC dX4_readText_165 (by decide) ?_
    refine aw_zret hC dX4_readText_166 (Nat.le_refl _) (Nat.le_refl _) (by decide) ?_
    exact FP.qI ((bd_eq er1).trans ((if_neg c2).trans (rfl)))
theorem q_X4_readText (S : HSt) (_o0 : Nat) : shp ((f_X4_readText S _o0).2) = shp S := by
  unfold f_X4_readText
  repeat' (first | with_reducible refine shpr1 ?_ | with_reducible rfl | with_reducible refine (q_X4_fail _ _ _).trans ?_ | with_reducible refine (q_X4_readThing _ _ _ _).trans ?_ | with_reducible refine (qL_X4_readText_4 _ _ _ _).trans ?_ | with_reducible refine (shp_sI _ _ _ _).trans ?_ | with_reducible refine (shp_sJ _ _ _ _).trans ?_ | with_reducible refine (shp_rI _ _ _).trans ?_ | with_reducible refine shi ?_ ?_ | with_reducible refine shb (fun _ _ => ?_) | with_reducible refine shiP (fun q : Int32 × HSt => q.2) ?_ ?_ | with_reducible refine shbP (fun q : Int32 × HSt => q.2) (fun _ _ => ?_) | (subst_vars; with_reducible rfl) | (subst_vars; with_reducible refine (q_X4_fail _ _ _).trans ?_) | (subst_vars; with_reducible refine (q_X4_readThing _ _ _ _).trans ?_) | (subst_vars; with_reducible refine (qL_X4_readText_4 _ _ _ _).trans ?_) | (subst_vars; with_reducible refine (shp_sI _ _ _ _).trans ?_) | (subst_vars; with_reducible refine (shp_sJ _ _ _ _).trans ?_) | (subst_vars; with_reducible refine (shp_rI _ _ _).trans ?_) | (subst_vars; with_reducible refine shi ?_ ?_) | (subst_vars; with_reducible refine shb (fun _ _ => ?_)))
noncomputable def f_X4_read (S : HSt) (_o0 : Nat) : Int32 × HSt := bd (f_X10_clear S 15) fun r1 => bd ((sI r1 13 5 (0 : Int32))) fun S2 => bd (f_X4_next S2 13) fun r3 => bd (f_X4_readText r3 13) fun r4 => bd (r4.1) fun x5 => bd ((sI r4.2 13 2 (0 : Int32))) fun S6 => pr (x5) (S6)
def p_X4_read (S : HSt) (_o0 : Nat) : Prop := (p_X10_clear S 15) ∧ (∀ r1, f_X10_clear S 15 = r1 → ∀ S2 : HSt, (sI r1 13 5 (0 : Int32)) = S2 → p_X4_next S2 13) ∧ (∀ r1, f_X10_clear S 15 = r1 → ∀ S2 : HSt, (sI r1 13 5 (0 : Int32)) = S2 → ∀ r3, f_X4_next S2 13 = r3 → p_X4_readText r3 13) ∧ (∀ r1, f_X10_clear S 15 = r1 → ∀ S2 : HSt, (sI r1 13 5 (0 : Int32)) = S2 → ∀ r3, f_X4_next S2 13 = r3 → ∀ r4, f_X4_readText r3 13 = r4 → ∀ x5 : Int32, r4.1 = x5 → ∀ S6 : HSt, (sI r4.2 13 2 (0 : Int32)) = S6 → Bz x5)
set_option maxRecDepth 100000 in
theorem t_X4_read (G : GG) (l : Launch) {S : HSt} (hM : CS S)   (hp : p_X4_read S 13) : AM G l yX4_read cX4_read 2 (some .boolean) (rmD 7 0 0) 0 0 [.ref 13] S (FP (some (.int (f_X4_read S 13).1)) ((f_X4_read S 13).2)) := by
  obtain ⟨h0, h1, h2, h3⟩ := hp
  refine AM.mk (by decide) (Nat.le_of_ble_eq_true rfl) ?_
  intro p e s m below meth c hC hSt _
  refine aw_aload_n hC 0 dX4_read_0 rfl rfl ?_
  refine aw_getP (b := 15) hC hSt 1 (cs_lt 13 4 0 (by decide) hM) (cs_k 13 4 0 (by decide) hM) rfl (by decide) w_325 rfl (cs_p 13 1 15 (by decide) hM) dX4_read_1 ?_
  refine aw_cV0v hC hSt (t_X10_clear G l hM _ (by decide) (h0)) w_336 w_455 w_456 w_457 w_18 rfl rfl (by decide +kernel) ⟨Nat.le_of_ble_eq_true rfl, Nat.le_of_ble_eq_true rfl⟩ (cs_lt 15 10 0 (by decide) hM) (cs_k 15 10 0 (by decide) hM) rfl (Nat.le_of_ble_eq_true rfl) dX4_read_4 ⟨Nat.zero_le _, Nat.zero_le _⟩ ?_
  generalize er1 : f_X10_clear S 15 = r1
  have hM : CS r1 := CS.of (by rw [← er1]; exact q_X10_clear _ _) hM
  refine aw_aload_n hC 0 dX4_read_7 rfl rfl ?_
  refine aw_iconst (v := 0) hC dX4_read_8 (by decide) ?_
  refine aw_putI hC hSt 5 (cs_lt 13 4 0 (by decide) hM) (cs_k 13 4 0 (by decide) hM) rfl (by decide) w_345 rfl rfl rfl rfl dX4_read_9 ?_
  generalize eS2 : (sI r1 13 5 (0 : Int32)) = S2
  have hM : CS S2 := CS.of (by rw [← eS2]; exact shp_sI _ _ _ _) hM
  refine aw_aload_n hC 0 dX4_read_12 rfl rfl ?_
  refine aw_cV0v hC hSt (t_X4_next G l hM  (h1 r1 er1 S2 eS2)) w_352 w_429 w_430 w_431 w_351 rfl rfl (by decide +kernel) ⟨Nat.le_of_ble_eq_true rfl, Nat.le_of_ble_eq_true rfl⟩ (cs_lt 13 4 0 (by decide) hM) (cs_k 13 4 0 (by decide) hM) rfl (Nat.le_of_ble_eq_true rfl) dX4_read_13 ⟨Nat.zero_le _, Nat.zero_le _⟩ ?_
  generalize er3 : f_X4_next S2 13 = r3
  have hM : CS r3 := CS.of (by rw [← er3]; exact q_X4_next _ _) hM
  refine aw_aload_n hC 0 dX4_read_16 rfl rfl ?_
  refine aw_cV0r hC hSt (t_X4_readText G l hM  (h2 r1 er1 S2 eS2 r3 er3)) w_454 w_458 w_459 w_460 w_351 rfl rfl (by decide +kernel) ⟨Nat.le_of_ble_eq_true rfl, Nat.le_of_ble_eq_true rfl⟩ (cs_lt 13 4 0 (by decide) hM) (cs_k 13 4 0 (by decide) hM) rfl (Nat.le_of_ble_eq_true rfl) dX4_read_17 ⟨Nat.zero_le _, Nat.zero_le _⟩ ?_
  generalize er4 : f_X4_readText r3 13 = r4
  have hM : CS r4.2 := CS.of (by rw [← er4]; exact q_X4_readText _ _) hM
  refine aw_istore_n hC [(1, .int _), (0, .ref 13)] dX4_read_20 rfl (by decide) rfl ?_
  generalize ex5 : r4.1 = x5
  refine aw_aload_n hC 1 dX4_read_21 rfl rfl ?_
  refine aw_iconst (v := 0) hC dX4_read_22 (by decide) ?_
  refine aw_putI hC hSt 2 (cs_lt 13 4 0 (by decide) hM) (cs_k 13 4 0 (by decide) hM) rfl (by decide) w_328 rfl rfl rfl rfl dX4_read_23 ?_
  generalize eS6 : (sI r4.2 13 2 (0 : Int32)) = S6
  have hM : CS S6 := CS.of (by rw [← eS6]; exact shp_sI _ _ _ _) hM
  refine aw_iload_n hC 0 dX4_read_26 rfl rfl ?_
  refine aw_zret hC dX4_read_27 (Nat.le_refl _) (Nat.le_refl _) (Bz.n (h3 r1 er1 S2 eS2 r3 er3 r4 er4 x5 ex5 S6 eS6)) ?_
  exact FP.qI ((bd_eq er1).trans ((bd_eq eS2).trans ((bd_eq er3).trans ((bd_eq er4).trans ((bd_eq ex5).trans ((bd_eq eS6).trans (rfl)))))))
theorem q_X4_read (S : HSt) (_o0 : Nat) : shp ((f_X4_read S _o0).2) = shp S := by
  unfold f_X4_read
  repeat' (first | with_reducible refine shpr1 ?_ | with_reducible rfl | with_reducible refine (q_X10_clear _ _).trans ?_ | with_reducible refine (q_X4_next _ _).trans ?_ | with_reducible refine (q_X4_readText _ _).trans ?_ | with_reducible refine (shp_sI _ _ _ _).trans ?_ | with_reducible refine (shp_sJ _ _ _ _).trans ?_ | with_reducible refine (shp_rI _ _ _).trans ?_ | with_reducible refine shi ?_ ?_ | with_reducible refine shb (fun _ _ => ?_) | with_reducible refine shiP (fun q : Int32 × HSt => q.2) ?_ ?_ | with_reducible refine shbP (fun q : Int32 × HSt => q.2) (fun _ _ => ?_) | (subst_vars; with_reducible rfl) | (subst_vars; with_reducible refine (q_X10_clear _ _).trans ?_) | (subst_vars; with_reducible refine (q_X4_next _ _).trans ?_) | (subst_vars; with_reducible refine (q_X4_readText _ _).trans ?_) | (subst_vars; with_reducible refine (shp_sI _ _ _ _).trans ?_) | (subst_vars; with_reducible refine (shp_sJ _ _ _ _).trans ?_) | (subst_vars; with_reducible refine (shp_rI _ _ _).trans ?_) | (subst_vars; with_reducible refine shi ?_ ?_) | (subst_vars; with_reducible refine shb (fun _ _ => ?_)))
noncomputable def F_X8_placeOf (S : HSt) (a1 : Int32) (a2 : Int32) : Int32 × HSt := pr (((a1 * (6 : Int32)) + a2)) (S)
noncomputable def f_X8_placeOf (S : HSt) (a1 : Int32) (a2 : Int32) : Int32 := (F_X8_placeOf S a1 a2).1
set_option maxRecDepth 100000 in
theorem t_X8_placeOf (G : GG) (l : Launch) {S : HSt} (a1 : Int32) (a2 : Int32)   : AM G l yX8_placeOf cX8_placeOf 2 (some .int) (rmD 0 0 0) 0 0 [.int a1, .int a2] S (FP (some (.int (f_X8_placeOf S a1 a2))) (S)) := by
  refine AM.mk (by decide) (Nat.le_of_ble_eq_true rfl) ?_
  intro p e s m below meth c hC hSt _
  refine aw_iload_n hC 0 dX8_placeOf_0 rfl rfl ?_
  refine aw_bipush (v := 6) hC dX8_placeOf_1 (by decide) ?_
  refine aw_imul hC dX8_placeOf_3 ?_
  refine aw_iload_n hC 1 dX8_placeOf_4 rfl rfl ?_
  refine aw_iadd hC dX8_placeOf_5 ?_
  refine aw_iret hC dX8_placeOf_6 (Nat.le_refl _) (Nat.le_refl _) ?_
  exact FP.pI (rfl)
noncomputable def F_X8_showLength (S : HSt) (_o0 : Nat) : Int32 × HSt := pr ((gI S 38 4)) (S)
noncomputable def f_X8_showLength (S : HSt) (_o0 : Nat) : Int32 := (F_X8_showLength S _o0).1
set_option maxRecDepth 100000 in
theorem t_X8_showLength (G : GG) (l : Launch) {S : HSt} (hM : CS S)    : AM G l yX8_showLength cX8_showLength 1 (some .int) (rmD 0 0 0) 0 0 [.ref 38] S (FP (some (.int (f_X8_showLength S 38))) (S)) := by
  refine AM.mk (by decide) (Nat.le_of_ble_eq_true rfl) ?_
  intro p e s m below meth c hC hSt _
  refine aw_aload_n hC 0 dX8_showLength_0 rfl rfl ?_
  refine aw_getI hC hSt 4 (cs_lt 38 8 0 (by decide) hM) (cs_k 38 8 0 (by decide) hM) rfl (by decide) w_633 rfl dX8_showLength_1 ?_
  refine aw_iret hC dX8_showLength_4 (Nat.le_refl _) (Nat.le_refl _) ?_
  exact FP.pI (rfl)
noncomputable def F_X8_formAt (S : HSt) (_o0 : Nat) (a1 : Int32) : Int32 × HSt := bd ((if a1 < 0 then (-1000000 : Int32) else (if (gI S 38 4) ≤ a1 then (-1000000 : Int32) else (gI S 40 a1.toNatClampNeg)))) fun x3 => pr (x3) (S)
noncomputable def f_X8_formAt (S : HSt) (_o0 : Nat) (a1 : Int32) : Int32 := (F_X8_formAt S _o0 a1).1
def p_X8_formAt (S : HSt) (_o0 : Nat) (a1 : Int32) : Prop := ((¬ a1 < 0) → (¬ (gI S 38 4) ≤ a1) → vp_in a1 6)
set_option maxRecDepth 100000 in
theorem t_X8_formAt (G : GG) (l : Launch) {S : HSt} (hM : CS S) (a1 : Int32)  (hp : p_X8_formAt S 38 a1) : AM G l yX8_formAt cX8_formAt 2 (some .int) (rmD 0 0 0) 0 0 [.ref 38, .int a1] S (FP (some (.int (f_X8_formAt S 38 a1))) (S)) := by
  have h0 := hp
  unfold p_X8_formAt at h0
  refine AM.mk (by decide) (Nat.le_of_ble_eq_true rfl) ?_
  intro p e s m below meth c hC hSt _
  refine aw_iload_n hC 1 dX8_formAt_0 rfl rfl ?_
  refine aw_cut (S' := S) (pc' := 23) (lv' := [(0, .ref 38), (1, .int a1)]) (st' := [.int (if a1 < 0 then (-1000000 : Int32) else (if (gI S 38 4) ≤ a1 then (-1000000 : Int32) else (gI S 40 a1.toNatClampNeg)))]) ?_ (fun Jc1 => ?_)
  · generalize ex3 : (if a1 < 0 then (-1000000 : Int32) else (if (gI S 38 4) ≤ a1 then (-1000000 : Int32) else (gI S 40 a1.toNatClampNeg))) = x3
    refine aw_iret hC dX8_formAt_23 (Nat.le_refl _) (Nat.le_refl _) ?_
    exact FP.pI ((bd_eq ex3).trans (rfl))
  · refine aw_if_lt hC 21 dX8_formAt_1 (by decide) (fun c1 => ?_) (fun c1 => ?_)
    · refine aw_ldc (v := -1000000) hC w_626 dX8_formAt_21 ?_
      simp only [bd_def, if_pos c1] at Jc1 ⊢
      exact Jc1
    · refine aw_iload_n hC 1 dX8_formAt_4 rfl rfl ?_
      refine aw_aload_n hC 0 dX8_formAt_5 rfl rfl ?_
      refine aw_getI hC hSt 4 (cs_lt 38 8 0 (by decide) hM) (cs_k 38 8 0 (by decide) hM) rfl (by decide) w_633 rfl dX8_formAt_6 ?_
      refine aw_icmp_ge hC 21 dX8_formAt_9 (by decide) (fun c2 => ?_) (fun c2 => ?_)
      · refine aw_ldc (v := -1000000) hC w_626 dX8_formAt_21 ?_
        simp only [bd_def, if_neg c1, if_pos c2] at Jc1 ⊢
        exact Jc1
      · refine aw_aload_n hC 0 dX8_formAt_12 rfl rfl ?_
        refine aw_getP (b := 40) hC hSt 1 (cs_lt 38 8 0 (by decide) hM) (cs_k 38 8 0 (by decide) hM) rfl (by decide) w_615 rfl (cs_p 38 1 40 (by decide) hM) dX8_formAt_13 ?_
        refine aw_iload_n hC 1 dX8_formAt_16 rfl rfl ?_
        refine aw_iald hC hSt (cs_lt 40 14 6 (by decide) hM) (cs_k 40 14 6 (by decide) hM) (vp_len (n := 6) (cs_l 40 14 6 (by decide) hM) (h0 c1 c2)) dX8_formAt_17 ?_
        refine aw_goto hC 23 dX8_formAt_18 (by decide) ?_
        simp only [bd_def, if_neg c1, if_neg c2] at Jc1 ⊢
        exact Jc1
noncomputable def F_X8_areNear (S : HSt) (w1 : Nat) (a2 : Int32) (a3 : Int32) (a4 : Int32) (a5 : Int32) : Int32 × HSt := bd ((f_X10_value S w1 (3 : Int32) a2 a4)) fun x1 => bd ((f_X10_value S w1 (3 : Int32) a2 (a4 + (1 : Int32)))) fun x2 => bd ((f_X10_value S w1 (3 : Int32) a3 a4)) fun x3 => bd ((f_X10_value S w1 (3 : Int32) a3 (a4 + (1 : Int32)))) fun x4 => bd ((if a5 < (x3 - x2) then (0 : Int32) else (if a5 < (x1 - x4) then (0 : Int32) else (1 : Int32)))) fun x7 => pr (x7) (S)
noncomputable def f_X8_areNear (S : HSt) (w1 : Nat) (a2 : Int32) (a3 : Int32) (a4 : Int32) (a5 : Int32) : Int32 := (F_X8_areNear S w1 a2 a3 a4 a5).1
def p_X8_areNear (S : HSt) (w1 : Nat) (a2 : Int32) (a3 : Int32) (a4 : Int32) (a5 : Int32) : Prop := (p_X10_value S w1 (3 : Int32) a2 a4) ∧ (∀ x1 : Int32, (f_X10_value S w1 (3 : Int32) a2 a4) = x1 → p_X10_value S w1 (3 : Int32) a2 (a4 + (1 : Int32))) ∧ (∀ x1 : Int32, (f_X10_value S w1 (3 : Int32) a2 a4) = x1 → ∀ x2 : Int32, (f_X10_value S w1 (3 : Int32) a2 (a4 + (1 : Int32))) = x2 → p_X10_value S w1 (3 : Int32) a3 a4) ∧ (∀ x1 : Int32, (f_X10_value S w1 (3 : Int32) a2 a4) = x1 → ∀ x2 : Int32, (f_X10_value S w1 (3 : Int32) a2 (a4 + (1 : Int32))) = x2 → ∀ x3 : Int32, (f_X10_value S w1 (3 : Int32) a3 a4) = x3 → p_X10_value S w1 (3 : Int32) a3 (a4 + (1 : Int32)))
set_option maxRecDepth 100000 in
theorem t_X8_areNear (G : GG) (l : Launch) {S : HSt} (hM : CS S) (w1 : Nat) (a2 : Int32) (a3 : Int32) (a4 : Int32) (a5 : Int32) (hw1 : (w1, 10, 0) ∈ cKT) (hp : p_X8_areNear S w1 a2 a3 a4 a5) : AM G l yX8_areNear cX8_areNear 9 (some .boolean) (rmD 1 0 0) 0 0 [.ref w1, .int a2, .int a3, .int a4, .int a5] S (FP (some (.int (f_X8_areNear S w1 a2 a3 a4 a5))) (S)) := by
  obtain ⟨h0, h1, h2, h3⟩ := hp
  refine AM.mk (by decide) (Nat.le_of_ble_eq_true rfl) ?_
  intro p e s m below meth c hC hSt _
  refine aw_aload_n hC 0 dX8_areNear_0 rfl rfl ?_
  refine aw_iconst (v := 3) hC dX8_areNear_1 (by decide) ?_
  refine aw_iload_n hC 1 dX8_areNear_2 rfl rfl ?_
  refine aw_iload_n hC 3 dX8_areNear_3 rfl rfl ?_
  refine aw_cV3r hC hSt (t_X10_value G l hM _ _ _ _ hw1 (h0)) w_10 w_621 w_16 w_17 w_18 rfl rfl (by decide +kernel) ⟨Nat.le_of_ble_eq_true rfl, Nat.le_of_ble_eq_true rfl⟩ (cs_lt w1 10 0 hw1 hM) (cs_k w1 10 0 hw1 hM) rfl (Nat.le_of_ble_eq_true rfl) dX8_areNear_4 ⟨Nat.zero_le _, Nat.zero_le _⟩ ?_
  refine aw_istore hC [(5, .int _), (0, .ref w1), (1, .int _), (2, .int _), (3, .int _), (4, .int _)] dX8_areNear_7 (by decide) rfl ?_
  generalize ex1 : (f_X10_value S w1 (3 : Int32) a2 a4) = x1
  refine aw_aload_n hC 1 dX8_areNear_9 rfl rfl ?_
  refine aw_iconst (v := 3) hC dX8_areNear_10 (by decide) ?_
  refine aw_iload_n hC 2 dX8_areNear_11 rfl rfl ?_
  refine aw_iload_n hC 4 dX8_areNear_12 rfl rfl ?_
  refine aw_iconst (v := 1) hC dX8_areNear_13 (by decide) ?_
  refine aw_iadd hC dX8_areNear_14 ?_
  refine aw_cV3r hC hSt (t_X10_value G l hM _ _ _ _ hw1 (h1 x1 ex1)) w_10 w_621 w_16 w_17 w_18 rfl rfl (by decide +kernel) ⟨Nat.le_of_ble_eq_true rfl, Nat.le_of_ble_eq_true rfl⟩ (cs_lt w1 10 0 hw1 hM) (cs_k w1 10 0 hw1 hM) rfl (Nat.le_of_ble_eq_true rfl) dX8_areNear_15 ⟨Nat.zero_le _, Nat.zero_le _⟩ ?_
  refine aw_istore hC [(6, .int _), (5, .int _), (0, .ref w1), (1, .int _), (2, .int _), (3, .int _), (4, .int _)] dX8_areNear_18 (by decide) rfl ?_
  generalize ex2 : (f_X10_value S w1 (3 : Int32) a2 (a4 + (1 : Int32))) = x2
  refine aw_aload_n hC 2 dX8_areNear_20 rfl rfl ?_
  refine aw_iconst (v := 3) hC dX8_areNear_21 (by decide) ?_
  refine aw_iload_n hC 4 dX8_areNear_22 rfl rfl ?_
  refine aw_iload_n hC 5 dX8_areNear_23 rfl rfl ?_
  refine aw_cV3r hC hSt (t_X10_value G l hM _ _ _ _ hw1 (h2 x1 ex1 x2 ex2)) w_10 w_621 w_16 w_17 w_18 rfl rfl (by decide +kernel) ⟨Nat.le_of_ble_eq_true rfl, Nat.le_of_ble_eq_true rfl⟩ (cs_lt w1 10 0 hw1 hM) (cs_k w1 10 0 hw1 hM) rfl (Nat.le_of_ble_eq_true rfl) dX8_areNear_24 ⟨Nat.zero_le _, Nat.zero_le _⟩ ?_
  refine aw_istore hC [(7, .int _), (6, .int _), (5, .int _), (0, .ref w1), (1, .int _), (2, .int _), (3, .int _), (4, .int _)] dX8_areNear_27 (by decide) rfl ?_
  generalize ex3 : (f_X10_value S w1 (3 : Int32) a3 a4) = x3
  refine aw_aload_n hC 3 dX8_areNear_29 rfl rfl ?_
  refine aw_iconst (v := 3) hC dX8_areNear_30 (by decide) ?_
  refine aw_iload_n hC 5 dX8_areNear_31 rfl rfl ?_
  refine aw_iload_n hC 6 dX8_areNear_32 rfl rfl ?_
  refine aw_iconst (v := 1) hC dX8_areNear_33 (by decide) ?_
  refine aw_iadd hC dX8_areNear_34 ?_
  refine aw_cV3r hC hSt (t_X10_value G l hM _ _ _ _ hw1 (h3 x1 ex1 x2 ex2 x3 ex3)) w_10 w_621 w_16 w_17 w_18 rfl rfl (by decide +kernel) ⟨Nat.le_of_ble_eq_true rfl, Nat.le_of_ble_eq_true rfl⟩ (cs_lt w1 10 0 hw1 hM) (cs_k w1 10 0 hw1 hM) rfl (Nat.le_of_ble_eq_true rfl) dX8_areNear_35 ⟨Nat.zero_le _, Nat.zero_le _⟩ ?_
  refine aw_istore hC [(8, .int _), (7, .int _), (6, .int _), (5, .int _), (0, .ref w1), (1, .int _), (2, .int _), (3, .int _), (4, .int _)] dX8_areNear_38 (by decide) rfl ?_
  generalize ex4 : (f_X10_value S w1 (3 : Int32) a3 (a4 + (1 : Int32))) = x4
  refine aw_iload hC 1 dX8_areNear_40 rfl ?_
  refine aw_iload hC 2 dX8_areNear_42 rfl ?_
  refine aw_isub hC dX8_areNear_44 ?_
  refine aw_iload hC 8 dX8_areNear_45 rfl ?_
  refine aw_cut (S' := S) (pc' := 65) (lv' := [(8, .int x4), (7, .int x3), (6, .int x2), (5, .int x1), (0, .ref w1), (1, .int a2), (2, .int a3), (3, .int a4), (4, .int a5)]) (st' := [.int (if a5 < (x3 - x2) then (0 : Int32) else (if a5 < (x1 - x4) then (0 : Int32) else (1 : Int32)))]) ?_ (fun Jc5 => ?_)
  · generalize ex7 : (if a5 < (x3 - x2) then (0 : Int32) else (if a5 < (x1 - x4) then (0 : Int32) else (1 : Int32))) = x7
    refine aw_zret hC dX8_areNear_65 (Nat.le_refl _) (Nat.le_refl _) (Bz.n (ex7 ▸ (Bz.ite (Or.inl rfl) (Bz.ite (Or.inl rfl) (Or.inr rfl))))) ?_
    exact FP.pI ((bd_eq ex1).trans ((bd_eq ex2).trans ((bd_eq ex3).trans ((bd_eq ex4).trans ((bd_eq ex7).trans (rfl))))))
  · refine aw_icmp_gt hC 64 dX8_areNear_47 (by decide) (fun c5 => ?_) (fun c5 => ?_)
    · refine aw_iconst (v := 0) hC dX8_areNear_64 (by decide) ?_
      simp only [bd_def, if_pos c5] at Jc5 ⊢
      exact Jc5
    · refine aw_iload hC 3 dX8_areNear_50 rfl ?_
      refine aw_iload hC 0 dX8_areNear_52 rfl ?_
      refine aw_isub hC dX8_areNear_54 ?_
      refine aw_iload hC 8 dX8_areNear_55 rfl ?_
      refine aw_icmp_gt hC 64 dX8_areNear_57 (by decide) (fun c6 => ?_) (fun c6 => ?_)
      · refine aw_iconst (v := 0) hC dX8_areNear_64 (by decide) ?_
        simp only [bd_def, if_neg c5, if_pos c6] at Jc5 ⊢
        exact Jc5
      · refine aw_iconst (v := 1) hC dX8_areNear_60 (by decide) ?_
        refine aw_goto hC 65 dX8_areNear_61 (by decide) ?_
        simp only [bd_def, if_neg c5, if_neg c6] at Jc5 ⊢
        exact Jc5
theorem b_X8_areNear (S : HSt) (w1 : Nat) (a2 : Int32) (a3 : Int32) (a4 : Int32) (a5 : Int32) : Bz (f_X8_areNear S w1 a2 a3 a4 a5) := by
  unfold f_X8_areNear F_X8_areNear
  (try dsimp only [bd])
  (repeat' split) <;> first | exact Or.inl rfl | exact Or.inr rfl
noncomputable def F_X8_goes (S : HSt) (w1 : Nat) (a2 : Int32) (a3 : Int32) : Int32 × HSt := bd ((if (f_X8_areNear S w1 a2 a3 (0 : Int32) (2 : Int32)) = 0 then (0 : Int32) else (if (f_X8_areNear S w1 a2 a3 (2 : Int32) (20 : Int32)) = 0 then (0 : Int32) else (1 : Int32)))) fun x3 => pr (x3) (S)
noncomputable def f_X8_goes (S : HSt) (w1 : Nat) (a2 : Int32) (a3 : Int32) : Int32 := (F_X8_goes S w1 a2 a3).1
def p_X8_goes (S : HSt) (w1 : Nat) (a2 : Int32) (a3 : Int32) : Prop := (p_X8_areNear S w1 a2 a3 (0 : Int32) (2 : Int32)) ∧ ((¬ (f_X8_areNear S w1 a2 a3 (0 : Int32) (2 : Int32)) = 0) → p_X8_areNear S w1 a2 a3 (2 : Int32) (20 : Int32))
set_option maxRecDepth 100000 in
theorem t_X8_goes (G : GG) (l : Launch) {S : HSt} (hM : CS S) (w1 : Nat) (a2 : Int32) (a3 : Int32) (hw1 : (w1, 10, 0) ∈ cKT) (hp : p_X8_goes S w1 a2 a3) : AM G l yX8_goes cX8_goes 3 (some .boolean) (rmD 2 0 0) 0 0 [.ref w1, .int a2, .int a3] S (FP (some (.int (f_X8_goes S w1 a2 a3))) (S)) := by
  obtain ⟨h0, h1⟩ := hp
  refine AM.mk (by decide) (Nat.le_of_ble_eq_true rfl) ?_
  intro p e s m below meth c hC hSt _
  refine aw_aload_n hC 0 dX8_goes_0 rfl rfl ?_
  refine aw_iload_n hC 1 dX8_goes_1 rfl rfl ?_
  refine aw_iload_n hC 2 dX8_goes_2 rfl rfl ?_
  refine aw_iconst (v := 0) hC dX8_goes_3 (by decide) ?_
  refine aw_iconst (v := 2) hC dX8_goes_4 (by decide) ?_
  refine aw_cS5r hC hSt (t_X8_areNear G l hM _ _ _ _ _ hw1 (h0)) w_620 w_623 w_624 w_625 rfl rfl (by decide +kernel) ⟨Nat.le_of_ble_eq_true rfl, Nat.le_of_ble_eq_true rfl⟩ (Nat.le_of_ble_eq_true rfl) dX8_goes_5 ⟨Nat.zero_le _, Nat.zero_le _⟩ ?_
  refine aw_cut (S' := S) (pc' := 28) (lv' := [(0, .ref w1), (1, .int a2), (2, .int a3)]) (st' := [.int (if (f_X8_areNear S w1 a2 a3 (0 : Int32) (2 : Int32)) = 0 then (0 : Int32) else (if (f_X8_areNear S w1 a2 a3 (2 : Int32) (20 : Int32)) = 0 then (0 : Int32) else (1 : Int32)))]) ?_ (fun Jc1 => ?_)
  · generalize ex3 : (if (f_X8_areNear S w1 a2 a3 (0 : Int32) (2 : Int32)) = 0 then (0 : Int32) else (if (f_X8_areNear S w1 a2 a3 (2 : Int32) (20 : Int32)) = 0 then (0 : Int32) else (1 : Int32))) = x3
    refine aw_zret hC dX8_goes_28 (Nat.le_refl _) (Nat.le_refl _) (Bz.n (ex3 ▸ (Bz.ite (Or.inl rfl) (Bz.ite (Or.inl rfl) (Or.inr rfl))))) ?_
    exact FP.pI ((bd_eq ex3).trans (rfl))
  · refine aw_if_eq hC 27 dX8_goes_8 (by decide) (fun c1 => ?_) (fun c1 => ?_)
    · refine aw_iconst (v := 0) hC dX8_goes_27 (by decide) ?_
      simp only [bd_def, if_pos c1] at Jc1 ⊢
      exact Jc1
    · refine aw_aload_n hC 0 dX8_goes_11 rfl rfl ?_
      refine aw_iload_n hC 1 dX8_goes_12 rfl rfl ?_
      refine aw_iload_n hC 2 dX8_goes_13 rfl rfl ?_
      refine aw_iconst (v := 2) hC dX8_goes_14 (by decide) ?_
      refine aw_bipush (v := 20) hC dX8_goes_15 (by decide) ?_
      refine aw_cS5r hC hSt (t_X8_areNear G l hM _ _ _ _ _ hw1 (h1 c1)) w_620 w_623 w_624 w_625 rfl rfl (by decide +kernel) ⟨Nat.le_of_ble_eq_true rfl, Nat.le_of_ble_eq_true rfl⟩ (Nat.le_of_ble_eq_true rfl) dX8_goes_17 ⟨Nat.zero_le _, Nat.zero_le _⟩ ?_
      refine aw_if_eq hC 27 dX8_goes_20 (by decide) (fun c2 => ?_) (fun c2 => ?_)
      · refine aw_iconst (v := 0) hC dX8_goes_27 (by decide) ?_
        simp only [bd_def, if_neg c1, if_pos c2] at Jc1 ⊢
        exact Jc1
      · refine aw_iconst (v := 1) hC dX8_goes_23 (by decide) ?_
        refine aw_goto hC 28 dX8_goes_24 (by decide) ?_
        simp only [bd_def, if_neg c1, if_neg c2] at Jc1 ⊢
        exact Jc1
theorem b_X8_goes (S : HSt) (w1 : Nat) (a2 : Int32) (a3 : Int32) : Bz (f_X8_goes S w1 a2 a3) := by
  unfold f_X8_goes F_X8_goes
  (try dsimp only [bd])
  (repeat' split) <;> first | exact Or.inl rfl | exact Or.inr rfl | exact b_X8_areNear _ _ _ _ _ _
noncomputable def L_X8_nextForm_17 (w1 : Nat) : Nat → HSt → Int32 → Int32 → Int32 → Int32 → Int32 → Int32 → Int32 × Int32 × Int32 × Int32 × Int32 × Int32
  | 0, S, v2, v3, v4, v5, v6, v7 => (v2, v3, v4, v5, v6, v7)
  | n + 1, S, v2, v3, v4, v5, v6, v7 =>
    if v4 ≤ v7 then ((pr (v2) (pr (v3) (pr (v4) (pr (v5) (pr (v6) (v7))))))) else (bd ((if (v2 &&& ((1 : Int32) <<< (v7 &&& 31))) = 0 then (1 : Int32) else (0 : Int32))) fun x1004 => bd ((if x1004 = 0 then (0 : Int32) else (gI S 39 (f_X8_placeOf S (v2 ||| ((1 : Int32) <<< (v7 &&& 31))) v7).toNatClampNeg))) fun x1006 => bd ((if x1006 ≤ v5 then v5 else (if v3 = (-1000000 : Int32) then x1006 else (if (f_X8_goes S w1 v3 v7) = 0 then v5 else x1006)))) fun x1010 => bd ((if x1006 ≤ v5 then v6 else (if v3 = (-1000000 : Int32) then v7 else (if (f_X8_goes S w1 v3 v7) = 0 then v6 else v7)))) fun x1011 => L_X8_nextForm_17 w1 n S v2 v3 v4 x1010 x1011 (v7 + (1 : Int32)))
def T_X8_nextForm_17 (w1 : Nat) : Nat → HSt → Int32 → Int32 → Int32 → Int32 → Int32 → Int32 → Prop
  | 0, _, _, _, _, _, _, _ => False
  | n + 1, S, v2, v3, v4, v5, v6, v7 => ((¬ v4 ≤ v7) → ∀ x1004 : Int32, (if (v2 &&& ((1 : Int32) <<< (v7 &&& 31))) = 0 then (1 : Int32) else (0 : Int32)) = x1004 → (¬ x1004 = 0) → vp_in (f_X8_placeOf S (v2 ||| ((1 : Int32) <<< (v7 &&& 31))) v7) 384) ∧ ((¬ v4 ≤ v7) → ∀ x1004 : Int32, (if (v2 &&& ((1 : Int32) <<< (v7 &&& 31))) = 0 then (1 : Int32) else (0 : Int32)) = x1004 → ∀ x1006 : Int32, (if x1004 = 0 then (0 : Int32) else (gI S 39 (f_X8_placeOf S (v2 ||| ((1 : Int32) <<< (v7 &&& 31))) v7).toNatClampNeg)) = x1006 → (¬ x1006 ≤ v5) → (¬ v3 = (-1000000 : Int32)) → p_X8_goes S w1 v3 v7) ∧ ((¬ v4 ≤ v7) → ∀ x1004 : Int32, (if (v2 &&& ((1 : Int32) <<< (v7 &&& 31))) = 0 then (1 : Int32) else (0 : Int32)) = x1004 → ∀ x1006 : Int32, (if x1004 = 0 then (0 : Int32) else (gI S 39 (f_X8_placeOf S (v2 ||| ((1 : Int32) <<< (v7 &&& 31))) v7).toNatClampNeg)) = x1006 → ∀ x1010 : Int32, (if x1006 ≤ v5 then v5 else (if v3 = (-1000000 : Int32) then x1006 else (if (f_X8_goes S w1 v3 v7) = 0 then v5 else x1006))) = x1010 → ∀ x1011 : Int32, (if x1006 ≤ v5 then v6 else (if v3 = (-1000000 : Int32) then v7 else (if (f_X8_goes S w1 v3 v7) = 0 then v6 else v7))) = x1011 → T_X8_nextForm_17 w1 n S v2 v3 v4 x1010 x1011 (v7 + (1 : Int32)))
set_option maxRecDepth 100000 in
theorem l_X8_nextForm_17 {p : Program} {l : Launch} {e : Env} {s : State} {m : MethodId} {args : Array Value} {below : List Frame} {meth : Method} {c : Code} {G : GG} {Q : State → Prop} (hC : ACx p s m args meth c cX8_nextForm RX8 10 (some .int)) (hSt : St G s) {w1 : Nat} (hw1 : (w1, 10, 0) ∈ cKT) : ∀ (n : Nat) (S : HSt) (v2 : Int32) (v3 : Int32) (v4 : Int32) (v5 : Int32) (v6 : Int32) (v7 : Int32), CS S → T_X8_nextForm_17 w1 n S v2 v3 v4 v5 v6 v7 → AW p l e (rmD 3 0 0) s m args below meth c G 10 Q S 0 0 104 [(0, .ref 38), (1, .ref w1), (2, .int (L_X8_nextForm_17 w1 n S v2 v3 v4 v5 v6 v7).1), (3, .int (L_X8_nextForm_17 w1 n S v2 v3 v4 v5 v6 v7).2.1), (4, .int (L_X8_nextForm_17 w1 n S v2 v3 v4 v5 v6 v7).2.2.1), (5, .int (L_X8_nextForm_17 w1 n S v2 v3 v4 v5 v6 v7).2.2.2.1), (6, .int (L_X8_nextForm_17 w1 n S v2 v3 v4 v5 v6 v7).2.2.2.2.1), (7, .int (L_X8_nextForm_17 w1 n S v2 v3 v4 v5 v6 v7).2.2.2.2.2)] [] → AW p l e (rmD 3 0 0) s m args below meth c G 10 Q S 0 0 17 [(0, .ref 38), (1, .ref w1), (2, .int v2), (3, .int v3), (4, .int v4), (5, .int v5), (6, .int v6), (7, .int v7)] [] := by
  intro n
  induction n with
  | zero => intro S v2 v3 v4 v5 v6 v7 _ hT; exact hT.elim
  | succ n ih =>
    intro S v2 v3 v4 v5 v6 v7 hM hT hk
    unfold T_X8_nextForm_17 at hT
    obtain ⟨h0, h1, h2⟩ := hT
    refine aw_iload hC 7 dX8_nextForm_17 rfl ?_
    refine aw_iload hC 4 dX8_nextForm_19 rfl ?_
    refine aw_icmp_ge hC 104 dX8_nextForm_21 (by decide) (fun c1002 => ?_) (fun c1002 => ?_)
    · refine aw_sub [0, 1, 2, 3, 4, 5, 6, 7] rfl ?_
      have E : L_X8_nextForm_17 w1 (n + 1) S v2 v3 v4 v5 v6 v7 = _ := (if_pos c1002).trans (rfl)
      rw [E] at hk
      exact hk
    · refine aw_iload_n hC 2 dX8_nextForm_24 rfl rfl ?_
      refine aw_iconst (v := 1) hC dX8_nextForm_25 (by decide) ?_
      refine aw_iload hC 7 dX8_nextForm_26 rfl ?_
      refine aw_ishl hC dX8_nextForm_28 ?_
      refine aw_iand hC dX8_nextForm_29 ?_
      refine aw_cut (S' := S) (pc' := 38) (lv' := [(0, .ref 38), (1, .ref w1), (2, .int v2), (3, .int v3), (4, .int v4), (5, .int v5), (6, .int v6), (7, .int v7)]) (st' := [.int (if (v2 &&& ((1 : Int32) <<< (v7 &&& 31))) = 0 then (1 : Int32) else (0 : Int32))]) ?_ (fun Jc1003 => ?_)
      · generalize ex1004 : (if (v2 &&& ((1 : Int32) <<< (v7 &&& 31))) = 0 then (1 : Int32) else (0 : Int32)) = x1004
        refine aw_istore hC [(8, .int _), (0, .ref 38), (1, .ref w1), (2, .int _), (3, .int _), (4, .int _), (5, .int _), (6, .int _), (7, .int _)] dX8_nextForm_38 (by decide) rfl ?_
        refine aw_iload hC 0 dX8_nextForm_40 rfl ?_
        refine aw_cut (S' := S) (pc' := 65) (lv' := [(8, .int x1004), (0, .ref 38), (1, .ref w1), (2, .int v2), (3, .int v3), (4, .int v4), (5, .int v5), (6, .int v6), (7, .int v7)]) (st' := [.int (if x1004 = 0 then (0 : Int32) else (gI S 39 (f_X8_placeOf S (v2 ||| ((1 : Int32) <<< (v7 &&& 31))) v7).toNatClampNeg))]) ?_ (fun Jc1005 => ?_)
        · generalize ex1006 : (if x1004 = 0 then (0 : Int32) else (gI S 39 (f_X8_placeOf S (v2 ||| ((1 : Int32) <<< (v7 &&& 31))) v7).toNatClampNeg)) = x1006
          refine aw_istore hC [(9, .int _), (8, .int _), (0, .ref 38), (1, .ref w1), (2, .int _), (3, .int _), (4, .int _), (5, .int _), (6, .int _), (7, .int _)] dX8_nextForm_65 (by decide) rfl ?_
          refine aw_iload hC 0 dX8_nextForm_67 rfl ?_
          refine aw_iload hC 7 dX8_nextForm_69 rfl ?_
          refine aw_cut (S' := S) (pc' := 98) (lv' := [(9, .int x1006), (8, .int x1004), (0, .ref 38), (1, .ref w1), (2, .int v2), (3, .int v3), (4, .int v4), (5, .int (if x1006 ≤ v5 then v5 else (if v3 = (-1000000 : Int32) then x1006 else (if (f_X8_goes S w1 v3 v7) = 0 then v5 else x1006)))), (6, .int (if x1006 ≤ v5 then v6 else (if v3 = (-1000000 : Int32) then v7 else (if (f_X8_goes S w1 v3 v7) = 0 then v6 else v7)))), (7, .int v7)]) (st' := []) ?_ (fun Jc1007 => ?_)
          · generalize ex1010 : (if x1006 ≤ v5 then v5 else (if v3 = (-1000000 : Int32) then x1006 else (if (f_X8_goes S w1 v3 v7) = 0 then v5 else x1006))) = x1010
            generalize ex1011 : (if x1006 ≤ v5 then v6 else (if v3 = (-1000000 : Int32) then v7 else (if (f_X8_goes S w1 v3 v7) = 0 then v6 else v7))) = x1011
            refine aw_iinc (v := (v7 + (1 : Int32))) hC 9 [(7, .int _), (9, .int _), (8, .int _), (0, .ref 38), (1, .ref w1), (2, .int _), (3, .int _), (4, .int _), (5, .int _), (6, .int _)] dX8_nextForm_98 rfl rfl (by decide) rfl ?_
            refine aw_goto hC 17 dX8_nextForm_101 (by decide) ?_
            refine aw_sub [3, 4, 5, 6, 7, 8, 9, 0] rfl ?_
            have hTn := (h2 c1002 x1004 ex1004 x1006 ex1006 x1010 ex1010 x1011 ex1011)
            have hMn : CS S := hM
            have E : L_X8_nextForm_17 w1 (n + 1) S v2 v3 v4 v5 v6 v7 = _ := (if_neg c1002).trans ((bd_eq ex1004).trans ((bd_eq ex1006).trans ((bd_eq ex1010).trans ((bd_eq ex1011).trans (rfl)))))
            rw [E] at hk
            exact ih _ _ _ _ _ _ _ hMn hTn hk
          · refine aw_icmp_le hC 98 dX8_nextForm_71 (by decide) (fun c1007 => ?_) (fun c1007 => ?_)
            · simp only [bd_def, if_pos c1007] at Jc1007 ⊢
              exact Jc1007
            · refine aw_iload_n hC 5 dX8_nextForm_74 rfl rfl ?_
              refine aw_ldc (v := -1000000) hC w_626 dX8_nextForm_75 ?_
              refine aw_icmp_eq hC 90 dX8_nextForm_77 (by decide) (fun c1008 => ?_) (fun c1008 => ?_)
              · refine aw_iload hC 0 dX8_nextForm_90 rfl ?_
                refine aw_istore hC [(5, .int _), (9, .int _), (8, .int _), (0, .ref 38), (1, .ref w1), (2, .int _), (3, .int _), (4, .int _), (6, .int _), (7, .int _)] dX8_nextForm_92 (by decide) rfl ?_
                refine aw_iload hC 9 dX8_nextForm_94 rfl ?_
                refine aw_istore hC [(6, .int _), (5, .int _), (9, .int _), (8, .int _), (0, .ref 38), (1, .ref w1), (2, .int _), (3, .int _), (4, .int _), (7, .int _)] dX8_nextForm_96 (by decide) rfl ?_
                refine aw_sub [2, 3, 4, 5, 6, 7, 8, 1, 0, 9] rfl ?_
                simp only [bd_def, if_neg c1007, if_pos c1008] at Jc1007 ⊢
                exact Jc1007
              · refine aw_aload_n hC 3 dX8_nextForm_80 rfl rfl ?_
                refine aw_iload_n hC 5 dX8_nextForm_81 rfl rfl ?_
                refine aw_iload hC 9 dX8_nextForm_82 rfl ?_
                refine aw_cS3r hC hSt (t_X8_goes G l hM _ _ _ hw1 (h1 c1002 x1004 ex1004 x1006 ex1006 c1007 c1008)) w_622 w_630 w_631 w_625 rfl rfl (by decide +kernel) ⟨Nat.le_of_ble_eq_true rfl, Nat.le_of_ble_eq_true rfl⟩ (Nat.le_of_ble_eq_true rfl) dX8_nextForm_84 ⟨Nat.zero_le _, Nat.zero_le _⟩ ?_
                refine aw_if_eq hC 98 dX8_nextForm_87 (by decide) (fun c1009 => ?_) (fun c1009 => ?_)
                · simp only [bd_def, if_neg c1007, if_neg c1008, if_pos c1009] at Jc1007 ⊢
                  exact Jc1007
                · refine aw_iload hC 0 dX8_nextForm_90 rfl ?_
                  refine aw_istore hC [(5, .int _), (9, .int _), (8, .int _), (0, .ref 38), (1, .ref w1), (2, .int _), (3, .int _), (4, .int _), (6, .int _), (7, .int _)] dX8_nextForm_92 (by decide) rfl ?_
                  refine aw_iload hC 9 dX8_nextForm_94 rfl ?_
                  refine aw_istore hC [(6, .int _), (5, .int _), (9, .int _), (8, .int _), (0, .ref 38), (1, .ref w1), (2, .int _), (3, .int _), (4, .int _), (7, .int _)] dX8_nextForm_96 (by decide) rfl ?_
                  refine aw_sub [2, 3, 4, 5, 6, 7, 8, 1, 0, 9] rfl ?_
                  simp only [bd_def, if_neg c1007, if_neg c1008, if_neg c1009] at Jc1007 ⊢
                  exact Jc1007
        · refine aw_if_eq hC 64 dX8_nextForm_42 (by decide) (fun c1005 => ?_) (fun c1005 => ?_)
          · refine aw_iconst (v := 0) hC dX8_nextForm_64 (by decide) ?_
            simp only [bd_def, if_pos c1005] at Jc1005 ⊢
            exact Jc1005
          · refine aw_aload_n hC 1 dX8_nextForm_45 rfl rfl ?_
            refine aw_getP (b := 39) hC hSt 0 (cs_lt 38 8 0 (by decide) hM) (cs_k 38 8 0 (by decide) hM) rfl (by decide) w_614 rfl (cs_p 38 0 39 (by decide) hM) dX8_nextForm_46 ?_
            refine aw_iload_n hC 3 dX8_nextForm_49 rfl rfl ?_
            refine aw_iconst (v := 1) hC dX8_nextForm_50 (by decide) ?_
            refine aw_iload hC 8 dX8_nextForm_51 rfl ?_
            refine aw_ishl hC dX8_nextForm_53 ?_
            refine aw_ior hC dX8_nextForm_54 ?_
            refine aw_iload hC 8 dX8_nextForm_55 rfl ?_
            refine aw_cS2r hC hSt (t_X8_placeOf G l  _ _) w_619 w_628 w_629 w_625 rfl rfl (by decide +kernel) ⟨Nat.le_of_ble_eq_true rfl, Nat.le_of_ble_eq_true rfl⟩ (Nat.le_of_ble_eq_true rfl) dX8_nextForm_57 ⟨Nat.zero_le _, Nat.zero_le _⟩ ?_
            refine aw_iald hC hSt (cs_lt 39 14 384 (by decide) hM) (cs_k 39 14 384 (by decide) hM) (vp_len (n := 384) (cs_l 39 14 384 (by decide) hM) (h0 c1002 x1004 ex1004 c1005)) dX8_nextForm_60 ?_
            refine aw_goto hC 65 dX8_nextForm_61 (by decide) ?_
            simp only [bd_def, if_neg c1005] at Jc1005 ⊢
            exact Jc1005
      · refine aw_if_ne hC 37 dX8_nextForm_30 (by decide) (fun c1003 => ?_) (fun c1003 => ?_)
        · refine aw_iconst (v := 0) hC dX8_nextForm_37 (by decide) ?_
          simp only [bd_def, if_neg c1003] at Jc1003 ⊢
          exact Jc1003
        · refine aw_iconst (v := 1) hC dX8_nextForm_33 (by decide) ?_
          refine aw_goto hC 38 dX8_nextForm_34 (by decide) ?_
          simp only [bd_def, if_pos c1003] at Jc1003 ⊢
          exact Jc1003
noncomputable def F_X8_nextForm (S : HSt) (_o0 : Nat) (w1 : Nat) (a2 : Int32) (a3 : Int32) : Int32 × HSt := bd ((f_X10_howMany S w1 (3 : Int32))) fun x1 => bd (L_X8_nextForm_17 w1 1000 S a2 a3 x1 (0 : Int32) (-1000000 : Int32) (0 : Int32)) fun r2 => pr (r2.2.2.2.2.1) (S)
noncomputable def f_X8_nextForm (S : HSt) (_o0 : Nat) (w1 : Nat) (a2 : Int32) (a3 : Int32) : Int32 := (F_X8_nextForm S _o0 w1 a2 a3).1
def p_X8_nextForm (S : HSt) (_o0 : Nat) (w1 : Nat) (a2 : Int32) (a3 : Int32) : Prop := (p_X10_howMany S w1 (3 : Int32)) ∧ (∀ x1 : Int32, (f_X10_howMany S w1 (3 : Int32)) = x1 → T_X8_nextForm_17 w1 1000 S a2 a3 x1 (0 : Int32) (-1000000 : Int32) (0 : Int32))
set_option maxRecDepth 100000 in
theorem t_X8_nextForm (G : GG) (l : Launch) {S : HSt} (hM : CS S) (w1 : Nat) (a2 : Int32) (a3 : Int32) (hw1 : (w1, 10, 0) ∈ cKT) (hp : p_X8_nextForm S 38 w1 a2 a3) : AM G l yX8_nextForm cX8_nextForm 10 (some .int) (rmD 3 0 0) 0 0 [.ref 38, .ref w1, .int a2, .int a3] S (FP (some (.int (f_X8_nextForm S 38 w1 a2 a3))) (S)) := by
  obtain ⟨h0, h1⟩ := hp
  refine AM.mk (by decide) (Nat.le_of_ble_eq_true rfl) ?_
  intro p e s m below meth c hC hSt _
  refine aw_aload_n hC 1 dX8_nextForm_0 rfl rfl ?_
  refine aw_iconst (v := 3) hC dX8_nextForm_1 (by decide) ?_
  refine aw_cV1r hC hSt (t_X10_howMany G l hM _ _ hw1 (h0)) w_152 w_627 w_237 w_238 w_18 rfl rfl (by decide +kernel) ⟨Nat.le_of_ble_eq_true rfl, Nat.le_of_ble_eq_true rfl⟩ (cs_lt w1 10 0 hw1 hM) (cs_k w1 10 0 hw1 hM) rfl (Nat.le_of_ble_eq_true rfl) dX8_nextForm_2 ⟨Nat.zero_le _, Nat.zero_le _⟩ ?_
  refine aw_istore hC [(4, .int _), (0, .ref 38), (1, .ref w1), (2, .int _), (3, .int _)] dX8_nextForm_5 (by decide) rfl ?_
  generalize ex1 : (f_X10_howMany S w1 (3 : Int32)) = x1
  refine aw_iconst (v := 0) hC dX8_nextForm_7 (by decide) ?_
  refine aw_istore hC [(5, .int _), (4, .int _), (0, .ref 38), (1, .ref w1), (2, .int _), (3, .int _)] dX8_nextForm_8 (by decide) rfl ?_
  refine aw_ldc (v := -1000000) hC w_626 dX8_nextForm_10 ?_
  refine aw_istore hC [(6, .int _), (5, .int _), (4, .int _), (0, .ref 38), (1, .ref w1), (2, .int _), (3, .int _)] dX8_nextForm_12 (by decide) rfl ?_
  refine aw_iconst (v := 0) hC dX8_nextForm_14 (by decide) ?_
  refine aw_istore hC [(7, .int _), (6, .int _), (5, .int _), (4, .int _), (0, .ref 38), (1, .ref w1), (2, .int _), (3, .int _)] dX8_nextForm_15 (by decide) rfl ?_
  refine aw_sub [4, 5, 6, 7, 3, 2, 1, 0] rfl ?_
  refine l_X8_nextForm_17 hC hSt hw1 1000 _ _ _ _ _ _ _ hM (h1 x1 ex1) ?_
  generalize er2 : L_X8_nextForm_17 w1 1000 S a2 a3 x1 (0 : Int32) (-1000000 : Int32) (0 : Int32) = r2
  refine aw_iload hC 6 dX8_nextForm_104 rfl ?_
  refine aw_iret hC dX8_nextForm_106 (Nat.le_refl _) (Nat.le_refl _) ?_
  exact FP.pI ((bd_eq ex1).trans ((bd_eq er2).trans (rfl)))
noncomputable def L_X8_seekShow_19 (w1 : Nat) : Nat → HSt → Int32 → Int32 → Int32 → Int32 × Int32 × Int32 × HSt
  | 0, S, v2, v3, v4 => (v2, v3, v4, S)
  | n + 1, S, v2, v3, v4 =>
    if v2 ≤ v4 then ((pr (v2) (pr (v3) (pr (v4) (S))))) else (bd ((f_X8_nextForm S 38 w1 v3 v4)) fun x2005 => bd ((if x2005 = (-1000000 : Int32) then (1 : Int32) else ((1 : Int32) + (gI S 39 (f_X8_placeOf S (v3 ||| ((1 : Int32) <<< (x2005 &&& 31))) x2005).toNatClampNeg)))) fun x2007 => bd ((sI S 39 (f_X8_placeOf S v3 v4).toNatClampNeg x2007)) fun S2008 => L_X8_seekShow_19 w1 n S2008 v2 v3 (v4 + (1 : Int32)))
def T_X8_seekShow_19 (w1 : Nat) : Nat → HSt → Int32 → Int32 → Int32 → Prop
  | 0, _, _, _, _ => False
  | n + 1, S, v2, v3, v4 => ((¬ v2 ≤ v4) → p_X8_nextForm S 38 w1 v3 v4) ∧ ((¬ v2 ≤ v4) → ∀ x2005 : Int32, (f_X8_nextForm S 38 w1 v3 v4) = x2005 → (¬ x2005 = (-1000000 : Int32)) → vp_in (f_X8_placeOf S (v3 ||| ((1 : Int32) <<< (x2005 &&& 31))) x2005) 384) ∧ ((¬ v2 ≤ v4) → ∀ x2005 : Int32, (f_X8_nextForm S 38 w1 v3 v4) = x2005 → ∀ x2007 : Int32, (if x2005 = (-1000000 : Int32) then (1 : Int32) else ((1 : Int32) + (gI S 39 (f_X8_placeOf S (v3 ||| ((1 : Int32) <<< (x2005 &&& 31))) x2005).toNatClampNeg))) = x2007 → vp_in (f_X8_placeOf S v3 v4) 384) ∧ ((¬ v2 ≤ v4) → ∀ x2005 : Int32, (f_X8_nextForm S 38 w1 v3 v4) = x2005 → ∀ x2007 : Int32, (if x2005 = (-1000000 : Int32) then (1 : Int32) else ((1 : Int32) + (gI S 39 (f_X8_placeOf S (v3 ||| ((1 : Int32) <<< (x2005 &&& 31))) x2005).toNatClampNeg))) = x2007 → ∀ S2008 : HSt, (sI S 39 (f_X8_placeOf S v3 v4).toNatClampNeg x2007) = S2008 → T_X8_seekShow_19 w1 n S2008 v2 v3 (v4 + (1 : Int32)))
theorem qL_X8_seekShow_19 (w1 : Nat) : ∀ (n : Nat) (S : HSt) (v2 : Int32) (v3 : Int32) (v4 : Int32), shp (L_X8_seekShow_19 w1 n S v2 v3 v4).2.2.2 = shp S := by
  intro n
  induction n with
  | zero => intros; rfl
  | succ n ih =>
    intro S v2 v3 v4
    unfold L_X8_seekShow_19
    repeat' (first | with_reducible refine shpr3 ?_ | with_reducible rfl | with_reducible refine (ih _ _ _ _).trans ?_ | with_reducible refine (shp_sI _ _ _ _).trans ?_ | with_reducible refine (shp_sJ _ _ _ _).trans ?_ | with_reducible refine (shp_rI _ _ _).trans ?_ | with_reducible refine shi ?_ ?_ | with_reducible refine shb (fun _ _ => ?_) | with_reducible refine shiP (fun q : Int32 × Int32 × Int32 × HSt => q.2.2.2) ?_ ?_ | with_reducible refine shbP (fun q : Int32 × Int32 × Int32 × HSt => q.2.2.2) (fun _ _ => ?_) | (subst_vars; with_reducible rfl) | (subst_vars; with_reducible refine (ih _ _ _ _).trans ?_) | (subst_vars; with_reducible refine (shp_sI _ _ _ _).trans ?_) | (subst_vars; with_reducible refine (shp_sJ _ _ _ _).trans ?_) | (subst_vars; with_reducible refine (shp_rI _ _ _).trans ?_) | (subst_vars; with_reducible refine shi ?_ ?_) | (subst_vars; with_reducible refine shb (fun _ _ => ?_)))
set_option maxRecDepth 100000 in
theorem l_X8_seekShow_19 {p : Program} {l : Launch} {e : Env} {s : State} {m : MethodId} {args : Array Value} {below : List Frame} {meth : Method} {c : Code} {G : GG} {Q : State → Prop} (hC : ACx p s m args meth c cX8_seekShow RX8 6 none) (hSt : St G s) {w1 : Nat} (hw1 : (w1, 10, 0) ∈ cKT) : ∀ (n : Nat) (S : HSt) (v2 : Int32) (v3 : Int32) (v4 : Int32), CS S → T_X8_seekShow_19 w1 n S v2 v3 v4 → AW p l e (rmD 4 0 0) s m args below meth c G 6 Q (L_X8_seekShow_19 w1 n S v2 v3 v4).2.2.2 0 0 81 [(0, .ref 38), (1, .ref w1), (2, .int (L_X8_seekShow_19 w1 n S v2 v3 v4).1), (3, .int (L_X8_seekShow_19 w1 n S v2 v3 v4).2.1), (4, .int (L_X8_seekShow_19 w1 n S v2 v3 v4).2.2.1)] [] → AW p l e (rmD 4 0 0) s m args below meth c G 6 Q S 0 0 19 [(0, .ref 38), (1, .ref w1), (2, .int v2), (3, .int v3), (4, .int v4)] [] := by
  intro n
  induction n with
  | zero => intro S v2 v3 v4 _ hT; exact hT.elim
  | succ n ih =>
    intro S v2 v3 v4 hM hT hk
    unfold T_X8_seekShow_19 at hT
    obtain ⟨h0, h1, h2, h3⟩ := hT
    refine aw_iload hC 4 dX8_seekShow_19 rfl ?_
    refine aw_iload_n hC 2 dX8_seekShow_21 rfl rfl ?_
    refine aw_icmp_ge hC 81 dX8_seekShow_22 (by decide) (fun c2004 => ?_) (fun c2004 => ?_)
    · refine aw_sub [0, 1, 2, 3, 4] rfl ?_
      have E : L_X8_seekShow_19 w1 (n + 1) S v2 v3 v4 = _ := (if_pos c2004).trans (rfl)
      rw [E] at hk
      exact hk
    · refine aw_aload_n hC 0 dX8_seekShow_25 rfl rfl ?_
      refine aw_aload_n hC 1 dX8_seekShow_26 rfl rfl ?_
      refine aw_iload_n hC 3 dX8_seekShow_27 rfl rfl ?_
      refine aw_iload hC 4 dX8_seekShow_28 rfl ?_
      refine aw_cV3r hC hSt (t_X8_nextForm G l hM _ _ _ hw1 (h0 c2004)) w_632 w_634 w_635 w_636 w_625 rfl rfl (by decide +kernel) ⟨Nat.le_of_ble_eq_true rfl, Nat.le_of_ble_eq_true rfl⟩ (cs_lt 38 8 0 (by decide) hM) (cs_k 38 8 0 (by decide) hM) rfl (Nat.le_of_ble_eq_true rfl) dX8_seekShow_30 ⟨Nat.zero_le _, Nat.zero_le _⟩ ?_
      refine aw_istore hC [(5, .int _), (0, .ref 38), (1, .ref w1), (2, .int _), (3, .int _), (4, .int _)] dX8_seekShow_33 (by decide) rfl ?_
      generalize ex2005 : (f_X8_nextForm S 38 w1 v3 v4) = x2005
      refine aw_aload_n hC 1 dX8_seekShow_35 rfl rfl ?_
      refine aw_getP (b := 39) hC hSt 0 (cs_lt 38 8 0 (by decide) hM) (cs_k 38 8 0 (by decide) hM) rfl (by decide) w_614 rfl (cs_p 38 0 39 (by decide) hM) dX8_seekShow_36 ?_
      refine aw_iload_n hC 4 dX8_seekShow_39 rfl rfl ?_
      refine aw_iload hC 5 dX8_seekShow_40 rfl ?_
      refine aw_cS2r hC hSt (t_X8_placeOf G l  _ _) w_619 w_628 w_629 w_625 rfl rfl (by decide +kernel) ⟨Nat.le_of_ble_eq_true rfl, Nat.le_of_ble_eq_true rfl⟩ (Nat.le_of_ble_eq_true rfl) dX8_seekShow_42 ⟨Nat.zero_le _, Nat.zero_le _⟩ ?_
      refine aw_iload hC 0 dX8_seekShow_45 rfl ?_
      refine aw_ldc (v := -1000000) hC w_626 dX8_seekShow_47 ?_
      refine aw_cut (S' := S) (pc' := 74) (lv' := [(5, .int x2005), (0, .ref 38), (1, .ref w1), (2, .int v2), (3, .int v3), (4, .int v4)]) (st' := [.int (if x2005 = (-1000000 : Int32) then (1 : Int32) else ((1 : Int32) + (gI S 39 (f_X8_placeOf S (v3 ||| ((1 : Int32) <<< (x2005 &&& 31))) x2005).toNatClampNeg))), .int (f_X8_placeOf S v3 v4), .ref 39]) ?_ (fun Jc2006 => ?_)
      · generalize ex2007 : (if x2005 = (-1000000 : Int32) then (1 : Int32) else ((1 : Int32) + (gI S 39 (f_X8_placeOf S (v3 ||| ((1 : Int32) <<< (x2005 &&& 31))) x2005).toNatClampNeg))) = x2007
        refine aw_iast hC hSt (cs_lt 39 14 384 (by decide) hM) (cs_k 39 14 384 (by decide) hM) (vp_len (n := 384) (cs_l 39 14 384 (by decide) hM) (h2 c2004 x2005 ex2005 x2007 ex2007)) dX8_seekShow_74 ?_
        generalize eS2008 : (sI S 39 (f_X8_placeOf S v3 v4).toNatClampNeg x2007) = S2008
        have hM : CS S2008 := CS.of (by rw [← eS2008]; exact shp_sI _ _ _ _) hM
        refine aw_iinc (v := (v4 + (1 : Int32))) hC 5 [(4, .int _), (5, .int _), (0, .ref 38), (1, .ref w1), (2, .int _), (3, .int _)] dX8_seekShow_75 rfl rfl (by decide) rfl ?_
        refine aw_goto hC 19 dX8_seekShow_78 (by decide) ?_
        refine aw_sub [2, 3, 4, 5, 0] rfl ?_
        have hTn := (h3 c2004 x2005 ex2005 x2007 ex2007 S2008 eS2008)
        have hMn : CS S2008 := hM
        have E : L_X8_seekShow_19 w1 (n + 1) S v2 v3 v4 = _ := (if_neg c2004).trans ((bd_eq ex2005).trans ((bd_eq ex2007).trans ((bd_eq eS2008).trans (rfl))))
        rw [E] at hk
        exact ih _ _ _ _ hMn hTn hk
      · refine aw_icmp_ne hC 56 dX8_seekShow_49 (by decide) (fun c2006 => ?_) (fun c2006 => ?_)
        · refine aw_iconst (v := 1) hC dX8_seekShow_56 (by decide) ?_
          refine aw_aload_n hC 1 dX8_seekShow_57 rfl rfl ?_
          refine aw_getP (b := 39) hC hSt 0 (cs_lt 38 8 0 (by decide) hM) (cs_k 38 8 0 (by decide) hM) rfl (by decide) w_614 rfl (cs_p 38 0 39 (by decide) hM) dX8_seekShow_58 ?_
          refine aw_iload_n hC 4 dX8_seekShow_61 rfl rfl ?_
          refine aw_iconst (v := 1) hC dX8_seekShow_62 (by decide) ?_
          refine aw_iload hC 0 dX8_seekShow_63 rfl ?_
          refine aw_ishl hC dX8_seekShow_65 ?_
          refine aw_ior hC dX8_seekShow_66 ?_
          refine aw_iload hC 0 dX8_seekShow_67 rfl ?_
          refine aw_cS2r hC hSt (t_X8_placeOf G l  _ _) w_619 w_628 w_629 w_625 rfl rfl (by decide +kernel) ⟨Nat.le_of_ble_eq_true rfl, Nat.le_of_ble_eq_true rfl⟩ (Nat.le_of_ble_eq_true rfl) dX8_seekShow_69 ⟨Nat.zero_le _, Nat.zero_le _⟩ ?_
          refine aw_iald hC hSt (cs_lt 39 14 384 (by decide) hM) (cs_k 39 14 384 (by decide) hM) (vp_len (n := 384) (cs_l 39 14 384 (by decide) hM) (h1 c2004 x2005 ex2005 c2006)) dX8_seekShow_72 ?_
          refine aw_iadd hC dX8_seekShow_73 ?_
          simp only [bd_def, if_neg c2006] at Jc2006 ⊢
          exact Jc2006
        · refine aw_iconst (v := 1) hC dX8_seekShow_52 (by decide) ?_
          refine aw_goto hC 74 dX8_seekShow_53 (by decide) ?_
          simp only [bd_def, if_pos c2006] at Jc2006 ⊢
          exact Jc2006
noncomputable def L_X8_seekShow_12 (w1 : Nat) : Nat → HSt → Int32 → Int32 → Int32 × Int32 × HSt
  | 0, S, v2, v3 => (v2, v3, S)
  | n + 1, S, v2, v3 =>
    if v3 ≤ 0 then ((pr (v2) (pr (v3) (S)))) else (bd (L_X8_seekShow_19 w1 1000 S v2 v3 (0 : Int32)) fun r1004 => L_X8_seekShow_12 w1 n r1004.2.2.2 r1004.1 (r1004.2.1 + (-1 : Int32)))
def T_X8_seekShow_12 (w1 : Nat) : Nat → HSt → Int32 → Int32 → Prop
  | 0, _, _, _ => False
  | n + 1, S, v2, v3 => ((¬ v3 ≤ 0) → T_X8_seekShow_19 w1 1000 S v2 v3 (0 : Int32)) ∧ ((¬ v3 ≤ 0) → ∀ r1004, L_X8_seekShow_19 w1 1000 S v2 v3 (0 : Int32) = r1004 → T_X8_seekShow_12 w1 n r1004.2.2.2 r1004.1 (r1004.2.1 + (-1 : Int32)))
theorem qL_X8_seekShow_12 (w1 : Nat) : ∀ (n : Nat) (S : HSt) (v2 : Int32) (v3 : Int32), shp (L_X8_seekShow_12 w1 n S v2 v3).2.2 = shp S := by
  intro n
  induction n with
  | zero => intros; rfl
  | succ n ih =>
    intro S v2 v3
    unfold L_X8_seekShow_12
    repeat' (first | with_reducible refine shpr2 ?_ | with_reducible rfl | with_reducible refine (ih _ _ _).trans ?_ | with_reducible refine (qL_X8_seekShow_19 w1 _ _ _ _ _).trans ?_ | with_reducible refine (shp_sI _ _ _ _).trans ?_ | with_reducible refine (shp_sJ _ _ _ _).trans ?_ | with_reducible refine (shp_rI _ _ _).trans ?_ | with_reducible refine shi ?_ ?_ | with_reducible refine shb (fun _ _ => ?_) | with_reducible refine shiP (fun q : Int32 × Int32 × HSt => q.2.2) ?_ ?_ | with_reducible refine shbP (fun q : Int32 × Int32 × HSt => q.2.2) (fun _ _ => ?_) | (subst_vars; with_reducible rfl) | (subst_vars; with_reducible refine (ih _ _ _).trans ?_) | (subst_vars; with_reducible refine (qL_X8_seekShow_19 w1 _ _ _ _ _).trans ?_) | (subst_vars; with_reducible refine (shp_sI _ _ _ _).trans ?_) | (subst_vars; with_reducible refine (shp_sJ _ _ _ _).trans ?_) | (subst_vars; with_reducible refine (shp_rI _ _ _).trans ?_) | (subst_vars; with_reducible refine shi ?_ ?_) | (subst_vars; with_reducible refine shb (fun _ _ => ?_)))
set_option maxRecDepth 100000 in
theorem l_X8_seekShow_12 {p : Program} {l : Launch} {e : Env} {s : State} {m : MethodId} {args : Array Value} {below : List Frame} {meth : Method} {c : Code} {G : GG} {Q : State → Prop} (hC : ACx p s m args meth c cX8_seekShow RX8 6 none) (hSt : St G s) {w1 : Nat} (hw1 : (w1, 10, 0) ∈ cKT) : ∀ (n : Nat) (S : HSt) (v2 : Int32) (v3 : Int32), CS S → T_X8_seekShow_12 w1 n S v2 v3 → AW p l e (rmD 4 0 0) s m args below meth c G 6 Q (L_X8_seekShow_12 w1 n S v2 v3).2.2 0 0 87 [(0, .ref 38), (1, .ref w1), (2, .int (L_X8_seekShow_12 w1 n S v2 v3).1), (3, .int (L_X8_seekShow_12 w1 n S v2 v3).2.1)] [] → AW p l e (rmD 4 0 0) s m args below meth c G 6 Q S 0 0 12 [(0, .ref 38), (1, .ref w1), (2, .int v2), (3, .int v3)] [] := by
  intro n
  induction n with
  | zero => intro S v2 v3 _ hT; exact hT.elim
  | succ n ih =>
    intro S v2 v3 hM hT hk
    unfold T_X8_seekShow_12 at hT
    obtain ⟨h0, h1⟩ := hT
    refine aw_iload_n hC 3 dX8_seekShow_12 rfl rfl ?_
    refine aw_if_le hC 87 dX8_seekShow_13 (by decide) (fun c1003 => ?_) (fun c1003 => ?_)
    · refine aw_sub [0, 1, 2, 3] rfl ?_
      have E : L_X8_seekShow_12 w1 (n + 1) S v2 v3 = _ := (if_pos c1003).trans (rfl)
      rw [E] at hk
      exact hk
    · refine aw_iconst (v := 0) hC dX8_seekShow_16 (by decide) ?_
      refine aw_istore hC [(4, .int _), (0, .ref 38), (1, .ref w1), (2, .int _), (3, .int _)] dX8_seekShow_17 (by decide) rfl ?_
      refine aw_sub [1, 2, 3, 4, 0] rfl ?_
      refine l_X8_seekShow_19 hC hSt hw1 1000 _ _ _ _ hM (h0 c1003) ?_
      generalize er1004 : L_X8_seekShow_19 w1 1000 S v2 v3 (0 : Int32) = r1004
      have hM : CS r1004.2.2.2 := CS.of (by rw [← er1004]; exact qL_X8_seekShow_19 w1 _ _ _ _ _) hM
      refine aw_iinc (v := (r1004.2.1 + (-1 : Int32))) hC 3 [(3, .int _), (0, .ref 38), (1, .ref w1), (2, .int _), (4, .int _)] dX8_seekShow_81 rfl rfl (by decide) rfl ?_
      refine aw_goto hC 12 dX8_seekShow_84 (by decide) ?_
      refine aw_sub [1, 2, 3, 0] rfl ?_
      have hTn := (h1 c1003 r1004 er1004)
      have hMn : CS r1004.2.2.2 := hM
      have E : L_X8_seekShow_12 w1 (n + 1) S v2 v3 = _ := (if_neg c1003).trans ((bd_eq er1004).trans (rfl))
      rw [E] at hk
      exact ih _ _ _ hMn hTn hk
noncomputable def L_X8_seekShow_104 (w1 : Nat) : Nat → HSt → Int32 → Int32 → Int32 → Int32 × Int32 × Int32 × HSt
  | 0, S, v2, v3, v4 => (v2, v3, v4, S)
  | n + 1, S, v2, v3, v4 =>
    if v4 = (-1000000 : Int32) then ((pr (v2) (pr (v3) (pr (v4) (S))))) else (if v2 ≤ (gI S 38 4) then ((pr (v2) (pr (v3) (pr (v4) (S))))) else (bd ((sI S 40 (gI S 38 4).toNatClampNeg v4)) fun S1008 => bd ((sI S1008 38 4 ((gI S1008 38 4) + (1 : Int32)))) fun S1009 => bd ((v3 ||| ((1 : Int32) <<< (v4 &&& 31)))) fun x1010 => bd ((f_X8_nextForm S1009 38 w1 x1010 v4)) fun x1011 => L_X8_seekShow_104 w1 n S1009 v2 x1010 x1011))
def T_X8_seekShow_104 (w1 : Nat) : Nat → HSt → Int32 → Int32 → Int32 → Prop
  | 0, _, _, _, _ => False
  | n + 1, S, v2, v3, v4 => ((¬ v4 = (-1000000 : Int32)) → (¬ v2 ≤ (gI S 38 4)) → vp_in (gI S 38 4) 6) ∧ ((¬ v4 = (-1000000 : Int32)) → (¬ v2 ≤ (gI S 38 4)) → ∀ S1008 : HSt, (sI S 40 (gI S 38 4).toNatClampNeg v4) = S1008 → ∀ S1009 : HSt, (sI S1008 38 4 ((gI S1008 38 4) + (1 : Int32))) = S1009 → ∀ x1010 : Int32, (v3 ||| ((1 : Int32) <<< (v4 &&& 31))) = x1010 → p_X8_nextForm S1009 38 w1 x1010 v4) ∧ ((¬ v4 = (-1000000 : Int32)) → (¬ v2 ≤ (gI S 38 4)) → ∀ S1008 : HSt, (sI S 40 (gI S 38 4).toNatClampNeg v4) = S1008 → ∀ S1009 : HSt, (sI S1008 38 4 ((gI S1008 38 4) + (1 : Int32))) = S1009 → ∀ x1010 : Int32, (v3 ||| ((1 : Int32) <<< (v4 &&& 31))) = x1010 → ∀ x1011 : Int32, (f_X8_nextForm S1009 38 w1 x1010 v4) = x1011 → T_X8_seekShow_104 w1 n S1009 v2 x1010 x1011)
theorem qL_X8_seekShow_104 (w1 : Nat) : ∀ (n : Nat) (S : HSt) (v2 : Int32) (v3 : Int32) (v4 : Int32), shp (L_X8_seekShow_104 w1 n S v2 v3 v4).2.2.2 = shp S := by
  intro n
  induction n with
  | zero => intros; rfl
  | succ n ih =>
    intro S v2 v3 v4
    unfold L_X8_seekShow_104
    repeat' (first | with_reducible refine shpr3 ?_ | with_reducible rfl | with_reducible refine (ih _ _ _ _).trans ?_ | with_reducible refine (qL_X8_seekShow_12 w1 _ _ _ _).trans ?_ | with_reducible refine (qL_X8_seekShow_19 w1 _ _ _ _ _).trans ?_ | with_reducible refine (shp_sI _ _ _ _).trans ?_ | with_reducible refine (shp_sJ _ _ _ _).trans ?_ | with_reducible refine (shp_rI _ _ _).trans ?_ | with_reducible refine shi ?_ ?_ | with_reducible refine shb (fun _ _ => ?_) | with_reducible refine shiP (fun q : Int32 × Int32 × Int32 × HSt => q.2.2.2) ?_ ?_ | with_reducible refine shbP (fun q : Int32 × Int32 × Int32 × HSt => q.2.2.2) (fun _ _ => ?_) | (subst_vars; with_reducible rfl) | (subst_vars; with_reducible refine (ih _ _ _ _).trans ?_) | (subst_vars; with_reducible refine (qL_X8_seekShow_12 w1 _ _ _ _).trans ?_) | (subst_vars; with_reducible refine (qL_X8_seekShow_19 w1 _ _ _ _ _).trans ?_) | (subst_vars; with_reducible refine (shp_sI _ _ _ _).trans ?_) | (subst_vars; with_reducible refine (shp_sJ _ _ _ _).trans ?_) | (subst_vars; with_reducible refine (shp_rI _ _ _).trans ?_) | (subst_vars; with_reducible refine shi ?_ ?_) | (subst_vars; with_reducible refine shb (fun _ _ => ?_)))
set_option maxRecDepth 100000 in
theorem l_X8_seekShow_104 {p : Program} {l : Launch} {e : Env} {s : State} {m : MethodId} {args : Array Value} {below : List Frame} {meth : Method} {c : Code} {G : GG} {Q : State → Prop} (hC : ACx p s m args meth c cX8_seekShow RX8 6 none) (hSt : St G s) {w1 : Nat} (hw1 : (w1, 10, 0) ∈ cKT) : ∀ (n : Nat) (S : HSt) (v2 : Int32) (v3 : Int32) (v4 : Int32), CS S → T_X8_seekShow_104 w1 n S v2 v3 v4 → AW p l e (rmD 4 0 0) s m args below meth c G 6 Q (L_X8_seekShow_104 w1 n S v2 v3 v4).2.2.2 0 0 160 [(0, .ref 38), (1, .ref w1), (2, .int (L_X8_seekShow_104 w1 n S v2 v3 v4).1), (3, .int (L_X8_seekShow_104 w1 n S v2 v3 v4).2.1), (4, .int (L_X8_seekShow_104 w1 n S v2 v3 v4).2.2.1)] [] → AW p l e (rmD 4 0 0) s m args below meth c G 6 Q S 0 0 104 [(0, .ref 38), (1, .ref w1), (2, .int v2), (3, .int v3), (4, .int v4)] [] := by
  intro n
  induction n with
  | zero => intro S v2 v3 v4 _ hT; exact hT.elim
  | succ n ih =>
    intro S v2 v3 v4 hM hT hk
    unfold T_X8_seekShow_104 at hT
    obtain ⟨h0, h1, h2⟩ := hT
    refine aw_iload hC 4 dX8_seekShow_104 rfl ?_
    refine aw_ldc (v := -1000000) hC w_626 dX8_seekShow_106 ?_
    refine aw_icmp_eq hC 160 dX8_seekShow_108 (by decide) (fun c1006 => ?_) (fun c1006 => ?_)
    · refine aw_sub [0, 1, 2, 3, 4] rfl ?_
      have E : L_X8_seekShow_104 w1 (n + 1) S v2 v3 v4 = _ := (if_pos c1006).trans (rfl)
      rw [E] at hk
      exact hk
    · refine aw_aload_n hC 0 dX8_seekShow_111 rfl rfl ?_
      refine aw_getI hC hSt 4 (cs_lt 38 8 0 (by decide) hM) (cs_k 38 8 0 (by decide) hM) rfl (by decide) w_633 rfl dX8_seekShow_112 ?_
      refine aw_iload_n hC 2 dX8_seekShow_115 rfl rfl ?_
      refine aw_icmp_ge hC 160 dX8_seekShow_116 (by decide) (fun c1007 => ?_) (fun c1007 => ?_)
      · refine aw_sub [0, 1, 2, 3, 4] rfl ?_
        have E : L_X8_seekShow_104 w1 (n + 1) S v2 v3 v4 = _ := (if_neg c1006).trans ((if_pos c1007).trans (rfl))
        rw [E] at hk
        exact hk
      · refine aw_aload_n hC 0 dX8_seekShow_119 rfl rfl ?_
        refine aw_getP (b := 40) hC hSt 1 (cs_lt 38 8 0 (by decide) hM) (cs_k 38 8 0 (by decide) hM) rfl (by decide) w_615 rfl (cs_p 38 1 40 (by decide) hM) dX8_seekShow_120 ?_
        refine aw_aload_n hC 0 dX8_seekShow_123 rfl rfl ?_
        refine aw_getI hC hSt 4 (cs_lt 38 8 0 (by decide) hM) (cs_k 38 8 0 (by decide) hM) rfl (by decide) w_633 rfl dX8_seekShow_124 ?_
        refine aw_iload hC 4 dX8_seekShow_127 rfl ?_
        refine aw_iast hC hSt (cs_lt 40 14 6 (by decide) hM) (cs_k 40 14 6 (by decide) hM) (vp_len (n := 6) (cs_l 40 14 6 (by decide) hM) (h0 c1006 c1007)) dX8_seekShow_129 ?_
        generalize eS1008 : (sI S 40 (gI S 38 4).toNatClampNeg v4) = S1008
        have hM : CS S1008 := CS.of (by rw [← eS1008]; exact shp_sI _ _ _ _) hM
        refine aw_aload_n hC 0 dX8_seekShow_130 rfl rfl ?_
        refine aw_dup hC dX8_seekShow_131 rfl ?_
        refine aw_getI hC hSt 4 (cs_lt 38 8 0 (by decide) hM) (cs_k 38 8 0 (by decide) hM) rfl (by decide) w_633 rfl dX8_seekShow_132 ?_
        refine aw_iconst (v := 1) hC dX8_seekShow_135 (by decide) ?_
        refine aw_iadd hC dX8_seekShow_136 ?_
        refine aw_putI hC hSt 4 (cs_lt 38 8 0 (by decide) hM) (cs_k 38 8 0 (by decide) hM) rfl (by decide) w_633 rfl rfl rfl rfl dX8_seekShow_137 ?_
        generalize eS1009 : (sI S1008 38 4 ((gI S1008 38 4) + (1 : Int32))) = S1009
        have hM : CS S1009 := CS.of (by rw [← eS1009]; exact shp_sI _ _ _ _) hM
        refine aw_iload_n hC 3 dX8_seekShow_140 rfl rfl ?_
        refine aw_iconst (v := 1) hC dX8_seekShow_141 (by decide) ?_
        refine aw_iload hC 4 dX8_seekShow_142 rfl ?_
        refine aw_ishl hC dX8_seekShow_144 ?_
        refine aw_ior hC dX8_seekShow_145 ?_
        refine aw_istore_n hC [(3, .int _), (0, .ref 38), (1, .ref w1), (2, .int _), (4, .int _)] dX8_seekShow_146 rfl (by decide) rfl ?_
        generalize ex1010 : (v3 ||| ((1 : Int32) <<< (v4 &&& 31))) = x1010
        refine aw_aload_n hC 1 dX8_seekShow_147 rfl rfl ?_
        refine aw_aload_n hC 2 dX8_seekShow_148 rfl rfl ?_
        refine aw_iload_n hC 0 dX8_seekShow_149 rfl rfl ?_
        refine aw_iload hC 4 dX8_seekShow_150 rfl ?_
        refine aw_cV3r hC hSt (t_X8_nextForm G l hM _ _ _ hw1 (h1 c1006 c1007 S1008 eS1008 S1009 eS1009 x1010 ex1010)) w_632 w_634 w_635 w_636 w_625 rfl rfl (by decide +kernel) ⟨Nat.le_of_ble_eq_true rfl, Nat.le_of_ble_eq_true rfl⟩ (cs_lt 38 8 0 (by decide) hM) (cs_k 38 8 0 (by decide) hM) rfl (Nat.le_of_ble_eq_true rfl) dX8_seekShow_152 ⟨Nat.zero_le _, Nat.zero_le _⟩ ?_
        refine aw_istore hC [(4, .int _), (3, .int _), (0, .ref 38), (1, .ref w1), (2, .int _)] dX8_seekShow_155 (by decide) rfl ?_
        generalize ex1011 : (f_X8_nextForm S1009 38 w1 x1010 v4) = x1011
        refine aw_goto hC 104 dX8_seekShow_157 (by decide) ?_
        refine aw_sub [2, 3, 4, 1, 0] rfl ?_
        have hTn := (h2 c1006 c1007 S1008 eS1008 S1009 eS1009 x1010 ex1010 x1011 ex1011)
        have hMn : CS S1009 := hM
        have E : L_X8_seekShow_104 w1 (n + 1) S v2 v3 v4 = _ := (if_neg c1006).trans ((if_neg c1007).trans ((bd_eq eS1008).trans ((bd_eq eS1009).trans ((bd_eq ex1010).trans ((bd_eq ex1011).trans (rfl))))))
        rw [E] at hk
        exact ih _ _ _ _ hMn hTn hk
noncomputable def f_X8_seekShow (S : HSt) (_o0 : Nat) (w1 : Nat) : HSt := bd ((f_X10_howMany S w1 (3 : Int32))) fun x1 => bd ((((1 : Int32) <<< (x1 &&& 31)) - (1 : Int32))) fun x2 => bd (L_X8_seekShow_12 w1 1000 S x1 x2) fun r3 => bd ((sI r3.2.2 38 4 (0 : Int32))) fun S4 => bd ((f_X8_nextForm S4 38 w1 (0 : Int32) (-1000000 : Int32))) fun x5 => bd (L_X8_seekShow_104 w1 1000 S4 r3.1 (0 : Int32) x5) fun r6 => r6.2.2.2
def p_X8_seekShow (S : HSt) (_o0 : Nat) (w1 : Nat) : Prop := (p_X10_howMany S w1 (3 : Int32)) ∧ (∀ x1 : Int32, (f_X10_howMany S w1 (3 : Int32)) = x1 → ∀ x2 : Int32, (((1 : Int32) <<< (x1 &&& 31)) - (1 : Int32)) = x2 → T_X8_seekShow_12 w1 1000 S x1 x2) ∧ (∀ x1 : Int32, (f_X10_howMany S w1 (3 : Int32)) = x1 → ∀ x2 : Int32, (((1 : Int32) <<< (x1 &&& 31)) - (1 : Int32)) = x2 → ∀ r3, L_X8_seekShow_12 w1 1000 S x1 x2 = r3 → ∀ S4 : HSt, (sI r3.2.2 38 4 (0 : Int32)) = S4 → p_X8_nextForm S4 38 w1 (0 : Int32) (-1000000 : Int32)) ∧ (∀ x1 : Int32, (f_X10_howMany S w1 (3 : Int32)) = x1 → ∀ x2 : Int32, (((1 : Int32) <<< (x1 &&& 31)) - (1 : Int32)) = x2 → ∀ r3, L_X8_seekShow_12 w1 1000 S x1 x2 = r3 → ∀ S4 : HSt, (sI r3.2.2 38 4 (0 : Int32)) = S4 → ∀ x5 : Int32, (f_X8_nextForm S4 38 w1 (0 : Int32) (-1000000 : Int32)) = x5 → T_X8_seekShow_104 w1 1000 S4 r3.1 (0 : Int32) x5)
set_option maxRecDepth 100000 in
theorem t_X8_seekShow (G : GG) (l : Launch) {S : HSt} (hM : CS S) (w1 : Nat) (hw1 : (w1, 10, 0) ∈ cKT) (hp : p_X8_seekShow S 38 w1) : AM G l yX8_seekShow cX8_seekShow 6 none (rmD 4 0 0) 0 0 [.ref 38, .ref w1] S (FP none (f_X8_seekShow S 38 w1)) := by
  obtain ⟨h0, h1, h2, h3⟩ := hp
  refine AM.mk (by decide) (Nat.le_of_ble_eq_true rfl) ?_
  intro p e s m below meth c hC hSt _
  refine aw_aload_n hC 1 dX8_seekShow_0 rfl rfl ?_
  refine aw_iconst (v := 3) hC dX8_seekShow_1 (by decide) ?_
  refine aw_cV1r hC hSt (t_X10_howMany G l hM _ _ hw1 (h0)) w_152 w_627 w_237 w_238 w_18 rfl rfl (by decide +kernel) ⟨Nat.le_of_ble_eq_true rfl, Nat.le_of_ble_eq_true rfl⟩ (cs_lt w1 10 0 hw1 hM) (cs_k w1 10 0 hw1 hM) rfl (Nat.le_of_ble_eq_true rfl) dX8_seekShow_2 ⟨Nat.zero_le _, Nat.zero_le _⟩ ?_
  refine aw_istore_n hC [(2, .int _), (0, .ref 38), (1, .ref w1)] dX8_seekShow_5 rfl (by decide) rfl ?_
  generalize ex1 : (f_X10_howMany S w1 (3 : Int32)) = x1
  refine aw_iconst (v := 1) hC dX8_seekShow_6 (by decide) ?_
  refine aw_iload_n hC 0 dX8_seekShow_7 rfl rfl ?_
  refine aw_ishl hC dX8_seekShow_8 ?_
  refine aw_iconst (v := 1) hC dX8_seekShow_9 (by decide) ?_
  refine aw_isub hC dX8_seekShow_10 ?_
  refine aw_istore_n hC [(3, .int _), (2, .int _), (0, .ref 38), (1, .ref w1)] dX8_seekShow_11 rfl (by decide) rfl ?_
  generalize ex2 : (((1 : Int32) <<< (x1 &&& 31)) - (1 : Int32)) = x2
  refine aw_sub [2, 3, 1, 0] rfl ?_
  refine l_X8_seekShow_12 hC hSt hw1 1000 _ _ _ hM (h1 x1 ex1 x2 ex2) ?_
  generalize er3 : L_X8_seekShow_12 w1 1000 S x1 x2 = r3
  have hM : CS r3.2.2 := CS.of (by rw [← er3]; exact qL_X8_seekShow_12 w1 _ _ _ _) hM
  refine aw_aload_n hC 0 dX8_seekShow_87 rfl rfl ?_
  refine aw_iconst (v := 0) hC dX8_seekShow_88 (by decide) ?_
  refine aw_putI hC hSt 4 (cs_lt 38 8 0 (by decide) hM) (cs_k 38 8 0 (by decide) hM) rfl (by decide) w_633 rfl rfl rfl rfl dX8_seekShow_89 ?_
  generalize eS4 : (sI r3.2.2 38 4 (0 : Int32)) = S4
  have hM : CS S4 := CS.of (by rw [← eS4]; exact shp_sI _ _ _ _) hM
  refine aw_iconst (v := 0) hC dX8_seekShow_92 (by decide) ?_
  refine aw_istore_n hC [(3, .int _), (0, .ref 38), (1, .ref w1), (2, .int _)] dX8_seekShow_93 rfl (by decide) rfl ?_
  refine aw_aload_n hC 1 dX8_seekShow_94 rfl rfl ?_
  refine aw_aload_n hC 2 dX8_seekShow_95 rfl rfl ?_
  refine aw_iconst (v := 0) hC dX8_seekShow_96 (by decide) ?_
  refine aw_ldc (v := -1000000) hC w_626 dX8_seekShow_97 ?_
  refine aw_cV3r hC hSt (t_X8_nextForm G l hM _ _ _ hw1 (h2 x1 ex1 x2 ex2 r3 er3 S4 eS4)) w_632 w_634 w_635 w_636 w_625 rfl rfl (by decide +kernel) ⟨Nat.le_of_ble_eq_true rfl, Nat.le_of_ble_eq_true rfl⟩ (cs_lt 38 8 0 (by decide) hM) (cs_k 38 8 0 (by decide) hM) rfl (Nat.le_of_ble_eq_true rfl) dX8_seekShow_99 ⟨Nat.zero_le _, Nat.zero_le _⟩ ?_
  refine aw_istore hC [(4, .int _), (3, .int _), (0, .ref 38), (1, .ref w1), (2, .int _)] dX8_seekShow_102 (by decide) rfl ?_
  generalize ex5 : (f_X8_nextForm S4 38 w1 (0 : Int32) (-1000000 : Int32)) = x5
  refine aw_sub [2, 3, 4, 1, 0] rfl ?_
  refine l_X8_seekShow_104 hC hSt hw1 1000 _ _ _ _ hM (h3 x1 ex1 x2 ex2 r3 er3 S4 eS4 x5 ex5) ?_
  generalize er6 : L_X8_seekShow_104 w1 1000 S4 r3.1 (0 : Int32) x5 = r6
  have hM : CS r6.2.2.2 := CS.of (by rw [← er6]; exact qL_X8_seekShow_104 w1 _ _ _ _ _) hM
  refine aw_vret hC dX8_seekShow_160 (Nat.le_refl _) (Nat.le_refl _) ?_
  exact FP.qV ((bd_eq ex1).trans ((bd_eq ex2).trans ((bd_eq er3).trans ((bd_eq eS4).trans ((bd_eq ex5).trans ((bd_eq er6).trans (rfl)))))))
theorem q_X8_seekShow (S : HSt) (_o0 : Nat) (w1 : Nat) : shp (f_X8_seekShow S _o0 w1) = shp S := by
  unfold f_X8_seekShow
  repeat' (first | with_reducible rfl | with_reducible refine (qL_X8_seekShow_12 w1 _ _ _ _).trans ?_ | with_reducible refine (qL_X8_seekShow_19 w1 _ _ _ _ _).trans ?_ | with_reducible refine (qL_X8_seekShow_104 w1 _ _ _ _ _).trans ?_ | with_reducible refine (shp_sI _ _ _ _).trans ?_ | with_reducible refine (shp_sJ _ _ _ _).trans ?_ | with_reducible refine (shp_rI _ _ _).trans ?_ | with_reducible refine shi ?_ ?_ | with_reducible refine shb (fun _ _ => ?_) | (subst_vars; with_reducible rfl) | (subst_vars; with_reducible refine (qL_X8_seekShow_12 w1 _ _ _ _).trans ?_) | (subst_vars; with_reducible refine (qL_X8_seekShow_19 w1 _ _ _ _ _).trans ?_) | (subst_vars; with_reducible refine (qL_X8_seekShow_104 w1 _ _ _ _ _).trans ?_) | (subst_vars; with_reducible refine (shp_sI _ _ _ _).trans ?_) | (subst_vars; with_reducible refine (shp_sJ _ _ _ _).trans ?_) | (subst_vars; with_reducible refine (shp_rI _ _ _).trans ?_) | (subst_vars; with_reducible refine shi ?_ ?_) | (subst_vars; with_reducible refine shb (fun _ _ => ?_)))
noncomputable def F_X8_skillBehind (S : HSt) (w1 : Nat) (a2 : Int32) (a3 : Int32) : Int32 × HSt := bd ((f_X10_value S w1 (0 : Int32) a2 (1 : Int32))) fun x1 => bd ((f_X10_value S w1 (0 : Int32) a2 (0 : Int32))) fun x2 => bd ((if 0 ≤ (((a3 / (10 : Int32)) - x1) - (x2 / (50 : Int32))) then (((a3 / (10 : Int32)) - x1) - (x2 / (50 : Int32))) else 0 - (((a3 / (10 : Int32)) - x1) - (x2 / (50 : Int32))))) fun x3 => pr ((if (a3 + (if (0 : Int32) < ((10 : Int32) - x3) then ((10 : Int32) - x3) else (0 : Int32))) < (100 : Int32) then (a3 + (if (0 : Int32) < ((10 : Int32) - x3) then ((10 : Int32) - x3) else (0 : Int32))) else (100 : Int32))) (S)
noncomputable def f_X8_skillBehind (S : HSt) (w1 : Nat) (a2 : Int32) (a3 : Int32) : Int32 := (F_X8_skillBehind S w1 a2 a3).1
def p_X8_skillBehind (S : HSt) (w1 : Nat) (a2 : Int32) (a3 : Int32) : Prop := (p_X10_value S w1 (0 : Int32) a2 (1 : Int32)) ∧ (∀ x1 : Int32, (f_X10_value S w1 (0 : Int32) a2 (1 : Int32)) = x1 → p_X10_value S w1 (0 : Int32) a2 (0 : Int32))
set_option maxRecDepth 100000 in
theorem t_X8_skillBehind (G : GG) (l : Launch) {S : HSt} (hM : CS S) (w1 : Nat) (a2 : Int32) (a3 : Int32) (hw1 : (w1, 10, 0) ∈ cKT) (hp : p_X8_skillBehind S w1 a2 a3) : AM G l yX8_skillBehind cX8_skillBehind 6 (some .int) (rmD 1 0 0) 0 0 [.ref w1, .int a2, .int a3] S (FP (some (.int (f_X8_skillBehind S w1 a2 a3))) (S)) := by
  obtain ⟨h0, h1⟩ := hp
  refine AM.mk (by decide) (Nat.le_of_ble_eq_true rfl) ?_
  intro p e s m below meth c hC hSt _
  refine aw_aload_n hC 0 dX8_skillBehind_0 rfl rfl ?_
  refine aw_iconst (v := 0) hC dX8_skillBehind_1 (by decide) ?_
  refine aw_iload_n hC 1 dX8_skillBehind_2 rfl rfl ?_
  refine aw_iconst (v := 1) hC dX8_skillBehind_3 (by decide) ?_
  refine aw_cV3r hC hSt (t_X10_value G l hM _ _ _ _ hw1 (h0)) w_10 w_621 w_16 w_17 w_18 rfl rfl (by decide +kernel) ⟨Nat.le_of_ble_eq_true rfl, Nat.le_of_ble_eq_true rfl⟩ (cs_lt w1 10 0 hw1 hM) (cs_k w1 10 0 hw1 hM) rfl (Nat.le_of_ble_eq_true rfl) dX8_skillBehind_4 ⟨Nat.zero_le _, Nat.zero_le _⟩ ?_
  refine aw_istore_n hC [(3, .int _), (0, .ref w1), (1, .int _), (2, .int _)] dX8_skillBehind_7 rfl (by decide) rfl ?_
  generalize ex1 : (f_X10_value S w1 (0 : Int32) a2 (1 : Int32)) = x1
  refine aw_aload_n hC 1 dX8_skillBehind_8 rfl rfl ?_
  refine aw_iconst (v := 0) hC dX8_skillBehind_9 (by decide) ?_
  refine aw_iload_n hC 2 dX8_skillBehind_10 rfl rfl ?_
  refine aw_iconst (v := 0) hC dX8_skillBehind_11 (by decide) ?_
  refine aw_cV3r hC hSt (t_X10_value G l hM _ _ _ _ hw1 (h1 x1 ex1)) w_10 w_621 w_16 w_17 w_18 rfl rfl (by decide +kernel) ⟨Nat.le_of_ble_eq_true rfl, Nat.le_of_ble_eq_true rfl⟩ (cs_lt w1 10 0 hw1 hM) (cs_k w1 10 0 hw1 hM) rfl (Nat.le_of_ble_eq_true rfl) dX8_skillBehind_12 ⟨Nat.zero_le _, Nat.zero_le _⟩ ?_
  refine aw_istore hC [(4, .int _), (3, .int _), (0, .ref w1), (1, .int _), (2, .int _)] dX8_skillBehind_15 (by decide) rfl ?_
  generalize ex2 : (f_X10_value S w1 (0 : Int32) a2 (0 : Int32)) = x2
  refine aw_iload_n hC 4 dX8_skillBehind_17 rfl rfl ?_
  refine aw_bipush (v := 10) hC dX8_skillBehind_18 (by decide) ?_
  refine aw_idiv hC dX8_skillBehind_20 (by decide) ?_
  refine aw_iload_n hC 1 dX8_skillBehind_21 rfl rfl ?_
  refine aw_isub hC dX8_skillBehind_22 ?_
  refine aw_iload hC 0 dX8_skillBehind_23 rfl ?_
  refine aw_bipush (v := 50) hC dX8_skillBehind_25 (by decide) ?_
  refine aw_idiv hC dX8_skillBehind_27 (by decide) ?_
  refine aw_isub hC dX8_skillBehind_28 ?_
  refine aw_abs hC w_641 w_109 w_92 w_110 (by decide) (Nat.le_of_ble_eq_true rfl) (by decide) (by decide) dX8_skillBehind_29 ?_
  refine aw_istore hC [(5, .int _), (4, .int _), (3, .int _), (0, .ref w1), (1, .int _), (2, .int _)] dX8_skillBehind_32 (by decide) rfl ?_
  generalize ex3 : (if 0 ≤ (((a3 / (10 : Int32)) - x1) - (x2 / (50 : Int32))) then (((a3 / (10 : Int32)) - x1) - (x2 / (50 : Int32))) else 0 - (((a3 / (10 : Int32)) - x1) - (x2 / (50 : Int32)))) = x3
  refine aw_bipush (v := 100) hC dX8_skillBehind_34 (by decide) ?_
  refine aw_iload_n hC 5 dX8_skillBehind_36 rfl rfl ?_
  refine aw_iconst (v := 0) hC dX8_skillBehind_37 (by decide) ?_
  refine aw_bipush (v := 10) hC dX8_skillBehind_38 (by decide) ?_
  refine aw_iload hC 0 dX8_skillBehind_40 rfl ?_
  refine aw_isub hC dX8_skillBehind_42 ?_
  refine aw_max hC w_642 w_91 w_92 w_93 (by decide) (Nat.le_of_ble_eq_true rfl) (by decide) (by decide) dX8_skillBehind_43 ?_
  refine aw_iadd hC dX8_skillBehind_46 ?_
  refine aw_min hC w_643 w_95 w_92 w_96 (by decide) (Nat.le_of_ble_eq_true rfl) (by decide) (by decide) dX8_skillBehind_47 ?_
  refine aw_iret hC dX8_skillBehind_50 (Nat.le_refl _) (Nat.le_refl _) ?_
  exact FP.pI ((bd_eq ex1).trans ((bd_eq ex2).trans ((bd_eq ex3).trans (rfl))))
noncomputable def F_X8_triesBy (S : HSt) (_o0 : Nat) (w1 : Nat) (a2 : Int32) (a3 : Int32) : Int32 × HSt := bd ((f_X8_skillBehind S w1 a2 a3)) fun x1 => bd ((if x1 ≤ a3 then (31 : Int32) else (if (100 : Int32) < x1 then (31 : Int32) else ((1 : Int32) + (gI S 41 x1.toNatClampNeg))))) fun x4 => pr (x4) (S)
noncomputable def f_X8_triesBy (S : HSt) (_o0 : Nat) (w1 : Nat) (a2 : Int32) (a3 : Int32) : Int32 := (F_X8_triesBy S _o0 w1 a2 a3).1
def p_X8_triesBy (S : HSt) (_o0 : Nat) (w1 : Nat) (a2 : Int32) (a3 : Int32) : Prop := (p_X8_skillBehind S w1 a2 a3) ∧ (∀ x1 : Int32, (f_X8_skillBehind S w1 a2 a3) = x1 → (¬ x1 ≤ a3) → (¬ (100 : Int32) < x1) → vp_in x1 101)
set_option maxRecDepth 100000 in
theorem t_X8_triesBy (G : GG) (l : Launch) {S : HSt} (hM : CS S) (w1 : Nat) (a2 : Int32) (a3 : Int32) (hw1 : (w1, 10, 0) ∈ cKT) (hp : p_X8_triesBy S 38 w1 a2 a3) : AM G l yX8_triesBy cX8_triesBy 5 (some .int) (rmD 2 0 0) 0 0 [.ref 38, .ref w1, .int a2, .int a3] S (FP (some (.int (f_X8_triesBy S 38 w1 a2 a3))) (S)) := by
  obtain ⟨h0, h1⟩ := hp
  refine AM.mk (by decide) (Nat.le_of_ble_eq_true rfl) ?_
  intro p e s m below meth c hC hSt _
  refine aw_aload_n hC 1 dX8_triesBy_0 rfl rfl ?_
  refine aw_iload_n hC 2 dX8_triesBy_1 rfl rfl ?_
  refine aw_iload_n hC 3 dX8_triesBy_2 rfl rfl ?_
  refine aw_cS3r hC hSt (t_X8_skillBehind G l hM _ _ _ hw1 (h0)) w_640 w_645 w_646 w_625 rfl rfl (by decide +kernel) ⟨Nat.le_of_ble_eq_true rfl, Nat.le_of_ble_eq_true rfl⟩ (Nat.le_of_ble_eq_true rfl) dX8_triesBy_3 ⟨Nat.zero_le _, Nat.zero_le _⟩ ?_
  refine aw_istore hC [(4, .int _), (0, .ref 38), (1, .ref w1), (2, .int _), (3, .int _)] dX8_triesBy_6 (by decide) rfl ?_
  generalize ex1 : (f_X8_skillBehind S w1 a2 a3) = x1
  refine aw_iload hC 0 dX8_triesBy_8 rfl ?_
  refine aw_iload_n hC 4 dX8_triesBy_10 rfl rfl ?_
  refine aw_cut (S' := S) (pc' := 35) (lv' := [(4, .int x1), (0, .ref 38), (1, .ref w1), (2, .int a2), (3, .int a3)]) (st' := [.int (if x1 ≤ a3 then (31 : Int32) else (if (100 : Int32) < x1 then (31 : Int32) else ((1 : Int32) + (gI S 41 x1.toNatClampNeg))))]) ?_ (fun Jc2 => ?_)
  · generalize ex4 : (if x1 ≤ a3 then (31 : Int32) else (if (100 : Int32) < x1 then (31 : Int32) else ((1 : Int32) + (gI S 41 x1.toNatClampNeg)))) = x4
    refine aw_iret hC dX8_triesBy_35 (Nat.le_refl _) (Nat.le_refl _) ?_
    exact FP.pI ((bd_eq ex1).trans ((bd_eq ex4).trans (rfl)))
  · refine aw_icmp_le hC 33 dX8_triesBy_11 (by decide) (fun c2 => ?_) (fun c2 => ?_)
    · refine aw_bipush (v := 31) hC dX8_triesBy_33 (by decide) ?_
      simp only [bd_def, if_pos c2] at Jc2 ⊢
      exact Jc2
    · refine aw_iload hC 0 dX8_triesBy_14 rfl ?_
      refine aw_bipush (v := 100) hC dX8_triesBy_16 (by decide) ?_
      refine aw_icmp_gt hC 33 dX8_triesBy_18 (by decide) (fun c3 => ?_) (fun c3 => ?_)
      · refine aw_bipush (v := 31) hC dX8_triesBy_33 (by decide) ?_
        simp only [bd_def, if_neg c2, if_pos c3] at Jc2 ⊢
        exact Jc2
      · refine aw_iconst (v := 1) hC dX8_triesBy_21 (by decide) ?_
        refine aw_aload_n hC 1 dX8_triesBy_22 rfl rfl ?_
        refine aw_getP (b := 41) hC hSt 2 (cs_lt 38 8 0 (by decide) hM) (cs_k 38 8 0 (by decide) hM) rfl (by decide) w_616 rfl (cs_p 38 2 41 (by decide) hM) dX8_triesBy_23 ?_
        refine aw_iload hC 0 dX8_triesBy_26 rfl ?_
        refine aw_iald hC hSt (cs_lt 41 14 101 (by decide) hM) (cs_k 41 14 101 (by decide) hM) (vp_len (n := 101) (cs_l 41 14 101 (by decide) hM) (h1 x1 ex1 c2 c3)) dX8_triesBy_28 ?_
        refine aw_iadd hC dX8_triesBy_29 ?_
        refine aw_goto hC 35 dX8_triesBy_30 (by decide) ?_
        simp only [bd_def, if_neg c2, if_neg c3] at Jc2 ⊢
        exact Jc2
noncomputable def L_X8_seekTries_14 (w1 : Nat) : Nat → HSt → Int32 → Int32 → Int32 → Int32 → Int32 × Int32 × Int32 × Int32
  | 0, S, v2, v3, v4, v5 => (v2, v3, v4, v5)
  | n + 1, S, v2, v3, v4, v5 =>
    if v2 ≤ v3 then ((pr (v2) (pr (v3) (pr (v4) (v5))))) else (if (f_X10_howMany S w1 (0 : Int32)) ≤ v5 then ((pr (v2) (pr (v3) (pr (v4) (v5))))) else (bd ((if (f_X8_triesBy S 38 w1 v5 v3) < v4 then (f_X8_triesBy S 38 w1 v5 v3) else v4)) fun x2004 => L_X8_seekTries_14 w1 n S v2 v3 x2004 (v5 + (1 : Int32))))
def T_X8_seekTries_14 (w1 : Nat) : Nat → HSt → Int32 → Int32 → Int32 → Int32 → Prop
  | 0, _, _, _, _, _ => False
  | n + 1, S, v2, v3, v4, v5 => ((¬ v2 ≤ v3) → p_X10_howMany S w1 (0 : Int32)) ∧ ((¬ v2 ≤ v3) → (¬ (f_X10_howMany S w1 (0 : Int32)) ≤ v5) → p_X8_triesBy S 38 w1 v5 v3) ∧ ((¬ v2 ≤ v3) → (¬ (f_X10_howMany S w1 (0 : Int32)) ≤ v5) → ∀ x2004 : Int32, (if (f_X8_triesBy S 38 w1 v5 v3) < v4 then (f_X8_triesBy S 38 w1 v5 v3) else v4) = x2004 → T_X8_seekTries_14 w1 n S v2 v3 x2004 (v5 + (1 : Int32)))
set_option maxRecDepth 100000 in
theorem l_X8_seekTries_14 {p : Program} {l : Launch} {e : Env} {s : State} {m : MethodId} {args : Array Value} {below : List Frame} {meth : Method} {c : Code} {G : GG} {Q : State → Prop} (hC : ACx p s m args meth c cX8_seekTries RX8 6 none) (hSt : St G s) {w1 : Nat} (hw1 : (w1, 10, 0) ∈ cKT) : ∀ (n : Nat) (S : HSt) (v2 : Int32) (v3 : Int32) (v4 : Int32) (v5 : Int32), CS S → T_X8_seekTries_14 w1 n S v2 v3 v4 v5 → AW p l e (rmD 3 0 0) s m args below meth c G 6 Q S 0 0 50 [(0, .ref 38), (1, .ref w1), (2, .int (L_X8_seekTries_14 w1 n S v2 v3 v4 v5).1), (3, .int (L_X8_seekTries_14 w1 n S v2 v3 v4 v5).2.1), (4, .int (L_X8_seekTries_14 w1 n S v2 v3 v4 v5).2.2.1), (5, .int (L_X8_seekTries_14 w1 n S v2 v3 v4 v5).2.2.2)] [] → AW p l e (rmD 3 0 0) s m args below meth c G 6 Q S 0 0 14 [(0, .ref 38), (1, .ref w1), (2, .int v2), (3, .int v3), (4, .int v4), (5, .int v5)] [] := by
  intro n
  induction n with
  | zero => intro S v2 v3 v4 v5 _ hT; exact hT.elim
  | succ n ih =>
    intro S v2 v3 v4 v5 hM hT hk
    unfold T_X8_seekTries_14 at hT
    obtain ⟨h0, h1, h2⟩ := hT
    refine aw_iload_n hC 3 dX8_seekTries_14 rfl rfl ?_
    refine aw_iload_n hC 2 dX8_seekTries_15 rfl rfl ?_
    refine aw_icmp_ge hC 50 dX8_seekTries_16 (by decide) (fun c2002 => ?_) (fun c2002 => ?_)
    · refine aw_sub [0, 1, 2, 3, 4, 5] rfl ?_
      have E : L_X8_seekTries_14 w1 (n + 1) S v2 v3 v4 v5 = _ := (if_pos c2002).trans (rfl)
      rw [E] at hk
      exact hk
    · refine aw_iload hC 5 dX8_seekTries_19 rfl ?_
      refine aw_aload_n hC 1 dX8_seekTries_21 rfl rfl ?_
      refine aw_iconst (v := 0) hC dX8_seekTries_22 (by decide) ?_
      refine aw_cV1r hC hSt (t_X10_howMany G l hM _ _ hw1 (h0 c2002)) w_152 w_627 w_237 w_238 w_18 rfl rfl (by decide +kernel) ⟨Nat.le_of_ble_eq_true rfl, Nat.le_of_ble_eq_true rfl⟩ (cs_lt w1 10 0 hw1 hM) (cs_k w1 10 0 hw1 hM) rfl (Nat.le_of_ble_eq_true rfl) dX8_seekTries_23 ⟨Nat.zero_le _, Nat.zero_le _⟩ ?_
      refine aw_icmp_ge hC 50 dX8_seekTries_26 (by decide) (fun c2003 => ?_) (fun c2003 => ?_)
      · refine aw_sub [0, 1, 2, 3, 4, 5] rfl ?_
        have E : L_X8_seekTries_14 w1 (n + 1) S v2 v3 v4 v5 = _ := (if_neg c2002).trans ((if_pos c2003).trans (rfl))
        rw [E] at hk
        exact hk
      · refine aw_iload hC 4 dX8_seekTries_29 rfl ?_
        refine aw_aload_n hC 0 dX8_seekTries_31 rfl rfl ?_
        refine aw_aload_n hC 1 dX8_seekTries_32 rfl rfl ?_
        refine aw_iload hC 5 dX8_seekTries_33 rfl ?_
        refine aw_iload_n hC 3 dX8_seekTries_35 rfl rfl ?_
        refine aw_cV3r hC hSt (t_X8_triesBy G l hM _ _ _ hw1 (h1 c2002 c2003)) w_644 w_647 w_648 w_649 w_625 rfl rfl (by decide +kernel) ⟨Nat.le_of_ble_eq_true rfl, Nat.le_of_ble_eq_true rfl⟩ (cs_lt 38 8 0 (by decide) hM) (cs_k 38 8 0 (by decide) hM) rfl (Nat.le_of_ble_eq_true rfl) dX8_seekTries_36 ⟨Nat.zero_le _, Nat.zero_le _⟩ ?_
        refine aw_min hC w_643 w_95 w_92 w_96 (by decide) (Nat.le_of_ble_eq_true rfl) (by decide) (by decide) dX8_seekTries_39 ?_
        refine aw_istore hC [(4, .int _), (0, .ref 38), (1, .ref w1), (2, .int _), (3, .int _), (5, .int _)] dX8_seekTries_42 (by decide) rfl ?_
        generalize ex2004 : (if (f_X8_triesBy S 38 w1 v5 v3) < v4 then (f_X8_triesBy S 38 w1 v5 v3) else v4) = x2004
        refine aw_iinc (v := (v5 + (1 : Int32))) hC 5 [(5, .int _), (4, .int _), (0, .ref 38), (1, .ref w1), (2, .int _), (3, .int _)] dX8_seekTries_44 rfl rfl (by decide) rfl ?_
        refine aw_goto hC 14 dX8_seekTries_47 (by decide) ?_
        refine aw_sub [2, 3, 4, 5, 1, 0] rfl ?_
        have hTn := (h2 c2002 c2003 x2004 ex2004)
        have hMn : CS S := hM
        have E : L_X8_seekTries_14 w1 (n + 1) S v2 v3 v4 v5 = _ := (if_neg c2002).trans ((if_neg c2003).trans ((bd_eq ex2004).trans (rfl)))
        rw [E] at hk
        exact ih _ _ _ _ _ hMn hTn hk
noncomputable def L_X8_seekTries_3 (w1 : Nat) : Nat → HSt → Int32 → Int32 → Int32 × Int32 × HSt
  | 0, S, v2, v3 => (v2, v3, S)
  | n + 1, S, v2, v3 =>
    if v3 < 0 then ((pr (v2) (pr (v3) (S)))) else (bd (L_X8_seekTries_14 w1 1000 S v2 v3 (31 : Int32) (0 : Int32)) fun r1002 => bd ((if r1002.2.1 < r1002.1 then r1002.2.2.1 else (0 : Int32))) fun x1004 => bd ((sI S 41 r1002.2.1.toNatClampNeg x1004)) fun S1005 => L_X8_seekTries_3 w1 n S1005 r1002.1 (r1002.2.1 + (-1 : Int32)))
def T_X8_seekTries_3 (w1 : Nat) : Nat → HSt → Int32 → Int32 → Prop
  | 0, _, _, _ => False
  | n + 1, S, v2, v3 => ((¬ v3 < 0) → T_X8_seekTries_14 w1 1000 S v2 v3 (31 : Int32) (0 : Int32)) ∧ ((¬ v3 < 0) → ∀ r1002, L_X8_seekTries_14 w1 1000 S v2 v3 (31 : Int32) (0 : Int32) = r1002 → ∀ x1004 : Int32, (if r1002.2.1 < r1002.1 then r1002.2.2.1 else (0 : Int32)) = x1004 → vp_in r1002.2.1 101) ∧ ((¬ v3 < 0) → ∀ r1002, L_X8_seekTries_14 w1 1000 S v2 v3 (31 : Int32) (0 : Int32) = r1002 → ∀ x1004 : Int32, (if r1002.2.1 < r1002.1 then r1002.2.2.1 else (0 : Int32)) = x1004 → ∀ S1005 : HSt, (sI S 41 r1002.2.1.toNatClampNeg x1004) = S1005 → T_X8_seekTries_3 w1 n S1005 r1002.1 (r1002.2.1 + (-1 : Int32)))
theorem qL_X8_seekTries_3 (w1 : Nat) : ∀ (n : Nat) (S : HSt) (v2 : Int32) (v3 : Int32), shp (L_X8_seekTries_3 w1 n S v2 v3).2.2 = shp S := by
  intro n
  induction n with
  | zero => intros; rfl
  | succ n ih =>
    intro S v2 v3
    unfold L_X8_seekTries_3
    repeat' (first | with_reducible refine shpr2 ?_ | with_reducible rfl | with_reducible refine (ih _ _ _).trans ?_ | with_reducible refine (shp_sI _ _ _ _).trans ?_ | with_reducible refine (shp_sJ _ _ _ _).trans ?_ | with_reducible refine (shp_rI _ _ _).trans ?_ | with_reducible refine shi ?_ ?_ | with_reducible refine shb (fun _ _ => ?_) | with_reducible refine shiP (fun q : Int32 × Int32 × HSt => q.2.2) ?_ ?_ | with_reducible refine shbP (fun q : Int32 × Int32 × HSt => q.2.2) (fun _ _ => ?_) | (subst_vars; with_reducible rfl) | (subst_vars; with_reducible refine (ih _ _ _).trans ?_) | (subst_vars; with_reducible refine (shp_sI _ _ _ _).trans ?_) | (subst_vars; with_reducible refine (shp_sJ _ _ _ _).trans ?_) | (subst_vars; with_reducible refine (shp_rI _ _ _).trans ?_) | (subst_vars; with_reducible refine shi ?_ ?_) | (subst_vars; with_reducible refine shb (fun _ _ => ?_)))
set_option maxRecDepth 100000 in
theorem l_X8_seekTries_3 {p : Program} {l : Launch} {e : Env} {s : State} {m : MethodId} {args : Array Value} {below : List Frame} {meth : Method} {c : Code} {G : GG} {Q : State → Prop} (hC : ACx p s m args meth c cX8_seekTries RX8 6 none) (hSt : St G s) {w1 : Nat} (hw1 : (w1, 10, 0) ∈ cKT) : ∀ (n : Nat) (S : HSt) (v2 : Int32) (v3 : Int32), CS S → T_X8_seekTries_3 w1 n S v2 v3 → AW p l e (rmD 3 0 0) s m args below meth c G 6 Q (L_X8_seekTries_3 w1 n S v2 v3).2.2 0 0 73 [(0, .ref 38), (1, .ref w1), (2, .int (L_X8_seekTries_3 w1 n S v2 v3).1), (3, .int (L_X8_seekTries_3 w1 n S v2 v3).2.1)] [] → AW p l e (rmD 3 0 0) s m args below meth c G 6 Q S 0 0 3 [(0, .ref 38), (1, .ref w1), (2, .int v2), (3, .int v3)] [] := by
  intro n
  induction n with
  | zero => intro S v2 v3 _ hT; exact hT.elim
  | succ n ih =>
    intro S v2 v3 hM hT hk
    unfold T_X8_seekTries_3 at hT
    obtain ⟨h0, h1, h2⟩ := hT
    refine aw_iload_n hC 3 dX8_seekTries_3 rfl rfl ?_
    refine aw_if_lt hC 73 dX8_seekTries_4 (by decide) (fun c1001 => ?_) (fun c1001 => ?_)
    · refine aw_sub [0, 1, 2, 3] rfl ?_
      have E : L_X8_seekTries_3 w1 (n + 1) S v2 v3 = _ := (if_pos c1001).trans (rfl)
      rw [E] at hk
      exact hk
    · refine aw_bipush (v := 31) hC dX8_seekTries_7 (by decide) ?_
      refine aw_istore hC [(4, .int _), (0, .ref 38), (1, .ref w1), (2, .int _), (3, .int _)] dX8_seekTries_9 (by decide) rfl ?_
      refine aw_iconst (v := 0) hC dX8_seekTries_11 (by decide) ?_
      refine aw_istore hC [(5, .int _), (4, .int _), (0, .ref 38), (1, .ref w1), (2, .int _), (3, .int _)] dX8_seekTries_12 (by decide) rfl ?_
      refine aw_sub [2, 3, 4, 5, 1, 0] rfl ?_
      refine l_X8_seekTries_14 hC hSt hw1 1000 _ _ _ _ _ hM (h0 c1001) ?_
      generalize er1002 : L_X8_seekTries_14 w1 1000 S v2 v3 (31 : Int32) (0 : Int32) = r1002
      refine aw_aload_n hC 0 dX8_seekTries_50 rfl rfl ?_
      refine aw_getP (b := 41) hC hSt 2 (cs_lt 38 8 0 (by decide) hM) (cs_k 38 8 0 (by decide) hM) rfl (by decide) w_616 rfl (cs_p 38 2 41 (by decide) hM) dX8_seekTries_51 ?_
      refine aw_iload_n hC 3 dX8_seekTries_54 rfl rfl ?_
      refine aw_iload_n hC 3 dX8_seekTries_55 rfl rfl ?_
      refine aw_iload_n hC 2 dX8_seekTries_56 rfl rfl ?_
      refine aw_cut (S' := S) (pc' := 66) (lv' := [(0, .ref 38), (1, .ref w1), (2, .int r1002.1), (3, .int r1002.2.1), (4, .int r1002.2.2.1), (5, .int r1002.2.2.2)]) (st' := [.int (if r1002.2.1 < r1002.1 then r1002.2.2.1 else (0 : Int32)), .int r1002.2.1, .ref 41]) ?_ (fun Jc1003 => ?_)
      · generalize ex1004 : (if r1002.2.1 < r1002.1 then r1002.2.2.1 else (0 : Int32)) = x1004
        refine aw_iast hC hSt (cs_lt 41 14 101 (by decide) hM) (cs_k 41 14 101 (by decide) hM) (vp_len (n := 101) (cs_l 41 14 101 (by decide) hM) (h1 c1001 r1002 er1002 x1004 ex1004)) dX8_seekTries_66 ?_
        generalize eS1005 : (sI S 41 r1002.2.1.toNatClampNeg x1004) = S1005
        have hM : CS S1005 := CS.of (by rw [← eS1005]; exact shp_sI _ _ _ _) hM
        refine aw_iinc (v := (r1002.2.1 + (-1 : Int32))) hC 3 [(3, .int _), (0, .ref 38), (1, .ref w1), (2, .int _), (4, .int _), (5, .int _)] dX8_seekTries_67 rfl rfl (by decide) rfl ?_
        refine aw_goto hC 3 dX8_seekTries_70 (by decide) ?_
        refine aw_sub [1, 2, 3, 0] rfl ?_
        have hTn := (h2 c1001 r1002 er1002 x1004 ex1004 S1005 eS1005)
        have hMn : CS S1005 := hM
        have E : L_X8_seekTries_3 w1 (n + 1) S v2 v3 = _ := (if_neg c1001).trans ((bd_eq er1002).trans ((bd_eq ex1004).trans ((bd_eq eS1005).trans (rfl))))
        rw [E] at hk
        exact ih _ _ _ hMn hTn hk
      · refine aw_icmp_lt hC 64 dX8_seekTries_57 (by decide) (fun c1003 => ?_) (fun c1003 => ?_)
        · refine aw_iload hC 4 dX8_seekTries_64 rfl ?_
          simp only [bd_def, if_pos c1003] at Jc1003 ⊢
          exact Jc1003
        · refine aw_iconst (v := 0) hC dX8_seekTries_60 (by decide) ?_
          refine aw_goto hC 66 dX8_seekTries_61 (by decide) ?_
          simp only [bd_def, if_neg c1003] at Jc1003 ⊢
          exact Jc1003
noncomputable def f_X8_seekTries (S : HSt) (_o0 : Nat) (w1 : Nat) (a2 : Int32) : HSt := bd (L_X8_seekTries_3 w1 1000 S a2 (100 : Int32)) fun r1 => r1.2.2
def p_X8_seekTries (S : HSt) (_o0 : Nat) (w1 : Nat) (a2 : Int32) : Prop := (T_X8_seekTries_3 w1 1000 S a2 (100 : Int32))
set_option maxRecDepth 100000 in
theorem t_X8_seekTries (G : GG) (l : Launch) {S : HSt} (hM : CS S) (w1 : Nat) (a2 : Int32) (hw1 : (w1, 10, 0) ∈ cKT) (hp : p_X8_seekTries S 38 w1 a2) : AM G l yX8_seekTries cX8_seekTries 6 none (rmD 3 0 0) 0 0 [.ref 38, .ref w1, .int a2] S (FP none (f_X8_seekTries S 38 w1 a2)) := by
  have h0 := hp
  unfold p_X8_seekTries at h0
  refine AM.mk (by decide) (Nat.le_of_ble_eq_true rfl) ?_
  intro p e s m below meth c hC hSt _
  refine aw_bipush (v := 100) hC dX8_seekTries_0 (by decide) ?_
  refine aw_istore_n hC [(3, .int _), (0, .ref 38), (1, .ref w1), (2, .int _)] dX8_seekTries_2 rfl (by decide) rfl ?_
  refine aw_sub [1, 2, 3, 0] rfl ?_
  refine l_X8_seekTries_3 hC hSt hw1 1000 _ _ _ hM (h0) ?_
  generalize er1 : L_X8_seekTries_3 w1 1000 S a2 (100 : Int32) = r1
  have hM : CS r1.2.2 := CS.of (by rw [← er1]; exact qL_X8_seekTries_3 w1 _ _ _ _) hM
  refine aw_vret hC dX8_seekTries_73 (Nat.le_refl _) (Nat.le_refl _) ?_
  exact FP.qV ((bd_eq er1).trans (rfl))
theorem q_X8_seekTries (S : HSt) (_o0 : Nat) (w1 : Nat) (a2 : Int32) : shp (f_X8_seekTries S _o0 w1 a2) = shp S := by
  unfold f_X8_seekTries
  repeat' (first | with_reducible rfl | with_reducible refine (qL_X8_seekTries_3 w1 _ _ _ _).trans ?_ | with_reducible refine (shp_sI _ _ _ _).trans ?_ | with_reducible refine (shp_sJ _ _ _ _).trans ?_ | with_reducible refine (shp_rI _ _ _).trans ?_ | with_reducible refine shi ?_ ?_ | with_reducible refine shb (fun _ _ => ?_) | (subst_vars; with_reducible rfl) | (subst_vars; with_reducible refine (qL_X8_seekTries_3 w1 _ _ _ _).trans ?_) | (subst_vars; with_reducible refine (shp_sI _ _ _ _).trans ?_) | (subst_vars; with_reducible refine (shp_sJ _ _ _ _).trans ?_) | (subst_vars; with_reducible refine (shp_rI _ _ _).trans ?_) | (subst_vars; with_reducible refine shi ?_ ?_) | (subst_vars; with_reducible refine shb (fun _ _ => ?_)))
noncomputable def F_X8_triesFrom (S : HSt) (_o0 : Nat) (a1 : Int32) : Int32 × HSt := bd ((if a1 < 0 then (0 : Int32) else (if (100 : Int32) < a1 then (0 : Int32) else (1 : Int32)))) fun x3 => bd ((if x3 = 0 then (-1000000 : Int32) else (if (30 : Int32) < (gI S 41 a1.toNatClampNeg) then (-1000000 : Int32) else (gI S 41 a1.toNatClampNeg)))) fun x6 => pr (x6) (S)
noncomputable def f_X8_triesFrom (S : HSt) (_o0 : Nat) (a1 : Int32) : Int32 := (F_X8_triesFrom S _o0 a1).1
def p_X8_triesFrom (S : HSt) (_o0 : Nat) (a1 : Int32) : Prop := (∀ x3 : Int32, (if a1 < 0 then (0 : Int32) else (if (100 : Int32) < a1 then (0 : Int32) else (1 : Int32))) = x3 → (¬ x3 = 0) → vp_in a1 101) ∧ (∀ x3 : Int32, (if a1 < 0 then (0 : Int32) else (if (100 : Int32) < a1 then (0 : Int32) else (1 : Int32))) = x3 → (¬ x3 = 0) → (¬ (30 : Int32) < (gI S 41 a1.toNatClampNeg)) → vp_in a1 101)
set_option maxRecDepth 100000 in
theorem t_X8_triesFrom (G : GG) (l : Launch) {S : HSt} (hM : CS S) (a1 : Int32)  (hp : p_X8_triesFrom S 38 a1) : AM G l yX8_triesFrom cX8_triesFrom 3 (some .int) (rmD 0 0 0) 0 0 [.ref 38, .int a1] S (FP (some (.int (f_X8_triesFrom S 38 a1))) (S)) := by
  obtain ⟨h0, h1⟩ := hp
  refine AM.mk (by decide) (Nat.le_of_ble_eq_true rfl) ?_
  intro p e s m below meth c hC hSt _
  refine aw_iload_n hC 1 dX8_triesFrom_0 rfl rfl ?_
  refine aw_cut (S' := S) (pc' := 15) (lv' := [(0, .ref 38), (1, .int a1)]) (st' := [.int (if a1 < 0 then (0 : Int32) else (if (100 : Int32) < a1 then (0 : Int32) else (1 : Int32)))]) ?_ (fun Jc1 => ?_)
  · generalize ex3 : (if a1 < 0 then (0 : Int32) else (if (100 : Int32) < a1 then (0 : Int32) else (1 : Int32))) = x3
    refine aw_istore_n hC [(2, .int _), (0, .ref 38), (1, .int _)] dX8_triesFrom_15 rfl (by decide) rfl ?_
    refine aw_iload_n hC 0 dX8_triesFrom_16 rfl rfl ?_
    refine aw_cut (S' := S) (pc' := 42) (lv' := [(2, .int x3), (0, .ref 38), (1, .int a1)]) (st' := [.int (if x3 = 0 then (-1000000 : Int32) else (if (30 : Int32) < (gI S 41 a1.toNatClampNeg) then (-1000000 : Int32) else (gI S 41 a1.toNatClampNeg)))]) ?_ (fun Jc4 => ?_)
    · generalize ex6 : (if x3 = 0 then (-1000000 : Int32) else (if (30 : Int32) < (gI S 41 a1.toNatClampNeg) then (-1000000 : Int32) else (gI S 41 a1.toNatClampNeg))) = x6
      refine aw_iret hC dX8_triesFrom_42 (Nat.le_refl _) (Nat.le_refl _) ?_
      exact FP.pI ((bd_eq ex3).trans ((bd_eq ex6).trans (rfl)))
    · refine aw_if_eq hC 40 dX8_triesFrom_17 (by decide) (fun c4 => ?_) (fun c4 => ?_)
      · refine aw_ldc (v := -1000000) hC w_626 dX8_triesFrom_40 ?_
        simp only [bd_def, if_pos c4] at Jc4 ⊢
        exact Jc4
      · refine aw_aload_n hC 1 dX8_triesFrom_20 rfl rfl ?_
        refine aw_getP (b := 41) hC hSt 2 (cs_lt 38 8 0 (by decide) hM) (cs_k 38 8 0 (by decide) hM) rfl (by decide) w_616 rfl (cs_p 38 2 41 (by decide) hM) dX8_triesFrom_21 ?_
        refine aw_iload_n hC 2 dX8_triesFrom_24 rfl rfl ?_
        refine aw_iald hC hSt (cs_lt 41 14 101 (by decide) hM) (cs_k 41 14 101 (by decide) hM) (vp_len (n := 101) (cs_l 41 14 101 (by decide) hM) (h0 x3 ex3 c4)) dX8_triesFrom_25 ?_
        refine aw_bipush (v := 30) hC dX8_triesFrom_26 (by decide) ?_
        refine aw_icmp_gt hC 40 dX8_triesFrom_28 (by decide) (fun c5 => ?_) (fun c5 => ?_)
        · refine aw_ldc (v := -1000000) hC w_626 dX8_triesFrom_40 ?_
          simp only [bd_def, if_neg c4, if_pos c5] at Jc4 ⊢
          exact Jc4
        · refine aw_aload_n hC 1 dX8_triesFrom_31 rfl rfl ?_
          refine aw_getP (b := 41) hC hSt 2 (cs_lt 38 8 0 (by decide) hM) (cs_k 38 8 0 (by decide) hM) rfl (by decide) w_616 rfl (cs_p 38 2 41 (by decide) hM) dX8_triesFrom_32 ?_
          refine aw_iload_n hC 2 dX8_triesFrom_35 rfl rfl ?_
          refine aw_iald hC hSt (cs_lt 41 14 101 (by decide) hM) (cs_k 41 14 101 (by decide) hM) (vp_len (n := 101) (cs_l 41 14 101 (by decide) hM) (h1 x3 ex3 c4 c5)) dX8_triesFrom_36 ?_
          refine aw_goto hC 42 dX8_triesFrom_37 (by decide) ?_
          simp only [bd_def, if_neg c4, if_neg c5] at Jc4 ⊢
          exact Jc4
  · refine aw_if_lt hC 14 dX8_triesFrom_1 (by decide) (fun c1 => ?_) (fun c1 => ?_)
    · refine aw_iconst (v := 0) hC dX8_triesFrom_14 (by decide) ?_
      simp only [bd_def, if_pos c1] at Jc1 ⊢
      exact Jc1
    · refine aw_iload_n hC 1 dX8_triesFrom_4 rfl rfl ?_
      refine aw_bipush (v := 100) hC dX8_triesFrom_5 (by decide) ?_
      refine aw_icmp_gt hC 14 dX8_triesFrom_7 (by decide) (fun c2 => ?_) (fun c2 => ?_)
      · refine aw_iconst (v := 0) hC dX8_triesFrom_14 (by decide) ?_
        simp only [bd_def, if_neg c1, if_pos c2] at Jc1 ⊢
        exact Jc1
      · refine aw_iconst (v := 1) hC dX8_triesFrom_10 (by decide) ?_
        refine aw_goto hC 15 dX8_triesFrom_11 (by decide) ?_
        simp only [bd_def, if_neg c1, if_neg c2] at Jc1 ⊢
        exact Jc1
noncomputable def L_X8_firstRope_9 (w1 : Nat) : Nat → HSt → Int32 → Int32 → Int32 → Int32 × Int32 × Int32 × Int32 × Int32
  | 0, S, v2, v3, v4 => ((1 : Int32), 0, v2, v3, v4)
  | n + 1, S, v2, v3, v4 =>
    if v3 ≤ 0 then ((pr ((0 : Int32)) (pr (0) (pr (v2) (pr (v3) (v4)))))) else (if (f_X10_howMany S w1 (0 : Int32)) ≤ v4 then ((pr ((0 : Int32)) (pr (0) (pr (v2) (pr (v3) (v4)))))) else (if (f_X8_triesBy S 38 w1 v4 v2) = v3 then ((pr ((1 : Int32)) (pr (v4) (pr (v2) (pr (v3) (v4)))))) else (L_X8_firstRope_9 w1 n S v2 v3 (v4 + (1 : Int32)))))
def T_X8_firstRope_9 (w1 : Nat) : Nat → HSt → Int32 → Int32 → Int32 → Prop
  | 0, _, _, _, _ => False
  | n + 1, S, v2, v3, v4 => ((¬ v3 ≤ 0) → p_X10_howMany S w1 (0 : Int32)) ∧ ((¬ v3 ≤ 0) → (¬ (f_X10_howMany S w1 (0 : Int32)) ≤ v4) → p_X8_triesBy S 38 w1 v4 v2) ∧ ((¬ v3 ≤ 0) → (¬ (f_X10_howMany S w1 (0 : Int32)) ≤ v4) → (¬ (f_X8_triesBy S 38 w1 v4 v2) = v3) → T_X8_firstRope_9 w1 n S v2 v3 (v4 + (1 : Int32)))
set_option maxRecDepth 100000 in
theorem l_X8_firstRope_9 {p : Program} {l : Launch} {e : Env} {s : State} {m : MethodId} {args : Array Value} {below : List Frame} {meth : Method} {c : Code} {G : GG} {Post : Option Value → HSt → Prop} (hC : ACx p s m args meth c cX8_firstRope RX8 5 (some .int)) (hSt : St G s) {w1 : Nat} (hw1 : (w1, 10, 0) ∈ cKT) : ∀ (n : Nat) (S : HSt) (v2 : Int32) (v3 : Int32) (v4 : Int32), CS S → T_X8_firstRope_9 w1 n S v2 v3 v4 → ((L_X8_firstRope_9 w1 n S v2 v3 v4).1 = 1 → Post (some (.int (L_X8_firstRope_9 w1 n S v2 v3 v4).2.1)) S) → ((L_X8_firstRope_9 w1 n S v2 v3 v4).1 ≠ 1 → AW p l e (rmD 3 0 0) s m args below meth c G 5 (AQ G below args s 0 0 Post) S 0 0 44 [(0, .ref 38), (1, .ref w1), (2, .int (L_X8_firstRope_9 w1 n S v2 v3 v4).2.2.1), (3, .int (L_X8_firstRope_9 w1 n S v2 v3 v4).2.2.2.1), (4, .int (L_X8_firstRope_9 w1 n S v2 v3 v4).2.2.2.2)] []) → AW p l e (rmD 3 0 0) s m args below meth c G 5 (AQ G below args s 0 0 Post) S 0 0 9 [(0, .ref 38), (1, .ref w1), (2, .int v2), (3, .int v3), (4, .int v4)] [] := by
  intro n
  induction n with
  | zero => intro S v2 v3 v4 _ hT; exact hT.elim
  | succ n ih =>
    intro S v2 v3 v4 hM hT hr hk
    unfold T_X8_firstRope_9 at hT
    obtain ⟨h0, h1, h2⟩ := hT
    refine aw_iload_n hC 3 dX8_firstRope_9 rfl rfl ?_
    refine aw_if_le hC 44 dX8_firstRope_10 (by decide) (fun c1002 => ?_) (fun c1002 => ?_)
    · refine aw_sub [0, 1, 2, 3, 4] rfl ?_
      have E : L_X8_firstRope_9 w1 (n + 1) S v2 v3 v4 = _ := (if_pos c1002).trans (rfl)
      rw [E] at hk hr
      exact hk (by show ¬ (0 : Int32) = 1; decide)
    · refine aw_iload hC 4 dX8_firstRope_13 rfl ?_
      refine aw_aload_n hC 1 dX8_firstRope_15 rfl rfl ?_
      refine aw_iconst (v := 0) hC dX8_firstRope_16 (by decide) ?_
      refine aw_cV1r hC hSt (t_X10_howMany G l hM _ _ hw1 (h0 c1002)) w_152 w_627 w_237 w_238 w_18 rfl rfl (by decide +kernel) ⟨Nat.le_of_ble_eq_true rfl, Nat.le_of_ble_eq_true rfl⟩ (cs_lt w1 10 0 hw1 hM) (cs_k w1 10 0 hw1 hM) rfl (Nat.le_of_ble_eq_true rfl) dX8_firstRope_17 ⟨Nat.zero_le _, Nat.zero_le _⟩ ?_
      refine aw_icmp_ge hC 44 dX8_firstRope_20 (by decide) (fun c1003 => ?_) (fun c1003 => ?_)
      · refine aw_sub [0, 1, 2, 3, 4] rfl ?_
        have E : L_X8_firstRope_9 w1 (n + 1) S v2 v3 v4 = _ := (if_neg c1002).trans ((if_pos c1003).trans (rfl))
        rw [E] at hk hr
        exact hk (by show ¬ (0 : Int32) = 1; decide)
      · refine aw_aload_n hC 0 dX8_firstRope_23 rfl rfl ?_
        refine aw_aload_n hC 1 dX8_firstRope_24 rfl rfl ?_
        refine aw_iload hC 4 dX8_firstRope_25 rfl ?_
        refine aw_iload_n hC 2 dX8_firstRope_27 rfl rfl ?_
        refine aw_cV3r hC hSt (t_X8_triesBy G l hM _ _ _ hw1 (h1 c1002 c1003)) w_644 w_647 w_648 w_649 w_625 rfl rfl (by decide +kernel) ⟨Nat.le_of_ble_eq_true rfl, Nat.le_of_ble_eq_true rfl⟩ (cs_lt 38 8 0 (by decide) hM) (cs_k 38 8 0 (by decide) hM) rfl (Nat.le_of_ble_eq_true rfl) dX8_firstRope_28 ⟨Nat.zero_le _, Nat.zero_le _⟩ ?_
        refine aw_iload_n hC 3 dX8_firstRope_31 rfl rfl ?_
        refine aw_icmp_ne hC 38 dX8_firstRope_32 (by decide) (fun c1004 => ?_) (fun c1004 => ?_)
        · refine aw_iinc (v := (v4 + (1 : Int32))) hC 4 [(4, .int _), (0, .ref 38), (1, .ref w1), (2, .int _), (3, .int _)] dX8_firstRope_38 rfl rfl (by decide) rfl ?_
          refine aw_goto hC 9 dX8_firstRope_41 (by decide) ?_
          refine aw_sub [1, 2, 3, 4, 0] rfl ?_
          have hTn := (h2 c1002 c1003 c1004)
          have hMn : CS S := hM
          have E : L_X8_firstRope_9 w1 (n + 1) S v2 v3 v4 = _ := (if_neg c1002).trans ((if_neg c1003).trans ((if_neg c1004).trans (rfl)))
          rw [E] at hk hr
          exact ih _ _ _ _ hMn hTn hr hk
        · refine aw_iload hC 4 dX8_firstRope_35 rfl ?_
          refine aw_iret hC dX8_firstRope_37 (Nat.le_refl _) (Nat.le_refl _) ?_
          have E : L_X8_firstRope_9 w1 (n + 1) S v2 v3 v4 = _ := (if_neg c1002).trans ((if_neg c1003).trans ((if_pos c1004).trans (rfl)))
          rw [E] at hr
          exact hr rfl
noncomputable def F_X8_firstRope (S : HSt) (_o0 : Nat) (w1 : Nat) (a2 : Int32) : Int32 × HSt := bd ((f_X8_triesFrom S 38 a2)) fun x1 => bd (L_X8_firstRope_9 w1 1000 S a2 x1 (0 : Int32)) fun r2 => if r2.1 = 1 then (pr (r2.2.1) (S)) else (pr ((-1000000 : Int32)) (S))
noncomputable def f_X8_firstRope (S : HSt) (_o0 : Nat) (w1 : Nat) (a2 : Int32) : Int32 := (F_X8_firstRope S _o0 w1 a2).1
def p_X8_firstRope (S : HSt) (_o0 : Nat) (w1 : Nat) (a2 : Int32) : Prop := (p_X8_triesFrom S 38 a2) ∧ (∀ x1 : Int32, (f_X8_triesFrom S 38 a2) = x1 → T_X8_firstRope_9 w1 1000 S a2 x1 (0 : Int32))
set_option maxRecDepth 100000 in
theorem t_X8_firstRope (G : GG) (l : Launch) {S : HSt} (hM : CS S) (w1 : Nat) (a2 : Int32) (hw1 : (w1, 10, 0) ∈ cKT) (hp : p_X8_firstRope S 38 w1 a2) : AM G l yX8_firstRope cX8_firstRope 5 (some .int) (rmD 3 0 0) 0 0 [.ref 38, .ref w1, .int a2] S (FP (some (.int (f_X8_firstRope S 38 w1 a2))) (S)) := by
  obtain ⟨h0, h1⟩ := hp
  refine AM.mk (by decide) (Nat.le_of_ble_eq_true rfl) ?_
  intro p e s m below meth c hC hSt _
  refine aw_aload_n hC 0 dX8_firstRope_0 rfl rfl ?_
  refine aw_iload_n hC 2 dX8_firstRope_1 rfl rfl ?_
  refine aw_cV1r hC hSt (t_X8_triesFrom G l hM _ (h0)) w_651 w_652 w_653 w_654 w_625 rfl rfl (by decide +kernel) ⟨Nat.le_of_ble_eq_true rfl, Nat.le_of_ble_eq_true rfl⟩ (cs_lt 38 8 0 (by decide) hM) (cs_k 38 8 0 (by decide) hM) rfl (Nat.le_of_ble_eq_true rfl) dX8_firstRope_2 ⟨Nat.zero_le _, Nat.zero_le _⟩ ?_
  refine aw_istore_n hC [(3, .int _), (0, .ref 38), (1, .ref w1), (2, .int _)] dX8_firstRope_5 rfl (by decide) rfl ?_
  generalize ex1 : (f_X8_triesFrom S 38 a2) = x1
  refine aw_iconst (v := 0) hC dX8_firstRope_6 (by decide) ?_
  refine aw_istore hC [(4, .int _), (3, .int _), (0, .ref 38), (1, .ref w1), (2, .int _)] dX8_firstRope_7 (by decide) rfl ?_
  refine aw_sub [2, 3, 4, 1, 0] rfl ?_
  refine l_X8_firstRope_9 hC hSt hw1 1000 _ _ _ _ hM (h1 x1 ex1) (fun c3 => ?_) (fun c3 => ?_)
  · revert c3
    generalize er2 : L_X8_firstRope_9 w1 1000 S a2 x1 (0 : Int32) = r2
    intro c3
    exact FP.pI ((bd_eq ex1).trans ((bd_eq er2).trans ((if_pos c3).trans (rfl))))
  · revert c3
    generalize er2 : L_X8_firstRope_9 w1 1000 S a2 x1 (0 : Int32) = r2
    intro c3
    refine aw_ldc (v := -1000000) hC w_626 dX8_firstRope_44 ?_
    refine aw_iret hC dX8_firstRope_46 (Nat.le_refl _) (Nat.le_refl _) ?_
    exact FP.pI ((bd_eq ex1).trans ((bd_eq er2).trans ((if_neg c3).trans (rfl))))