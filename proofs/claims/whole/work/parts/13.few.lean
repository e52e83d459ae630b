theorem cPT_lt : ∀ q ∈ cPT, q.1 < 88 := by decide
theorem cPT_n9 : ∀ q ∈ cPT, q.1 = 0 → q.2.1 ≠ 9 := by decide
/-- what the shape is behind ticksTo: the two rows may have changed their parts -/
def SX (S T : HSt) : Prop := gn T = gn S ∧ gK T = gK S ∧ gL T = gL S ∧ ∀ x, x ≠ 88 → gP T x = gP S x
theorem SX.refl (S : HSt) : SX S S := ⟨rfl, rfl, rfl, fun _ _ => rfl⟩
theorem SX.trans {S T U : HSt} (h1 : SX S T) (h2 : SX T U) : SX S U := ⟨h2.1.trans h1.1, h2.2.1.trans h1.2.1, h2.2.2.1.trans h1.2.2.1, fun x hx => (h2.2.2.2 x hx).trans (h1.2.2.2 x hx)⟩
theorem SX.of {S T : HSt} (h : shp T = shp S) : SX S T := ⟨congrArg (fun q => q.1) h, congrArg (fun q => q.2.1) h, congrArg (fun q => q.2.2.1) h, fun x _ => congrArg (fun q => q.2.2.2 x) h⟩
theorem SX.swap (S : HSt) (u v : Option Nat) : SX S (sP (sP S 88 0 u) 88 1 v) := ⟨rfl, rfl, rfl, fun x hx => by funext i; rw [gP_sP, if_neg hx, gP_sP, if_neg hx]⟩
theorem rs_loop (sc wq : Nat) : ∀ (n : Nat) (S : HSt) (h nx : Nat) (v2 v3 v5 : Int32), RS h nx S → (RS h nx (L_X3_ticksTo_97 sc wq n S h nx v2 v3 v5).2.2.2.2.2 ∨ RS nx h (L_X3_ticksTo_97 sc wq n S h nx v2 v3 v5).2.2.2.2.2) ∧ SX S (L_X3_ticksTo_97 sc wq n S h nx v2 v3 v5).2.2.2.2.2 := by
  intro n
  induction n with
  | zero => intro S h nx v2 v3 v5 hM; exact ⟨Or.inl hM, SX.refl S⟩
  | succ n ih =>
    intro S h nx v2 v3 v5 hM
    unfold L_X3_ticksTo_97
    by_cases c1 : v3 < v5
    · rw [if_pos c1]; exact ⟨Or.inl hM, SX.refl S⟩
    · rw [if_neg c1]
      by_cases c2 : (12 : Int32) < v5
      · rw [if_pos c2]; exact ⟨Or.inl hM, SX.refl S⟩
      · rw [if_neg c2]
        refine bdE (P := fun q : Int32 × Int32 × Int32 × Int32 × Int32 × HSt => (RS h nx q.2.2.2.2.2 ∨ RS nx h q.2.2.2.2.2) ∧ SX S q.2.2.2.2.2) (fun r er => ?_)
        have hq : shp r = shp S := by rw [← er]; exact q_X3_spreadAll _ _ _ _ _ _
        have hMr : RS h nx r := RS.of hq hM
        by_cases c3 : gI r 88 4 = 0
        · rw [if_pos c3]
          refine bdE (P := fun q : Int32 × Int32 × Int32 × Int32 × Int32 × HSt => (RS h nx q.2.2.2.2.2 ∨ RS nx h q.2.2.2.2.2) ∧ SX S q.2.2.2.2.2) (fun S1 e1 => ?_)
          have hM1 : RS nx h S1 := by rw [← e1]; exact rs_swap hMr
          obtain ⟨a1, a2⟩ := ih S1 nx h v2 v3 (v5 + 1) hM1
          exact ⟨a1.symm, (SX.of hq).trans (SX.trans (by rw [← e1]; exact SX.swap _ _ _) a2)⟩
        · rw [if_neg c3]; exact ⟨Or.inl hMr, SX.of hq⟩
theorem rs_ticks {S : HSt} {h nx : Nat} (hM : RS h nx S) (o sc : Nat) (a b : Int32) : (RS h nx (f_X3_ticksTo S h nx o sc a b).2 ∨ RS nx h (f_X3_ticksTo S h nx o sc a b).2) ∧ SX S (f_X3_ticksTo S h nx o sc a b).2 := by
  unfold f_X3_ticksTo
  by_cases c1 : gI S (sc + 4) 0 < a
  · rw [if_pos c1]
    by_cases c2 : f_X1_hasFallen S (sc + 4) = 0
    · rw [if_pos c2]
      by_cases c3 : a ≤ f_X7_room S sc
      · rw [if_pos c3]
        refine bdE (P := fun q : Int32 × HSt => (RS h nx q.2 ∨ RS nx h q.2) ∧ SX S q.2) (fun r4 e4 => ?_)
        refine bdE (P := fun q : Int32 × HSt => (RS h nx q.2 ∨ RS nx h q.2) ∧ SX S q.2) (fun r5 e5 => ?_)
        refine bdE (P := fun q : Int32 × HSt => (RS h nx q.2 ∨ RS nx h q.2) ∧ SX S q.2) (fun S6 e6 => ?_)
        refine bdE (P := fun q : Int32 × HSt => (RS h nx q.2 ∨ RS nx h q.2) ∧ SX S q.2) (fun S7 e7 => ?_)
        refine bdE (P := fun q : Int32 × HSt => (RS h nx q.2 ∨ RS nx h q.2) ∧ SX S q.2) (fun S8 e8 => ?_)
        refine bdE (P := fun q : Int32 × HSt => (RS h nx q.2 ∨ RS nx h q.2) ∧ SX S q.2) (fun r9 e9 => ?_)
        refine bdE (P := fun q : Int32 × HSt => (RS h nx q.2 ∨ RS nx h q.2) ∧ SX S q.2) (fun r10 e10 => ?_)
        have hq : shp r9 = shp S := by
          rw [← e9, q_X3_add, ← e8, shp_sI, ← e7, shp_sI, ← e6, shp_sI, ← e5, q_J7_fill_d0a16, ← e4, q_J7_fill_d0a16]
        have hl := rs_loop sc (sc + 4) 1000 r9 h nx a b 1 (RS.of hq hM)
        rw [e10] at hl
        have h2 := (SX.of hq).trans hl.2
        by_cases c4 : r10.1 = 1
        · rw [if_pos c4]; exact ⟨hl.1, h2⟩
        · rw [if_neg c4]; exact ⟨hl.1, h2⟩
      · rw [if_neg c3]; exact ⟨Or.inl hM, SX.refl S⟩
    · rw [if_neg c2]; exact ⟨Or.inl hM, SX.refl S⟩
  · rw [if_neg c1]; exact ⟨Or.inl hM, SX.refl S⟩
/-- fewest that ends at once -/
noncomputable def f_X11_fewestE (S : HSt) (a1 a2 : Int32) : Int64 := if f_X11_within S a1 1 200 = 0 then -9000000000000000001 else if f_X11_within S a2 0 12 = 0 then -9000000000000000001 else -9000000000000000002
def fewGo (S : HSt) (a1 a2 : Int32) : Prop := ¬ f_X11_within S a1 1 200 = 0 ∧ ¬ f_X11_within S a2 0 12 = 0 ∧ ¬ gI S 18 2 = 0
set_option maxRecDepth 100000 in
theorem t_X11_fewestE (G : GG) (l : Launch) {S : HSt} (hM : CS S) (a1 a2 : Int32) (hE : ¬ fewGo S a1 a2) : AM G l yX11_fewest cX11_fewest 3 (some .long) (rmD 7 0 0) 0 0 [.ref 0, .int a1, .int a2] S (FP (some (.long (f_X11_fewestE S a1 a2))) S) := by
  unfold f_X11_fewestE
  refine AM.mk (by decide) (Nat.le_of_ble_eq_true rfl) ?_
  intro p e s m below meth c hC hSt _
  refine aw_iload_n hC 1 dX11_fewest_0 rfl rfl ?_
  refine aw_iconst (v := 1) hC dX11_fewest_1 (by decide) ?_
  refine aw_sipush (v := 200) hC dX11_fewest_2 (by decide) ?_
  refine aw_cS3r hC hSt (t_X11_within G l _ _ _) w_706 w_712 w_713 w_517 rfl rfl (by decide +kernel) ⟨(Nat.le_of_ble_eq_true rfl), (Nat.le_of_ble_eq_true rfl)⟩ (Nat.le_of_ble_eq_true rfl) dX11_fewest_5 ⟨(Nat.le_of_ble_eq_true rfl), (Nat.le_of_ble_eq_true rfl)⟩ ?_
  refine aw_if_eq hC 21 dX11_fewest_8 (by decide) (fun c1 => ?_) (fun c1 => ?_)
  · refine aw_ldc2 (v := -9000000000000000001) hC w_710 dX11_fewest_21 ?_
    refine aw_lret hC dX11_fewest_24 (Nat.le_of_ble_eq_true rfl) (Nat.le_of_ble_eq_true rfl) ?_
    rw [if_pos c1]; exact ⟨rfl, rfl⟩
  · refine aw_iload_n hC 2 dX11_fewest_11 rfl rfl ?_
    refine aw_iconst (v := 0) hC dX11_fewest_12 (by decide) ?_
    refine aw_bipush (v := 12) hC dX11_fewest_13 (by decide) ?_
    refine aw_cS3r hC hSt (t_X11_within G l _ _ _) w_706 w_712 w_713 w_517 rfl rfl (by decide +kernel) ⟨(Nat.le_of_ble_eq_true rfl), (Nat.le_of_ble_eq_true rfl)⟩ (Nat.le_of_ble_eq_true rfl) dX11_fewest_15 ⟨(Nat.le_of_ble_eq_true rfl), (Nat.le_of_ble_eq_true rfl)⟩ ?_
    refine aw_if_ne hC 25 dX11_fewest_18 (by decide) (fun c2 => ?_) (fun c2 => ?_)
    · refine aw_aload_n hC 0 dX11_fewest_25 rfl rfl ?_
      refine aw_getP (b := 18) hC hSt 2 (cs_lt 0 11 0 (by decide) hM) (cs_k 0 11 0 (by decide) hM) rfl (by decide) w_678 rfl (cs_p 0 2 18 (by decide) hM) dX11_fewest_26 ?_
      refine aw_getI hC hSt 2 (cs_lt 18 7 0 (by decide) hM) (cs_k 18 7 0 (by decide) hM) rfl (by decide) w_783 rfl dX11_fewest_29 ?_
      refine aw_if_ne hC 39 dX11_fewest_32 (by decide) (fun c3 => ?_) (fun c3 => ?_)
      · exact absurd ⟨c1, c2, c3⟩ hE
      · refine aw_ldc2 (v := -9000000000000000002) hC w_785 dX11_fewest_35 ?_
        refine aw_lret hC dX11_fewest_38 (Nat.le_of_ble_eq_true rfl) (Nat.le_of_ble_eq_true rfl) ?_
        rw [if_neg c1, if_neg c2]; exact ⟨rfl, rfl⟩
    · refine aw_ldc2 (v := -9000000000000000001) hC w_710 dX11_fewest_21 ?_
      refine aw_lret hC dX11_fewest_24 (Nat.le_of_ble_eq_true rfl) (Nat.le_of_ble_eq_true rfl) ?_
      rw [if_neg c1, if_pos c2]; exact ⟨rfl, rfl⟩
set_option maxRecDepth 100000 in
theorem t_X11_fewestR (G : GG) (l : Launch) {S : HSt} {h nx : Nat} (hM : RS h nx S) (h9 : gP S 0 9 = some 88) (a1 a2 : Int32) (hE : fewGo S a1 a2) (hp : p_X3_ticksTo S h nx 88 18 a1 a2) : AM G l yX11_fewest cX11_fewest 3 (some .long) (rmD 7 0 0) 0 0 [.ref 0, .int a1, .int a2] S (FP (some (.long (f_X3_ticksTo S h nx 88 18 a1 a2).1.toInt64)) (f_X3_ticksTo S h nx 88 18 a1 a2).2) := by
  refine AM.mk (by decide) (Nat.le_of_ble_eq_true rfl) ?_
  intro p e s m below meth c hC hSt _
  refine aw_iload_n hC 1 dX11_fewest_0 rfl rfl ?_
  refine aw_iconst (v := 1) hC dX11_fewest_1 (by decide) ?_
  refine aw_sipush (v := 200) hC dX11_fewest_2 (by decide) ?_
  refine aw_cS3r hC hSt (t_X11_within G l _ _ _) w_706 w_712 w_713 w_517 rfl rfl (by decide +kernel) ⟨(Nat.le_of_ble_eq_true rfl), (Nat.le_of_ble_eq_true rfl)⟩ (Nat.le_of_ble_eq_true rfl) dX11_fewest_5 ⟨(Nat.le_of_ble_eq_true rfl), (Nat.le_of_ble_eq_true rfl)⟩ ?_
  refine aw_if_eq hC 21 dX11_fewest_8 (by decide) (fun c1 => ?_) (fun c1 => ?_)
  · refine aw_ldc2 (v := -9000000000000000001) hC w_710 dX11_fewest_21 ?_
    refine aw_lret hC dX11_fewest_24 (Nat.le_of_ble_eq_true rfl) (Nat.le_of_ble_eq_true rfl) ?_
    exact absurd c1 hE.1
  · refine aw_iload_n hC 2 dX11_fewest_11 rfl rfl ?_
    refine aw_iconst (v := 0) hC dX11_fewest_12 (by decide) ?_
    refine aw_bipush (v := 12) hC dX11_fewest_13 (by decide) ?_
    refine aw_cS3r hC hSt (t_X11_within G l _ _ _) w_706 w_712 w_713 w_517 rfl rfl (by decide +kernel) ⟨(Nat.le_of_ble_eq_true rfl), (Nat.le_of_ble_eq_true rfl)⟩ (Nat.le_of_ble_eq_true rfl) dX11_fewest_15 ⟨(Nat.le_of_ble_eq_true rfl), (Nat.le_of_ble_eq_true rfl)⟩ ?_
    refine aw_if_ne hC 25 dX11_fewest_18 (by decide) (fun c2 => ?_) (fun c2 => ?_)
    · refine aw_aload_n hC 0 dX11_fewest_25 rfl rfl ?_
      refine aw_getP (b := 18) hC hSt 2 (cs_lt 0 11 0 (by decide) hM.1) (cs_k 0 11 0 (by decide) hM.1) rfl (by decide) w_678 rfl (cs_p 0 2 18 (by decide) hM.1) dX11_fewest_26 ?_
      refine aw_getI hC hSt 2 (cs_lt 18 7 0 (by decide) hM.1) (cs_k 18 7 0 (by decide) hM.1) rfl (by decide) w_783 rfl dX11_fewest_29 ?_
      refine aw_if_ne hC 39 dX11_fewest_32 (by decide) (fun c3 => ?_) (fun c3 => ?_)
      · refine aw_aload_n hC 0 dX11_fewest_39 rfl rfl ?_
        refine aw_getP (b := 88) hC hSt 9 (cs_lt 0 11 0 (by decide) hM.1) (cs_k 0 11 0 (by decide) hM.1) rfl (by decide) w_694 rfl h9 dX11_fewest_40 ?_
        refine aw_nonnullR hC 57 dX11_fewest_43 (by decide) ?_
        refine aw_aload_n hC 0 dX11_fewest_57 rfl rfl ?_
        refine aw_getP (b := 88) hC hSt 9 (cs_lt 0 11 0 (by decide) hM.1) (cs_k 0 11 0 (by decide) hM.1) rfl (by decide) w_694 rfl h9 dX11_fewest_58 ?_
        refine aw_aload_n hC 0 dX11_fewest_61 rfl rfl ?_
        refine aw_getP (b := 18) hC hSt 2 (cs_lt 0 11 0 (by decide) hM.1) (cs_k 0 11 0 (by decide) hM.1) rfl (by decide) w_678 rfl (cs_p 0 2 18 (by decide) hM.1) dX11_fewest_62 ?_
        refine aw_iload_n hC 1 dX11_fewest_65 rfl rfl ?_
        refine aw_iload_n hC 2 dX11_fewest_66 rfl rfl ?_
        refine aw_cV3r hC hSt (t_X3_ticksTo G l hM _ _ _ (by decide) hp) w_316 w_859 w_860 w_861 w_282 rfl rfl (by decide +kernel) ⟨(Nat.le_of_ble_eq_true rfl), (Nat.le_of_ble_eq_true rfl)⟩ (rs_lt88 hM) (rs_k88 hM) rfl (Nat.le_of_ble_eq_true rfl) dX11_fewest_67 ⟨(Nat.le_of_ble_eq_true rfl), (Nat.le_of_ble_eq_true rfl)⟩ ?_
        refine aw_i2l hC dX11_fewest_70 ?_
        refine aw_lret hC dX11_fewest_71 (Nat.le_of_ble_eq_true rfl) (Nat.le_of_ble_eq_true rfl) ?_
        exact ⟨rfl, rfl⟩
      · refine aw_ldc2 (v := -9000000000000000002) hC w_785 dX11_fewest_35 ?_
        refine aw_lret hC dX11_fewest_38 (Nat.le_of_ble_eq_true rfl) (Nat.le_of_ble_eq_true rfl) ?_
        exact absurd c3 hE.2.2
    · refine aw_ldc2 (v := -9000000000000000001) hC w_710 dX11_fewest_21 ?_
      refine aw_lret hC dX11_fewest_24 (Nat.le_of_ble_eq_true rfl) (Nat.le_of_ble_eq_true rfl) ?_
      exact absurd c2 hE.2.1
/-- the first Reach is made -/
noncomputable def mkReach (S : HSt) : HSt := bd (nw S 3 0) fun S1 => bd (f_X3_init S1 (gn S)) fun S2 => sP S2 0 9 (some (gn S))
theorem mr_cs {S : HSt} (hM : CS S) (hn : gn S = 88) : RS 89 90 (mkReach S) ∧ gP (mkReach S) 0 9 = some 88 ∧ ExtF 0 S (mkReach S) ∧ (∀ j, j ≠ 9 → gP (mkReach S) 0 j = gP S 0 j) ∧ gI (mkReach S) 0 = gI S 0 ∧ gJ (mkReach S) 0 = gJ S 0 := by
  unfold mkReach
  refine bdE (P := fun T => RS 89 90 T ∧ gP T 0 9 = some 88 ∧ ExtF 0 S T ∧ (∀ j, j ≠ 9 → gP T 0 j = gP S 0 j) ∧ gI T 0 = gI S 0 ∧ gJ T 0 = gJ S 0) (fun S1 e1 => ?_)
  have x1 : ExtF 88 S S1 := by rw [← e1]; exact ExtF.nw _ _ _ _
  have n1 : gn S1 = 89 := by rw [← e1, gn_nw, hn]
  have k1 : gK S1 88 = 3 := by rw [← e1, gK_nw, if_pos hn.symm]
  refine bdE (P := fun T => RS 89 90 T ∧ gP T 0 9 = some 88 ∧ ExtF 0 S T ∧ (∀ j, j ≠ 9 → gP T 0 j = gP S 0 j) ∧ gI T 0 = gI S 0 ∧ gJ T 0 = gJ S 0) (fun S2 e2 => ?_)
  rw [hn] at e2 ⊢
  have x2 : ExtF 88 S1 S2 := by rw [← e2]; exact z_X3_init _ _ (by omega)
  have n2 : gn S2 = 91 := by rw [← e2, z_X3_init_n _ _ (by omega), n1]
  have x02 : ExtF 88 S S2 := x1.trans x2 (Or.inl rfl)
  -- what the constructor laid
  have c2 : gK S2 89 = 15 ∧ gL S2 89 = 11584 ∧ gK S2 90 = 15 ∧ gL S2 90 = 11584 ∧ gP S2 88 0 = some 89 ∧ gP S2 88 1 = some 90 := by
    rw [← e2]
    unfold f_X3_init
    simp only [bd_def, gn_sP, gn_nw, gK_sP, gK_nw, gL_sP, gL_nw, gP_sP, gP_nw, n1]
    refine ⟨by simp, by simp, by simp, by simp, by simp [gP_sP], by simp [gP_sP]⟩
  have h0 : ∀ x, x < 88 → gK S2 x = gK S x ∧ gL S2 x = gL S x ∧ gP S2 x = gP S x ∧ gI S2 x = gI S x ∧ gJ S2 x = gJ S x := fun x hx => by
    obtain ⟨q1, q2, q3⟩ := x02.2 x (by omega)
    exact ⟨q1, q2, (q3 (by omega)).1, (q3 (by omega)).2.1, (q3 (by omega)).2.2⟩
  refine ⟨⟨⟨by rw [gn_sP, n2]; omega, fun q hq => ?_, fun q hq => ?_⟩, by rw [gn_sP, n2]; omega, ?_, ?_, ?_, ?_⟩, ?_, ⟨by rw [gn_sP, n2]; omega, fun x hx => ?_⟩, fun j hj => ?_, (h0 0 (by omega)).2.2.2.1, (h0 0 (by omega)).2.2.2.2⟩
  · rw [gK_sP, gL_sP, (h0 q.1 (cKT_lt q hq)).1, (h0 q.1 (cKT_lt q hq)).2.1]
    exact hM.2.1 q hq
  · have hq2 := cPT_lt q hq
    rw [gP_sP]
    by_cases h : q.1 = 0
    · rw [if_pos h, if_neg (cPT_n9 q hq h), (h0 0 (by omega)).2.2.1, ← h]
      exact hM.2.2 q hq
    · rw [if_neg h, (h0 q.1 hq2).2.2.1]
      exact hM.2.2 q hq
  · rw [gK_sP, (x2.2 88 (by omega)).1]
    exact k1
  · intro r hr
    rw [gn_sP, gK_sP, gL_sP, n2]
    rcases hr with rfl | rfl
    · exact ⟨by omega, c2.1, c2.2.1⟩
    · exact ⟨by omega, c2.2.2.1, c2.2.2.2.1⟩
  · rw [gP_sP, if_neg (by decide)]; exact c2.2.2.2.2.1
  · rw [gP_sP, if_neg (by decide)]; exact c2.2.2.2.2.2
  · rw [gP_sP, if_pos rfl, if_pos rfl]
  · obtain ⟨q1, q2, q3⟩ := x02.2 x hx
    refine ⟨q1, q2, fun hx0 => ⟨?_, (q3 (by omega)).2.1, (q3 (by omega)).2.2⟩⟩
    funext j
    rw [gP_sP, if_neg hx0]
    exact congrFun (q3 (by omega)).1 j
  · rw [gP_sP, if_pos rfl, if_neg hj]
    exact congrFun (h0 0 (by omega)).2.2.1 j
set_option maxRecDepth 100000 in
theorem t_X11_fewestN (G : GG) (l : Launch) {S : HSt} (hM : CS S) (h9 : gP S 0 9 = none) (hn : gn S = 88) (a1 a2 : Int32) (hE : fewGo S a1 a2) (hp : p_X3_ticksTo (mkReach S) 89 90 88 18 a1 a2) : AM G l yX11_fewest cX11_fewest 3 (some .long) (rmD 7 3 23173) 3 23173 [.ref 0, .int a1, .int a2] S (FP (some (.long (f_X3_ticksTo (mkReach S) 89 90 88 18 a1 a2).1.toInt64)) (f_X3_ticksTo (mkReach S) 89 90 88 18 a1 a2).2) := by
  refine AM.mk (by decide) (Nat.le_of_ble_eq_true rfl) ?_
  intro p e s m below meth c hC hSt _
  refine aw_iload_n hC 1 dX11_fewest_0 rfl rfl ?_
  refine aw_iconst (v := 1) hC dX11_fewest_1 (by decide) ?_
  refine aw_sipush (v := 200) hC dX11_fewest_2 (by decide) ?_
  refine aw_cS3r hC hSt (t_X11_within G l _ _ _) w_706 w_712 w_713 w_517 rfl rfl (by decide +kernel) ⟨(Nat.le_of_ble_eq_true rfl), (Nat.le_of_ble_eq_true rfl)⟩ (Nat.le_of_ble_eq_true rfl) dX11_fewest_5 ⟨(Nat.le_of_ble_eq_true rfl), (Nat.le_of_ble_eq_true rfl)⟩ ?_
  refine aw_if_eq hC 21 dX11_fewest_8 (by decide) (fun c1 => ?_) (fun c1 => ?_)
  · refine aw_ldc2 (v := -9000000000000000001) hC w_710 dX11_fewest_21 ?_
    refine aw_lret hC dX11_fewest_24 (Nat.le_of_ble_eq_true rfl) (Nat.le_of_ble_eq_true rfl) ?_
    exact absurd c1 hE.1
  · refine aw_iload_n hC 2 dX11_fewest_11 rfl rfl ?_
    refine aw_iconst (v := 0) hC dX11_fewest_12 (by decide) ?_
    refine aw_bipush (v := 12) hC dX11_fewest_13 (by decide) ?_
    refine aw_cS3r hC hSt (t_X11_within G l _ _ _) w_706 w_712 w_713 w_517 rfl rfl (by decide +kernel) ⟨(Nat.le_of_ble_eq_true rfl), (Nat.le_of_ble_eq_true rfl)⟩ (Nat.le_of_ble_eq_true rfl) dX11_fewest_15 ⟨(Nat.le_of_ble_eq_true rfl), (Nat.le_of_ble_eq_true rfl)⟩ ?_
    refine aw_if_ne hC 25 dX11_fewest_18 (by decide) (fun c2 => ?_) (fun c2 => ?_)
    · refine aw_aload_n hC 0 dX11_fewest_25 rfl rfl ?_
      refine aw_getP (b := 18) hC hSt 2 (cs_lt 0 11 0 (by decide) hM) (cs_k 0 11 0 (by decide) hM) rfl (by decide) w_678 rfl (cs_p 0 2 18 (by decide) hM) dX11_fewest_26 ?_
      refine aw_getI hC hSt 2 (cs_lt 18 7 0 (by decide) hM) (cs_k 18 7 0 (by decide) hM) rfl (by decide) w_783 rfl dX11_fewest_29 ?_
      refine aw_if_ne hC 39 dX11_fewest_32 (by decide) (fun c3 => ?_) (fun c3 => ?_)
      · refine aw_aload_n hC 0 dX11_fewest_39 rfl rfl ?_
        refine aw_getN hC hSt 9 (cs_lt 0 11 0 (by decide) hM) (cs_k 0 11 0 (by decide) hM) rfl (by decide) w_694 rfl h9 dX11_fewest_40 ?_
        refine aw_nonnullN hC dX11_fewest_43 ?_
        refine aw_aload_n hC 0 dX11_fewest_46 rfl rfl ?_
        refine aw_new (ci := 3) hC hSt rfl w_856 w_857 w_282 (by omega) (Nat.le_of_ble_eq_true rfl) (Nat.le_of_ble_eq_true rfl) dX11_fewest_47 ?_
        obtain ⟨hRS, h9', -⟩ := mr_cs hM hn
        unfold mkReach at hRS h9' hp ⊢
        rw [bd_def, bd_def] at hRS h9' hp ⊢
        have k0 : 0 < gn (nw S 3 0) ∧ gK (nw S 3 0) 0 = 11 := ⟨by rw [gn_nw]; omega, by rw [gK_nw, if_neg (by omega)]; exact cs_k 0 11 0 (by decide) hM⟩
        have kk := nw_k S 3 0
        refine aw_dup hC dX11_fewest_50 rfl ?_
        refine aw_cIN hC hSt (t_X3_init G l (gn S) kk (by rw [gn_nw]; omega)) w_265 (by decide) w_282 w_858 rfl rfl rfl (by decide +kernel) ⟨(Nat.le_of_ble_eq_true rfl), (Nat.le_of_ble_eq_true rfl)⟩ (Nat.le_of_ble_eq_true rfl) dX11_fewest_51 ⟨(Nat.le_of_ble_eq_true rfl), (Nat.le_of_ble_eq_true rfl)⟩ ?_
        have z0 := (z_X3_init (nw S 3 0) (gn S) kk.1).2 0 k0.1
        have z1 := (z_X3_init (nw S 3 0) (gn S) kk.1).1
        refine aw_putP hC hSt 9 (Nat.lt_of_lt_of_le k0.1 z1) (z0.1.trans k0.2) rfl (by decide) w_694 rfl rfl (fun _ => rfl) (fun _ => rfl) dX11_fewest_54 ?_
        refine aw_aload_n hC 0 dX11_fewest_57 rfl rfl ?_
        refine aw_getP (b := 88) hC hSt 9 (cs_lt 0 11 0 (by decide) hRS.1) (cs_k 0 11 0 (by decide) hRS.1) rfl (by decide) w_694 rfl h9' dX11_fewest_58 ?_
        refine aw_aload_n hC 0 dX11_fewest_61 rfl rfl ?_
        refine aw_getP (b := 18) hC hSt 2 (cs_lt 0 11 0 (by decide) hRS.1) (cs_k 0 11 0 (by decide) hRS.1) rfl (by decide) w_678 rfl (cs_p 0 2 18 (by decide) hRS.1) dX11_fewest_62 ?_
        refine aw_iload_n hC 1 dX11_fewest_65 rfl rfl ?_
        refine aw_iload_n hC 2 dX11_fewest_66 rfl rfl ?_
        refine aw_cV3r hC hSt (t_X3_ticksTo G l hRS _ _ _ (by decide) hp) w_316 w_859 w_860 w_861 w_282 rfl rfl (by decide +kernel) ⟨(Nat.le_of_ble_eq_true rfl), (Nat.le_of_ble_eq_true rfl)⟩ (rs_lt88 hRS) (rs_k88 hRS) rfl (Nat.le_of_ble_eq_true rfl) dX11_fewest_67 ⟨(Nat.le_of_ble_eq_true rfl), (Nat.le_of_ble_eq_true rfl)⟩ ?_
        refine aw_i2l hC dX11_fewest_70 ?_
        refine aw_lret hC dX11_fewest_71 (Nat.le_of_ble_eq_true rfl) (Nat.le_of_ble_eq_true rfl) ?_
        exact ⟨rfl, rfl⟩
      · refine aw_ldc2 (v := -9000000000000000002) hC w_785 dX11_fewest_35 ?_
        refine aw_lret hC dX11_fewest_38 (Nat.le_of_ble_eq_true rfl) (Nat.le_of_ble_eq_true rfl) ?_
        exact absurd c3 hE.2.2
    · refine aw_ldc2 (v := -9000000000000000001) hC w_710 dX11_fewest_21 ?_
      refine aw_lret hC dX11_fewest_24 (Nat.le_of_ble_eq_true rfl) (Nat.le_of_ble_eq_true rfl) ?_
      exact absurd c2 hE.2.1
