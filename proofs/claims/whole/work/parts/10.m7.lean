noncomputable def f_X12_markAsked (S : HSt) (_o : Nat) (a1 : Int32) (a2 : Int32) : Int32 × HSt := if a2 = (5 : Int32) then (bd (f_X12_edgedMark S 64 a1) fun r24 => pr (r24.1) (r24.2)) else (bd ((if a2 = (2 : Int32) then (bd ((if a2 = (2 : Int32) then (22 : Int32) else (23 : Int32))) fun x4 => bd (f_X12_began S 64 x4) fun r5 => r5) else (if a2 = (6 : Int32) then (bd ((if a2 = (2 : Int32) then (22 : Int32) else (23 : Int32))) fun x8 => bd (f_X12_began S 64 x8) fun r9 => r9) else S))) fun S10 => bd ((f_X12_isOf S10 a2 (1 : Int32))) fun x11 => bd ((if x11 = 0 then S10 else (bd (f_X12_began S10 64 (21 : Int32)) fun r13 => r13))) fun S14 => bd (f_X12_began S14 64 (20 : Int32)) fun r15 => bd ((if x11 = 0 then (0 : Int32) else (f_X12_deed r15 64 a1 (3 : Int32)))) fun x17 => bd ((a1 + x17)) fun x18 => bd ((if a2 = (6 : Int32) then (-x18) else (if a2 = (2 : Int32) then (bd (f_X12_sizeAsked r15 64 a1 a2) fun r21 => (x18 + r21.1)) else x18))) fun x22 => bd ((if a2 = (6 : Int32) then r15 else (if a2 = (2 : Int32) then (bd (f_X12_sizeAsked r15 64 a1 a2) fun r21 => r21.2) else r15))) fun S23 => pr (x22) (S23))
def p_X12_markAsked (S : HSt) (_o : Nat) (a1 : Int32) (a2 : Int32) : Prop := ((¬ a2 = (5 : Int32)) → (a2 = (2 : Int32)) → ∀ x4 : Int32, (if a2 = (2 : Int32) then (22 : Int32) else (23 : Int32)) = x4 → p_X12_began S 64 x4) ∧ ((¬ a2 = (5 : Int32)) → (¬ a2 = (2 : Int32)) → (a2 = (6 : Int32)) → ∀ x8 : Int32, (if a2 = (2 : Int32) then (22 : Int32) else (23 : Int32)) = x8 → p_X12_began S 64 x8) ∧ ((¬ a2 = (5 : Int32)) → ∀ S10 : HSt, (if a2 = (2 : Int32) then (bd ((if a2 = (2 : Int32) then (22 : Int32) else (23 : Int32))) fun x4 => bd (f_X12_began S 64 x4) fun r5 => r5) else (if a2 = (6 : Int32) then (bd ((if a2 = (2 : Int32) then (22 : Int32) else (23 : Int32))) fun x8 => bd (f_X12_began S 64 x8) fun r9 => r9) else S)) = S10 → ∀ x11 : Int32, (f_X12_isOf S10 a2 (1 : Int32)) = x11 → (¬ x11 = 0) → p_X12_began S10 64 (21 : Int32)) ∧ ((¬ a2 = (5 : Int32)) → ∀ S10 : HSt, (if a2 = (2 : Int32) then (bd ((if a2 = (2 : Int32) then (22 : Int32) else (23 : Int32))) fun x4 => bd (f_X12_began S 64 x4) fun r5 => r5) else (if a2 = (6 : Int32) then (bd ((if a2 = (2 : Int32) then (22 : Int32) else (23 : Int32))) fun x8 => bd (f_X12_began S 64 x8) fun r9 => r9) else S)) = S10 → ∀ x11 : Int32, (f_X12_isOf S10 a2 (1 : Int32)) = x11 → ∀ S14 : HSt, (if x11 = 0 then S10 else (bd (f_X12_began S10 64 (21 : Int32)) fun r13 => r13)) = S14 → p_X12_began S14 64 (20 : Int32)) ∧ ((¬ a2 = (5 : Int32)) → ∀ S10 : HSt, (if a2 = (2 : Int32) then (bd ((if a2 = (2 : Int32) then (22 : Int32) else (23 : Int32))) fun x4 => bd (f_X12_began S 64 x4) fun r5 => r5) else (if a2 = (6 : Int32) then (bd ((if a2 = (2 : Int32) then (22 : Int32) else (23 : Int32))) fun x8 => bd (f_X12_began S 64 x8) fun r9 => r9) else S)) = S10 → ∀ x11 : Int32, (f_X12_isOf S10 a2 (1 : Int32)) = x11 → ∀ S14 : HSt, (if x11 = 0 then S10 else (bd (f_X12_began S10 64 (21 : Int32)) fun r13 => r13)) = S14 → ∀ r15, f_X12_began S14 64 (20 : Int32) = r15 → (¬ x11 = 0) → p_X12_deed r15 64 a1 (3 : Int32)) ∧ ((¬ a2 = (5 : Int32)) → ∀ S10 : HSt, (if a2 = (2 : Int32) then (bd ((if a2 = (2 : Int32) then (22 : Int32) else (23 : Int32))) fun x4 => bd (f_X12_began S 64 x4) fun r5 => r5) else (if a2 = (6 : Int32) then (bd ((if a2 = (2 : Int32) then (22 : Int32) else (23 : Int32))) fun x8 => bd (f_X12_began S 64 x8) fun r9 => r9) else S)) = S10 → ∀ x11 : Int32, (f_X12_isOf S10 a2 (1 : Int32)) = x11 → ∀ S14 : HSt, (if x11 = 0 then S10 else (bd (f_X12_began S10 64 (21 : Int32)) fun r13 => r13)) = S14 → ∀ r15, f_X12_began S14 64 (20 : Int32) = r15 → ∀ x17 : Int32, (if x11 = 0 then (0 : Int32) else (f_X12_deed r15 64 a1 (3 : Int32))) = x17 → ∀ x18 : Int32, (a1 + x17) = x18 → (¬ a2 = (6 : Int32)) → (a2 = (2 : Int32)) → p_X12_sizeAsked r15 64 a1 a2) ∧ ((a2 = (5 : Int32)) → p_X12_edgedMark S 64 a1)
set_option maxRecDepth 100000 in
theorem t_X12_markAsked (G : GG) (l : Launch) {S : HSt} (hM : MS S) (a1 : Int32) (a2 : Int32) (hp : p_X12_markAsked S 64 a1 a2) : AM G l yX12_markAsked cX12_markAsked 5 (some .int) (rmD 3 0 0) 0 0 [.ref 64, .int a1, .int a2] S (FP (some (.int (f_X12_markAsked S 64 a1 a2).1)) ((f_X12_markAsked S 64 a1 a2).2)) := by
  obtain ⟨h0, h1, h2, h3, h4, h5, h6⟩ := hp
  refine AM.mk (by decide) (Nat.le_of_ble_eq_true rfl) ?_
  intro p e s m below meth c hC hSt _
  refine aw_iload_n hC 2 dX12_markAsked_0 rfl rfl ?_
  refine aw_iconst (v := 5) hC dX12_markAsked_1 (by decide) ?_
  refine aw_icmp_ne hC 11 dX12_markAsked_2 (by decide) (fun c1 => ?_) (fun c1 => ?_)
  · refine aw_iload_n hC 2 dX12_markAsked_11 rfl rfl ?_
    refine aw_iconst (v := 2) hC dX12_markAsked_12 (by decide) ?_
    refine aw_cut (S' := (if a2 = (2 : Int32) then (bd ((if a2 = (2 : Int32) then (22 : Int32) else (23 : Int32))) fun x4 => bd (f_X12_began S 64 x4) fun r5 => r5) else (if a2 = (6 : Int32) then (bd ((if a2 = (2 : Int32) then (22 : Int32) else (23 : Int32))) fun x8 => bd (f_X12_began S 64 x8) fun r9 => r9) else S))) (pc' := 38) (lv' := [(0, .ref 64), (1, .int a1), (2, .int a2)]) (st' := []) ?_ (fun Jc2 => ?_)
    · generalize eS10 : (if a2 = (2 : Int32) then (bd ((if a2 = (2 : Int32) then (22 : Int32) else (23 : Int32))) fun x4 => bd (f_X12_began S 64 x4) fun r5 => r5) else (if a2 = (6 : Int32) then (bd ((if a2 = (2 : Int32) then (22 : Int32) else (23 : Int32))) fun x8 => bd (f_X12_began S 64 x8) fun r9 => r9) else S)) = S10
      have hM : MS S10 := MS.of (by rw [← eS10]; repeat' (first | with_reducible rfl | with_reducible refine (q_X12_began _ _ _).trans ?_ | with_reducible refine (q_X12_edgedMark _ _ _).trans ?_ | with_reducible refine (q_X12_sizeAsked _ _ _ _).trans ?_ | with_reducible refine (shp_sI _ _ _ _).trans ?_ | with_reducible refine (shp_sJ _ _ _ _).trans ?_ | with_reducible refine shi ?_ ?_ | with_reducible refine shb (fun _ _ => ?_) | (subst_vars; with_reducible rfl) | (subst_vars; with_reducible refine (q_X12_began _ _ _).trans ?_) | (subst_vars; with_reducible refine (q_X12_edgedMark _ _ _).trans ?_) | (subst_vars; with_reducible refine (q_X12_sizeAsked _ _ _ _).trans ?_) | (subst_vars; with_reducible refine (shp_sI _ _ _ _).trans ?_) | (subst_vars; with_reducible refine (shp_sJ _ _ _ _).trans ?_) | (subst_vars; with_reducible refine shi ?_ ?_) | (subst_vars; with_reducible refine shb (fun _ _ => ?_)))) hM
      refine aw_iload_n hC 2 dX12_markAsked_38 rfl rfl ?_
      refine aw_iconst (v := 1) hC dX12_markAsked_39 (by decide) ?_
      refine aw_cS2r hC hSt (t_X12_isOf G l  _ _) w_1269 w_1271 w_1272 w_953 rfl rfl (by decide +kernel) ⟨Nat.le_of_ble_eq_true rfl, Nat.le_of_ble_eq_true rfl⟩ (Nat.le_of_ble_eq_true rfl) dX12_markAsked_40 ⟨Nat.zero_le _, Nat.zero_le _⟩ ?_
      refine aw_istore_n hC [(3, .int _), (0, .ref 64), (1, .int _), (2, .int _)] dX12_markAsked_43 rfl (by decide) rfl ?_
      generalize ex11 : (f_X12_isOf S10 a2 (1 : Int32)) = x11
      refine aw_iload_n hC 0 dX12_markAsked_44 rfl rfl ?_
      refine aw_cut (S' := (if x11 = 0 then S10 else (bd (f_X12_began S10 64 (21 : Int32)) fun r13 => r13))) (pc' := 54) (lv' := [(3, .int x11), (0, .ref 64), (1, .int a1), (2, .int a2)]) (st' := []) ?_ (fun Jc12 => ?_)
      · generalize eS14 : (if x11 = 0 then S10 else (bd (f_X12_began S10 64 (21 : Int32)) fun r13 => r13)) = S14
        have hM : MS S14 := MS.of (by rw [← eS14]; repeat' (first | with_reducible rfl | with_reducible refine (q_X12_began _ _ _).trans ?_ | with_reducible refine (q_X12_edgedMark _ _ _).trans ?_ | with_reducible refine (q_X12_sizeAsked _ _ _ _).trans ?_ | with_reducible refine (shp_sI _ _ _ _).trans ?_ | with_reducible refine (shp_sJ _ _ _ _).trans ?_ | with_reducible refine shi ?_ ?_ | with_reducible refine shb (fun _ _ => ?_) | (subst_vars; with_reducible rfl) | (subst_vars; with_reducible refine (q_X12_began _ _ _).trans ?_) | (subst_vars; with_reducible refine (q_X12_edgedMark _ _ _).trans ?_) | (subst_vars; with_reducible refine (q_X12_sizeAsked _ _ _ _).trans ?_) | (subst_vars; with_reducible refine (shp_sI _ _ _ _).trans ?_) | (subst_vars; with_reducible refine (shp_sJ _ _ _ _).trans ?_) | (subst_vars; with_reducible refine shi ?_ ?_) | (subst_vars; with_reducible refine shb (fun _ _ => ?_)))) hM
        refine aw_aload_n hC 1 dX12_markAsked_54 rfl rfl ?_
        refine aw_bipush (v := 20) hC dX12_markAsked_55 (by decide) ?_
        refine aw_cV1v hC hSt (t_X12_began G l hM _ (h3 c1 S10 eS10 x11 ex11 S14 eS14)) w_1274 w_1277 w_1278 w_1279 w_953 rfl rfl (by decide +kernel) ⟨Nat.le_of_ble_eq_true rfl, Nat.le_of_ble_eq_true rfl⟩ (ms_lt 64 (by decide) hM) (ms_k 64 12 0 (by decide) hM) rfl (Nat.le_of_ble_eq_true rfl) dX12_markAsked_57 ⟨Nat.zero_le _, Nat.zero_le _⟩ ?_
        generalize er15 : f_X12_began S14 64 (20 : Int32) = r15
        have hM : MS r15 := MS.of (by rw [← er15]; exact q_X12_began _ _ _) hM
        refine aw_iload_n hC 2 dX12_markAsked_60 rfl rfl ?_
        refine aw_iload_n hC 0 dX12_markAsked_61 rfl rfl ?_
        refine aw_cut (S' := r15) (pc' := 75) (lv' := [(3, .int x11), (0, .ref 64), (1, .int a1), (2, .int a2)]) (st' := [.int (if x11 = 0 then (0 : Int32) else (f_X12_deed r15 64 a1 (3 : Int32))), .int a1]) ?_ (fun Jc16 => ?_)
        · generalize ex17 : (if x11 = 0 then (0 : Int32) else (f_X12_deed r15 64 a1 (3 : Int32))) = x17
          refine aw_iadd hC dX12_markAsked_75 ?_
          refine aw_istore hC [(4, .int _), (3, .int _), (0, .ref 64), (1, .int _), (2, .int _)] dX12_markAsked_76 (by decide) rfl ?_
          generalize ex18 : (a1 + x17) = x18
          refine aw_iload_n hC 4 dX12_markAsked_78 rfl rfl ?_
          refine aw_bipush (v := 6) hC dX12_markAsked_79 (by decide) ?_
          refine aw_cut (S' := (if a2 = (6 : Int32) then r15 else (if a2 = (2 : Int32) then (bd (f_X12_sizeAsked r15 64 a1 a2) fun r21 => r21.2) else r15))) (pc' := 109) (lv' := [(4, .int x18), (3, .int x11), (0, .ref 64), (1, .int a1), (2, .int a2)]) (st' := [.int (if a2 = (6 : Int32) then (-x18) else (if a2 = (2 : Int32) then (bd (f_X12_sizeAsked r15 64 a1 a2) fun r21 => (x18 + r21.1)) else x18))]) ?_ (fun Jc19 => ?_)
          · generalize ex22 : (if a2 = (6 : Int32) then (-x18) else (if a2 = (2 : Int32) then (bd (f_X12_sizeAsked r15 64 a1 a2) fun r21 => (x18 + r21.1)) else x18)) = x22
            generalize eS23 : (if a2 = (6 : Int32) then r15 else (if a2 = (2 : Int32) then (bd (f_X12_sizeAsked r15 64 a1 a2) fun r21 => r21.2) else r15)) = S23
            have hM : MS S23 := MS.of (by rw [← eS23]; repeat' (first | with_reducible rfl | with_reducible refine (q_X12_began _ _ _).trans ?_ | with_reducible refine (q_X12_edgedMark _ _ _).trans ?_ | with_reducible refine (q_X12_sizeAsked _ _ _ _).trans ?_ | with_reducible refine (shp_sI _ _ _ _).trans ?_ | with_reducible refine (shp_sJ _ _ _ _).trans ?_ | with_reducible refine shi ?_ ?_ | with_reducible refine shb (fun _ _ => ?_) | (subst_vars; with_reducible rfl) | (subst_vars; with_reducible refine (q_X12_began _ _ _).trans ?_) | (subst_vars; with_reducible refine (q_X12_edgedMark _ _ _).trans ?_) | (subst_vars; with_reducible refine (q_X12_sizeAsked _ _ _ _).trans ?_) | (subst_vars; with_reducible refine (shp_sI _ _ _ _).trans ?_) | (subst_vars; with_reducible refine (shp_sJ _ _ _ _).trans ?_) | (subst_vars; with_reducible refine shi ?_ ?_) | (subst_vars; with_reducible refine shb (fun _ _ => ?_)))) hM
            refine aw_iret hC dX12_markAsked_109 (Nat.le_refl _) (Nat.le_refl _) ?_
            exact FP.qI ((if_neg c1).trans ((bd_eq eS10).trans ((bd_eq ex11).trans ((bd_eq eS14).trans ((bd_eq er15).trans ((bd_eq ex17).trans ((bd_eq ex18).trans ((bd_eq ex22).trans ((bd_eq eS23).trans (rfl))))))))))
          · refine aw_icmp_ne hC 90 dX12_markAsked_81 (by decide) (fun c19 => ?_) (fun c19 => ?_)
            · refine aw_iload_n hC 4 dX12_markAsked_90 rfl rfl ?_
              refine aw_iconst (v := 2) hC dX12_markAsked_91 (by decide) ?_
              refine aw_icmp_ne hC 107 dX12_markAsked_92 (by decide) (fun c20 => ?_) (fun c20 => ?_)
              · refine aw_iload hC 0 dX12_markAsked_107 rfl ?_
                simp only [bd_def, if_neg c19, if_neg c20] at Jc19 ⊢
                exact Jc19
              · refine aw_iload hC 0 dX12_markAsked_95 rfl ?_
                refine aw_aload_n hC 2 dX12_markAsked_97 rfl rfl ?_
                refine aw_iload_n hC 3 dX12_markAsked_98 rfl rfl ?_
                refine aw_iload_n hC 4 dX12_markAsked_99 rfl rfl ?_
                refine aw_cV2r hC hSt (t_X12_sizeAsked G l hM _ _ (h5 c1 S10 eS10 x11 ex11 S14 eS14 r15 er15 x17 ex17 x18 ex18 c19 c20)) w_1280 w_1284 w_1285 w_1286 w_953 rfl rfl (by decide +kernel) ⟨Nat.le_of_ble_eq_true rfl, Nat.le_of_ble_eq_true rfl⟩ (ms_lt 64 (by decide) hM) (ms_k 64 12 0 (by decide) hM) rfl (Nat.le_of_ble_eq_true rfl) dX12_markAsked_100 ⟨Nat.zero_le _, Nat.zero_le _⟩ ?_
                generalize er21 : f_X12_sizeAsked r15 64 a1 a2 = r21
                have hM : MS r21.2 := MS.of (by rw [← er21]; exact q_X12_sizeAsked _ _ _ _) hM
                refine aw_iadd hC dX12_markAsked_103 ?_
                refine aw_goto hC 109 dX12_markAsked_104 (by decide) ?_
                subst er21
                simp only [bd_def, if_neg c19, if_pos c20] at Jc19 ⊢
                exact Jc19
            · refine aw_iload hC 0 dX12_markAsked_84 rfl ?_
              refine aw_ineg hC dX12_markAsked_86 ?_
              refine aw_goto hC 109 dX12_markAsked_87 (by decide) ?_
              simp only [bd_def, if_pos c19] at Jc19 ⊢
              exact Jc19
        · refine aw_if_eq hC 74 dX12_markAsked_62 (by decide) (fun c16 => ?_) (fun c16 => ?_)
          · refine aw_iconst (v := 0) hC dX12_markAsked_74 (by decide) ?_
            simp only [bd_def, if_pos c16] at Jc16 ⊢
            exact Jc16
          · refine aw_aload_n hC 1 dX12_markAsked_65 rfl rfl ?_
            refine aw_iload_n hC 2 dX12_markAsked_66 rfl rfl ?_
            refine aw_iconst (v := 3) hC dX12_markAsked_67 (by decide) ?_
            refine aw_cV2r hC hSt (t_X12_deed G l hM _ _ (h4 c1 S10 eS10 x11 ex11 S14 eS14 r15 er15 c16)) w_1080 w_1088 w_1089 w_1090 w_953 rfl rfl (by decide +kernel) ⟨Nat.le_of_ble_eq_true rfl, Nat.le_of_ble_eq_true rfl⟩ (ms_lt 64 (by decide) hM) (ms_k 64 12 0 (by decide) hM) rfl (Nat.le_of_ble_eq_true rfl) dX12_markAsked_68 ⟨Nat.zero_le _, Nat.zero_le _⟩ ?_
            refine aw_goto hC 75 dX12_markAsked_71 (by decide) ?_
            simp only [bd_def, if_neg c16] at Jc16 ⊢
            exact Jc16
      · refine aw_if_eq hC 54 dX12_markAsked_45 (by decide) (fun c12 => ?_) (fun c12 => ?_)
        · simp only [bd_def, if_pos c12] at Jc12 ⊢
          exact Jc12
        · refine aw_aload_n hC 1 dX12_markAsked_48 rfl rfl ?_
          refine aw_bipush (v := 21) hC dX12_markAsked_49 (by decide) ?_
          refine aw_cV1v hC hSt (t_X12_began G l hM _ (h2 c1 S10 eS10 x11 ex11 c12)) w_1274 w_1277 w_1278 w_1279 w_953 rfl rfl (by decide +kernel) ⟨Nat.le_of_ble_eq_true rfl, Nat.le_of_ble_eq_true rfl⟩ (ms_lt 64 (by decide) hM) (ms_k 64 12 0 (by decide) hM) rfl (Nat.le_of_ble_eq_true rfl) dX12_markAsked_51 ⟨Nat.zero_le _, Nat.zero_le _⟩ ?_
          generalize er13 : f_X12_began S10 64 (21 : Int32) = r13
          have hM : MS r13 := MS.of (by rw [← er13]; exact q_X12_began _ _ _) hM
          subst er13
          simp only [bd_def, if_neg c12] at Jc12 ⊢
          exact Jc12
    · refine aw_icmp_eq hC 22 dX12_markAsked_13 (by decide) (fun c2 => ?_) (fun c2 => ?_)
      · refine aw_aload_n hC 0 dX12_markAsked_22 rfl rfl ?_
        refine aw_iload_n hC 2 dX12_markAsked_23 rfl rfl ?_
        refine aw_iconst (v := 2) hC dX12_markAsked_24 (by decide) ?_
        refine aw_cut (S' := S) (pc' := 35) (lv' := [(0, .ref 64), (1, .int a1), (2, .int a2)]) (st' := [.int (if a2 = (2 : Int32) then (22 : Int32) else (23 : Int32)), .ref 64]) ?_ (fun Jc3 => ?_)
        · generalize ex4 : (if a2 = (2 : Int32) then (22 : Int32) else (23 : Int32)) = x4
          refine aw_cV1v hC hSt (t_X12_began G l hM _ (h0 c1 c2 x4 ex4)) w_1274 w_1277 w_1278 w_1279 w_953 rfl rfl (by decide +kernel) ⟨Nat.le_of_ble_eq_true rfl, Nat.le_of_ble_eq_true rfl⟩ (ms_lt 64 (by decide) hM) (ms_k 64 12 0 (by decide) hM) rfl (Nat.le_of_ble_eq_true rfl) dX12_markAsked_35 ⟨Nat.zero_le _, Nat.zero_le _⟩ ?_
          generalize er5 : f_X12_began S 64 x4 = r5
          have hM : MS r5 := MS.of (by rw [← er5]; exact q_X12_began _ _ _) hM
          subst er5
          subst ex4
          simp only [bd_def, if_pos c2] at Jc2 ⊢
          exact Jc2
        · refine aw_icmp_ne hC 33 dX12_markAsked_25 (by decide) (fun c3 => ?_) (fun c3 => ?_)
          · refine aw_bipush (v := 23) hC dX12_markAsked_33 (by decide) ?_
            simp only [bd_def, if_neg c3] at Jc3 ⊢
            exact Jc3
          · refine aw_bipush (v := 22) hC dX12_markAsked_28 (by decide) ?_
            refine aw_goto hC 35 dX12_markAsked_30 (by decide) ?_
            simp only [bd_def, if_pos c3] at Jc3 ⊢
            exact Jc3
      · refine aw_iload_n hC 2 dX12_markAsked_16 rfl rfl ?_
        refine aw_bipush (v := 6) hC dX12_markAsked_17 (by decide) ?_
        refine aw_icmp_ne hC 38 dX12_markAsked_19 (by decide) (fun c6 => ?_) (fun c6 => ?_)
        · simp only [bd_def, if_neg c2, if_neg c6] at Jc2 ⊢
          exact Jc2
        · refine aw_aload_n hC 0 dX12_markAsked_22 rfl rfl ?_
          refine aw_iload_n hC 2 dX12_markAsked_23 rfl rfl ?_
          refine aw_iconst (v := 2) hC dX12_markAsked_24 (by decide) ?_
          refine aw_cut (S' := S) (pc' := 35) (lv' := [(0, .ref 64), (1, .int a1), (2, .int a2)]) (st' := [.int (if a2 = (2 : Int32) then (22 : Int32) else (23 : Int32)), .ref 64]) ?_ (fun Jc7 => ?_)
          · generalize ex8 : (if a2 = (2 : Int32) then (22 : Int32) else (23 : Int32)) = x8
            refine aw_cV1v hC hSt (t_X12_began G l hM _ (h1 c1 c2 c6 x8 ex8)) w_1274 w_1277 w_1278 w_1279 w_953 rfl rfl (by decide +kernel) ⟨Nat.le_of_ble_eq_true rfl, Nat.le_of_ble_eq_true rfl⟩ (ms_lt 64 (by decide) hM) (ms_k 64 12 0 (by decide) hM) rfl (Nat.le_of_ble_eq_true rfl) dX12_markAsked_35 ⟨Nat.zero_le _, Nat.zero_le _⟩ ?_
            generalize er9 : f_X12_began S 64 x8 = r9
            have hM : MS r9 := MS.of (by rw [← er9]; exact q_X12_began _ _ _) hM
            subst er9
            subst ex8
            simp only [bd_def, if_neg c2, if_pos c6] at Jc2 ⊢
            exact Jc2
          · refine aw_icmp_ne hC 33 dX12_markAsked_25 (by decide) (fun c7 => ?_) (fun c7 => ?_)
            · refine aw_bipush (v := 23) hC dX12_markAsked_33 (by decide) ?_
              simp only [bd_def, if_neg c7] at Jc7 ⊢
              exact Jc7
            · refine aw_bipush (v := 22) hC dX12_markAsked_28 (by decide) ?_
              refine aw_goto hC 35 dX12_markAsked_30 (by decide) ?_
              simp only [bd_def, if_pos c7] at Jc7 ⊢
              exact Jc7
  · refine aw_aload_n hC 0 dX12_markAsked_5 rfl rfl ?_
    refine aw_iload_n hC 1 dX12_markAsked_6 rfl rfl ?_
    refine aw_cV1r hC hSt (t_X12_edgedMark G l hM _ (h6 c1)) w_1276 w_1281 w_1282 w_1283 w_953 rfl rfl (by decide +kernel) ⟨Nat.le_of_ble_eq_true rfl, Nat.le_of_ble_eq_true rfl⟩ (ms_lt 64 (by decide) hM) (ms_k 64 12 0 (by decide) hM) rfl (Nat.le_of_ble_eq_true rfl) dX12_markAsked_7 ⟨Nat.zero_le _, Nat.zero_le _⟩ ?_
    generalize er24 : f_X12_edgedMark S 64 a1 = r24
    have hM : MS r24.2 := MS.of (by rw [← er24]; exact q_X12_edgedMark _ _ _) hM
    refine aw_iret hC dX12_markAsked_10 (Nat.le_refl _) (Nat.le_refl _) ?_
    exact FP.qI ((if_pos c1).trans ((bd_eq er24).trans (rfl)))
theorem q_X12_markAsked (S : HSt) (_o : Nat) (a1 : Int32) (a2 : Int32) : shp ((f_X12_markAsked S _o a1 a2).2) = shp S := by
  unfold f_X12_markAsked
  repeat' (first | with_reducible refine shpr1 ?_ | with_reducible rfl | with_reducible refine (q_X12_began _ _ _).trans ?_ | with_reducible refine (q_X12_edgedMark _ _ _).trans ?_ | with_reducible refine (q_X12_sizeAsked _ _ _ _).trans ?_ | with_reducible refine (shp_sI _ _ _ _).trans ?_ | with_reducible refine (shp_sJ _ _ _ _).trans ?_ | with_reducible refine shi ?_ ?_ | with_reducible refine shb (fun _ _ => ?_) | with_reducible refine shiP (fun q : Int32 × HSt => q.2) ?_ ?_ | with_reducible refine shbP (fun q : Int32 × HSt => q.2) (fun _ _ => ?_) | (subst_vars; with_reducible rfl) | (subst_vars; with_reducible refine (q_X12_began _ _ _).trans ?_) | (subst_vars; with_reducible refine (q_X12_edgedMark _ _ _).trans ?_) | (subst_vars; with_reducible refine (q_X12_sizeAsked _ _ _ _).trans ?_) | (subst_vars; with_reducible refine (shp_sI _ _ _ _).trans ?_) | (subst_vars; with_reducible refine (shp_sJ _ _ _ _).trans ?_) | (subst_vars; with_reducible refine shi ?_ ?_) | (subst_vars; with_reducible refine shb (fun _ _ => ?_)))
theorem v_X12_markAsked (S : HSt) (_o : Nat) (a1 : Int32) (a2 : Int32) : Fr [(64, 51), (87, 1000)] S ((f_X12_markAsked S _o a1 a2).2) := by
  unfold f_X12_markAsked
  repeat' (first | with_reducible refine frpr1 ?_ | with_reducible exact Fr.refl _ _ | with_reducible refine Fr.lP (fun q : Int32 × HSt => q.2) (fun _ _ => ?_) | with_reducible refine Fr.iteP (fun q : Int32 × HSt => q.2) ?_ ?_ | with_reducible refine Fr.l1 (fun _ _ => ?_) | with_reducible refine Fr.ite ?_ ?_ | with_reducible refine Fr.sE (by assumption) (by first | decide | simp only [List.mem_cons, List.not_mem_nil, or_false, true_or, or_true, eq_self_iff_true]) ?_ | with_reducible refine Fr.jE (by assumption) ?_ | with_reducible refine Fr.rE (by assumption) (by first | decide | simp only [List.mem_cons, List.not_mem_nil, or_false, true_or, or_true, eq_self_iff_true]) ?_ | with_reducible refine Fr.iE (by assumption) ?_ ?_ | with_reducible refine Fr.tr (w_X12_began _ _ _ _ (by assumption)) (by first | decide | simp only [List.mem_cons, List.not_mem_nil, or_false, forall_eq_or_imp, forall_eq, true_or, or_true, and_self, eq_self_iff_true]) ?_ | with_reducible refine Fr.tr (w_X12_edgedMark _ _ _ _ (by assumption)) (by first | decide | simp only [List.mem_cons, List.not_mem_nil, or_false, forall_eq_or_imp, forall_eq, true_or, or_true, and_self, eq_self_iff_true]) ?_ | with_reducible refine Fr.tr (w_X12_sizeAsked _ _ _ _ _ (by assumption)) (by first | decide | simp only [List.mem_cons, List.not_mem_nil, or_false, forall_eq_or_imp, forall_eq, true_or, or_true, and_self, eq_self_iff_true]) ?_)
theorem w_X12_markAsked (S : HSt) (_o : Nat) (a1 : Int32) (a2 : Int32) (r : Int32 × HSt) (e : f_X12_markAsked S _o a1 a2 = r) : Fr [(64, 51), (87, 1000)] S r.2 := by
  rw [← e]
  exact v_X12_markAsked S _o a1 a2
noncomputable def f_X12_ask (S : HSt) (_o : Nat) (a1 : Int32) (a2 : Int32) : Int64 × HSt := bd ((sI S 64 0 (0 : Int32))) fun S1 => if (f_X12_isAct S1 64 a1) = 0 then (pr ((-9000000000000000001 : Int64)) (S1)) else (if (f_X12_in S1 a2.toInt64 (0 : Int64) (1 : Int64)) = 0 then (pr ((-9000000000000000001 : Int64)) (S1)) else (bd ((sI S1 64 51 (0 : Int32))) fun S4 => bd ((if a2 = 0 then (bd (f_X12_sizeAsked S4 64 a1 (f_X12_deed S4 64 a1 (0 : Int32))) fun r7 => r7.1.toInt64) else (bd (f_X12_markAsked S4 64 a1 (f_X12_deed S4 64 a1 (0 : Int32))) fun r6 => r6.1.toInt64))) fun x8 => bd ((if a2 = 0 then (bd (f_X12_sizeAsked S4 64 a1 (f_X12_deed S4 64 a1 (0 : Int32))) fun r7 => r7.2) else (bd (f_X12_markAsked S4 64 a1 (f_X12_deed S4 64 a1 (0 : Int32))) fun r6 => r6.2))) fun S9 => pr (x8) (S9)))
def p_X12_ask (S : HSt) (_o : Nat) (a1 : Int32) (a2 : Int32) : Prop := (∀ S1 : HSt, (sI S 64 0 (0 : Int32)) = S1 → (¬ (f_X12_isAct S1 64 a1) = 0) → (¬ (f_X12_in S1 a2.toInt64 (0 : Int64) (1 : Int64)) = 0) → ∀ S4 : HSt, (sI S1 64 51 (0 : Int32)) = S4 → (¬ a2 = 0) → p_X12_deed S4 64 a1 (0 : Int32)) ∧ (∀ S1 : HSt, (sI S 64 0 (0 : Int32)) = S1 → (¬ (f_X12_isAct S1 64 a1) = 0) → (¬ (f_X12_in S1 a2.toInt64 (0 : Int64) (1 : Int64)) = 0) → ∀ S4 : HSt, (sI S1 64 51 (0 : Int32)) = S4 → (¬ a2 = 0) → p_X12_markAsked S4 64 a1 (f_X12_deed S4 64 a1 (0 : Int32))) ∧ (∀ S1 : HSt, (sI S 64 0 (0 : Int32)) = S1 → (¬ (f_X12_isAct S1 64 a1) = 0) → (¬ (f_X12_in S1 a2.toInt64 (0 : Int64) (1 : Int64)) = 0) → ∀ S4 : HSt, (sI S1 64 51 (0 : Int32)) = S4 → (a2 = 0) → p_X12_deed S4 64 a1 (0 : Int32)) ∧ (∀ S1 : HSt, (sI S 64 0 (0 : Int32)) = S1 → (¬ (f_X12_isAct S1 64 a1) = 0) → (¬ (f_X12_in S1 a2.toInt64 (0 : Int64) (1 : Int64)) = 0) → ∀ S4 : HSt, (sI S1 64 51 (0 : Int32)) = S4 → (a2 = 0) → p_X12_sizeAsked S4 64 a1 (f_X12_deed S4 64 a1 (0 : Int32)))
set_option maxRecDepth 100000 in
theorem t_X12_ask (G : GG) (l : Launch) {S : HSt} (hM : MS S) (a1 : Int32) (a2 : Int32) (hp : p_X12_ask S 64 a1 a2) : AM G l yX12_ask cX12_ask 3 (some .long) (rmD 4 0 0) 0 0 [.ref 64, .int a1, .int a2] S (FP (some (.long (f_X12_ask S 64 a1 a2).1)) ((f_X12_ask S 64 a1 a2).2)) := by
  obtain ⟨h0, h1, h2, h3⟩ := hp
  refine AM.mk (by decide) (Nat.le_of_ble_eq_true rfl) ?_
  intro p e s m below meth c hC hSt _
  refine aw_aload_n hC 0 dX12_ask_0 rfl rfl ?_
  refine aw_iconst (v := 0) hC dX12_ask_1 (by decide) ?_
  refine aw_putI hC hSt 0 (ms_lt 64 (by decide) hM) (ms_k 64 12 0 (by decide) hM) rfl (by decide) w_955 rfl rfl rfl rfl dX12_ask_2 ?_
  generalize eS1 : (sI S 64 0 (0 : Int32)) = S1
  have hM : MS S1 := MS.of (by rw [← eS1]; exact shp_sI _ _ _ _) hM
  refine aw_aload_n hC 0 dX12_ask_5 rfl rfl ?_
  refine aw_iload_n hC 1 dX12_ask_6 rfl rfl ?_
  refine aw_cV1r hC hSt (t_X12_isAct G l hM _) w_1079 w_1085 w_1086 w_1087 w_953 rfl rfl (by decide +kernel) ⟨Nat.le_of_ble_eq_true rfl, Nat.le_of_ble_eq_true rfl⟩ (ms_lt 64 (by decide) hM) (ms_k 64 12 0 (by decide) hM) rfl (Nat.le_of_ble_eq_true rfl) dX12_ask_7 ⟨Nat.zero_le _, Nat.zero_le _⟩ ?_
  refine aw_if_eq hC 23 dX12_ask_10 (by decide) (fun c2 => ?_) (fun c2 => ?_)
  · refine aw_ldc2 (v := -9000000000000000001) hC w_957 dX12_ask_23 ?_
    refine aw_lret hC dX12_ask_26 (Nat.le_refl _) (Nat.le_refl _) ?_
    exact FP.qJ ((bd_eq eS1).trans ((if_pos c2).trans (rfl)))
  · refine aw_iload_n hC 2 dX12_ask_13 rfl rfl ?_
    refine aw_i2l hC dX12_ask_14 ?_
    refine aw_lconst (v := 0) hC dX12_ask_15 (by decide) ?_
    refine aw_lconst (v := 1) hC dX12_ask_16 (by decide) ?_
    refine aw_cS3r hC hSt (t_X12_in G l  _ _ _) w_945 w_951 w_952 w_953 rfl rfl (by decide +kernel) ⟨Nat.le_of_ble_eq_true rfl, Nat.le_of_ble_eq_true rfl⟩ (Nat.le_of_ble_eq_true rfl) dX12_ask_17 ⟨Nat.zero_le _, Nat.zero_le _⟩ ?_
    refine aw_if_ne hC 27 dX12_ask_20 (by decide) (fun c3 => ?_) (fun c3 => ?_)
    · refine aw_aload_n hC 0 dX12_ask_27 rfl rfl ?_
      refine aw_iconst (v := 0) hC dX12_ask_28 (by decide) ?_
      refine aw_putI hC hSt 51 (ms_lt 64 (by decide) hM) (ms_k 64 12 0 (by decide) hM) rfl (by decide) w_1275 rfl rfl rfl rfl dX12_ask_29 ?_
      generalize eS4 : (sI S1 64 51 (0 : Int32)) = S4
      have hM : MS S4 := MS.of (by rw [← eS4]; exact shp_sI _ _ _ _) hM
      refine aw_iload_n hC 2 dX12_ask_32 rfl rfl ?_
      refine aw_cut (S' := (if a2 = 0 then (bd (f_X12_sizeAsked S4 64 a1 (f_X12_deed S4 64 a1 (0 : Int32))) fun r7 => r7.2) else (bd (f_X12_markAsked S4 64 a1 (f_X12_deed S4 64 a1 (0 : Int32))) fun r6 => r6.2))) (pc' := 63) (lv' := [(0, .ref 64), (1, .int a1), (2, .int a2)]) (st' := [.long (if a2 = 0 then (bd (f_X12_sizeAsked S4 64 a1 (f_X12_deed S4 64 a1 (0 : Int32))) fun r7 => r7.1.toInt64) else (bd (f_X12_markAsked S4 64 a1 (f_X12_deed S4 64 a1 (0 : Int32))) fun r6 => r6.1.toInt64))]) ?_ (fun Jc5 => ?_)
      · generalize ex8 : (if a2 = 0 then (bd (f_X12_sizeAsked S4 64 a1 (f_X12_deed S4 64 a1 (0 : Int32))) fun r7 => r7.1.toInt64) else (bd (f_X12_markAsked S4 64 a1 (f_X12_deed S4 64 a1 (0 : Int32))) fun r6 => r6.1.toInt64)) = x8
        generalize eS9 : (if a2 = 0 then (bd (f_X12_sizeAsked S4 64 a1 (f_X12_deed S4 64 a1 (0 : Int32))) fun r7 => r7.2) else (bd (f_X12_markAsked S4 64 a1 (f_X12_deed S4 64 a1 (0 : Int32))) fun r6 => r6.2)) = S9
        have hM : MS S9 := MS.of (by rw [← eS9]; repeat' (first | with_reducible rfl | with_reducible refine (q_X12_markAsked _ _ _ _).trans ?_ | with_reducible refine (q_X12_sizeAsked _ _ _ _).trans ?_ | with_reducible refine (shp_sI _ _ _ _).trans ?_ | with_reducible refine (shp_sJ _ _ _ _).trans ?_ | with_reducible refine shi ?_ ?_ | with_reducible refine shb (fun _ _ => ?_) | (subst_vars; with_reducible rfl) | (subst_vars; with_reducible refine (q_X12_markAsked _ _ _ _).trans ?_) | (subst_vars; with_reducible refine (q_X12_sizeAsked _ _ _ _).trans ?_) | (subst_vars; with_reducible refine (shp_sI _ _ _ _).trans ?_) | (subst_vars; with_reducible refine (shp_sJ _ _ _ _).trans ?_) | (subst_vars; with_reducible refine shi ?_ ?_) | (subst_vars; with_reducible refine shb (fun _ _ => ?_)))) hM
        refine aw_lret hC dX12_ask_63 (Nat.le_refl _) (Nat.le_refl _) ?_
        exact FP.qJ ((bd_eq eS1).trans ((if_neg c2).trans ((if_neg c3).trans ((bd_eq eS4).trans ((bd_eq ex8).trans ((bd_eq eS9).trans (rfl)))))))
      · refine aw_if_ne hC 51 dX12_ask_33 (by decide) (fun c5 => ?_) (fun c5 => ?_)
        · refine aw_aload_n hC 0 dX12_ask_51 rfl rfl ?_
          refine aw_iload_n hC 1 dX12_ask_52 rfl rfl ?_
          refine aw_aload_n hC 0 dX12_ask_53 rfl rfl ?_
          refine aw_iload_n hC 1 dX12_ask_54 rfl rfl ?_
          refine aw_iconst (v := 0) hC dX12_ask_55 (by decide) ?_
          refine aw_cV2r hC hSt (t_X12_deed G l hM _ _ (h0 S1 eS1 c2 c3 S4 eS4 c5)) w_1080 w_1088 w_1089 w_1090 w_953 rfl rfl (by decide +kernel) ⟨Nat.le_of_ble_eq_true rfl, Nat.le_of_ble_eq_true rfl⟩ (ms_lt 64 (by decide) hM) (ms_k 64 12 0 (by decide) hM) rfl (Nat.le_of_ble_eq_true rfl) dX12_ask_56 ⟨Nat.zero_le _, Nat.zero_le _⟩ ?_
          refine aw_cV2r hC hSt (t_X12_markAsked G l hM _ _ (h1 S1 eS1 c2 c3 S4 eS4 c5)) w_1287 w_1288 w_1289 w_1290 w_953 rfl rfl (by decide +kernel) ⟨Nat.le_of_ble_eq_true rfl, Nat.le_of_ble_eq_true rfl⟩ (ms_lt 64 (by decide) hM) (ms_k 64 12 0 (by decide) hM) rfl (Nat.le_of_ble_eq_true rfl) dX12_ask_59 ⟨Nat.zero_le _, Nat.zero_le _⟩ ?_
          generalize er6 : f_X12_markAsked S4 64 a1 (f_X12_deed S4 64 a1 (0 : Int32)) = r6
          have hM : MS r6.2 := MS.of (by rw [← er6]; exact q_X12_markAsked _ _ _ _) hM
          refine aw_i2l hC dX12_ask_62 ?_
          subst er6
          simp only [bd_def, if_neg c5] at Jc5 ⊢
          exact Jc5
        · refine aw_aload_n hC 0 dX12_ask_36 rfl rfl ?_
          refine aw_iload_n hC 1 dX12_ask_37 rfl rfl ?_
          refine aw_aload_n hC 0 dX12_ask_38 rfl rfl ?_
          refine aw_iload_n hC 1 dX12_ask_39 rfl rfl ?_
          refine aw_iconst (v := 0) hC dX12_ask_40 (by decide) ?_
          refine aw_cV2r hC hSt (t_X12_deed G l hM _ _ (h2 S1 eS1 c2 c3 S4 eS4 c5)) w_1080 w_1088 w_1089 w_1090 w_953 rfl rfl (by decide +kernel) ⟨Nat.le_of_ble_eq_true rfl, Nat.le_of_ble_eq_true rfl⟩ (ms_lt 64 (by decide) hM) (ms_k 64 12 0 (by decide) hM) rfl (Nat.le_of_ble_eq_true rfl) dX12_ask_41 ⟨Nat.zero_le _, Nat.zero_le _⟩ ?_
          refine aw_cV2r hC hSt (t_X12_sizeAsked G l hM _ _ (h3 S1 eS1 c2 c3 S4 eS4 c5)) w_1280 w_1284 w_1285 w_1286 w_953 rfl rfl (by decide +kernel) ⟨Nat.le_of_ble_eq_true rfl, Nat.le_of_ble_eq_true rfl⟩ (ms_lt 64 (by decide) hM) (ms_k 64 12 0 (by decide) hM) rfl (Nat.le_of_ble_eq_true rfl) dX12_ask_44 ⟨Nat.zero_le _, Nat.zero_le _⟩ ?_
          generalize er7 : f_X12_sizeAsked S4 64 a1 (f_X12_deed S4 64 a1 (0 : Int32)) = r7
          have hM : MS r7.2 := MS.of (by rw [← er7]; exact q_X12_sizeAsked _ _ _ _) hM
          refine aw_i2l hC dX12_ask_47 ?_
          refine aw_goto hC 63 dX12_ask_48 (by decide) ?_
          subst er7
          simp only [bd_def, if_pos c5] at Jc5 ⊢
          exact Jc5
    · refine aw_ldc2 (v := -9000000000000000001) hC w_957 dX12_ask_23 ?_
      refine aw_lret hC dX12_ask_26 (Nat.le_refl _) (Nat.le_refl _) ?_
      exact FP.qJ ((bd_eq eS1).trans ((if_neg c2).trans ((if_pos c3).trans (rfl))))
theorem q_X12_ask (S : HSt) (_o : Nat) (a1 : Int32) (a2 : Int32) : shp ((f_X12_ask S _o a1 a2).2) = shp S := by
  unfold f_X12_ask
  repeat' (first | with_reducible refine shpr1 ?_ | with_reducible rfl | with_reducible refine (q_X12_markAsked _ _ _ _).trans ?_ | with_reducible refine (q_X12_sizeAsked _ _ _ _).trans ?_ | with_reducible refine (shp_sI _ _ _ _).trans ?_ | with_reducible refine (shp_sJ _ _ _ _).trans ?_ | with_reducible refine shi ?_ ?_ | with_reducible refine shb (fun _ _ => ?_) | with_reducible refine shiP (fun q : Int64 × HSt => q.2) ?_ ?_ | with_reducible refine shbP (fun q : Int64 × HSt => q.2) (fun _ _ => ?_) | (subst_vars; with_reducible rfl) | (subst_vars; with_reducible refine (q_X12_markAsked _ _ _ _).trans ?_) | (subst_vars; with_reducible refine (q_X12_sizeAsked _ _ _ _).trans ?_) | (subst_vars; with_reducible refine (shp_sI _ _ _ _).trans ?_) | (subst_vars; with_reducible refine (shp_sJ _ _ _ _).trans ?_) | (subst_vars; with_reducible refine shi ?_ ?_) | (subst_vars; with_reducible refine shb (fun _ _ => ?_)))
theorem v_X12_ask (S : HSt) (_o : Nat) (a1 : Int32) (a2 : Int32) : Fr [(64, 0), (64, 51), (87, 1000)] S ((f_X12_ask S _o a1 a2).2) := by
  unfold f_X12_ask
  repeat' (first | with_reducible refine frpr1 ?_ | with_reducible exact Fr.refl _ _ | with_reducible refine Fr.lP (fun q : Int64 × HSt => q.2) (fun _ _ => ?_) | with_reducible refine Fr.iteP (fun q : Int64 × HSt => q.2) ?_ ?_ | with_reducible refine Fr.l1 (fun _ _ => ?_) | with_reducible refine Fr.ite ?_ ?_ | with_reducible refine Fr.sE (by assumption) (by first | decide | simp only [List.mem_cons, List.not_mem_nil, or_false, true_or, or_true, eq_self_iff_true]) ?_ | with_reducible refine Fr.jE (by assumption) ?_ | with_reducible refine Fr.rE (by assumption) (by first | decide | simp only [List.mem_cons, List.not_mem_nil, or_false, true_or, or_true, eq_self_iff_true]) ?_ | with_reducible refine Fr.iE (by assumption) ?_ ?_ | with_reducible refine Fr.tr (w_X12_markAsked _ _ _ _ _ (by assumption)) (by first | decide | simp only [List.mem_cons, List.not_mem_nil, or_false, forall_eq_or_imp, forall_eq, true_or, or_true, and_self, eq_self_iff_true]) ?_ | with_reducible refine Fr.tr (w_X12_sizeAsked _ _ _ _ _ (by assumption)) (by first | decide | simp only [List.mem_cons, List.not_mem_nil, or_false, forall_eq_or_imp, forall_eq, true_or, or_true, and_self, eq_self_iff_true]) ?_)
theorem w_X12_ask (S : HSt) (_o : Nat) (a1 : Int32) (a2 : Int32) (r : Int64 × HSt) (e : f_X12_ask S _o a1 a2 = r) : Fr [(64, 0), (64, 51), (87, 1000)] S r.2 := by
  rw [← e]
  exact v_X12_ask S _o a1 a2
noncomputable def f_X12_trace (S : HSt) (_o : Nat) (a1 : Int32) : Int32 × HSt := bd ((sI S 64 0 (0 : Int32))) fun S1 => bd ((if (f_X12_in S1 a1.toInt64 (0 : Int64) ((gI S1 64 51) - (1 : Int32)).toInt64) = 0 then (-1000000 : Int32) else (gI S1 87 a1.toNatClampNeg))) fun x3 => pr (x3) (S1)
def p_X12_trace (S : HSt) (_o : Nat) (a1 : Int32) : Prop := (∀ S1 : HSt, (sI S 64 0 (0 : Int32)) = S1 → (¬ (f_X12_in S1 a1.toInt64 (0 : Int64) ((gI S1 64 51) - (1 : Int32)).toInt64) = 0) → vp_in a1 16)
set_option maxRecDepth 100000 in
theorem t_X12_trace (G : GG) (l : Launch) {S : HSt} (hM : MS S) (a1 : Int32) (hp : p_X12_trace S 64 a1) : AM G l yX12_trace cX12_trace 2 (some .int) (rmD 1 0 0) 0 0 [.ref 64, .int a1] S (FP (some (.int (f_X12_trace S 64 a1).1)) ((f_X12_trace S 64 a1).2)) := by
  have h0 := hp
  unfold p_X12_trace at h0
  refine AM.mk (by decide) (Nat.le_of_ble_eq_true rfl) ?_
  intro p e s m below meth c hC hSt _
  refine aw_aload_n hC 0 dX12_trace_0 rfl rfl ?_
  refine aw_iconst (v := 0) hC dX12_trace_1 (by decide) ?_
  refine aw_putI hC hSt 0 (ms_lt 64 (by decide) hM) (ms_k 64 12 0 (by decide) hM) rfl (by decide) w_955 rfl rfl rfl rfl dX12_trace_2 ?_
  generalize eS1 : (sI S 64 0 (0 : Int32)) = S1
  have hM : MS S1 := MS.of (by rw [← eS1]; exact shp_sI _ _ _ _) hM
  refine aw_iload_n hC 1 dX12_trace_5 rfl rfl ?_
  refine aw_i2l hC dX12_trace_6 ?_
  refine aw_lconst (v := 0) hC dX12_trace_7 (by decide) ?_
  refine aw_aload_n hC 0 dX12_trace_8 rfl rfl ?_
  refine aw_getI hC hSt 51 (ms_lt 64 (by decide) hM) (ms_k 64 12 0 (by decide) hM) rfl (by decide) w_1275 rfl dX12_trace_9 ?_
  refine aw_iconst (v := 1) hC dX12_trace_12 (by decide) ?_
  refine aw_isub hC dX12_trace_13 ?_
  refine aw_i2l hC dX12_trace_14 ?_
  refine aw_cS3r hC hSt (t_X12_in G l  _ _ _) w_945 w_951 w_952 w_953 rfl rfl (by decide +kernel) ⟨Nat.le_of_ble_eq_true rfl, Nat.le_of_ble_eq_true rfl⟩ (Nat.le_of_ble_eq_true rfl) dX12_trace_15 ⟨Nat.zero_le _, Nat.zero_le _⟩ ?_
  refine aw_cut (S' := S1) (pc' := 32) (lv' := [(0, .ref 64), (1, .int a1)]) (st' := [.int (if (f_X12_in S1 a1.toInt64 (0 : Int64) ((gI S1 64 51) - (1 : Int32)).toInt64) = 0 then (-1000000 : Int32) else (gI S1 87 a1.toNatClampNeg))]) ?_ (fun Jc2 => ?_)
  · generalize ex3 : (if (f_X12_in S1 a1.toInt64 (0 : Int64) ((gI S1 64 51) - (1 : Int32)).toInt64) = 0 then (-1000000 : Int32) else (gI S1 87 a1.toNatClampNeg)) = x3
    refine aw_iret hC dX12_trace_32 (Nat.le_refl _) (Nat.le_refl _) ?_
    exact FP.qI ((bd_eq eS1).trans ((bd_eq ex3).trans (rfl)))
  · refine aw_if_eq hC 30 dX12_trace_18 (by decide) (fun c2 => ?_) (fun c2 => ?_)
    · refine aw_ldc (v := -1000000) hC w_923 dX12_trace_30 ?_
      simp only [bd_def, if_pos c2] at Jc2 ⊢
      exact Jc2
    · refine aw_aload_n hC 0 dX12_trace_21 rfl rfl ?_
      refine aw_getP (b := 87) hC hSt 50 (ms_lt 64 (by decide) hM) (ms_k 64 12 0 (by decide) hM) rfl (by decide) w_943 rfl (ms_p 50 87 (by decide) hM) dX12_trace_22 ?_
      refine aw_iload_n hC 1 dX12_trace_25 rfl rfl ?_
      refine aw_iald hC hSt (ms_lt 87 (by decide) hM) (ms_k 87 14 16 (by decide) hM) (vp_len (n := 16) (ms_l 87 14 16 (by decide) hM) (h0 S1 eS1 c2)) dX12_trace_26 ?_
      refine aw_goto hC 32 dX12_trace_27 (by decide) ?_
      simp only [bd_def, if_neg c2] at Jc2 ⊢
      exact Jc2
theorem q_X12_trace (S : HSt) (_o : Nat) (a1 : Int32) : shp ((f_X12_trace S _o a1).2) = shp S := by
  unfold f_X12_trace
  repeat' (first | with_reducible refine shpr1 ?_ | with_reducible rfl | with_reducible refine (shp_sI _ _ _ _).trans ?_ | with_reducible refine (shp_sJ _ _ _ _).trans ?_ | with_reducible refine shi ?_ ?_ | with_reducible refine shb (fun _ _ => ?_) | with_reducible refine shiP (fun q : Int32 × HSt => q.2) ?_ ?_ | with_reducible refine shbP (fun q : Int32 × HSt => q.2) (fun _ _ => ?_) | (subst_vars; with_reducible rfl) | (subst_vars; with_reducible refine (shp_sI _ _ _ _).trans ?_) | (subst_vars; with_reducible refine (shp_sJ _ _ _ _).trans ?_) | (subst_vars; with_reducible refine shi ?_ ?_) | (subst_vars; with_reducible refine shb (fun _ _ => ?_)))
theorem v_X12_trace (S : HSt) (_o : Nat) (a1 : Int32) : Fr [(64, 0)] S ((f_X12_trace S _o a1).2) := by
  unfold f_X12_trace
  repeat' (first | with_reducible refine frpr1 ?_ | with_reducible exact Fr.refl _ _ | with_reducible refine Fr.lP (fun q : Int32 × HSt => q.2) (fun _ _ => ?_) | with_reducible refine Fr.iteP (fun q : Int32 × HSt => q.2) ?_ ?_ | with_reducible refine Fr.l1 (fun _ _ => ?_) | with_reducible refine Fr.ite ?_ ?_ | with_reducible refine Fr.sE (by assumption) (by first | decide | simp only [List.mem_cons, List.not_mem_nil, or_false, true_or, or_true, eq_self_iff_true]) ?_ | with_reducible refine Fr.jE (by assumption) ?_ | with_reducible refine Fr.rE (by assumption) (by first | decide | simp only [List.mem_cons, List.not_mem_nil, or_false, true_or, or_true, eq_self_iff_true]) ?_ | with_reducible refine Fr.iE (by assumption) ?_ ?_)
theorem w_X12_trace (S : HSt) (_o : Nat) (a1 : Int32) (r : Int32 × HSt) (e : f_X12_trace S _o a1 = r) : Fr [(64, 0)] S r.2 := by
  rw [← e]
  exact v_X12_trace S _o a1
noncomputable def L_X12_count_62 : Nat → HSt → Int32 → Int32 → Int32 → Int32 × Int32 × Int32
  | 0, S, v1, v2, v3 => (v1, v2, v3)
  | n + 1, S, v1, v2, v3 =>
    if (8 : Int32) ≤ v3 then ((pr (v1) (pr (v2) (v3)))) else (bd ((if (gI S 65 v3.toNatClampNeg) < 0 then (0 : Int32) else (1 : Int32))) fun x1005 => bd ((v2 + x1005)) fun x1006 => L_X12_count_62 n S v1 x1006 (v3 + (1 : Int32)))
def T_X12_count_62 : Nat → HSt → Int32 → Int32 → Int32 → Prop
  | 0, _, _, _, _ => False
  | n + 1, S, v1, v2, v3 => ((¬ (8 : Int32) ≤ v3) → vp_in v3 8) ∧ ((¬ (8 : Int32) ≤ v3) → ∀ x1005 : Int32, (if (gI S 65 v3.toNatClampNeg) < 0 then (0 : Int32) else (1 : Int32)) = x1005 → ∀ x1006 : Int32, (v2 + x1005) = x1006 → T_X12_count_62 n S v1 x1006 (v3 + (1 : Int32)))
set_option maxRecDepth 100000 in
theorem l_X12_count_62 {p : Program} {l : Launch} {e : Env} {s : State} {m : MethodId} {args : Array Value} {below : List Frame} {meth : Method} {c : Code} {G : GG} {Q : State → Prop} (hC : ACx p s m args meth c cX12_count RX12 4 (some .long)) (hSt : St G s)  : ∀ (n : Nat) (S : HSt) (v1 : Int32) (v2 : Int32) (v3 : Int32), MS S → T_X12_count_62 n S v1 v2 v3 → AW p l e (rmD 2 0 0) s m args below meth c G 4 Q S 0 0 91 [(0, .ref 64), (1, .int (L_X12_count_62 n S v1 v2 v3).1), (2, .int (L_X12_count_62 n S v1 v2 v3).2.1), (3, .int (L_X12_count_62 n S v1 v2 v3).2.2)] [] → AW p l e (rmD 2 0 0) s m args below meth c G 4 Q S 0 0 62 [(0, .ref 64), (1, .int v1), (2, .int v2), (3, .int v3)] [] := by
  intro n
  induction n with
  | zero => intro S v1 v2 v3 _ hT; exact hT.elim
  | succ n ih =>
    intro S v1 v2 v3 hM hT hk
    unfold T_X12_count_62 at hT
    obtain ⟨h0, h1⟩ := hT
    refine aw_iload_n hC 3 dX12_count_62 rfl rfl ?_
    refine aw_bipush (v := 8) hC dX12_count_63 (by decide) ?_
    refine aw_icmp_ge hC 91 dX12_count_65 (by decide) (fun c1003 => ?_) (fun c1003 => ?_)
    · refine aw_sub [0, 1, 2, 3] rfl ?_
      have E : L_X12_count_62 (n + 1) S v1 v2 v3 = _ := (if_pos c1003).trans (rfl)
      rw [E] at hk
      exact hk
    · refine aw_iload_n hC 2 dX12_count_68 rfl rfl ?_
      refine aw_aload_n hC 0 dX12_count_69 rfl rfl ?_
      refine aw_getP (b := 65) hC hSt 2 (ms_lt 64 (by decide) hM) (ms_k 64 12 0 (by decide) hM) rfl (by decide) w_917 rfl (ms_p 2 65 (by decide) hM) dX12_count_70 ?_
      refine aw_iload_n hC 3 dX12_count_73 rfl rfl ?_
      refine aw_iald hC hSt (ms_lt 65 (by decide) hM) (ms_k 65 14 8 (by decide) hM) (vp_len (n := 8) (ms_l 65 14 8 (by decide) hM) (h0 c1003)) dX12_count_74 ?_
      refine aw_cut (S' := S) (pc' := 83) (lv' := [(0, .ref 64), (1, .int v1), (2, .int v2), (3, .int v3)]) (st' := [.int (if (gI S 65 v3.toNatClampNeg) < 0 then (0 : Int32) else (1 : Int32)), .int v2]) ?_ (fun Jc1004 => ?_)
      · generalize ex1005 : (if (gI S 65 v3.toNatClampNeg) < 0 then (0 : Int32) else (1 : Int32)) = x1005
        refine aw_iadd hC dX12_count_83 ?_
        refine aw_istore_n hC [(2, .int _), (0, .ref 64), (1, .int _), (3, .int _)] dX12_count_84 rfl (by decide) rfl ?_
        generalize ex1006 : (v2 + x1005) = x1006
        refine aw_iinc (v := (v3 + (1 : Int32))) hC 3 [(3, .int _), (2, .int _), (0, .ref 64), (1, .int _)] dX12_count_85 rfl rfl (by decide) rfl ?_
        refine aw_goto hC 62 dX12_count_88 (by decide) ?_
        refine aw_sub [2, 3, 1, 0] rfl ?_
        have hTn := (h1 c1003 x1005 ex1005 x1006 ex1006)
        have hMn : MS S := hM
        have E : L_X12_count_62 (n + 1) S v1 v2 v3 = _ := (if_neg c1003).trans ((bd_eq ex1005).trans ((bd_eq ex1006).trans (rfl)))
        rw [E] at hk
        exact ih _ _ _ _ hMn hTn hk
      · refine aw_if_lt hC 82 dX12_count_75 (by decide) (fun c1004 => ?_) (fun c1004 => ?_)
        · refine aw_iconst (v := 0) hC dX12_count_82 (by decide) ?_
          simp only [bd_def, if_pos c1004] at Jc1004 ⊢
          exact Jc1004
        · refine aw_iconst (v := 1) hC dX12_count_78 (by decide) ?_
          refine aw_goto hC 83 dX12_count_79 (by decide) ?_
          simp only [bd_def, if_neg c1004] at Jc1004 ⊢
          exact Jc1004
noncomputable def L_X12_count_136 : Nat → HSt → Int32 → Int32 → Int32 → Int32 × Int32 × Int32
  | 0, S, v1, v2, v3 => (v1, v2, v3)
  | n + 1, S, v1, v2, v3 =>
    if (gI S 68 (5 : Int32).toNatClampNeg) ≤ v3 then ((pr (v1) (pr (v2) (v3)))) else (bd ((if (f_X12_isThrow S 64 v3) = 0 then (0 : Int32) else (1 : Int32))) fun x1006 => bd ((v2 + x1006)) fun x1007 => L_X12_count_136 n S v1 x1007 (v3 + (1 : Int32)))
def T_X12_count_136 : Nat → HSt → Int32 → Int32 → Int32 → Prop
  | 0, _, _, _, _ => False
  | n + 1, S, v1, v2, v3 => ((¬ (gI S 68 (5 : Int32).toNatClampNeg) ≤ v3) → p_X12_isThrow S 64 v3) ∧ ((¬ (gI S 68 (5 : Int32).toNatClampNeg) ≤ v3) → ∀ x1006 : Int32, (if (f_X12_isThrow S 64 v3) = 0 then (0 : Int32) else (1 : Int32)) = x1006 → ∀ x1007 : Int32, (v2 + x1006) = x1007 → T_X12_count_136 n S v1 x1007 (v3 + (1 : Int32)))
set_option maxRecDepth 100000 in
theorem l_X12_count_136 {p : Program} {l : Launch} {e : Env} {s : State} {m : MethodId} {args : Array Value} {below : List Frame} {meth : Method} {c : Code} {G : GG} {Q : State → Prop} (hC : ACx p s m args meth c cX12_count RX12 4 (some .long)) (hSt : St G s)  : ∀ (n : Nat) (S : HSt) (v1 : Int32) (v2 : Int32) (v3 : Int32), MS S → T_X12_count_136 n S v1 v2 v3 → AW p l e (rmD 2 0 0) s m args below meth c G 4 Q S 0 0 168 [(0, .ref 64), (1, .int (L_X12_count_136 n S v1 v2 v3).1), (2, .int (L_X12_count_136 n S v1 v2 v3).2.1), (3, .int (L_X12_count_136 n S v1 v2 v3).2.2)] [] → AW p l e (rmD 2 0 0) s m args below meth c G 4 Q S 0 0 136 [(0, .ref 64), (1, .int v1), (2, .int v2), (3, .int v3)] [] := by
  intro n
  induction n with
  | zero => intro S v1 v2 v3 _ hT; exact hT.elim
  | succ n ih =>
    intro S v1 v2 v3 hM hT hk
    unfold T_X12_count_136 at hT
    obtain ⟨h0, h1⟩ := hT
    refine aw_iload_n hC 3 dX12_count_136 rfl rfl ?_
    refine aw_aload_n hC 0 dX12_count_137 rfl rfl ?_
    refine aw_getP (b := 68) hC hSt 5 (ms_lt 64 (by decide) hM) (ms_k 64 12 0 (by decide) hM) rfl (by decide) w_920 rfl (ms_p 5 68 (by decide) hM) dX12_count_138 ?_
    refine aw_iconst (v := 5) hC dX12_count_141 (by decide) ?_
    refine aw_iald hC hSt (ms_lt 68 (by decide) hM) (ms_k 68 14 172 (by decide) hM) (vp_len (n := 172) (ms_l 68 14 172 (by decide) hM) (by unfold vp_in; decide)) dX12_count_142 ?_
    refine aw_icmp_ge hC 168 dX12_count_143 (by decide) (fun c1004 => ?_) (fun c1004 => ?_)
    · refine aw_sub [0, 1, 2, 3] rfl ?_
      have E : L_X12_count_136 (n + 1) S v1 v2 v3 = _ := (if_pos c1004).trans (rfl)
      rw [E] at hk
      exact hk
    · refine aw_iload_n hC 2 dX12_count_146 rfl rfl ?_
      refine aw_aload_n hC 0 dX12_count_147 rfl rfl ?_
      refine aw_iload_n hC 3 dX12_count_148 rfl rfl ?_
      refine aw_cV1r hC hSt (t_X12_isThrow G l hM _ (h0 c1004)) w_1189 w_1191 w_1192 w_1193 w_953 rfl rfl (by decide +kernel) ⟨Nat.le_of_ble_eq_true rfl, Nat.le_of_ble_eq_true rfl⟩ (ms_lt 64 (by decide) hM) (ms_k 64 12 0 (by decide) hM) rfl (Nat.le_of_ble_eq_true rfl) dX12_count_149 ⟨Nat.zero_le _, Nat.zero_le _⟩ ?_
      refine aw_cut (S' := S) (pc' := 160) (lv' := [(0, .ref 64), (1, .int v1), (2, .int v2), (3, .int v3)]) (st' := [.int (if (f_X12_isThrow S 64 v3) = 0 then (0 : Int32) else (1 : Int32)), .int v2]) ?_ (fun Jc1005 => ?_)
      · generalize ex1006 : (if (f_X12_isThrow S 64 v3) = 0 then (0 : Int32) else (1 : Int32)) = x1006
        refine aw_iadd hC dX12_count_160 ?_
        refine aw_istore_n hC [(2, .int _), (0, .ref 64), (1, .int _), (3, .int _)] dX12_count_161 rfl (by decide) rfl ?_
        generalize ex1007 : (v2 + x1006) = x1007
        refine aw_iinc (v := (v3 + (1 : Int32))) hC 3 [(3, .int _), (2, .int _), (0, .ref 64), (1, .int _)] dX12_count_162 rfl rfl (by decide) rfl ?_
        refine aw_goto hC 136 dX12_count_165 (by decide) ?_
        refine aw_sub [2, 3, 1, 0] rfl ?_
        have hTn := (h1 c1004 x1006 ex1006 x1007 ex1007)
        have hMn : MS S := hM
        have E : L_X12_count_136 (n + 1) S v1 v2 v3 = _ := (if_neg c1004).trans ((bd_eq ex1006).trans ((bd_eq ex1007).trans (rfl)))
        rw [E] at hk
        exact ih _ _ _ _ hMn hTn hk
      · refine aw_if_eq hC 159 dX12_count_152 (by decide) (fun c1005 => ?_) (fun c1005 => ?_)
        · refine aw_iconst (v := 0) hC dX12_count_159 (by decide) ?_
          simp only [bd_def, if_pos c1005] at Jc1005 ⊢
          exact Jc1005
        · refine aw_iconst (v := 1) hC dX12_count_155 (by decide) ?_
          refine aw_goto hC 160 dX12_count_156 (by decide) ?_
          simp only [bd_def, if_neg c1005] at Jc1005 ⊢
          exact Jc1005
noncomputable def f_X12_count (S : HSt) (_o : Nat) (a1 : Int32) : Int64 × HSt := bd ((sI S 64 0 (0 : Int32))) fun S1 => if a1 = (0 : Int32) then (bd (L_X12_count_62 1000 S1 a1 (0 : Int32) (0 : Int32)) fun r3 => pr (r3.2.1.toInt64) (S1)) else (if a1 = (1 : Int32) then (pr ((gI S1 68 (0 : Int32).toNatClampNeg).toInt64) (S1)) else (if a1 = (2 : Int32) then (pr ((gI S1 68 (1 : Int32).toNatClampNeg).toInt64) (S1)) else (if a1 = (3 : Int32) then (pr ((gI S1 68 (2 : Int32).toNatClampNeg).toInt64) (S1)) else (if a1 = (4 : Int32) then (pr ((gI S1 68 (3 : Int32).toNatClampNeg).toInt64) (S1)) else (if a1 = (5 : Int32) then (pr ((gI S1 68 (5 : Int32).toNatClampNeg).toInt64) (S1)) else (if a1 = (6 : Int32) then (bd (L_X12_count_136 1000 S1 a1 (0 : Int32) (0 : Int32)) fun r4 => pr (r4.2.1.toInt64) (S1)) else (if a1 = (7 : Int32) then (pr ((gI S1 64 9).toInt64) (S1)) else (if a1 = (8 : Int32) then (bd ((if (gI S1 82 (0 : Int32).toNatClampNeg) = 0 then (0 : Int32) else (1 : Int32))) fun x6 => bd ((if (gI S1 82 (1 : Int32).toNatClampNeg) = 0 then (0 : Int32) else (1 : Int32))) fun x8 => pr ((x6 + x8).toInt64) (S1)) else (pr ((-9000000000000000001 : Int64)) (S1))))))))))
def p_X12_count (S : HSt) (_o : Nat) (a1 : Int32) : Prop := (∀ S1 : HSt, (sI S 64 0 (0 : Int32)) = S1 → (a1 = (0 : Int32)) → T_X12_count_62 1000 S1 a1 (0 : Int32) (0 : Int32)) ∧ (∀ S1 : HSt, (sI S 64 0 (0 : Int32)) = S1 → (¬ a1 = (0 : Int32)) → (¬ a1 = (1 : Int32)) → (¬ a1 = (2 : Int32)) → (¬ a1 = (3 : Int32)) → (¬ a1 = (4 : Int32)) → (¬ a1 = (5 : Int32)) → (a1 = (6 : Int32)) → T_X12_count_136 1000 S1 a1 (0 : Int32) (0 : Int32))
set_option maxRecDepth 100000 in
theorem t_X12_count (G : GG) (l : Launch) {S : HSt} (hM : MS S) (a1 : Int32) (hp : p_X12_count S 64 a1) : AM G l yX12_count cX12_count 4 (some .long) (rmD 2 0 0) 0 0 [.ref 64, .int a1] S (FP (some (.long (f_X12_count S 64 a1).1)) ((f_X12_count S 64 a1).2)) := by
  obtain ⟨h0, h1⟩ := hp
  refine AM.mk (by decide) (Nat.le_of_ble_eq_true rfl) ?_
  intro p e s m below meth c hC hSt _
  refine aw_aload_n hC 0 dX12_count_0 rfl rfl ?_
  refine aw_iconst (v := 0) hC dX12_count_1 (by decide) ?_
  refine aw_putI hC hSt 0 (ms_lt 64 (by decide) hM) (ms_k 64 12 0 (by decide) hM) rfl (by decide) w_955 rfl rfl rfl rfl dX12_count_2 ?_
  generalize eS1 : (sI S 64 0 (0 : Int32)) = S1
  have hM : MS S1 := MS.of (by rw [← eS1]; exact shp_sI _ _ _ _) hM
  refine aw_iconst (v := 0) hC dX12_count_5 (by decide) ?_
  refine aw_istore_n hC [(2, .int _), (0, .ref 64), (1, .int _)] dX12_count_6 rfl (by decide) rfl ?_
  refine aw_iload_n hC 2 dX12_count_7 rfl rfl ?_
  refine aw_switchE hC dX12_count_8 208 (by decide) [60, 94, 102, 110, 118, 126, 134, 171, 177] rfl (by decide) (by decide) (fun hdc2 => ?_) (fun kc2 hkc2 hxc2 => ?_)
  · have c2_0 : ¬ a1 = (0 : Int32) := hdc2 0 (by decide)
    have c2_1 : ¬ a1 = (1 : Int32) := hdc2 1 (by decide)
    have c2_2 : ¬ a1 = (2 : Int32) := hdc2 2 (by decide)
    have c2_3 : ¬ a1 = (3 : Int32) := hdc2 3 (by decide)
    have c2_4 : ¬ a1 = (4 : Int32) := hdc2 4 (by decide)
    have c2_5 : ¬ a1 = (5 : Int32) := hdc2 5 (by decide)
    have c2_6 : ¬ a1 = (6 : Int32) := hdc2 6 (by decide)
    have c2_7 : ¬ a1 = (7 : Int32) := hdc2 7 (by decide)
    have c2_8 : ¬ a1 = (8 : Int32) := hdc2 8 (by decide)
    refine aw_ldc2 (v := -9000000000000000001) hC w_957 dX12_count_208 ?_
    refine aw_lret hC dX12_count_211 (Nat.le_refl _) (Nat.le_refl _) ?_
    exact FP.qJ ((bd_eq eS1).trans ((if_neg c2_0).trans ((if_neg c2_1).trans ((if_neg c2_2).trans ((if_neg c2_3).trans ((if_neg c2_4).trans ((if_neg c2_5).trans ((if_neg c2_6).trans ((if_neg c2_7).trans ((if_neg c2_8).trans (rfl)))))))))))
  · match kc2, hkc2, hxc2 with
    | 0, _, hxc2 =>
      have c2_0 : a1 = (0 : Int32) := hxc2
      refine aw_at (pc' := 60) rfl ?_
      refine aw_iconst (v := 0) hC dX12_count_60 (by decide) ?_
      refine aw_istore_n hC [(3, .int _), (2, .int _), (0, .ref 64), (1, .int _)] dX12_count_61 rfl (by decide) rfl ?_
      refine aw_sub [2, 3, 1, 0] rfl ?_
      refine l_X12_count_62 hC hSt 1000 _ _ _ _ hM (h0 S1 eS1 c2_0) ?_
      generalize er3 : L_X12_count_62 1000 S1 a1 (0 : Int32) (0 : Int32) = r3
      refine aw_iload_n hC 2 dX12_count_91 rfl rfl ?_
      refine aw_i2l hC dX12_count_92 ?_
      refine aw_lret hC dX12_count_93 (Nat.le_refl _) (Nat.le_refl _) ?_
      exact FP.qJ ((bd_eq eS1).trans ((if_pos c2_0).trans ((bd_eq er3).trans (rfl))))
    | 1, _, hxc2 =>
      have c2_1 : a1 = (1 : Int32) := hxc2
      have c2_0 : ¬ a1 = (0 : Int32) := by rw [c2_1]; decide
      refine aw_at (pc' := 94) rfl ?_
      refine aw_aload_n hC 1 dX12_count_94 rfl rfl ?_
      refine aw_getP (b := 68) hC hSt 5 (ms_lt 64 (by decide) hM) (ms_k 64 12 0 (by decide) hM) rfl (by decide) w_920 rfl (ms_p 5 68 (by decide) hM) dX12_count_95 ?_
      refine aw_iconst (v := 0) hC dX12_count_98 (by decide) ?_
      refine aw_iald hC hSt (ms_lt 68 (by decide) hM) (ms_k 68 14 172 (by decide) hM) (vp_len (n := 172) (ms_l 68 14 172 (by decide) hM) (by unfold vp_in; decide)) dX12_count_99 ?_
      refine aw_i2l hC dX12_count_100 ?_
      refine aw_lret hC dX12_count_101 (Nat.le_refl _) (Nat.le_refl _) ?_
      exact FP.qJ ((bd_eq eS1).trans ((if_neg c2_0).trans ((if_pos c2_1).trans (rfl))))
    | 2, _, hxc2 =>
      have c2_2 : a1 = (2 : Int32) := hxc2
      have c2_0 : ¬ a1 = (0 : Int32) := by rw [c2_2]; decide
      have c2_1 : ¬ a1 = (1 : Int32) := by rw [c2_2]; decide
      refine aw_at (pc' := 102) rfl ?_
      refine aw_aload_n hC 1 dX12_count_102 rfl rfl ?_
      refine aw_getP (b := 68) hC hSt 5 (ms_lt 64 (by decide) hM) (ms_k 64 12 0 (by decide) hM) rfl (by decide) w_920 rfl (ms_p 5 68 (by decide) hM) dX12_count_103 ?_
      refine aw_iconst (v := 1) hC dX12_count_106 (by decide) ?_
      refine aw_iald hC hSt (ms_lt 68 (by decide) hM) (ms_k 68 14 172 (by decide) hM) (vp_len (n := 172) (ms_l 68 14 172 (by decide) hM) (by unfold vp_in; decide)) dX12_count_107 ?_
      refine aw_i2l hC dX12_count_108 ?_
      refine aw_lret hC dX12_count_109 (Nat.le_refl _) (Nat.le_refl _) ?_
      exact FP.qJ ((bd_eq eS1).trans ((if_neg c2_0).trans ((if_neg c2_1).trans ((if_pos c2_2).trans (rfl)))))
    | 3, _, hxc2 =>
      have c2_3 : a1 = (3 : Int32) := hxc2
      have c2_0 : ¬ a1 = (0 : Int32) := by rw [c2_3]; decide
      have c2_1 : ¬ a1 = (1 : Int32) := by rw [c2_3]; decide
      have c2_2 : ¬ a1 = (2 : Int32) := by rw [c2_3]; decide
      refine aw_at (pc' := 110) rfl ?_
      refine aw_aload_n hC 1 dX12_count_110 rfl rfl ?_
      refine aw_getP (b := 68) hC hSt 5 (ms_lt 64 (by decide) hM) (ms_k 64 12 0 (by decide) hM) rfl (by decide) w_920 rfl (ms_p 5 68 (by decide) hM) dX12_count_111 ?_
      refine aw_iconst (v := 2) hC dX12_count_114 (by decide) ?_
      refine aw_iald hC hSt (ms_lt 68 (by decide) hM) (ms_k 68 14 172 (by decide) hM) (vp_len (n := 172) (ms_l 68 14 172 (by decide) hM) (by unfold vp_in; decide)) dX12_count_115 ?_
      refine aw_i2l hC dX12_count_116 ?_
      refine aw_lret hC dX12_count_117 (Nat.le_refl _) (Nat.le_refl _) ?_
      exact FP.qJ ((bd_eq eS1).trans ((if_neg c2_0).trans ((if_neg c2_1).trans ((if_neg c2_2).trans ((if_pos c2_3).trans (rfl))))))
    | 4, _, hxc2 =>
      have c2_4 : a1 = (4 : Int32) := hxc2
      have c2_0 : ¬ a1 = (0 : Int32) := by rw [c2_4]; decide
      have c2_1 : ¬ a1 = (1 : Int32) := by rw [c2_4]; decide
      have c2_2 : ¬ a1 = (2 : Int32) := by rw [c2_4]; decide
      have c2_3 : ¬ a1 = (3 : Int32) := by rw [c2_4]; decide
      refine aw_at (pc' := 118) rfl ?_
      refine aw_aload_n hC 1 dX12_count_118 rfl rfl ?_
      refine aw_getP (b := 68) hC hSt 5 (ms_lt 64 (by decide) hM) (ms_k 64 12 0 (by decide) hM) rfl (by decide) w_920 rfl (ms_p 5 68 (by decide) hM) dX12_count_119 ?_
      refine aw_iconst (v := 3) hC dX12_count_122 (by decide) ?_
      refine aw_iald hC hSt (ms_lt 68 (by decide) hM) (ms_k 68 14 172 (by decide) hM) (vp_len (n := 172) (ms_l 68 14 172 (by decide) hM) (by unfold vp_in; decide)) dX12_count_123 ?_
      refine aw_i2l hC dX12_count_124 ?_
      refine aw_lret hC dX12_count_125 (Nat.le_refl _) (Nat.le_refl _) ?_
      exact FP.qJ ((bd_eq eS1).trans ((if_neg c2_0).trans ((if_neg c2_1).trans ((if_neg c2_2).trans ((if_neg c2_3).trans ((if_pos c2_4).trans (rfl)))))))
    | 5, _, hxc2 =>
      have c2_5 : a1 = (5 : Int32) := hxc2
      have c2_0 : ¬ a1 = (0 : Int32) := by rw [c2_5]; decide
      have c2_1 : ¬ a1 = (1 : Int32) := by rw [c2_5]; decide
      have c2_2 : ¬ a1 = (2 : Int32) := by rw [c2_5]; decide
      have c2_3 : ¬ a1 = (3 : Int32) := by rw [c2_5]; decide
      have c2_4 : ¬ a1 = (4 : Int32) := by rw [c2_5]; decide
      refine aw_at (pc' := 126) rfl ?_
      refine aw_aload_n hC 1 dX12_count_126 rfl rfl ?_
      refine aw_getP (b := 68) hC hSt 5 (ms_lt 64 (by decide) hM) (ms_k 64 12 0 (by decide) hM) rfl (by decide) w_920 rfl (ms_p 5 68 (by decide) hM) dX12_count_127 ?_
      refine aw_iconst (v := 5) hC dX12_count_130 (by decide) ?_
      refine aw_iald hC hSt (ms_lt 68 (by decide) hM) (ms_k 68 14 172 (by decide) hM) (vp_len (n := 172) (ms_l 68 14 172 (by decide) hM) (by unfold vp_in; decide)) dX12_count_131 ?_
      refine aw_i2l hC dX12_count_132 ?_
      refine aw_lret hC dX12_count_133 (Nat.le_refl _) (Nat.le_refl _) ?_
      exact FP.qJ ((bd_eq eS1).trans ((if_neg c2_0).trans ((if_neg c2_1).trans ((if_neg c2_2).trans ((if_neg c2_3).trans ((if_neg c2_4).trans ((if_pos c2_5).trans (rfl))))))))
    | 6, _, hxc2 =>
      have c2_6 : a1 = (6 : Int32) := hxc2
      have c2_0 : ¬ a1 = (0 : Int32) := by rw [c2_6]; decide
      have c2_1 : ¬ a1 = (1 : Int32) := by rw [c2_6]; decide
      have c2_2 : ¬ a1 = (2 : Int32) := by rw [c2_6]; decide
      have c2_3 : ¬ a1 = (3 : Int32) := by rw [c2_6]; decide
      have c2_4 : ¬ a1 = (4 : Int32) := by rw [c2_6]; decide
      have c2_5 : ¬ a1 = (5 : Int32) := by rw [c2_6]; decide
      refine aw_at (pc' := 134) rfl ?_
      refine aw_iconst (v := 0) hC dX12_count_134 (by decide) ?_
      refine aw_istore_n hC [(3, .int _), (2, .int _), (0, .ref 64), (1, .int _)] dX12_count_135 rfl (by decide) rfl ?_
      refine aw_sub [2, 3, 1, 0] rfl ?_
      refine l_X12_count_136 hC hSt 1000 _ _ _ _ hM (h1 S1 eS1 c2_0 c2_1 c2_2 c2_3 c2_4 c2_5 c2_6) ?_
      generalize er4 : L_X12_count_136 1000 S1 a1 (0 : Int32) (0 : Int32) = r4
      refine aw_iload_n hC 2 dX12_count_168 rfl rfl ?_
      refine aw_i2l hC dX12_count_169 ?_
      refine aw_lret hC dX12_count_170 (Nat.le_refl _) (Nat.le_refl _) ?_
      exact FP.qJ ((bd_eq eS1).trans ((if_neg c2_0).trans ((if_neg c2_1).trans ((if_neg c2_2).trans ((if_neg c2_3).trans ((if_neg c2_4).trans ((if_neg c2_5).trans ((if_pos c2_6).trans ((bd_eq er4).trans (rfl))))))))))
    | 7, _, hxc2 =>
      have c2_7 : a1 = (7 : Int32) := hxc2
      have c2_0 : ¬ a1 = (0 : Int32) := by rw [c2_7]; decide
      have c2_1 : ¬ a1 = (1 : Int32) := by rw [c2_7]; decide
      have c2_2 : ¬ a1 = (2 : Int32) := by rw [c2_7]; decide
      have c2_3 : ¬ a1 = (3 : Int32) := by rw [c2_7]; decide
      have c2_4 : ¬ a1 = (4 : Int32) := by rw [c2_7]; decide
      have c2_5 : ¬ a1 = (5 : Int32) := by rw [c2_7]; decide
      have c2_6 : ¬ a1 = (6 : Int32) := by rw [c2_7]; decide
      refine aw_at (pc' := 171) rfl ?_
      refine aw_aload_n hC 1 dX12_count_171 rfl rfl ?_
      refine aw_getI hC hSt 9 (ms_lt 64 (by decide) hM) (ms_k 64 12 0 (by decide) hM) rfl (by decide) w_968 rfl dX12_count_172 ?_
      refine aw_i2l hC dX12_count_175 ?_
      refine aw_lret hC dX12_count_176 (Nat.le_refl _) (Nat.le_refl _) ?_
      exact FP.qJ ((bd_eq eS1).trans ((if_neg c2_0).trans ((if_neg c2_1).trans ((if_neg c2_2).trans ((if_neg c2_3).trans ((if_neg c2_4).trans ((if_neg c2_5).trans ((if_neg c2_6).trans ((if_pos c2_7).trans (rfl))))))))))
    | 8, _, hxc2 =>
      have c2_8 : a1 = (8 : Int32) := hxc2
      have c2_0 : ¬ a1 = (0 : Int32) := by rw [c2_8]; decide
      have c2_1 : ¬ a1 = (1 : Int32) := by rw [c2_8]; decide
      have c2_2 : ¬ a1 = (2 : Int32) := by rw [c2_8]; decide
      have c2_3 : ¬ a1 = (3 : Int32) := by rw [c2_8]; decide
      have c2_4 : ¬ a1 = (4 : Int32) := by rw [c2_8]; decide
      have c2_5 : ¬ a1 = (5 : Int32) := by rw [c2_8]; decide
      have c2_6 : ¬ a1 = (6 : Int32) := by rw [c2_8]; decide
      have c2_7 : ¬ a1 = (7 : Int32) := by rw [c2_8]; decide
      refine aw_at (pc' := 177) rfl ?_
      refine aw_aload_n hC 1 dX12_count_177 rfl rfl ?_
      refine aw_getP (b := 82) hC hSt 45 (ms_lt 64 (by decide) hM) (ms_k 64 12 0 (by decide) hM) rfl (by decide) w_938 rfl (ms_p 45 82 (by decide) hM) dX12_count_178 ?_
      refine aw_iconst (v := 0) hC dX12_count_181 (by decide) ?_
      refine aw_zald hC hSt (ms_lt 82 (by decide) hM) (ms_k 82 16 2 (by decide) hM) (vp_len (n := 2) (ms_l 82 16 2 (by decide) hM) (by unfold vp_in; decide)) dX12_count_182 ?_
      refine aw_cut (S' := S1) (pc' := 191) (lv' := [(2, .int (0 : Int32)), (0, .ref 64), (1, .int a1)]) (st' := [.int (if (gI S1 82 (0 : Int32).toNatClampNeg) = 0 then (0 : Int32) else (1 : Int32))]) ?_ (fun Jc5 => ?_)
      · generalize ex6 : (if (gI S1 82 (0 : Int32).toNatClampNeg) = 0 then (0 : Int32) else (1 : Int32)) = x6
        refine aw_aload_n hC 1 dX12_count_191 rfl rfl ?_
        refine aw_getP (b := 82) hC hSt 45 (ms_lt 64 (by decide) hM) (ms_k 64 12 0 (by decide) hM) rfl (by decide) w_938 rfl (ms_p 45 82 (by decide) hM) dX12_count_192 ?_
        refine aw_iconst (v := 1) hC dX12_count_195 (by decide) ?_
        refine aw_zald hC hSt (ms_lt 82 (by decide) hM) (ms_k 82 16 2 (by decide) hM) (vp_len (n := 2) (ms_l 82 16 2 (by decide) hM) (by unfold vp_in; decide)) dX12_count_196 ?_
        refine aw_cut (S' := S1) (pc' := 205) (lv' := [(2, .int (0 : Int32)), (0, .ref 64), (1, .int a1)]) (st' := [.int (if (gI S1 82 (1 : Int32).toNatClampNeg) = 0 then (0 : Int32) else (1 : Int32)), .int x6]) ?_ (fun Jc7 => ?_)
        · generalize ex8 : (if (gI S1 82 (1 : Int32).toNatClampNeg) = 0 then (0 : Int32) else (1 : Int32)) = x8
          refine aw_iadd hC dX12_count_205 ?_
          refine aw_i2l hC dX12_count_206 ?_
          refine aw_lret hC dX12_count_207 (Nat.le_refl _) (Nat.le_refl _) ?_
          exact FP.qJ ((bd_eq eS1).trans ((if_neg c2_0).trans ((if_neg c2_1).trans ((if_neg c2_2).trans ((if_neg c2_3).trans ((if_neg c2_4).trans ((if_neg c2_5).trans ((if_neg c2_6).trans ((if_neg c2_7).trans ((if_pos c2_8).trans ((bd_eq ex6).trans ((bd_eq ex8).trans (rfl)))))))))))))
        · refine aw_if_eq hC 204 dX12_count_197 (by decide) (fun c7 => ?_) (fun c7 => ?_)
          · refine aw_iconst (v := 0) hC dX12_count_204 (by decide) ?_
            simp only [bd_def, if_pos c7] at Jc7 ⊢
            exact Jc7
          · refine aw_iconst (v := 1) hC dX12_count_200 (by decide) ?_
            refine aw_goto hC 205 dX12_count_201 (by decide) ?_
            simp only [bd_def, if_neg c7] at Jc7 ⊢
            exact Jc7
      · refine aw_if_eq hC 190 dX12_count_183 (by decide) (fun c5 => ?_) (fun c5 => ?_)
        · refine aw_iconst (v := 0) hC dX12_count_190 (by decide) ?_
          simp only [bd_def, if_pos c5] at Jc5 ⊢
          exact Jc5
        · refine aw_iconst (v := 1) hC dX12_count_186 (by decide) ?_
          refine aw_goto hC 191 dX12_count_187 (by decide) ?_
          simp only [bd_def, if_neg c5] at Jc5 ⊢
          exact Jc5
    | kc2 + 9, hkc2, _ => exact absurd hkc2 (by simp)
theorem q_X12_count (S : HSt) (_o : Nat) (a1 : Int32) : shp ((f_X12_count S _o a1).2) = shp S := by
  unfold f_X12_count
  repeat' (first | with_reducible refine shpr1 ?_ | with_reducible rfl | with_reducible refine (shp_sI _ _ _ _).trans ?_ | with_reducible refine (shp_sJ _ _ _ _).trans ?_ | with_reducible refine shi ?_ ?_ | with_reducible refine shb (fun _ _ => ?_) | with_reducible refine shiP (fun q : Int64 × HSt => q.2) ?_ ?_ | with_reducible refine shbP (fun q : Int64 × HSt => q.2) (fun _ _ => ?_) | (subst_vars; with_reducible rfl) | (subst_vars; with_reducible refine (shp_sI _ _ _ _).trans ?_) | (subst_vars; with_reducible refine (shp_sJ _ _ _ _).trans ?_) | (subst_vars; with_reducible refine shi ?_ ?_) | (subst_vars; with_reducible refine shb (fun _ _ => ?_)))
theorem v_X12_count (S : HSt) (_o : Nat) (a1 : Int32) : Fr [(64, 0)] S ((f_X12_count S _o a1).2) := by
  unfold f_X12_count
  repeat' (first | with_reducible refine frpr1 ?_ | with_reducible exact Fr.refl _ _ | with_reducible refine Fr.lP (fun q : Int64 × HSt => q.2) (fun _ _ => ?_) | with_reducible refine Fr.iteP (fun q : Int64 × HSt => q.2) ?_ ?_ | with_reducible refine Fr.l1 (fun _ _ => ?_) | with_reducible refine Fr.ite ?_ ?_ | with_reducible refine Fr.sE (by assumption) (by first | decide | simp only [List.mem_cons, List.not_mem_nil, or_false, true_or, or_true, eq_self_iff_true]) ?_ | with_reducible refine Fr.jE (by assumption) ?_ | with_reducible refine Fr.rE (by assumption) (by first | decide | simp only [List.mem_cons, List.not_mem_nil, or_false, true_or, or_true, eq_self_iff_true]) ?_ | with_reducible refine Fr.iE (by assumption) ?_ ?_)
theorem w_X12_count (S : HSt) (_o : Nat) (a1 : Int32) (r : Int64 × HSt) (e : f_X12_count S _o a1 = r) : Fr [(64, 0)] S r.2 := by
  rw [← e]
  exact v_X12_count S _o a1
noncomputable def f_X12_status (S : HSt) (_o : Nat)  : Int32 × HSt := bd ((sI S 64 0 (0 : Int32))) fun S1 => pr ((gI S1 64 1)) (S1)
set_option maxRecDepth 100000 in
theorem t_X12_status (G : GG) (l : Launch) {S : HSt} (hM : MS S)   : AM G l yX12_status cX12_status 1 (some .int) (rmD 0 0 0) 0 0 [.ref 64] S (FP (some (.int (f_X12_status S 64).1)) ((f_X12_status S 64).2)) := by
  refine AM.mk (by decide) (Nat.le_of_ble_eq_true rfl) ?_
  intro p e s m below meth c hC hSt _
  refine aw_aload_n hC 0 dX12_status_0 rfl rfl ?_
  refine aw_iconst (v := 0) hC dX12_status_1 (by decide) ?_
  refine aw_putI hC hSt 0 (ms_lt 64 (by decide) hM) (ms_k 64 12 0 (by decide) hM) rfl (by decide) w_955 rfl rfl rfl rfl dX12_status_2 ?_
  generalize eS1 : (sI S 64 0 (0 : Int32)) = S1
  have hM : MS S1 := MS.of (by rw [← eS1]; exact shp_sI _ _ _ _) hM
  refine aw_aload_n hC 0 dX12_status_5 rfl rfl ?_
  refine aw_getI hC hSt 1 (ms_lt 64 (by decide) hM) (ms_k 64 12 0 (by decide) hM) rfl (by decide) w_947 rfl dX12_status_6 ?_
  refine aw_iret hC dX12_status_9 (Nat.le_refl _) (Nat.le_refl _) ?_
  exact FP.qI ((bd_eq eS1).trans (rfl))
theorem q_X12_status (S : HSt) (_o : Nat)  : shp ((f_X12_status S _o).2) = shp S := by
  unfold f_X12_status
  repeat' (first | with_reducible refine shpr1 ?_ | with_reducible rfl | with_reducible refine (shp_sI _ _ _ _).trans ?_ | with_reducible refine (shp_sJ _ _ _ _).trans ?_ | with_reducible refine shi ?_ ?_ | with_reducible refine shb (fun _ _ => ?_) | with_reducible refine shiP (fun q : Int32 × HSt => q.2) ?_ ?_ | with_reducible refine shbP (fun q : Int32 × HSt => q.2) (fun _ _ => ?_) | (subst_vars; with_reducible rfl) | (subst_vars; with_reducible refine (shp_sI _ _ _ _).trans ?_) | (subst_vars; with_reducible refine (shp_sJ _ _ _ _).trans ?_) | (subst_vars; with_reducible refine shi ?_ ?_) | (subst_vars; with_reducible refine shb (fun _ _ => ?_)))
theorem v_X12_status (S : HSt) (_o : Nat)  : Fr [(64, 0)] S ((f_X12_status S _o).2) := by
  unfold f_X12_status
  repeat' (first | with_reducible refine frpr1 ?_ | with_reducible exact Fr.refl _ _ | with_reducible refine Fr.lP (fun q : Int32 × HSt => q.2) (fun _ _ => ?_) | with_reducible refine Fr.iteP (fun q : Int32 × HSt => q.2) ?_ ?_ | with_reducible refine Fr.l1 (fun _ _ => ?_) | with_reducible refine Fr.ite ?_ ?_ | with_reducible refine Fr.sE (by assumption) (by first | decide | simp only [List.mem_cons, List.not_mem_nil, or_false, true_or, or_true, eq_self_iff_true]) ?_ | with_reducible refine Fr.jE (by assumption) ?_ | with_reducible refine Fr.rE (by assumption) (by first | decide | simp only [List.mem_cons, List.not_mem_nil, or_false, true_or, or_true, eq_self_iff_true]) ?_ | with_reducible refine Fr.iE (by assumption) ?_ ?_)
theorem w_X12_status (S : HSt) (_o : Nat)  (r : Int32 × HSt) (e : f_X12_status S _o = r) : Fr [(64, 0)] S r.2 := by
  rw [← e]
  exact v_X12_status S _o
noncomputable def L_X12_way_30 : Nat → HSt → Int32 → Int32 × HSt
  | 0, S, v1 => (v1, S)
  | n + 1, S, v1 =>
    if (172 : Int32) ≤ v1 then ((pr (v1) (S))) else (bd ((sI S 69 v1.toNatClampNeg (0 : Int32))) fun S1007 => L_X12_way_30 n S1007 (v1 + (1 : Int32)))
def T_X12_way_30 : Nat → HSt → Int32 → Prop
  | 0, _, _ => False
  | n + 1, S, v1 => ((¬ (172 : Int32) ≤ v1) → vp_in v1 172) ∧ ((¬ (172 : Int32) ≤ v1) → ∀ S1007 : HSt, (sI S 69 v1.toNatClampNeg (0 : Int32)) = S1007 → T_X12_way_30 n S1007 (v1 + (1 : Int32)))
theorem qL_X12_way_30 : ∀ (n : Nat) (S : HSt) (v1 : Int32), shp (L_X12_way_30 n S v1).2 = shp S := by
  intro n
  induction n with
  | zero => intros; rfl
  | succ n ih =>
    intro S v1
    unfold L_X12_way_30
    repeat' (first | with_reducible refine shpr1 ?_ | with_reducible rfl | with_reducible refine (ih _ _).trans ?_ | with_reducible refine (q_X12_bad _ _ _).trans ?_ | with_reducible refine (q_X12_first _ _).trans ?_ | with_reducible refine (q_X12_keepLive _ _).trans ?_ | with_reducible refine (q_X12_next _ _).trans ?_ | with_reducible refine (q_X12_readAct _ _).trans ?_ | with_reducible refine (q_X12_readBeast _ _).trans ?_ | with_reducible refine (q_X12_readForm _ _).trans ?_ | with_reducible refine (q_X12_readHorse _ _).trans ?_ | with_reducible refine (q_X12_readRope _ _).trans ?_ | with_reducible refine (q_X12_readRule _ _).trans ?_ | with_reducible refine (shp_sI _ _ _ _).trans ?_ | with_reducible refine (shp_sJ _ _ _ _).trans ?_ | with_reducible refine shi ?_ ?_ | with_reducible refine shb (fun _ _ => ?_) | with_reducible refine shiP (fun q : Int32 × HSt => q.2) ?_ ?_ | with_reducible refine shbP (fun q : Int32 × HSt => q.2) (fun _ _ => ?_) | (subst_vars; with_reducible rfl) | (subst_vars; with_reducible refine (ih _ _).trans ?_) | (subst_vars; with_reducible refine (q_X12_bad _ _ _).trans ?_) | (subst_vars; with_reducible refine (q_X12_first _ _).trans ?_) | (subst_vars; with_reducible refine (q_X12_keepLive _ _).trans ?_) | (subst_vars; with_reducible refine (q_X12_next _ _).trans ?_) | (subst_vars; with_reducible refine (q_X12_readAct _ _).trans ?_) | (subst_vars; with_reducible refine (q_X12_readBeast _ _).trans ?_) | (subst_vars; with_reducible refine (q_X12_readForm _ _).trans ?_) | (subst_vars; with_reducible refine (q_X12_readHorse _ _).trans ?_) | (subst_vars; with_reducible refine (q_X12_readRope _ _).trans ?_) | (subst_vars; with_reducible refine (q_X12_readRule _ _).trans ?_) | (subst_vars; with_reducible refine (shp_sI _ _ _ _).trans ?_) | (subst_vars; with_reducible refine (shp_sJ _ _ _ _).trans ?_) | (subst_vars; with_reducible refine shi ?_ ?_) | (subst_vars; with_reducible refine shb (fun _ _ => ?_)))
theorem vL_X12_way_30 : ∀ (n : Nat) (S : HSt) (v1 : Int32), Fr [(69, 1000)] S (L_X12_way_30 n S v1).2 := by
  intro n
  induction n with
  | zero => intros; exact Fr.refl _ _
  | succ n ih =>
    intro S v1
    unfold L_X12_way_30
    repeat' (first | with_reducible refine frpr1 ?_ | with_reducible exact Fr.refl _ _ | with_reducible refine Fr.lP (fun q : Int32 × HSt => q.2) (fun _ _ => ?_) | with_reducible refine Fr.iteP (fun q : Int32 × HSt => q.2) ?_ ?_ | with_reducible refine Fr.l1 (fun _ _ => ?_) | with_reducible refine Fr.ite ?_ ?_ | with_reducible refine Fr.sE (by assumption) (by first | decide | simp only [List.mem_cons, List.not_mem_nil, or_false, true_or, or_true, eq_self_iff_true]) ?_ | with_reducible refine Fr.jE (by assumption) ?_ | with_reducible refine Fr.rE (by assumption) (by first | decide | simp only [List.mem_cons, List.not_mem_nil, or_false, true_or, or_true, eq_self_iff_true]) ?_ | with_reducible refine Fr.iE (by assumption) ?_ ?_ | with_reducible refine Fr.tr (ih _ _) (by first | decide | simp only [List.mem_cons, List.not_mem_nil, or_false, forall_eq_or_imp, forall_eq, true_or, or_true, and_self, eq_self_iff_true]) ?_ | with_reducible refine Fr.tr (w_X12_bad _ _ _ _ (by assumption)) (by first | decide | simp only [List.mem_cons, List.not_mem_nil, or_false, forall_eq_or_imp, forall_eq, true_or, or_true, and_self, eq_self_iff_true]) ?_ | with_reducible refine Fr.tr (w_X12_first _ _ _ (by assumption)) (by first | decide | simp only [List.mem_cons, List.not_mem_nil, or_false, forall_eq_or_imp, forall_eq, true_or, or_true, and_self, eq_self_iff_true]) ?_ | with_reducible refine Fr.tr (w_X12_keepLive _ _ _ (by assumption)) (by first | decide | simp only [List.mem_cons, List.not_mem_nil, or_false, forall_eq_or_imp, forall_eq, true_or, or_true, and_self, eq_self_iff_true]) ?_ | with_reducible refine Fr.tr (w_X12_next _ _ _ (by assumption)) (by first | decide | simp only [List.mem_cons, List.not_mem_nil, or_false, forall_eq_or_imp, forall_eq, true_or, or_true, and_self, eq_self_iff_true]) ?_ | with_reducible refine Fr.tr (w_X12_readAct _ _ _ (by assumption)) (by first | decide | simp only [List.mem_cons, List.not_mem_nil, or_false, forall_eq_or_imp, forall_eq, true_or, or_true, and_self, eq_self_iff_true]) ?_ | with_reducible refine Fr.tr (w_X12_readBeast _ _ _ (by assumption)) (by first | decide | simp only [List.mem_cons, List.not_mem_nil, or_false, forall_eq_or_imp, forall_eq, true_or, or_true, and_self, eq_self_iff_true]) ?_ | with_reducible refine Fr.tr (w_X12_readForm _ _ _ (by assumption)) (by first | decide | simp only [List.mem_cons, List.not_mem_nil, or_false, forall_eq_or_imp, forall_eq, true_or, or_true, and_self, eq_self_iff_true]) ?_ | with_reducible refine Fr.tr (w_X12_readHorse _ _ _ (by assumption)) (by first | decide | simp only [List.mem_cons, List.not_mem_nil, or_false, forall_eq_or_imp, forall_eq, true_or, or_true, and_self, eq_self_iff_true]) ?_ | with_reducible refine Fr.tr (w_X12_readRope _ _ _ (by assumption)) (by first | decide | simp only [List.mem_cons, List.not_mem_nil, or_false, forall_eq_or_imp, forall_eq, true_or, or_true, and_self, eq_self_iff_true]) ?_ | with_reducible refine Fr.tr (w_X12_readRule _ _ _ (by assumption)) (by first | decide | simp only [List.mem_cons, List.not_mem_nil, or_false, forall_eq_or_imp, forall_eq, true_or, or_true, and_self, eq_self_iff_true]) ?_)
theorem wL_X12_way_30 (n : Nat) (S : HSt) (v1 : Int32) (r : Int32 × HSt) (e : L_X12_way_30 n S v1 = r) : Fr [(69, 1000)] S r.2 := by
  rw [← e]
  exact vL_X12_way_30 n S v1
set_option maxRecDepth 100000 in
theorem l_X12_way_30 {p : Program} {l : Launch} {e : Env} {s : State} {m : MethodId} {args : Array Value} {below : List Frame} {meth : Method} {c : Code} {G : GG} {Q : State → Prop} (hC : ACx p s m args meth c cX12_way RX12 2 (some .long)) (hSt : St G s)  : ∀ (n : Nat) (S : HSt) (v1 : Int32), MS S → T_X12_way_30 n S v1 → AW p l e (rmD 5 0 0) s m args below meth c G 2 Q (L_X12_way_30 n S v1).2 0 0 50 [(0, .ref 64), (1, .int (L_X12_way_30 n S v1).1)] [] → AW p l e (rmD 5 0 0) s m args below meth c G 2 Q S 0 0 30 [(0, .ref 64), (1, .int v1)] [] := by
  intro n
  induction n with
  | zero => intro S v1 _ hT; exact hT.elim
  | succ n ih =>
    intro S v1 hM hT hk
    unfold T_X12_way_30 at hT
    obtain ⟨h0, h1⟩ := hT
    refine aw_iload_n hC 1 dX12_way_30 rfl rfl ?_
    refine aw_sipush (v := 172) hC dX12_way_31 (by decide) ?_
    refine aw_icmp_ge hC 50 dX12_way_34 (by decide) (fun c1006 => ?_) (fun c1006 => ?_)
    · refine aw_sub [0, 1] rfl ?_
      have E : L_X12_way_30 (n + 1) S v1 = _ := (if_pos c1006).trans (rfl)
      rw [E] at hk
      exact hk
    · refine aw_aload_n hC 0 dX12_way_37 rfl rfl ?_
      refine aw_getP (b := 69) hC hSt 6 (ms_lt 64 (by decide) hM) (ms_k 64 12 0 (by decide) hM) rfl (by decide) w_921 rfl (ms_p 6 69 (by decide) hM) dX12_way_38 ?_
      refine aw_iload_n hC 1 dX12_way_41 rfl rfl ?_
      refine aw_iconst (v := 0) hC dX12_way_42 (by decide) ?_
      refine aw_iast hC hSt (ms_lt 69 (by decide) hM) (ms_k 69 14 172 (by decide) hM) (vp_len (n := 172) (ms_l 69 14 172 (by decide) hM) (h0 c1006)) dX12_way_43 ?_
      generalize eS1007 : (sI S 69 v1.toNatClampNeg (0 : Int32)) = S1007
      have hM : MS S1007 := MS.of (by rw [← eS1007]; exact shp_sI _ _ _ _) hM
      refine aw_iinc (v := (v1 + (1 : Int32))) hC 1 [(1, .int _), (0, .ref 64)] dX12_way_44 rfl rfl (by decide) rfl ?_
      refine aw_goto hC 30 dX12_way_47 (by decide) ?_
      refine aw_sub [1, 0] rfl ?_
      have hTn := (h1 c1006 S1007 eS1007)
      have hMn : MS S1007 := hM
      have E : L_X12_way_30 (n + 1) S v1 = _ := (if_neg c1006).trans ((bd_eq eS1007).trans (rfl))
      rw [E] at hk
      exact ih _ _ hMn hTn hk
noncomputable def L_X12_way_96 : Nat → HSt → Int32 → Int32 × HSt
  | 0, S, v1 => (v1, S)
  | n + 1, S, v1 =>
    if (lg_cmp (f_X12_word S 64) (1919905893 : Int64)) = 0 then (bd (f_X12_readRope S 64) fun r1015 => L_X12_way_96 n r1015 v1) else ((pr (v1) (S)))
def T_X12_way_96 : Nat → HSt → Int32 → Prop
  | 0, _, _ => False
  | n + 1, S, v1 => (p_X12_word S 64) ∧ (((lg_cmp (f_X12_word S 64) (1919905893 : Int64)) = 0) → p_X12_readRope S 64) ∧ (((lg_cmp (f_X12_word S 64) (1919905893 : Int64)) = 0) → ∀ r1015, f_X12_readRope S 64 = r1015 → T_X12_way_96 n r1015 v1)
theorem qL_X12_way_96 : ∀ (n : Nat) (S : HSt) (v1 : Int32), shp (L_X12_way_96 n S v1).2 = shp S := by
  intro n
  induction n with
  | zero => intros; rfl
  | succ n ih =>
    intro S v1
    unfold L_X12_way_96
    repeat' (first | with_reducible refine shpr1 ?_ | with_reducible rfl | with_reducible refine (ih _ _).trans ?_ | with_reducible refine (q_X12_bad _ _ _).trans ?_ | with_reducible refine (q_X12_first _ _).trans ?_ | with_reducible refine (q_X12_keepLive _ _).trans ?_ | with_reducible refine (q_X12_next _ _).trans ?_ | with_reducible refine (q_X12_readAct _ _).trans ?_ | with_reducible refine (q_X12_readBeast _ _).trans ?_ | with_reducible refine (q_X12_readForm _ _).trans ?_ | with_reducible refine (q_X12_readHorse _ _).trans ?_ | with_reducible refine (q_X12_readRope _ _).trans ?_ | with_reducible refine (q_X12_readRule _ _).trans ?_ | with_reducible refine (qL_X12_way_30 _ _ _).trans ?_ | with_reducible refine (shp_sI _ _ _ _).trans ?_ | with_reducible refine (shp_sJ _ _ _ _).trans ?_ | with_reducible refine shi ?_ ?_ | with_reducible refine shb (fun _ _ => ?_) | with_reducible refine shiP (fun q : Int32 × HSt => q.2) ?_ ?_ | with_reducible refine shbP (fun q : Int32 × HSt => q.2) (fun _ _ => ?_) | (subst_vars; with_reducible rfl) | (subst_vars; with_reducible refine (ih _ _).trans ?_) | (subst_vars; with_reducible refine (q_X12_bad _ _ _).trans ?_) | (subst_vars; with_reducible refine (q_X12_first _ _).trans ?_) | (subst_vars; with_reducible refine (q_X12_keepLive _ _).trans ?_) | (subst_vars; with_reducible refine (q_X12_next _ _).trans ?_) | (subst_vars; with_reducible refine (q_X12_readAct _ _).trans ?_) | (subst_vars; with_reducible refine (q_X12_readBeast _ _).trans ?_) | (subst_vars; with_reducible refine (q_X12_readForm _ _).trans ?_) | (subst_vars; with_reducible refine (q_X12_readHorse _ _).trans ?_) | (subst_vars; with_reducible refine (q_X12_readRope _ _).trans ?_) | (subst_vars; with_reducible refine (q_X12_readRule _ _).trans ?_) | (subst_vars; with_reducible refine (qL_X12_way_30 _ _ _).trans ?_) | (subst_vars; with_reducible refine (shp_sI _ _ _ _).trans ?_) | (subst_vars; with_reducible refine (shp_sJ _ _ _ _).trans ?_) | (subst_vars; with_reducible refine shi ?_ ?_) | (subst_vars; with_reducible refine shb (fun _ _ => ?_)))
theorem vL_X12_way_96 : ∀ (n : Nat) (S : HSt) (v1 : Int32), Fr [(64, 12), (64, 13), (64, 14), (64, 15), (64, 16), (64, 17), (69, 1000)] S (L_X12_way_96 n S v1).2 := by
  intro n
  induction n with
  | zero => intros; exact Fr.refl _ _
  | succ n ih =>
    intro S v1
    unfold L_X12_way_96
    repeat' (first | with_reducible refine frpr1 ?_ | with_reducible exact Fr.refl _ _ | with_reducible refine Fr.lP (fun q : Int32 × HSt => q.2) (fun _ _ => ?_) | with_reducible refine Fr.iteP (fun q : Int32 × HSt => q.2) ?_ ?_ | with_reducible refine Fr.l1 (fun _ _ => ?_) | with_reducible refine Fr.ite ?_ ?_ | with_reducible refine Fr.sE (by assumption) (by first | decide | simp only [List.mem_cons, List.not_mem_nil, or_false, true_or, or_true, eq_self_iff_true]) ?_ | with_reducible refine Fr.jE (by assumption) ?_ | with_reducible refine Fr.rE (by assumption) (by first | decide | simp only [List.mem_cons, List.not_mem_nil, or_false, true_or, or_true, eq_self_iff_true]) ?_ | with_reducible refine Fr.iE (by assumption) ?_ ?_ | with_reducible refine Fr.tr (ih _ _) (by first | decide | simp only [List.mem_cons, List.not_mem_nil, or_false, forall_eq_or_imp, forall_eq, true_or, or_true, and_self, eq_self_iff_true]) ?_ | with_reducible refine Fr.tr (w_X12_bad _ _ _ _ (by assumption)) (by first | decide | simp only [List.mem_cons, List.not_mem_nil, or_false, forall_eq_or_imp, forall_eq, true_or, or_true, and_self, eq_self_iff_true]) ?_ | with_reducible refine Fr.tr (w_X12_first _ _ _ (by assumption)) (by first | decide | simp only [List.mem_cons, List.not_mem_nil, or_false, forall_eq_or_imp, forall_eq, true_or, or_true, and_self, eq_self_iff_true]) ?_ | with_reducible refine Fr.tr (w_X12_keepLive _ _ _ (by assumption)) (by first | decide | simp only [List.mem_cons, List.not_mem_nil, or_false, forall_eq_or_imp, forall_eq, true_or, or_true, and_self, eq_self_iff_true]) ?_ | with_reducible refine Fr.tr (w_X12_next _ _ _ (by assumption)) (by first | decide | simp only [List.mem_cons, List.not_mem_nil, or_false, forall_eq_or_imp, forall_eq, true_or, or_true, and_self, eq_self_iff_true]) ?_ | with_reducible refine Fr.tr (w_X12_readAct _ _ _ (by assumption)) (by first | decide | simp only [List.mem_cons, List.not_mem_nil, or_false, forall_eq_or_imp, forall_eq, true_or, or_true, and_self, eq_self_iff_true]) ?_ | with_reducible refine Fr.tr (w_X12_readBeast _ _ _ (by assumption)) (by first | decide | simp only [List.mem_cons, List.not_mem_nil, or_false, forall_eq_or_imp, forall_eq, true_or, or_true, and_self, eq_self_iff_true]) ?_ | with_reducible refine Fr.tr (w_X12_readForm _ _ _ (by assumption)) (by first | decide | simp only [List.mem_cons, List.not_mem_nil, or_false, forall_eq_or_imp, forall_eq, true_or, or_true, and_self, eq_self_iff_true]) ?_ | with_reducible refine Fr.tr (w_X12_readHorse _ _ _ (by assumption)) (by first | decide | simp only [List.mem_cons, List.not_mem_nil, or_false, forall_eq_or_imp, forall_eq, true_or, or_true, and_self, eq_self_iff_true]) ?_ | with_reducible refine Fr.tr (w_X12_readRope _ _ _ (by assumption)) (by first | decide | simp only [List.mem_cons, List.not_mem_nil, or_false, forall_eq_or_imp, forall_eq, true_or, or_true, and_self, eq_self_iff_true]) ?_ | with_reducible refine Fr.tr (w_X12_readRule _ _ _ (by assumption)) (by first | decide | simp only [List.mem_cons, List.not_mem_nil, or_false, forall_eq_or_imp, forall_eq, true_or, or_true, and_self, eq_self_iff_true]) ?_ | with_reducible refine Fr.tr (wL_X12_way_30 _ _ _ _ (by assumption)) (by first | decide | simp only [List.mem_cons, List.not_mem_nil, or_false, forall_eq_or_imp, forall_eq, true_or, or_true, and_self, eq_self_iff_true]) ?_)
theorem wL_X12_way_96 (n : Nat) (S : HSt) (v1 : Int32) (r : Int32 × HSt) (e : L_X12_way_96 n S v1 = r) : Fr [(64, 12), (64, 13), (64, 14), (64, 15), (64, 16), (64, 17), (69, 1000)] S r.2 := by
  rw [← e]
  exact vL_X12_way_96 n S v1
set_option maxRecDepth 100000 in
theorem l_X12_way_96 {p : Program} {l : Launch} {e : Env} {s : State} {m : MethodId} {args : Array Value} {below : List Frame} {meth : Method} {c : Code} {G : GG} {Q : State → Prop} (hC : ACx p s m args meth c cX12_way RX12 2 (some .long)) (hSt : St G s)  : ∀ (n : Nat) (S : HSt) (v1 : Int32), MS S → T_X12_way_96 n S v1 → AW p l e (rmD 5 0 0) s m args below meth c G 2 Q (L_X12_way_96 n S v1).2 0 0 114 [(0, .ref 64), (1, .int (L_X12_way_96 n S v1).1)] [] → AW p l e (rmD 5 0 0) s m args below meth c G 2 Q S 0 0 96 [(0, .ref 64), (1, .int v1)] [] := by
  intro n
  induction n with
  | zero => intro S v1 _ hT; exact hT.elim
  | succ n ih =>
    intro S v1 hM hT hk
    unfold T_X12_way_96 at hT
    obtain ⟨h0, h1, h2⟩ := hT
    refine aw_aload_n hC 0 dX12_way_96 rfl rfl ?_
    refine aw_cV0r hC hSt (t_X12_word G l hM  (h0)) w_997 w_1024 w_1025 w_1026 w_953 rfl rfl (by decide +kernel) ⟨Nat.le_of_ble_eq_true rfl, Nat.le_of_ble_eq_true rfl⟩ (ms_lt 64 (by decide) hM) (ms_k 64 12 0 (by decide) hM) rfl (Nat.le_of_ble_eq_true rfl) dX12_way_97 ⟨Nat.zero_le _, Nat.zero_le _⟩ ?_
    refine aw_ldc2 (v := 1919905893) hC w_1044 dX12_way_100 ?_
    refine aw_lcmp hC dX12_way_103 ?_
    refine aw_if_ne hC 114 dX12_way_104 (by decide) (fun c1014 => ?_) (fun c1014 => ?_)
    · refine aw_sub [0, 1] rfl ?_
      have E : L_X12_way_96 (n + 1) S v1 = _ := (if_neg c1014).trans (rfl)
      rw [E] at hk
      exact hk
    · refine aw_aload_n hC 0 dX12_way_107 rfl rfl ?_
      refine aw_cV0v hC hSt (t_X12_readRope G l hM  (h1 c1014)) w_1013 w_1053 w_1054 w_1055 w_953 rfl rfl (by decide +kernel) ⟨Nat.le_of_ble_eq_true rfl, Nat.le_of_ble_eq_true rfl⟩ (ms_lt 64 (by decide) hM) (ms_k 64 12 0 (by decide) hM) rfl (Nat.le_of_ble_eq_true rfl) dX12_way_108 ⟨Nat.zero_le _, Nat.zero_le _⟩ ?_
      generalize er1015 : f_X12_readRope S 64 = r1015
      have hM : MS r1015 := MS.of (by rw [← er1015]; exact q_X12_readRope _ _) hM
      refine aw_goto hC 96 dX12_way_111 (by decide) ?_
      refine aw_sub [0, 1] rfl ?_
      have hTn := (h2 c1014 r1015 er1015)
      have hMn : MS r1015 := hM
      have E : L_X12_way_96 (n + 1) S v1 = _ := (if_pos c1014).trans ((bd_eq er1015).trans (rfl))
      rw [E] at hk
      exact ih _ _ hMn hTn hk
noncomputable def L_X12_way_114 : Nat → HSt → Int32 → Int32 × HSt
  | 0, S, v1 => (v1, S)
  | n + 1, S, v1 =>
    if (lg_cmp (f_X12_word S 64) (448546370405 : Int64)) = 0 then (bd (f_X12_readHorse S 64) fun r1016 => L_X12_way_114 n r1016 v1) else ((pr (v1) (S)))
def T_X12_way_114 : Nat → HSt → Int32 → Prop
  | 0, _, _ => False
  | n + 1, S, v1 => (p_X12_word S 64) ∧ (((lg_cmp (f_X12_word S 64) (448546370405 : Int64)) = 0) → p_X12_readHorse S 64) ∧ (((lg_cmp (f_X12_word S 64) (448546370405 : Int64)) = 0) → ∀ r1016, f_X12_readHorse S 64 = r1016 → T_X12_way_114 n r1016 v1)
theorem qL_X12_way_114 : ∀ (n : Nat) (S : HSt) (v1 : Int32), shp (L_X12_way_114 n S v1).2 = shp S := by
  intro n
  induction n with
  | zero => intros; rfl
  | succ n ih =>
    intro S v1
    unfold L_X12_way_114
    repeat' (first | with_reducible refine shpr1 ?_ | with_reducible rfl | with_reducible refine (ih _ _).trans ?_ | with_reducible refine (q_X12_bad _ _ _).trans ?_ | with_reducible refine (q_X12_first _ _).trans ?_ | with_reducible refine (q_X12_keepLive _ _).trans ?_ | with_reducible refine (q_X12_next _ _).trans ?_ | with_reducible refine (q_X12_readAct _ _).trans ?_ | with_reducible refine (q_X12_readBeast _ _).trans ?_ | with_reducible refine (q_X12_readForm _ _).trans ?_ | with_reducible refine (q_X12_readHorse _ _).trans ?_ | with_reducible refine (q_X12_readRope _ _).trans ?_ | with_reducible refine (q_X12_readRule _ _).trans ?_ | with_reducible refine (qL_X12_way_30 _ _ _).trans ?_ | with_reducible refine (qL_X12_way_96 _ _ _).trans ?_ | with_reducible refine (shp_sI _ _ _ _).trans ?_ | with_reducible refine (shp_sJ _ _ _ _).trans ?_ | with_reducible refine shi ?_ ?_ | with_reducible refine shb (fun _ _ => ?_) | with_reducible refine shiP (fun q : Int32 × HSt => q.2) ?_ ?_ | with_reducible refine shbP (fun q : Int32 × HSt => q.2) (fun _ _ => ?_) | (subst_vars; with_reducible rfl) | (subst_vars; with_reducible refine (ih _ _).trans ?_) | (subst_vars; with_reducible refine (q_X12_bad _ _ _).trans ?_) | (subst_vars; with_reducible refine (q_X12_first _ _).trans ?_) | (subst_vars; with_reducible refine (q_X12_keepLive _ _).trans ?_) | (subst_vars; with_reducible refine (q_X12_next _ _).trans ?_) | (subst_vars; with_reducible refine (q_X12_readAct _ _).trans ?_) | (subst_vars; with_reducible refine (q_X12_readBeast _ _).trans ?_) | (subst_vars; with_reducible refine (q_X12_readForm _ _).trans ?_) | (subst_vars; with_reducible refine (q_X12_readHorse _ _).trans ?_) | (subst_vars; with_reducible refine (q_X12_readRope _ _).trans ?_) | (subst_vars; with_reducible refine (q_X12_readRule _ _).trans ?_) | (subst_vars; with_reducible refine (qL_X12_way_30 _ _ _).trans ?_) | (subst_vars; with_reducible refine (qL_X12_way_96 _ _ _).trans ?_) | (subst_vars; with_reducible refine (shp_sI _ _ _ _).trans ?_) | (subst_vars; with_reducible refine (shp_sJ _ _ _ _).trans ?_) | (subst_vars; with_reducible refine shi ?_ ?_) | (subst_vars; with_reducible refine shb (fun _ _ => ?_)))
theorem vL_X12_way_114 : ∀ (n : Nat) (S : HSt) (v1 : Int32), Fr [(64, 12), (64, 13), (64, 14), (64, 15), (64, 16), (64, 17), (69, 1000)] S (L_X12_way_114 n S v1).2 := by
  intro n
  induction n with
  | zero => intros; exact Fr.refl _ _
  | succ n ih =>
    intro S v1
    unfold L_X12_way_114
    repeat' (first | with_reducible refine frpr1 ?_ | with_reducible exact Fr.refl _ _ | with_reducible refine Fr.lP (fun q : Int32 × HSt => q.2) (fun _ _ => ?_) | with_reducible refine Fr.iteP (fun q : Int32 × HSt => q.2) ?_ ?_ | with_reducible refine Fr.l1 (fun _ _ => ?_) | with_reducible refine Fr.ite ?_ ?_ | with_reducible refine Fr.sE (by assumption) (by first | decide | simp only [List.mem_cons, List.not_mem_nil, or_false, true_or, or_true, eq_self_iff_true]) ?_ | with_reducible refine Fr.jE (by assumption) ?_ | with_reducible refine Fr.rE (by assumption) (by first | decide | simp only [List.mem_cons, List.not_mem_nil, or_false, true_or, or_true, eq_self_iff_true]) ?_ | with_reducible refine Fr.iE (by assumption) ?_ ?_ | with_reducible refine Fr.tr (ih _ _) (by first | decide | simp only [List.mem_cons, List.not_mem_nil, or_false, forall_eq_or_imp, forall_eq, true_or, or_true, and_self, eq_self_iff_true]) ?_ | with_reducible refine Fr.tr (w_X12_bad _ _ _ _ (by assumption)) (by first | decide | simp only [List.mem_cons, List.not_mem_nil, or_false, forall_eq_or_imp, forall_eq, true_or, or_true, and_self, eq_self_iff_true]) ?_ | with_reducible refine Fr.tr (w_X12_first _ _ _ (by assumption)) (by first | decide | simp only [List.mem_cons, List.not_mem_nil, or_false, forall_eq_or_imp, forall_eq, true_or, or_true, and_self, eq_self_iff_true]) ?_ | with_reducible refine Fr.tr (w_X12_keepLive _ _ _ (by assumption)) (by first | decide | simp only [List.mem_cons, List.not_mem_nil, or_false, forall_eq_or_imp, forall_eq, true_or, or_true, and_self, eq_self_iff_true]) ?_ | with_reducible refine Fr.tr (w_X12_next _ _ _ (by assumption)) (by first | decide | simp only [List.mem_cons, List.not_mem_nil, or_false, forall_eq_or_imp, forall_eq, true_or, or_true, and_self, eq_self_iff_true]) ?_ | with_reducible refine Fr.tr (w_X12_readAct _ _ _ (by assumption)) (by first | decide | simp only [List.mem_cons, List.not_mem_nil, or_false, forall_eq_or_imp, forall_eq, true_or, or_true, and_self, eq_self_iff_true]) ?_ | with_reducible refine Fr.tr (w_X12_readBeast _ _ _ (by assumption)) (by first | decide | simp only [List.mem_cons, List.not_mem_nil, or_false, forall_eq_or_imp, forall_eq, true_or, or_true, and_self, eq_self_iff_true]) ?_ | with_reducible refine Fr.tr (w_X12_readForm _ _ _ (by assumption)) (by first | decide | simp only [List.mem_cons, List.not_mem_nil, or_false, forall_eq_or_imp, forall_eq, true_or, or_true, and_self, eq_self_iff_true]) ?_ | with_reducible refine Fr.tr (w_X12_readHorse _ _ _ (by assumption)) (by first | decide | simp only [List.mem_cons, List.not_mem_nil, or_false, forall_eq_or_imp, forall_eq, true_or, or_true, and_self, eq_self_iff_true]) ?_ | with_reducible refine Fr.tr (w_X12_readRope _ _ _ (by assumption)) (by first | decide | simp only [List.mem_cons, List.not_mem_nil, or_false, forall_eq_or_imp, forall_eq, true_or, or_true, and_self, eq_self_iff_true]) ?_ | with_reducible refine Fr.tr (w_X12_readRule _ _ _ (by assumption)) (by first | decide | simp only [List.mem_cons, List.not_mem_nil, or_false, forall_eq_or_imp, forall_eq, true_or, or_true, and_self, eq_self_iff_true]) ?_ | with_reducible refine Fr.tr (wL_X12_way_30 _ _ _ _ (by assumption)) (by first | decide | simp only [List.mem_cons, List.not_mem_nil, or_false, forall_eq_or_imp, forall_eq, true_or, or_true, and_self, eq_self_iff_true]) ?_ | with_reducible refine Fr.tr (wL_X12_way_96 _ _ _ _ (by assumption)) (by first | decide | simp only [List.mem_cons, List.not_mem_nil, or_false, forall_eq_or_imp, forall_eq, true_or, or_true, and_self, eq_self_iff_true]) ?_)
theorem wL_X12_way_114 (n : Nat) (S : HSt) (v1 : Int32) (r : Int32 × HSt) (e : L_X12_way_114 n S v1 = r) : Fr [(64, 12), (64, 13), (64, 14), (64, 15), (64, 16), (64, 17), (69, 1000)] S r.2 := by
  rw [← e]
  exact vL_X12_way_114 n S v1
set_option maxRecDepth 100000 in
theorem l_X12_way_114 {p : Program} {l : Launch} {e : Env} {s : State} {m : MethodId} {args : Array Value} {below : List Frame} {meth : Method} {c : Code} {G : GG} {Q : State → Prop} (hC : ACx p s m args meth c cX12_way RX12 2 (some .long)) (hSt : St G s)  : ∀ (n : Nat) (S : HSt) (v1 : Int32), MS S → T_X12_way_114 n S v1 → AW p l e (rmD 5 0 0) s m args below meth c G 2 Q (L_X12_way_114 n S v1).2 0 0 132 [(0, .ref 64), (1, .int (L_X12_way_114 n S v1).1)] [] → AW p l e (rmD 5 0 0) s m args below meth c G 2 Q S 0 0 114 [(0, .ref 64), (1, .int v1)] [] := by
  intro n
  induction n with
  | zero => intro S v1 _ hT; exact hT.elim
  | succ n ih =>
    intro S v1 hM hT hk
    unfold T_X12_way_114 at hT
    obtain ⟨h0, h1, h2⟩ := hT
    refine aw_aload_n hC 0 dX12_way_114 rfl rfl ?_
    refine aw_cV0r hC hSt (t_X12_word G l hM  (h0)) w_997 w_1024 w_1025 w_1026 w_953 rfl rfl (by decide +kernel) ⟨Nat.le_of_ble_eq_true rfl, Nat.le_of_ble_eq_true rfl⟩ (ms_lt 64 (by decide) hM) (ms_k 64 12 0 (by decide) hM) rfl (Nat.le_of_ble_eq_true rfl) dX12_way_115 ⟨Nat.zero_le _, Nat.zero_le _⟩ ?_
    refine aw_ldc2 (v := 448546370405) hC w_1045 dX12_way_118 ?_
    refine aw_lcmp hC dX12_way_121 ?_
    refine aw_if_ne hC 132 dX12_way_122 (by decide) (fun c1015 => ?_) (fun c1015 => ?_)
    · refine aw_sub [0, 1] rfl ?_
      have E : L_X12_way_114 (n + 1) S v1 = _ := (if_neg c1015).trans (rfl)
      rw [E] at hk
      exact hk
    · refine aw_aload_n hC 0 dX12_way_125 rfl rfl ?_
      refine aw_cV0v hC hSt (t_X12_readHorse G l hM  (h1 c1015)) w_1014 w_1056 w_1057 w_1058 w_953 rfl rfl (by decide +kernel) ⟨Nat.le_of_ble_eq_true rfl, Nat.le_of_ble_eq_true rfl⟩ (ms_lt 64 (by decide) hM) (ms_k 64 12 0 (by decide) hM) rfl (Nat.le_of_ble_eq_true rfl) dX12_way_126 ⟨Nat.zero_le _, Nat.zero_le _⟩ ?_
      generalize er1016 : f_X12_readHorse S 64 = r1016
      have hM : MS r1016 := MS.of (by rw [← er1016]; exact q_X12_readHorse _ _) hM
      refine aw_goto hC 114 dX12_way_129 (by decide) ?_
      refine aw_sub [0, 1] rfl ?_
      have hTn := (h2 c1015 r1016 er1016)
      have hMn : MS r1016 := hM
      have E : L_X12_way_114 (n + 1) S v1 = _ := (if_pos c1015).trans ((bd_eq er1016).trans (rfl))
      rw [E] at hk
      exact ih _ _ hMn hTn hk
noncomputable def L_X12_way_132 : Nat → HSt → Int32 → Int32 × HSt
  | 0, S, v1 => (v1, S)
  | n + 1, S, v1 =>
    if (lg_cmp (f_X12_word S 64) (422607680372 : Int64)) = 0 then (bd (f_X12_readBeast S 64) fun r1017 => L_X12_way_132 n r1017 v1) else ((pr (v1) (S)))
def T_X12_way_132 : Nat → HSt → Int32 → Prop
  | 0, _, _ => False
  | n + 1, S, v1 => (p_X12_word S 64) ∧ (((lg_cmp (f_X12_word S 64) (422607680372 : Int64)) = 0) → p_X12_readBeast S 64) ∧ (((lg_cmp (f_X12_word S 64) (422607680372 : Int64)) = 0) → ∀ r1017, f_X12_readBeast S 64 = r1017 → T_X12_way_132 n r1017 v1)
theorem qL_X12_way_132 : ∀ (n : Nat) (S : HSt) (v1 : Int32), shp (L_X12_way_132 n S v1).2 = shp S := by
  intro n
  induction n with
  | zero => intros; rfl
  | succ n ih =>
    intro S v1
    unfold L_X12_way_132
    repeat' (first | with_reducible refine shpr1 ?_ | with_reducible rfl | with_reducible refine (ih _ _).trans ?_ | with_reducible refine (q_X12_bad _ _ _).trans ?_ | with_reducible refine (q_X12_first _ _).trans ?_ | with_reducible refine (q_X12_keepLive _ _).trans ?_ | with_reducible refine (q_X12_next _ _).trans ?_ | with_reducible refine (q_X12_readAct _ _).trans ?_ | with_reducible refine (q_X12_readBeast _ _).trans ?_ | with_reducible refine (q_X12_readForm _ _).trans ?_ | with_reducible refine (q_X12_readHorse _ _).trans ?_ | with_reducible refine (q_X12_readRope _ _).trans ?_ | with_reducible refine (q_X12_readRule _ _).trans ?_ | with_reducible refine (qL_X12_way_30 _ _ _).trans ?_ | with_reducible refine (qL_X12_way_96 _ _ _).trans ?_ | with_reducible refine (qL_X12_way_114 _ _ _).trans ?_ | with_reducible refine (shp_sI _ _ _ _).trans ?_ | with_reducible refine (shp_sJ _ _ _ _).trans ?_ | with_reducible refine shi ?_ ?_ | with_reducible refine shb (fun _ _ => ?_) | with_reducible refine shiP (fun q : Int32 × HSt => q.2) ?_ ?_ | with_reducible refine shbP (fun q : Int32 × HSt => q.2) (fun _ _ => ?_) | (subst_vars; with_reducible rfl) | (subst_vars; with_reducible refine (ih _ _).trans ?_) | (subst_vars; with_reducible refine (q_X12_bad _ _ _).trans ?_) | (subst_vars; with_reducible refine (q_X12_first _ _).trans ?_) | (subst_vars; with_reducible refine (q_X12_keepLive _ _).trans ?_) | (subst_vars; with_reducible refine (q_X12_next _ _).trans ?_) | (subst_vars; with_reducible refine (q_X12_readAct _ _).trans ?_) | (subst_vars; with_reducible refine (q_X12_readBeast _ _).trans ?_) | (subst_vars; with_reducible refine (q_X12_readForm _ _).trans ?_) | (subst_vars; with_reducible refine (q_X12_readHorse _ _).trans ?_) | (subst_vars; with_reducible refine (q_X12_readRope _ _).trans ?_) | (subst_vars; with_reducible refine (q_X12_readRule _ _).trans ?_) | (subst_vars; with_reducible refine (qL_X12_way_30 _ _ _).trans ?_) | (subst_vars; with_reducible refine (qL_X12_way_96 _ _ _).trans ?_) | (subst_vars; with_reducible refine (qL_X12_way_114 _ _ _).trans ?_) | (subst_vars; with_reducible refine (shp_sI _ _ _ _).trans ?_) | (subst_vars; with_reducible refine (shp_sJ _ _ _ _).trans ?_) | (subst_vars; with_reducible refine shi ?_ ?_) | (subst_vars; with_reducible refine shb (fun _ _ => ?_)))
theorem vL_X12_way_132 : ∀ (n : Nat) (S : HSt) (v1 : Int32), Fr [(64, 12), (64, 13), (64, 14), (64, 15), (64, 16), (64, 17), (69, 1000)] S (L_X12_way_132 n S v1).2 := by
  intro n
  induction n with
  | zero => intros; exact Fr.refl _ _
  | succ n ih =>
    intro S v1
    unfold L_X12_way_132
    repeat' (first | with_reducible refine frpr1 ?_ | with_reducible exact Fr.refl _ _ | with_reducible refine Fr.lP (fun q : Int32 × HSt => q.2) (fun _ _ => ?_) | with_reducible refine Fr.iteP (fun q : Int32 × HSt => q.2) ?_ ?_ | with_reducible refine Fr.l1 (fun _ _ => ?_) | with_reducible refine Fr.ite ?_ ?_ | with_reducible refine Fr.sE (by assumption) (by first | decide | simp only [List.mem_cons, List.not_mem_nil, or_false, true_or, or_true, eq_self_iff_true]) ?_ | with_reducible refine Fr.jE (by assumption) ?_ | with_reducible refine Fr.rE (by assumption) (by first | decide | simp only [List.mem_cons, List.not_mem_nil, or_false, true_or, or_true, eq_self_iff_true]) ?_ | with_reducible refine Fr.iE (by assumption) ?_ ?_ | with_reducible refine Fr.tr (ih _ _) (by first | decide | simp only [List.mem_cons, List.not_mem_nil, or_false, forall_eq_or_imp, forall_eq, true_or, or_true, and_self, eq_self_iff_true]) ?_ | with_reducible refine Fr.tr (w_X12_bad _ _ _ _ (by assumption)) (by first | decide | simp only [List.mem_cons, List.not_mem_nil, or_false, forall_eq_or_imp, forall_eq, true_or, or_true, and_self, eq_self_iff_true]) ?_ | with_reducible refine Fr.tr (w_X12_first _ _ _ (by assumption)) (by first | decide | simp only [List.mem_cons, List.not_mem_nil, or_false, forall_eq_or_imp, forall_eq, true_or, or_true, and_self, eq_self_iff_true]) ?_ | with_reducible refine Fr.tr (w_X12_keepLive _ _ _ (by assumption)) (by first | decide | simp only [List.mem_cons, List.not_mem_nil, or_false, forall_eq_or_imp, forall_eq, true_or, or_true, and_self, eq_self_iff_true]) ?_ | with_reducible refine Fr.tr (w_X12_next _ _ _ (by assumption)) (by first | decide | simp only [List.mem_cons, List.not_mem_nil, or_false, forall_eq_or_imp, forall_eq, true_or, or_true, and_self, eq_self_iff_true]) ?_ | with_reducible refine Fr.tr (w_X12_readAct _ _ _ (by assumption)) (by first | decide | simp only [List.mem_cons, List.not_mem_nil, or_false, forall_eq_or_imp, forall_eq, true_or, or_true, and_self, eq_self_iff_true]) ?_ | with_reducible refine Fr.tr (w_X12_readBeast _ _ _ (by assumption)) (by first | decide | simp only [List.mem_cons, List.not_mem_nil, or_false, forall_eq_or_imp, forall_eq, true_or, or_true, and_self, eq_self_iff_true]) ?_ | with_reducible refine Fr.tr (w_X12_readForm _ _ _ (by assumption)) (by first | decide | simp only [List.mem_cons, List.not_mem_nil, or_false, forall_eq_or_imp, forall_eq, true_or, or_true, and_self, eq_self_iff_true]) ?_ | with_reducible refine Fr.tr (w_X12_readHorse _ _ _ (by assumption)) (by first | decide | simp only [List.mem_cons, List.not_mem_nil, or_false, forall_eq_or_imp, forall_eq, true_or, or_true, and_self, eq_self_iff_true]) ?_ | with_reducible refine Fr.tr (w_X12_readRope _ _ _ (by assumption)) (by first | decide | simp only [List.mem_cons, List.not_mem_nil, or_false, forall_eq_or_imp, forall_eq, true_or, or_true, and_self, eq_self_iff_true]) ?_ | with_reducible refine Fr.tr (w_X12_readRule _ _ _ (by assumption)) (by first | decide | simp only [List.mem_cons, List.not_mem_nil, or_false, forall_eq_or_imp, forall_eq, true_or, or_true, and_self, eq_self_iff_true]) ?_ | with_reducible refine Fr.tr (wL_X12_way_30 _ _ _ _ (by assumption)) (by first | decide | simp only [List.mem_cons, List.not_mem_nil, or_false, forall_eq_or_imp, forall_eq, true_or, or_true, and_self, eq_self_iff_true]) ?_ | with_reducible refine Fr.tr (wL_X12_way_96 _ _ _ _ (by assumption)) (by first | decide | simp only [List.mem_cons, List.not_mem_nil, or_false, forall_eq_or_imp, forall_eq, true_or, or_true, and_self, eq_self_iff_true]) ?_ | with_reducible refine Fr.tr (wL_X12_way_114 _ _ _ _ (by assumption)) (by first | decide | simp only [List.mem_cons, List.not_mem_nil, or_false, forall_eq_or_imp, forall_eq, true_or, or_true, and_self, eq_self_iff_true]) ?_)
theorem wL_X12_way_132 (n : Nat) (S : HSt) (v1 : Int32) (r : Int32 × HSt) (e : L_X12_way_132 n S v1 = r) : Fr [(64, 12), (64, 13), (64, 14), (64, 15), (64, 16), (64, 17), (69, 1000)] S r.2 := by
  rw [← e]
  exact vL_X12_way_132 n S v1
set_option maxRecDepth 100000 in
theorem l_X12_way_132 {p : Program} {l : Launch} {e : Env} {s : State} {m : MethodId} {args : Array Value} {below : List Frame} {meth : Method} {c : Code} {G : GG} {Q : State → Prop} (hC : ACx p s m args meth c cX12_way RX12 2 (some .long)) (hSt : St G s)  : ∀ (n : Nat) (S : HSt) (v1 : Int32), MS S → T_X12_way_132 n S v1 → AW p l e (rmD 5 0 0) s m args below meth c G 2 Q (L_X12_way_132 n S v1).2 0 0 150 [(0, .ref 64), (1, .int (L_X12_way_132 n S v1).1)] [] → AW p l e (rmD 5 0 0) s m args below meth c G 2 Q S 0 0 132 [(0, .ref 64), (1, .int v1)] [] := by
  intro n
  induction n with
  | zero => intro S v1 _ hT; exact hT.elim
  | succ n ih =>
    intro S v1 hM hT hk
    unfold T_X12_way_132 at hT
    obtain ⟨h0, h1, h2⟩ := hT
    refine aw_aload_n hC 0 dX12_way_132 rfl rfl ?_
    refine aw_cV0r hC hSt (t_X12_word G l hM  (h0)) w_997 w_1024 w_1025 w_1026 w_953 rfl rfl (by decide +kernel) ⟨Nat.le_of_ble_eq_true rfl, Nat.le_of_ble_eq_true rfl⟩ (ms_lt 64 (by decide) hM) (ms_k 64 12 0 (by decide) hM) rfl (Nat.le_of_ble_eq_true rfl) dX12_way_133 ⟨Nat.zero_le _, Nat.zero_le _⟩ ?_
    refine aw_ldc2 (v := 422607680372) hC w_1046 dX12_way_136 ?_
    refine aw_lcmp hC dX12_way_139 ?_
    refine aw_if_ne hC 150 dX12_way_140 (by decide) (fun c1016 => ?_) (fun c1016 => ?_)
    · refine aw_sub [0, 1] rfl ?_
      have E : L_X12_way_132 (n + 1) S v1 = _ := (if_neg c1016).trans (rfl)
      rw [E] at hk
      exact hk
    · refine aw_aload_n hC 0 dX12_way_143 rfl rfl ?_
      refine aw_cV0v hC hSt (t_X12_readBeast G l hM  (h1 c1016)) w_1015 w_1059 w_1060 w_1061 w_953 rfl rfl (by decide +kernel) ⟨Nat.le_of_ble_eq_true rfl, Nat.le_of_ble_eq_true rfl⟩ (ms_lt 64 (by decide) hM) (ms_k 64 12 0 (by decide) hM) rfl (Nat.le_of_ble_eq_true rfl) dX12_way_144 ⟨Nat.zero_le _, Nat.zero_le _⟩ ?_
      generalize er1017 : f_X12_readBeast S 64 = r1017
      have hM : MS r1017 := MS.of (by rw [← er1017]; exact q_X12_readBeast _ _) hM
      refine aw_goto hC 132 dX12_way_147 (by decide) ?_
      refine aw_sub [0, 1] rfl ?_
      have hTn := (h2 c1016 r1017 er1017)
      have hMn : MS r1017 := hM
      have E : L_X12_way_132 (n + 1) S v1 = _ := (if_pos c1016).trans ((bd_eq er1017).trans (rfl))
      rw [E] at hk
      exact ih _ _ hMn hTn hk
noncomputable def L_X12_way_150 : Nat → HSt → Int32 → Int32 × HSt
  | 0, S, v1 => (v1, S)
  | n + 1, S, v1 =>
    if (lg_cmp (f_X12_word S 64) (1718579821 : Int64)) = 0 then (bd (f_X12_readForm S 64) fun r1018 => L_X12_way_150 n r1018 v1) else ((pr (v1) (S)))
def T_X12_way_150 : Nat → HSt → Int32 → Prop
  | 0, _, _ => False
  | n + 1, S, v1 => (p_X12_word S 64) ∧ (((lg_cmp (f_X12_word S 64) (1718579821 : Int64)) = 0) → p_X12_readForm S 64) ∧ (((lg_cmp (f_X12_word S 64) (1718579821 : Int64)) = 0) → ∀ r1018, f_X12_readForm S 64 = r1018 → T_X12_way_150 n r1018 v1)
theorem qL_X12_way_150 : ∀ (n : Nat) (S : HSt) (v1 : Int32), shp (L_X12_way_150 n S v1).2 = shp S := by
  intro n
  induction n with
  | zero => intros; rfl
  | succ n ih =>
    intro S v1
    unfold L_X12_way_150
    repeat' (first | with_reducible refine shpr1 ?_ | with_reducible rfl | with_reducible refine (ih _ _).trans ?_ | with_reducible refine (q_X12_bad _ _ _).trans ?_ | with_reducible refine (q_X12_first _ _).trans ?_ | with_reducible refine (q_X12_keepLive _ _).trans ?_ | with_reducible refine (q_X12_next _ _).trans ?_ | with_reducible refine (q_X12_readAct _ _).trans ?_ | with_reducible refine (q_X12_readBeast _ _).trans ?_ | with_reducible refine (q_X12_readForm _ _).trans ?_ | with_reducible refine (q_X12_readHorse _ _).trans ?_ | with_reducible refine (q_X12_readRope _ _).trans ?_ | with_reducible refine (q_X12_readRule _ _).trans ?_ | with_reducible refine (qL_X12_way_30 _ _ _).trans ?_ | with_reducible refine (qL_X12_way_96 _ _ _).trans ?_ | with_reducible refine (qL_X12_way_114 _ _ _).trans ?_ | with_reducible refine (qL_X12_way_132 _ _ _).trans ?_ | with_reducible refine (shp_sI _ _ _ _).trans ?_ | with_reducible refine (shp_sJ _ _ _ _).trans ?_ | with_reducible refine shi ?_ ?_ | with_reducible refine shb (fun _ _ => ?_) | with_reducible refine shiP (fun q : Int32 × HSt => q.2) ?_ ?_ | with_reducible refine shbP (fun q : Int32 × HSt => q.2) (fun _ _ => ?_) | (subst_vars; with_reducible rfl) | (subst_vars; with_reducible refine (ih _ _).trans ?_) | (subst_vars; with_reducible refine (q_X12_bad _ _ _).trans ?_) | (subst_vars; with_reducible refine (q_X12_first _ _).trans ?_) | (subst_vars; with_reducible refine (q_X12_keepLive _ _).trans ?_) | (subst_vars; with_reducible refine (q_X12_next _ _).trans ?_) | (subst_vars; with_reducible refine (q_X12_readAct _ _).trans ?_) | (subst_vars; with_reducible refine (q_X12_readBeast _ _).trans ?_) | (subst_vars; with_reducible refine (q_X12_readForm _ _).trans ?_) | (subst_vars; with_reducible refine (q_X12_readHorse _ _).trans ?_) | (subst_vars; with_reducible refine (q_X12_readRope _ _).trans ?_) | (subst_vars; with_reducible refine (q_X12_readRule _ _).trans ?_) | (subst_vars; with_reducible refine (qL_X12_way_30 _ _ _).trans ?_) | (subst_vars; with_reducible refine (qL_X12_way_96 _ _ _).trans ?_) | (subst_vars; with_reducible refine (qL_X12_way_114 _ _ _).trans ?_) | (subst_vars; with_reducible refine (qL_X12_way_132 _ _ _).trans ?_) | (subst_vars; with_reducible refine (shp_sI _ _ _ _).trans ?_) | (subst_vars; with_reducible refine (shp_sJ _ _ _ _).trans ?_) | (subst_vars; with_reducible refine shi ?_ ?_) | (subst_vars; with_reducible refine shb (fun _ _ => ?_)))
theorem vL_X12_way_150 : ∀ (n : Nat) (S : HSt) (v1 : Int32), Fr [(64, 12), (64, 13), (64, 14), (64, 15), (64, 16), (64, 17), (69, 1000)] S (L_X12_way_150 n S v1).2 := by
  intro n
  induction n with
  | zero => intros; exact Fr.refl _ _
  | succ n ih =>
    intro S v1
    unfold L_X12_way_150
    repeat' (first | with_reducible refine frpr1 ?_ | with_reducible exact Fr.refl _ _ | with_reducible refine Fr.lP (fun q : Int32 × HSt => q.2) (fun _ _ => ?_) | with_reducible refine Fr.iteP (fun q : Int32 × HSt => q.2) ?_ ?_ | with_reducible refine Fr.l1 (fun _ _ => ?_) | with_reducible refine Fr.ite ?_ ?_ | with_reducible refine Fr.sE (by assumption) (by first | decide | simp only [List.mem_cons, List.not_mem_nil, or_false, true_or, or_true, eq_self_iff_true]) ?_ | with_reducible refine Fr.jE (by assumption) ?_ | with_reducible refine Fr.rE (by assumption) (by first | decide | simp only [List.mem_cons, List.not_mem_nil, or_false, true_or, or_true, eq_self_iff_true]) ?_ | with_reducible refine Fr.iE (by assumption) ?_ ?_ | with_reducible refine Fr.tr (ih _ _) (by first | decide | simp only [List.mem_cons, List.not_mem_nil, or_false, forall_eq_or_imp, forall_eq, true_or, or_true, and_self, eq_self_iff_true]) ?_ | with_reducible refine Fr.tr (w_X12_bad _ _ _ _ (by assumption)) (by first | decide | simp only [List.mem_cons, List.not_mem_nil, or_false, forall_eq_or_imp, forall_eq, true_or, or_true, and_self, eq_self_iff_true]) ?_ | with_reducible refine Fr.tr (w_X12_first _ _ _ (by assumption)) (by first | decide | simp only [List.mem_cons, List.not_mem_nil, or_false, forall_eq_or_imp, forall_eq, true_or, or_true, and_self, eq_self_iff_true]) ?_ | with_reducible refine Fr.tr (w_X12_keepLive _ _ _ (by assumption)) (by first | decide | simp only [List.mem_cons, List.not_mem_nil, or_false, forall_eq_or_imp, forall_eq, true_or, or_true, and_self, eq_self_iff_true]) ?_ | with_reducible refine Fr.tr (w_X12_next _ _ _ (by assumption)) (by first | decide | simp only [List.mem_cons, List.not_mem_nil, or_false, forall_eq_or_imp, forall_eq, true_or, or_true, and_self, eq_self_iff_true]) ?_ | with_reducible refine Fr.tr (w_X12_readAct _ _ _ (by assumption)) (by first | decide | simp only [List.mem_cons, List.not_mem_nil, or_false, forall_eq_or_imp, forall_eq, true_or, or_true, and_self, eq_self_iff_true]) ?_ | with_reducible refine Fr.tr (w_X12_readBeast _ _ _ (by assumption)) (by first | decide | simp only [List.mem_cons, List.not_mem_nil, or_false, forall_eq_or_imp, forall_eq, true_or, or_true, and_self, eq_self_iff_true]) ?_ | with_reducible refine Fr.tr (w_X12_readForm _ _ _ (by assumption)) (by first | decide | simp only [List.mem_cons, List.not_mem_nil, or_false, forall_eq_or_imp, forall_eq, true_or, or_true, and_self, eq_self_iff_true]) ?_ | with_reducible refine Fr.tr (w_X12_readHorse _ _ _ (by assumption)) (by first | decide | simp only [List.mem_cons, List.not_mem_nil, or_false, forall_eq_or_imp, forall_eq, true_or, or_true, and_self, eq_self_iff_true]) ?_ | with_reducible refine Fr.tr (w_X12_readRope _ _ _ (by assumption)) (by first | decide | simp only [List.mem_cons, List.not_mem_nil, or_false, forall_eq_or_imp, forall_eq, true_or, or_true, and_self, eq_self_iff_true]) ?_ | with_reducible refine Fr.tr (w_X12_readRule _ _ _ (by assumption)) (by first | decide | simp only [List.mem_cons, List.not_mem_nil, or_false, forall_eq_or_imp, forall_eq, true_or, or_true, and_self, eq_self_iff_true]) ?_ | with_reducible refine Fr.tr (wL_X12_way_30 _ _ _ _ (by assumption)) (by first | decide | simp only [List.mem_cons, List.not_mem_nil, or_false, forall_eq_or_imp, forall_eq, true_or, or_true, and_self, eq_self_iff_true]) ?_ | with_reducible refine Fr.tr (wL_X12_way_96 _ _ _ _ (by assumption)) (by first | decide | simp only [List.mem_cons, List.not_mem_nil, or_false, forall_eq_or_imp, forall_eq, true_or, or_true, and_self, eq_self_iff_true]) ?_ | with_reducible refine Fr.tr (wL_X12_way_114 _ _ _ _ (by assumption)) (by first | decide | simp only [List.mem_cons, List.not_mem_nil, or_false, forall_eq_or_imp, forall_eq, true_or, or_true, and_self, eq_self_iff_true]) ?_ | with_reducible refine Fr.tr (wL_X12_way_132 _ _ _ _ (by assumption)) (by first | decide | simp only [List.mem_cons, List.not_mem_nil, or_false, forall_eq_or_imp, forall_eq, true_or, or_true, and_self, eq_self_iff_true]) ?_)
theorem wL_X12_way_150 (n : Nat) (S : HSt) (v1 : Int32) (r : Int32 × HSt) (e : L_X12_way_150 n S v1 = r) : Fr [(64, 12), (64, 13), (64, 14), (64, 15), (64, 16), (64, 17), (69, 1000)] S r.2 := by
  rw [← e]
  exact vL_X12_way_150 n S v1
set_option maxRecDepth 100000 in
theorem l_X12_way_150 {p : Program} {l : Launch} {e : Env} {s : State} {m : MethodId} {args : Array Value} {below : List Frame} {meth : Method} {c : Code} {G : GG} {Q : State → Prop} (hC : ACx p s m args meth c cX12_way RX12 2 (some .long)) (hSt : St G s)  : ∀ (n : Nat) (S : HSt) (v1 : Int32), MS S → T_X12_way_150 n S v1 → AW p l e (rmD 5 0 0) s m args below meth c G 2 Q (L_X12_way_150 n S v1).2 0 0 168 [(0, .ref 64), (1, .int (L_X12_way_150 n S v1).1)] [] → AW p l e (rmD 5 0 0) s m args below meth c G 2 Q S 0 0 150 [(0, .ref 64), (1, .int v1)] [] := by
  intro n
  induction n with
  | zero => intro S v1 _ hT; exact hT.elim
  | succ n ih =>
    intro S v1 hM hT hk
    unfold T_X12_way_150 at hT
    obtain ⟨h0, h1, h2⟩ := hT
    refine aw_aload_n hC 0 dX12_way_150 rfl rfl ?_
    refine aw_cV0r hC hSt (t_X12_word G l hM  (h0)) w_997 w_1024 w_1025 w_1026 w_953 rfl rfl (by decide +kernel) ⟨Nat.le_of_ble_eq_true rfl, Nat.le_of_ble_eq_true rfl⟩ (ms_lt 64 (by decide) hM) (ms_k 64 12 0 (by decide) hM) rfl (Nat.le_of_ble_eq_true rfl) dX12_way_151 ⟨Nat.zero_le _, Nat.zero_le _⟩ ?_
    refine aw_ldc2 (v := 1718579821) hC w_1047 dX12_way_154 ?_
    refine aw_lcmp hC dX12_way_157 ?_
    refine aw_if_ne hC 168 dX12_way_158 (by decide) (fun c1017 => ?_) (fun c1017 => ?_)
    · refine aw_sub [0, 1] rfl ?_
      have E : L_X12_way_150 (n + 1) S v1 = _ := (if_neg c1017).trans (rfl)
      rw [E] at hk
      exact hk
    · refine aw_aload_n hC 0 dX12_way_161 rfl rfl ?_
      refine aw_cV0v hC hSt (t_X12_readForm G l hM  (h1 c1017)) w_1016 w_1062 w_1063 w_1064 w_953 rfl rfl (by decide +kernel) ⟨Nat.le_of_ble_eq_true rfl, Nat.le_of_ble_eq_true rfl⟩ (ms_lt 64 (by decide) hM) (ms_k 64 12 0 (by decide) hM) rfl (Nat.le_of_ble_eq_true rfl) dX12_way_162 ⟨Nat.zero_le _, Nat.zero_le _⟩ ?_
      generalize er1018 : f_X12_readForm S 64 = r1018
      have hM : MS r1018 := MS.of (by rw [← er1018]; exact q_X12_readForm _ _) hM
      refine aw_goto hC 150 dX12_way_165 (by decide) ?_
      refine aw_sub [0, 1] rfl ?_
      have hTn := (h2 c1017 r1018 er1018)
      have hMn : MS r1018 := hM
      have E : L_X12_way_150 (n + 1) S v1 = _ := (if_pos c1017).trans ((bd_eq er1018).trans (rfl))
      rw [E] at hk
      exact ih _ _ hMn hTn hk
noncomputable def L_X12_way_183 : Nat → HSt → Int32 → Int32 × HSt
  | 0, S, v1 => (v1, S)
  | n + 1, S, v1 =>
    if (gI S 64 16) = 0 then (if (gI S 64 13) = (1 : Int32) then ((pr (v1) (S))) else (bd (f_X12_readAct S 64) fun r1023 => L_X12_way_183 n r1023 v1)) else ((pr (v1) (S)))
def T_X12_way_183 : Nat → HSt → Int32 → Prop
  | 0, _, _ => False
  | n + 1, S, v1 => (((gI S 64 16) = 0) → (¬ (gI S 64 13) = (1 : Int32)) → p_X12_readAct S 64) ∧ (((gI S 64 16) = 0) → (¬ (gI S 64 13) = (1 : Int32)) → ∀ r1023, f_X12_readAct S 64 = r1023 → T_X12_way_183 n r1023 v1)
theorem qL_X12_way_183 : ∀ (n : Nat) (S : HSt) (v1 : Int32), shp (L_X12_way_183 n S v1).2 = shp S := by
  intro n
  induction n with
  | zero => intros; rfl
  | succ n ih =>
    intro S v1
    unfold L_X12_way_183
    repeat' (first | with_reducible refine shpr1 ?_ | with_reducible rfl | with_reducible refine (ih _ _).trans ?_ | with_reducible refine (q_X12_bad _ _ _).trans ?_ | with_reducible refine (q_X12_first _ _).trans ?_ | with_reducible refine (q_X12_keepLive _ _).trans ?_ | with_reducible refine (q_X12_next _ _).trans ?_ | with_reducible refine (q_X12_readAct _ _).trans ?_ | with_reducible refine (q_X12_readBeast _ _).trans ?_ | with_reducible refine (q_X12_readForm _ _).trans ?_ | with_reducible refine (q_X12_readHorse _ _).trans ?_ | with_reducible refine (q_X12_readRope _ _).trans ?_ | with_reducible refine (q_X12_readRule _ _).trans ?_ | with_reducible refine (qL_X12_way_30 _ _ _).trans ?_ | with_reducible refine (qL_X12_way_96 _ _ _).trans ?_ | with_reducible refine (qL_X12_way_114 _ _ _).trans ?_ | with_reducible refine (qL_X12_way_132 _ _ _).trans ?_ | with_reducible refine (qL_X12_way_150 _ _ _).trans ?_ | with_reducible refine (shp_sI _ _ _ _).trans ?_ | with_reducible refine (shp_sJ _ _ _ _).trans ?_ | with_reducible refine shi ?_ ?_ | with_reducible refine shb (fun _ _ => ?_) | with_reducible refine shiP (fun q : Int32 × HSt => q.2) ?_ ?_ | with_reducible refine shbP (fun q : Int32 × HSt => q.2) (fun _ _ => ?_) | (subst_vars; with_reducible rfl) | (subst_vars; with_reducible refine (ih _ _).trans ?_) | (subst_vars; with_reducible refine (q_X12_bad _ _ _).trans ?_) | (subst_vars; with_reducible refine (q_X12_first _ _).trans ?_) | (subst_vars; with_reducible refine (q_X12_keepLive _ _).trans ?_) | (subst_vars; with_reducible refine (q_X12_next _ _).trans ?_) | (subst_vars; with_reducible refine (q_X12_readAct _ _).trans ?_) | (subst_vars; with_reducible refine (q_X12_readBeast _ _).trans ?_) | (subst_vars; with_reducible refine (q_X12_readForm _ _).trans ?_) | (subst_vars; with_reducible refine (q_X12_readHorse _ _).trans ?_) | (subst_vars; with_reducible refine (q_X12_readRope _ _).trans ?_) | (subst_vars; with_reducible refine (q_X12_readRule _ _).trans ?_) | (subst_vars; with_reducible refine (qL_X12_way_30 _ _ _).trans ?_) | (subst_vars; with_reducible refine (qL_X12_way_96 _ _ _).trans ?_) | (subst_vars; with_reducible refine (qL_X12_way_114 _ _ _).trans ?_) | (subst_vars; with_reducible refine (qL_X12_way_132 _ _ _).trans ?_) | (subst_vars; with_reducible refine (qL_X12_way_150 _ _ _).trans ?_) | (subst_vars; with_reducible refine (shp_sI _ _ _ _).trans ?_) | (subst_vars; with_reducible refine (shp_sJ _ _ _ _).trans ?_) | (subst_vars; with_reducible refine shi ?_ ?_) | (subst_vars; with_reducible refine shb (fun _ _ => ?_)))
theorem vL_X12_way_183 : ∀ (n : Nat) (S : HSt) (v1 : Int32), Fr [(64, 12), (64, 13), (64, 14), (64, 15), (64, 16), (64, 17), (69, 1000)] S (L_X12_way_183 n S v1).2 := by
  intro n
  induction n with
  | zero => intros; exact Fr.refl _ _
  | succ n ih =>
    intro S v1
    unfold L_X12_way_183
    repeat' (first | with_reducible refine frpr1 ?_ | with_reducible exact Fr.refl _ _ | with_reducible refine Fr.lP (fun q : Int32 × HSt => q.2) (fun _ _ => ?_) | with_reducible refine Fr.iteP (fun q : Int32 × HSt => q.2) ?_ ?_ | with_reducible refine Fr.l1 (fun _ _ => ?_) | with_reducible refine Fr.ite ?_ ?_ | with_reducible refine Fr.sE (by assumption) (by first | decide | simp only [List.mem_cons, List.not_mem_nil, or_false, true_or, or_true, eq_self_iff_true]) ?_ | with_reducible refine Fr.jE (by assumption) ?_ | with_reducible refine Fr.rE (by assumption) (by first | decide | simp only [List.mem_cons, List.not_mem_nil, or_false, true_or, or_true, eq_self_iff_true]) ?_ | with_reducible refine Fr.iE (by assumption) ?_ ?_ | with_reducible refine Fr.tr (ih _ _) (by first | decide | simp only [List.mem_cons, List.not_mem_nil, or_false, forall_eq_or_imp, forall_eq, true_or, or_true, and_self, eq_self_iff_true]) ?_ | with_reducible refine Fr.tr (w_X12_bad _ _ _ _ (by assumption)) (by first | decide | simp only [List.mem_cons, List.not_mem_nil, or_false, forall_eq_or_imp, forall_eq, true_or, or_true, and_self, eq_self_iff_true]) ?_ | with_reducible refine Fr.tr (w_X12_first _ _ _ (by assumption)) (by first | decide | simp only [List.mem_cons, List.not_mem_nil, or_false, forall_eq_or_imp, forall_eq, true_or, or_true, and_self, eq_self_iff_true]) ?_ | with_reducible refine Fr.tr (w_X12_keepLive _ _ _ (by assumption)) (by first | decide | simp only [List.mem_cons, List.not_mem_nil, or_false, forall_eq_or_imp, forall_eq, true_or, or_true, and_self, eq_self_iff_true]) ?_ | with_reducible refine Fr.tr (w_X12_next _ _ _ (by assumption)) (by first | decide | simp only [List.mem_cons, List.not_mem_nil, or_false, forall_eq_or_imp, forall_eq, true_or, or_true, and_self, eq_self_iff_true]) ?_ | with_reducible refine Fr.tr (w_X12_readAct _ _ _ (by assumption)) (by first | decide | simp only [List.mem_cons, List.not_mem_nil, or_false, forall_eq_or_imp, forall_eq, true_or, or_true, and_self, eq_self_iff_true]) ?_ | with_reducible refine Fr.tr (w_X12_readBeast _ _ _ (by assumption)) (by first | decide | simp only [List.mem_cons, List.not_mem_nil, or_false, forall_eq_or_imp, forall_eq, true_or, or_true, and_self, eq_self_iff_true]) ?_ | with_reducible refine Fr.tr (w_X12_readForm _ _ _ (by assumption)) (by first | decide | simp only [List.mem_cons, List.not_mem_nil, or_false, forall_eq_or_imp, forall_eq, true_or, or_true, and_self, eq_self_iff_true]) ?_ | with_reducible refine Fr.tr (w_X12_readHorse _ _ _ (by assumption)) (by first | decide | simp only [List.mem_cons, List.not_mem_nil, or_false, forall_eq_or_imp, forall_eq, true_or, or_true, and_self, eq_self_iff_true]) ?_ | with_reducible refine Fr.tr (w_X12_readRope _ _ _ (by assumption)) (by first | decide | simp only [List.mem_cons, List.not_mem_nil, or_false, forall_eq_or_imp, forall_eq, true_or, or_true, and_self, eq_self_iff_true]) ?_ | with_reducible refine Fr.tr (w_X12_readRule _ _ _ (by assumption)) (by first | decide | simp only [List.mem_cons, List.not_mem_nil, or_false, forall_eq_or_imp, forall_eq, true_or, or_true, and_self, eq_self_iff_true]) ?_ | with_reducible refine Fr.tr (wL_X12_way_30 _ _ _ _ (by assumption)) (by first | decide | simp only [List.mem_cons, List.not_mem_nil, or_false, forall_eq_or_imp, forall_eq, true_or, or_true, and_self, eq_self_iff_true]) ?_ | with_reducible refine Fr.tr (wL_X12_way_96 _ _ _ _ (by assumption)) (by first | decide | simp only [List.mem_cons, List.not_mem_nil, or_false, forall_eq_or_imp, forall_eq, true_or, or_true, and_self, eq_self_iff_true]) ?_ | with_reducible refine Fr.tr (wL_X12_way_114 _ _ _ _ (by assumption)) (by first | decide | simp only [List.mem_cons, List.not_mem_nil, or_false, forall_eq_or_imp, forall_eq, true_or, or_true, and_self, eq_self_iff_true]) ?_ | with_reducible refine Fr.tr (wL_X12_way_132 _ _ _ _ (by assumption)) (by first | decide | simp only [List.mem_cons, List.not_mem_nil, or_false, forall_eq_or_imp, forall_eq, true_or, or_true, and_self, eq_self_iff_true]) ?_ | with_reducible refine Fr.tr (wL_X12_way_150 _ _ _ _ (by assumption)) (by first | decide | simp only [List.mem_cons, List.not_mem_nil, or_false, forall_eq_or_imp, forall_eq, true_or, or_true, and_self, eq_self_iff_true]) ?_)
theorem wL_X12_way_183 (n : Nat) (S : HSt) (v1 : Int32) (r : Int32 × HSt) (e : L_X12_way_183 n S v1 = r) : Fr [(64, 12), (64, 13), (64, 14), (64, 15), (64, 16), (64, 17), (69, 1000)] S r.2 := by
  rw [← e]
  exact vL_X12_way_183 n S v1
set_option maxRecDepth 100000 in
theorem l_X12_way_183 {p : Program} {l : Launch} {e : Env} {s : State} {m : MethodId} {args : Array Value} {below : List Frame} {meth : Method} {c : Code} {G : GG} {Q : State → Prop} (hC : ACx p s m args meth c cX12_way RX12 2 (some .long)) (hSt : St G s)  : ∀ (n : Nat) (S : HSt) (v1 : Int32), MS S → T_X12_way_183 n S v1 → AW p l e (rmD 5 0 0) s m args below meth c G 2 Q (L_X12_way_183 n S v1).2 0 0 205 [(0, .ref 64), (1, .int (L_X12_way_183 n S v1).1)] [] → AW p l e (rmD 5 0 0) s m args below meth c G 2 Q S 0 0 183 [(0, .ref 64), (1, .int v1)] [] := by
  intro n
  induction n with
  | zero => intro S v1 _ hT; exact hT.elim
  | succ n ih =>
    intro S v1 hM hT hk
    unfold T_X12_way_183 at hT
    obtain ⟨h0, h1⟩ := hT
    refine aw_aload_n hC 0 dX12_way_183 rfl rfl ?_
    refine aw_getI hC hSt 16 (ms_lt 64 (by decide) hM) (ms_k 64 12 0 (by decide) hM) rfl (by decide) w_988 rfl dX12_way_184 ?_
    refine aw_if_ne hC 205 dX12_way_187 (by decide) (fun c1021 => ?_) (fun c1021 => ?_)
    · refine aw_sub [0, 1] rfl ?_
      have E : L_X12_way_183 (n + 1) S v1 = _ := (if_neg c1021).trans (rfl)
      rw [E] at hk
      exact hk
    · refine aw_aload_n hC 0 dX12_way_190 rfl rfl ?_
      refine aw_getI hC hSt 13 (ms_lt 64 (by decide) hM) (ms_k 64 12 0 (by decide) hM) rfl (by decide) w_978 rfl dX12_way_191 ?_
      refine aw_iconst (v := 1) hC dX12_way_194 (by decide) ?_
      refine aw_icmp_eq hC 205 dX12_way_195 (by decide) (fun c1022 => ?_) (fun c1022 => ?_)
      · refine aw_sub [0, 1] rfl ?_
        have E : L_X12_way_183 (n + 1) S v1 = _ := (if_pos c1021).trans ((if_pos c1022).trans (rfl))
        rw [E] at hk
        exact hk
      · refine aw_aload_n hC 0 dX12_way_198 rfl rfl ?_
        refine aw_cV0v hC hSt (t_X12_readAct G l hM  (h0 c1021 c1022)) w_1030 w_1068 w_1069 w_1070 w_953 rfl rfl (by decide +kernel) ⟨Nat.le_of_ble_eq_true rfl, Nat.le_of_ble_eq_true rfl⟩ (ms_lt 64 (by decide) hM) (ms_k 64 12 0 (by decide) hM) rfl (Nat.le_of_ble_eq_true rfl) dX12_way_199 ⟨Nat.zero_le _, Nat.zero_le _⟩ ?_
        generalize er1023 : f_X12_readAct S 64 = r1023
        have hM : MS r1023 := MS.of (by rw [← er1023]; exact q_X12_readAct _ _) hM
        refine aw_goto hC 183 dX12_way_202 (by decide) ?_
        refine aw_sub [0, 1] rfl ?_
        have hTn := (h1 c1021 c1022 r1023 er1023)
        have hMn : MS r1023 := hM
        have E : L_X12_way_183 (n + 1) S v1 = _ := (if_pos c1021).trans ((if_neg c1022).trans ((bd_eq er1023).trans (rfl)))
        rw [E] at hk
        exact ih _ _ hMn hTn hk
noncomputable def L_X12_way_232 : Nat → HSt → Int32 → Int32 × HSt
  | 0, S, v1 => (v1, S)
  | n + 1, S, v1 =>
    if (172 : Int32) ≤ v1 then ((pr (v1) (S))) else (bd ((sI S 68 v1.toNatClampNeg (gI S 69 v1.toNatClampNeg))) fun S1024 => L_X12_way_232 n S1024 (v1 + (1 : Int32)))
def T_X12_way_232 : Nat → HSt → Int32 → Prop
  | 0, _, _ => False
  | n + 1, S, v1 => ((¬ (172 : Int32) ≤ v1) → vp_in v1 172) ∧ ((¬ (172 : Int32) ≤ v1) → vp_in v1 172) ∧ ((¬ (172 : Int32) ≤ v1) → ∀ S1024 : HSt, (sI S 68 v1.toNatClampNeg (gI S 69 v1.toNatClampNeg)) = S1024 → T_X12_way_232 n S1024 (v1 + (1 : Int32)))
theorem qL_X12_way_232 : ∀ (n : Nat) (S : HSt) (v1 : Int32), shp (L_X12_way_232 n S v1).2 = shp S := by
  intro n
  induction n with
  | zero => intros; rfl
  | succ n ih =>
    intro S v1
    unfold L_X12_way_232
    repeat' (first | with_reducible refine shpr1 ?_ | with_reducible rfl | with_reducible refine (ih _ _).trans ?_ | with_reducible refine (q_X12_bad _ _ _).trans ?_ | with_reducible refine (q_X12_first _ _).trans ?_ | with_reducible refine (q_X12_keepLive _ _).trans ?_ | with_reducible refine (q_X12_next _ _).trans ?_ | with_reducible refine (q_X12_readAct _ _).trans ?_ | with_reducible refine (q_X12_readBeast _ _).trans ?_ | with_reducible refine (q_X12_readForm _ _).trans ?_ | with_reducible refine (q_X12_readHorse _ _).trans ?_ | with_reducible refine (q_X12_readRope _ _).trans ?_ | with_reducible refine (q_X12_readRule _ _).trans ?_ | with_reducible refine (qL_X12_way_30 _ _ _).trans ?_ | with_reducible refine (qL_X12_way_96 _ _ _).trans ?_ | with_reducible refine (qL_X12_way_114 _ _ _).trans ?_ | with_reducible refine (qL_X12_way_132 _ _ _).trans ?_ | with_reducible refine (qL_X12_way_150 _ _ _).trans ?_ | with_reducible refine (qL_X12_way_183 _ _ _).trans ?_ | with_reducible refine (shp_sI _ _ _ _).trans ?_ | with_reducible refine (shp_sJ _ _ _ _).trans ?_ | with_reducible refine shi ?_ ?_ | with_reducible refine shb (fun _ _ => ?_) | with_reducible refine shiP (fun q : Int32 × HSt => q.2) ?_ ?_ | with_reducible refine shbP (fun q : Int32 × HSt => q.2) (fun _ _ => ?_) | (subst_vars; with_reducible rfl) | (subst_vars; with_reducible refine (ih _ _).trans ?_) | (subst_vars; with_reducible refine (q_X12_bad _ _ _).trans ?_) | (subst_vars; with_reducible refine (q_X12_first _ _).trans ?_) | (subst_vars; with_reducible refine (q_X12_keepLive _ _).trans ?_) | (subst_vars; with_reducible refine (q_X12_next _ _).trans ?_) | (subst_vars; with_reducible refine (q_X12_readAct _ _).trans ?_) | (subst_vars; with_reducible refine (q_X12_readBeast _ _).trans ?_) | (subst_vars; with_reducible refine (q_X12_readForm _ _).trans ?_) | (subst_vars; with_reducible refine (q_X12_readHorse _ _).trans ?_) | (subst_vars; with_reducible refine (q_X12_readRope _ _).trans ?_) | (subst_vars; with_reducible refine (q_X12_readRule _ _).trans ?_) | (subst_vars; with_reducible refine (qL_X12_way_30 _ _ _).trans ?_) | (subst_vars; with_reducible refine (qL_X12_way_96 _ _ _).trans ?_) | (subst_vars; with_reducible refine (qL_X12_way_114 _ _ _).trans ?_) | (subst_vars; with_reducible refine (qL_X12_way_132 _ _ _).trans ?_) | (subst_vars; with_reducible refine (qL_X12_way_150 _ _ _).trans ?_) | (subst_vars; with_reducible refine (qL_X12_way_183 _ _ _).trans ?_) | (subst_vars; with_reducible refine (shp_sI _ _ _ _).trans ?_) | (subst_vars; with_reducible refine (shp_sJ _ _ _ _).trans ?_) | (subst_vars; with_reducible refine shi ?_ ?_) | (subst_vars; with_reducible refine shb (fun _ _ => ?_)))
theorem vL_X12_way_232 : ∀ (n : Nat) (S : HSt) (v1 : Int32), Fr [(68, 1000)] S (L_X12_way_232 n S v1).2 := by
  intro n
  induction n with
  | zero => intros; exact Fr.refl _ _
  | succ n ih =>
    intro S v1
    unfold L_X12_way_232
    repeat' (first | with_reducible refine frpr1 ?_ | with_reducible exact Fr.refl _ _ | with_reducible refine Fr.lP (fun q : Int32 × HSt => q.2) (fun _ _ => ?_) | with_reducible refine Fr.iteP (fun q : Int32 × HSt => q.2) ?_ ?_ | with_reducible refine Fr.l1 (fun _ _ => ?_) | with_reducible refine Fr.ite ?_ ?_ | with_reducible refine Fr.sE (by assumption) (by first | decide | simp only [List.mem_cons, List.not_mem_nil, or_false, true_or, or_true, eq_self_iff_true]) ?_ | with_reducible refine Fr.jE (by assumption) ?_ | with_reducible refine Fr.rE (by assumption) (by first | decide | simp only [List.mem_cons, List.not_mem_nil, or_false, true_or, or_true, eq_self_iff_true]) ?_ | with_reducible refine Fr.iE (by assumption) ?_ ?_ | with_reducible refine Fr.tr (ih _ _) (by first | decide | simp only [List.mem_cons, List.not_mem_nil, or_false, forall_eq_or_imp, forall_eq, true_or, or_true, and_self, eq_self_iff_true]) ?_ | with_reducible refine Fr.tr (w_X12_bad _ _ _ _ (by assumption)) (by first | decide | simp only [List.mem_cons, List.not_mem_nil, or_false, forall_eq_or_imp, forall_eq, true_or, or_true, and_self, eq_self_iff_true]) ?_ | with_reducible refine Fr.tr (w_X12_first _ _ _ (by assumption)) (by first | decide | simp only [List.mem_cons, List.not_mem_nil, or_false, forall_eq_or_imp, forall_eq, true_or, or_true, and_self, eq_self_iff_true]) ?_ | with_reducible refine Fr.tr (w_X12_keepLive _ _ _ (by assumption)) (by first | decide | simp only [List.mem_cons, List.not_mem_nil, or_false, forall_eq_or_imp, forall_eq, true_or, or_true, and_self, eq_self_iff_true]) ?_ | with_reducible refine Fr.tr (w_X12_next _ _ _ (by assumption)) (by first | decide | simp only [List.mem_cons, List.not_mem_nil, or_false, forall_eq_or_imp, forall_eq, true_or, or_true, and_self, eq_self_iff_true]) ?_ | with_reducible refine Fr.tr (w_X12_readAct _ _ _ (by assumption)) (by first | decide | simp only [List.mem_cons, List.not_mem_nil, or_false, forall_eq_or_imp, forall_eq, true_or, or_true, and_self, eq_self_iff_true]) ?_ | with_reducible refine Fr.tr (w_X12_readBeast _ _ _ (by assumption)) (by first | decide | simp only [List.mem_cons, List.not_mem_nil, or_false, forall_eq_or_imp, forall_eq, true_or, or_true, and_self, eq_self_iff_true]) ?_ | with_reducible refine Fr.tr (w_X12_readForm _ _ _ (by assumption)) (by first | decide | simp only [List.mem_cons, List.not_mem_nil, or_false, forall_eq_or_imp, forall_eq, true_or, or_true, and_self, eq_self_iff_true]) ?_ | with_reducible refine Fr.tr (w_X12_readHorse _ _ _ (by assumption)) (by first | decide | simp only [List.mem_cons, List.not_mem_nil, or_false, forall_eq_or_imp, forall_eq, true_or, or_true, and_self, eq_self_iff_true]) ?_ | with_reducible refine Fr.tr (w_X12_readRope _ _ _ (by assumption)) (by first | decide | simp only [List.mem_cons, List.not_mem_nil, or_false, forall_eq_or_imp, forall_eq, true_or, or_true, and_self, eq_self_iff_true]) ?_ | with_reducible refine Fr.tr (w_X12_readRule _ _ _ (by assumption)) (by first | decide | simp only [List.mem_cons, List.not_mem_nil, or_false, forall_eq_or_imp, forall_eq, true_or, or_true, and_self, eq_self_iff_true]) ?_ | with_reducible refine Fr.tr (wL_X12_way_30 _ _ _ _ (by assumption)) (by first | decide | simp only [List.mem_cons, List.not_mem_nil, or_false, forall_eq_or_imp, forall_eq, true_or, or_true, and_self, eq_self_iff_true]) ?_ | with_reducible refine Fr.tr (wL_X12_way_96 _ _ _ _ (by assumption)) (by first | decide | simp only [List.mem_cons, List.not_mem_nil, or_false, forall_eq_or_imp, forall_eq, true_or, or_true, and_self, eq_self_iff_true]) ?_ | with_reducible refine Fr.tr (wL_X12_way_114 _ _ _ _ (by assumption)) (by first | decide | simp only [List.mem_cons, List.not_mem_nil, or_false, forall_eq_or_imp, forall_eq, true_or, or_true, and_self, eq_self_iff_true]) ?_ | with_reducible refine Fr.tr (wL_X12_way_132 _ _ _ _ (by assumption)) (by first | decide | simp only [List.mem_cons, List.not_mem_nil, or_false, forall_eq_or_imp, forall_eq, true_or, or_true, and_self, eq_self_iff_true]) ?_ | with_reducible refine Fr.tr (wL_X12_way_150 _ _ _ _ (by assumption)) (by first | decide | simp only [List.mem_cons, List.not_mem_nil, or_false, forall_eq_or_imp, forall_eq, true_or, or_true, and_self, eq_self_iff_true]) ?_ | with_reducible refine Fr.tr (wL_X12_way_183 _ _ _ _ (by assumption)) (by first | decide | simp only [List.mem_cons, List.not_mem_nil, or_false, forall_eq_or_imp, forall_eq, true_or, or_true, and_self, eq_self_iff_true]) ?_)
theorem wL_X12_way_232 (n : Nat) (S : HSt) (v1 : Int32) (r : Int32 × HSt) (e : L_X12_way_232 n S v1 = r) : Fr [(68, 1000)] S r.2 := by
  rw [← e]
  exact vL_X12_way_232 n S v1
set_option maxRecDepth 100000 in
theorem l_X12_way_232 {p : Program} {l : Launch} {e : Env} {s : State} {m : MethodId} {args : Array Value} {below : List Frame} {meth : Method} {c : Code} {G : GG} {Q : State → Prop} (hC : ACx p s m args meth c cX12_way RX12 2 (some .long)) (hSt : St G s)  : ∀ (n : Nat) (S : HSt) (v1 : Int32), MS S → T_X12_way_232 n S v1 → AW p l e (rmD 5 0 0) s m args below meth c G 2 Q (L_X12_way_232 n S v1).2 0 0 257 [(0, .ref 64), (1, .int (L_X12_way_232 n S v1).1)] [] → AW p l e (rmD 5 0 0) s m args below meth c G 2 Q S 0 0 232 [(0, .ref 64), (1, .int v1)] [] := by
  intro n
  induction n with
  | zero => intro S v1 _ hT; exact hT.elim
  | succ n ih =>
    intro S v1 hM hT hk
    unfold T_X12_way_232 at hT
    obtain ⟨h0, h1, h2⟩ := hT
    refine aw_iload_n hC 1 dX12_way_232 rfl rfl ?_
    refine aw_sipush (v := 172) hC dX12_way_233 (by decide) ?_
    refine aw_icmp_ge hC 257 dX12_way_236 (by decide) (fun c1023 => ?_) (fun c1023 => ?_)
    · refine aw_sub [0, 1] rfl ?_
      have E : L_X12_way_232 (n + 1) S v1 = _ := (if_pos c1023).trans (rfl)
      rw [E] at hk
      exact hk
    · refine aw_aload_n hC 0 dX12_way_239 rfl rfl ?_
      refine aw_getP (b := 68) hC hSt 5 (ms_lt 64 (by decide) hM) (ms_k 64 12 0 (by decide) hM) rfl (by decide) w_920 rfl (ms_p 5 68 (by decide) hM) dX12_way_240 ?_
      refine aw_iload_n hC 1 dX12_way_243 rfl rfl ?_
      refine aw_aload_n hC 0 dX12_way_244 rfl rfl ?_
      refine aw_getP (b := 69) hC hSt 6 (ms_lt 64 (by decide) hM) (ms_k 64 12 0 (by decide) hM) rfl (by decide) w_921 rfl (ms_p 6 69 (by decide) hM) dX12_way_245 ?_
      refine aw_iload_n hC 1 dX12_way_248 rfl rfl ?_
      refine aw_iald hC hSt (ms_lt 69 (by decide) hM) (ms_k 69 14 172 (by decide) hM) (vp_len (n := 172) (ms_l 69 14 172 (by decide) hM) (h0 c1023)) dX12_way_249 ?_
      refine aw_iast hC hSt (ms_lt 68 (by decide) hM) (ms_k 68 14 172 (by decide) hM) (vp_len (n := 172) (ms_l 68 14 172 (by decide) hM) (h1 c1023)) dX12_way_250 ?_
      generalize eS1024 : (sI S 68 v1.toNatClampNeg (gI S 69 v1.toNatClampNeg)) = S1024
      have hM : MS S1024 := MS.of (by rw [← eS1024]; exact shp_sI _ _ _ _) hM
      refine aw_iinc (v := (v1 + (1 : Int32))) hC 1 [(1, .int _), (0, .ref 64)] dX12_way_251 rfl rfl (by decide) rfl ?_
      refine aw_goto hC 232 dX12_way_254 (by decide) ?_
      refine aw_sub [1, 0] rfl ?_
      have hTn := (h2 c1023 S1024 eS1024)
      have hMn : MS S1024 := hM
      have E : L_X12_way_232 (n + 1) S v1 = _ := (if_neg c1023).trans ((bd_eq eS1024).trans (rfl))
      rw [E] at hk
      exact ih _ _ hMn hTn hk
noncomputable def f_X12_way (S : HSt) (_o : Nat)  : Int64 × HSt := bd ((sI S 64 0 (0 : Int32))) fun S1 => bd ((sI S1 64 11 (gI S1 64 9))) fun S2 => bd ((sI S2 64 9 (0 : Int32))) fun S3 => bd ((sI S3 64 12 (0 : Int32))) fun S4 => bd ((sI S4 64 16 (0 : Int32))) fun S5 => bd (L_X12_way_30 1000 S5 (0 : Int32)) fun r6 => bd ((sI r6.2 69 (68 : Int32).toNatClampNeg (200 : Int32))) fun S7 => bd ((sI S7 69 (69 : Int32).toNatClampNeg (1 : Int32))) fun S8 => bd ((sI S8 69 (70 : Int32).toNatClampNeg (1 : Int32))) fun S9 => bd (f_X12_next S9 64) fun r10 => bd ((if (lg_cmp (f_X12_word r10 64) (1919905893 : Int64)) = 0 then r10 else (bd (f_X12_bad r10 64 (1 : Int32)) fun r12 => r12))) fun S13 => bd (L_X12_way_96 1000 S13 r6.1) fun r14 => bd (L_X12_way_114 1000 r14.2 r14.1) fun r15 => bd (L_X12_way_132 1000 r15.2 r15.1) fun r16 => bd (L_X12_way_150 1000 r16.2 r16.1) fun r17 => bd ((if (lg_cmp (f_X12_word r17.2 64) (1920298085 : Int64)) = 0 then (bd (f_X12_readRule r17.2 64) fun r19 => r19) else r17.2)) fun S20 => bd (L_X12_way_183 1000 S20 r17.1) fun r21 => if (gI r21.2 64 16) ≤ 0 then (bd (L_X12_way_232 1000 r21.2 (0 : Int32)) fun r23 => bd ((sI r23.2 64 7 (1 : Int32))) fun S24 => bd ((sI S24 64 18 (0 : Int32))) fun S25 => bd ((if (gI S25 68 (1 : Int32).toNatClampNeg) ≤ 0 then (-1000000 : Int32) else (0 : Int32))) fun x27 => bd ((sI S25 64 19 x27)) fun S28 => bd (f_X12_first S28 64) fun r29 => bd (f_X12_keepLive r29 64) fun r30 => pr ((gI r30 68 (5 : Int32).toNatClampNeg).toInt64) (r30)) else (bd ((sI r21.2 64 10 (gI r21.2 64 16))) fun S31 => pr (((-9000000000000000100 : Int64) - (gI S31 64 17).toInt64)) (S31))
def p_X12_way (S : HSt) (_o : Nat)  : Prop := (∀ S1 : HSt, (sI S 64 0 (0 : Int32)) = S1 → ∀ S2 : HSt, (sI S1 64 11 (gI S1 64 9)) = S2 → ∀ S3 : HSt, (sI S2 64 9 (0 : Int32)) = S3 → ∀ S4 : HSt, (sI S3 64 12 (0 : Int32)) = S4 → ∀ S5 : HSt, (sI S4 64 16 (0 : Int32)) = S5 → T_X12_way_30 1000 S5 (0 : Int32)) ∧ (∀ S1 : HSt, (sI S 64 0 (0 : Int32)) = S1 → ∀ S2 : HSt, (sI S1 64 11 (gI S1 64 9)) = S2 → ∀ S3 : HSt, (sI S2 64 9 (0 : Int32)) = S3 → ∀ S4 : HSt, (sI S3 64 12 (0 : Int32)) = S4 → ∀ S5 : HSt, (sI S4 64 16 (0 : Int32)) = S5 → ∀ r6, L_X12_way_30 1000 S5 (0 : Int32) = r6 → ∀ S7 : HSt, (sI r6.2 69 (68 : Int32).toNatClampNeg (200 : Int32)) = S7 → ∀ S8 : HSt, (sI S7 69 (69 : Int32).toNatClampNeg (1 : Int32)) = S8 → ∀ S9 : HSt, (sI S8 69 (70 : Int32).toNatClampNeg (1 : Int32)) = S9 → p_X12_next S9 64) ∧ (∀ S1 : HSt, (sI S 64 0 (0 : Int32)) = S1 → ∀ S2 : HSt, (sI S1 64 11 (gI S1 64 9)) = S2 → ∀ S3 : HSt, (sI S2 64 9 (0 : Int32)) = S3 → ∀ S4 : HSt, (sI S3 64 12 (0 : Int32)) = S4 → ∀ S5 : HSt, (sI S4 64 16 (0 : Int32)) = S5 → ∀ r6, L_X12_way_30 1000 S5 (0 : Int32) = r6 → ∀ S7 : HSt, (sI r6.2 69 (68 : Int32).toNatClampNeg (200 : Int32)) = S7 → ∀ S8 : HSt, (sI S7 69 (69 : Int32).toNatClampNeg (1 : Int32)) = S8 → ∀ S9 : HSt, (sI S8 69 (70 : Int32).toNatClampNeg (1 : Int32)) = S9 → ∀ r10, f_X12_next S9 64 = r10 → p_X12_word r10 64) ∧ (∀ S1 : HSt, (sI S 64 0 (0 : Int32)) = S1 → ∀ S2 : HSt, (sI S1 64 11 (gI S1 64 9)) = S2 → ∀ S3 : HSt, (sI S2 64 9 (0 : Int32)) = S3 → ∀ S4 : HSt, (sI S3 64 12 (0 : Int32)) = S4 → ∀ S5 : HSt, (sI S4 64 16 (0 : Int32)) = S5 → ∀ r6, L_X12_way_30 1000 S5 (0 : Int32) = r6 → ∀ S7 : HSt, (sI r6.2 69 (68 : Int32).toNatClampNeg (200 : Int32)) = S7 → ∀ S8 : HSt, (sI S7 69 (69 : Int32).toNatClampNeg (1 : Int32)) = S8 → ∀ S9 : HSt, (sI S8 69 (70 : Int32).toNatClampNeg (1 : Int32)) = S9 → ∀ r10, f_X12_next S9 64 = r10 → ∀ S13 : HSt, (if (lg_cmp (f_X12_word r10 64) (1919905893 : Int64)) = 0 then r10 else (bd (f_X12_bad r10 64 (1 : Int32)) fun r12 => r12)) = S13 → T_X12_way_96 1000 S13 r6.1) ∧ (∀ S1 : HSt, (sI S 64 0 (0 : Int32)) = S1 → ∀ S2 : HSt, (sI S1 64 11 (gI S1 64 9)) = S2 → ∀ S3 : HSt, (sI S2 64 9 (0 : Int32)) = S3 → ∀ S4 : HSt, (sI S3 64 12 (0 : Int32)) = S4 → ∀ S5 : HSt, (sI S4 64 16 (0 : Int32)) = S5 → ∀ r6, L_X12_way_30 1000 S5 (0 : Int32) = r6 → ∀ S7 : HSt, (sI r6.2 69 (68 : Int32).toNatClampNeg (200 : Int32)) = S7 → ∀ S8 : HSt, (sI S7 69 (69 : Int32).toNatClampNeg (1 : Int32)) = S8 → ∀ S9 : HSt, (sI S8 69 (70 : Int32).toNatClampNeg (1 : Int32)) = S9 → ∀ r10, f_X12_next S9 64 = r10 → ∀ S13 : HSt, (if (lg_cmp (f_X12_word r10 64) (1919905893 : Int64)) = 0 then r10 else (bd (f_X12_bad r10 64 (1 : Int32)) fun r12 => r12)) = S13 → ∀ r14, L_X12_way_96 1000 S13 r6.1 = r14 → T_X12_way_114 1000 r14.2 r14.1) ∧ (∀ S1 : HSt, (sI S 64 0 (0 : Int32)) = S1 → ∀ S2 : HSt, (sI S1 64 11 (gI S1 64 9)) = S2 → ∀ S3 : HSt, (sI S2 64 9 (0 : Int32)) = S3 → ∀ S4 : HSt, (sI S3 64 12 (0 : Int32)) = S4 → ∀ S5 : HSt, (sI S4 64 16 (0 : Int32)) = S5 → ∀ r6, L_X12_way_30 1000 S5 (0 : Int32) = r6 → ∀ S7 : HSt, (sI r6.2 69 (68 : Int32).toNatClampNeg (200 : Int32)) = S7 → ∀ S8 : HSt, (sI S7 69 (69 : Int32).toNatClampNeg (1 : Int32)) = S8 → ∀ S9 : HSt, (sI S8 69 (70 : Int32).toNatClampNeg (1 : Int32)) = S9 → ∀ r10, f_X12_next S9 64 = r10 → ∀ S13 : HSt, (if (lg_cmp (f_X12_word r10 64) (1919905893 : Int64)) = 0 then r10 else (bd (f_X12_bad r10 64 (1 : Int32)) fun r12 => r12)) = S13 → ∀ r14, L_X12_way_96 1000 S13 r6.1 = r14 → ∀ r15, L_X12_way_114 1000 r14.2 r14.1 = r15 → T_X12_way_132 1000 r15.2 r15.1) ∧ (∀ S1 : HSt, (sI S 64 0 (0 : Int32)) = S1 → ∀ S2 : HSt, (sI S1 64 11 (gI S1 64 9)) = S2 → ∀ S3 : HSt, (sI S2 64 9 (0 : Int32)) = S3 → ∀ S4 : HSt, (sI S3 64 12 (0 : Int32)) = S4 → ∀ S5 : HSt, (sI S4 64 16 (0 : Int32)) = S5 → ∀ r6, L_X12_way_30 1000 S5 (0 : Int32) = r6 → ∀ S7 : HSt, (sI r6.2 69 (68 : Int32).toNatClampNeg (200 : Int32)) = S7 → ∀ S8 : HSt, (sI S7 69 (69 : Int32).toNatClampNeg (1 : Int32)) = S8 → ∀ S9 : HSt, (sI S8 69 (70 : Int32).toNatClampNeg (1 : Int32)) = S9 → ∀ r10, f_X12_next S9 64 = r10 → ∀ S13 : HSt, (if (lg_cmp (f_X12_word r10 64) (1919905893 : Int64)) = 0 then r10 else (bd (f_X12_bad r10 64 (1 : Int32)) fun r12 => r12)) = S13 → ∀ r14, L_X12_way_96 1000 S13 r6.1 = r14 → ∀ r15, L_X12_way_114 1000 r14.2 r14.1 = r15 → ∀ r16, L_X12_way_132 1000 r15.2 r15.1 = r16 → T_X12_way_150 1000 r16.2 r16.1) ∧ (∀ S1 : HSt, (sI S 64 0 (0 : Int32)) = S1 → ∀ S2 : HSt, (sI S1 64 11 (gI S1 64 9)) = S2 → ∀ S3 : HSt, (sI S2 64 9 (0 : Int32)) = S3 → ∀ S4 : HSt, (sI S3 64 12 (0 : Int32)) = S4 → ∀ S5 : HSt, (sI S4 64 16 (0 : Int32)) = S5 → ∀ r6, L_X12_way_30 1000 S5 (0 : Int32) = r6 → ∀ S7 : HSt, (sI r6.2 69 (68 : Int32).toNatClampNeg (200 : Int32)) = S7 → ∀ S8 : HSt, (sI S7 69 (69 : Int32).toNatClampNeg (1 : Int32)) = S8 → ∀ S9 : HSt, (sI S8 69 (70 : Int32).toNatClampNeg (1 : Int32)) = S9 → ∀ r10, f_X12_next S9 64 = r10 → ∀ S13 : HSt, (if (lg_cmp (f_X12_word r10 64) (1919905893 : Int64)) = 0 then r10 else (bd (f_X12_bad r10 64 (1 : Int32)) fun r12 => r12)) = S13 → ∀ r14, L_X12_way_96 1000 S13 r6.1 = r14 → ∀ r15, L_X12_way_114 1000 r14.2 r14.1 = r15 → ∀ r16, L_X12_way_132 1000 r15.2 r15.1 = r16 → ∀ r17, L_X12_way_150 1000 r16.2 r16.1 = r17 → p_X12_word r17.2 64) ∧ (∀ S1 : HSt, (sI S 64 0 (0 : Int32)) = S1 → ∀ S2 : HSt, (sI S1 64 11 (gI S1 64 9)) = S2 → ∀ S3 : HSt, (sI S2 64 9 (0 : Int32)) = S3 → ∀ S4 : HSt, (sI S3 64 12 (0 : Int32)) = S4 → ∀ S5 : HSt, (sI S4 64 16 (0 : Int32)) = S5 → ∀ r6, L_X12_way_30 1000 S5 (0 : Int32) = r6 → ∀ S7 : HSt, (sI r6.2 69 (68 : Int32).toNatClampNeg (200 : Int32)) = S7 → ∀ S8 : HSt, (sI S7 69 (69 : Int32).toNatClampNeg (1 : Int32)) = S8 → ∀ S9 : HSt, (sI S8 69 (70 : Int32).toNatClampNeg (1 : Int32)) = S9 → ∀ r10, f_X12_next S9 64 = r10 → ∀ S13 : HSt, (if (lg_cmp (f_X12_word r10 64) (1919905893 : Int64)) = 0 then r10 else (bd (f_X12_bad r10 64 (1 : Int32)) fun r12 => r12)) = S13 → ∀ r14, L_X12_way_96 1000 S13 r6.1 = r14 → ∀ r15, L_X12_way_114 1000 r14.2 r14.1 = r15 → ∀ r16, L_X12_way_132 1000 r15.2 r15.1 = r16 → ∀ r17, L_X12_way_150 1000 r16.2 r16.1 = r17 → ((lg_cmp (f_X12_word r17.2 64) (1920298085 : Int64)) = 0) → p_X12_readRule r17.2 64) ∧ (∀ S1 : HSt, (sI S 64 0 (0 : Int32)) = S1 → ∀ S2 : HSt, (sI S1 64 11 (gI S1 64 9)) = S2 → ∀ S3 : HSt, (sI S2 64 9 (0 : Int32)) = S3 → ∀ S4 : HSt, (sI S3 64 12 (0 : Int32)) = S4 → ∀ S5 : HSt, (sI S4 64 16 (0 : Int32)) = S5 → ∀ r6, L_X12_way_30 1000 S5 (0 : Int32) = r6 → ∀ S7 : HSt, (sI r6.2 69 (68 : Int32).toNatClampNeg (200 : Int32)) = S7 → ∀ S8 : HSt, (sI S7 69 (69 : Int32).toNatClampNeg (1 : Int32)) = S8 → ∀ S9 : HSt, (sI S8 69 (70 : Int32).toNatClampNeg (1 : Int32)) = S9 → ∀ r10, f_X12_next S9 64 = r10 → ∀ S13 : HSt, (if (lg_cmp (f_X12_word r10 64) (1919905893 : Int64)) = 0 then r10 else (bd (f_X12_bad r10 64 (1 : Int32)) fun r12 => r12)) = S13 → ∀ r14, L_X12_way_96 1000 S13 r6.1 = r14 → ∀ r15, L_X12_way_114 1000 r14.2 r14.1 = r15 → ∀ r16, L_X12_way_132 1000 r15.2 r15.1 = r16 → ∀ r17, L_X12_way_150 1000 r16.2 r16.1 = r17 → ∀ S20 : HSt, (if (lg_cmp (f_X12_word r17.2 64) (1920298085 : Int64)) = 0 then (bd (f_X12_readRule r17.2 64) fun r19 => r19) else r17.2) = S20 → T_X12_way_183 1000 S20 r17.1) ∧ (∀ S1 : HSt, (sI S 64 0 (0 : Int32)) = S1 → ∀ S2 : HSt, (sI S1 64 11 (gI S1 64 9)) = S2 → ∀ S3 : HSt, (sI S2 64 9 (0 : Int32)) = S3 → ∀ S4 : HSt, (sI S3 64 12 (0 : Int32)) = S4 → ∀ S5 : HSt, (sI S4 64 16 (0 : Int32)) = S5 → ∀ r6, L_X12_way_30 1000 S5 (0 : Int32) = r6 → ∀ S7 : HSt, (sI r6.2 69 (68 : Int32).toNatClampNeg (200 : Int32)) = S7 → ∀ S8 : HSt, (sI S7 69 (69 : Int32).toNatClampNeg (1 : Int32)) = S8 → ∀ S9 : HSt, (sI S8 69 (70 : Int32).toNatClampNeg (1 : Int32)) = S9 → ∀ r10, f_X12_next S9 64 = r10 → ∀ S13 : HSt, (if (lg_cmp (f_X12_word r10 64) (1919905893 : Int64)) = 0 then r10 else (bd (f_X12_bad r10 64 (1 : Int32)) fun r12 => r12)) = S13 → ∀ r14, L_X12_way_96 1000 S13 r6.1 = r14 → ∀ r15, L_X12_way_114 1000 r14.2 r14.1 = r15 → ∀ r16, L_X12_way_132 1000 r15.2 r15.1 = r16 → ∀ r17, L_X12_way_150 1000 r16.2 r16.1 = r17 → ∀ S20 : HSt, (if (lg_cmp (f_X12_word r17.2 64) (1920298085 : Int64)) = 0 then (bd (f_X12_readRule r17.2 64) fun r19 => r19) else r17.2) = S20 → ∀ r21, L_X12_way_183 1000 S20 r17.1 = r21 → ((gI r21.2 64 16) ≤ 0) → T_X12_way_232 1000 r21.2 (0 : Int32)) ∧ (∀ S1 : HSt, (sI S 64 0 (0 : Int32)) = S1 → ∀ S2 : HSt, (sI S1 64 11 (gI S1 64 9)) = S2 → ∀ S3 : HSt, (sI S2 64 9 (0 : Int32)) = S3 → ∀ S4 : HSt, (sI S3 64 12 (0 : Int32)) = S4 → ∀ S5 : HSt, (sI S4 64 16 (0 : Int32)) = S5 → ∀ r6, L_X12_way_30 1000 S5 (0 : Int32) = r6 → ∀ S7 : HSt, (sI r6.2 69 (68 : Int32).toNatClampNeg (200 : Int32)) = S7 → ∀ S8 : HSt, (sI S7 69 (69 : Int32).toNatClampNeg (1 : Int32)) = S8 → ∀ S9 : HSt, (sI S8 69 (70 : Int32).toNatClampNeg (1 : Int32)) = S9 → ∀ r10, f_X12_next S9 64 = r10 → ∀ S13 : HSt, (if (lg_cmp (f_X12_word r10 64) (1919905893 : Int64)) = 0 then r10 else (bd (f_X12_bad r10 64 (1 : Int32)) fun r12 => r12)) = S13 → ∀ r14, L_X12_way_96 1000 S13 r6.1 = r14 → ∀ r15, L_X12_way_114 1000 r14.2 r14.1 = r15 → ∀ r16, L_X12_way_132 1000 r15.2 r15.1 = r16 → ∀ r17, L_X12_way_150 1000 r16.2 r16.1 = r17 → ∀ S20 : HSt, (if (lg_cmp (f_X12_word r17.2 64) (1920298085 : Int64)) = 0 then (bd (f_X12_readRule r17.2 64) fun r19 => r19) else r17.2) = S20 → ∀ r21, L_X12_way_183 1000 S20 r17.1 = r21 → ((gI r21.2 64 16) ≤ 0) → ∀ r23, L_X12_way_232 1000 r21.2 (0 : Int32) = r23 → ∀ S24 : HSt, (sI r23.2 64 7 (1 : Int32)) = S24 → ∀ S25 : HSt, (sI S24 64 18 (0 : Int32)) = S25 → ∀ x27 : Int32, (if (gI S25 68 (1 : Int32).toNatClampNeg) ≤ 0 then (-1000000 : Int32) else (0 : Int32)) = x27 → ∀ S28 : HSt, (sI S25 64 19 x27) = S28 → ∀ r29, f_X12_first S28 64 = r29 → p_X12_keepLive r29 64)
set_option maxRecDepth 100000 in
theorem t_X12_way (G : GG) (l : Launch) {S : HSt} (hM : MS S)  (hp : p_X12_way S 64) : AM G l yX12_way cX12_way 2 (some .long) (rmD 5 0 0) 0 0 [.ref 64] S (FP (some (.long (f_X12_way S 64).1)) ((f_X12_way S 64).2)) := by
  obtain ⟨h0, h1, h2, h3, h4, h5, h6, h7, h8, h9, h10, h11⟩ := hp
  refine AM.mk (by decide) (Nat.le_of_ble_eq_true rfl) ?_
  intro p e s m below meth c hC hSt _
  refine aw_aload_n hC 0 dX12_way_0 rfl rfl ?_
  refine aw_iconst (v := 0) hC dX12_way_1 (by decide) ?_
  refine aw_putI hC hSt 0 (ms_lt 64 (by decide) hM) (ms_k 64 12 0 (by decide) hM) rfl (by decide) w_955 rfl rfl rfl rfl dX12_way_2 ?_
  generalize eS1 : (sI S 64 0 (0 : Int32)) = S1
  have hM : MS S1 := MS.of (by rw [← eS1]; exact shp_sI _ _ _ _) hM
  refine aw_aload_n hC 0 dX12_way_5 rfl rfl ?_
  refine aw_aload_n hC 0 dX12_way_6 rfl rfl ?_
  refine aw_getI hC hSt 9 (ms_lt 64 (by decide) hM) (ms_k 64 12 0 (by decide) hM) rfl (by decide) w_968 rfl dX12_way_7 ?_
  refine aw_putI hC hSt 11 (ms_lt 64 (by decide) hM) (ms_k 64 12 0 (by decide) hM) rfl (by decide) w_972 rfl rfl rfl rfl dX12_way_10 ?_
  generalize eS2 : (sI S1 64 11 (gI S1 64 9)) = S2
  have hM : MS S2 := MS.of (by rw [← eS2]; exact shp_sI _ _ _ _) hM
  refine aw_aload_n hC 0 dX12_way_13 rfl rfl ?_
  refine aw_iconst (v := 0) hC dX12_way_14 (by decide) ?_
  refine aw_putI hC hSt 9 (ms_lt 64 (by decide) hM) (ms_k 64 12 0 (by decide) hM) rfl (by decide) w_968 rfl rfl rfl rfl dX12_way_15 ?_
  generalize eS3 : (sI S2 64 9 (0 : Int32)) = S3
  have hM : MS S3 := MS.of (by rw [← eS3]; exact shp_sI _ _ _ _) hM
  refine aw_aload_n hC 0 dX12_way_18 rfl rfl ?_
  refine aw_iconst (v := 0) hC dX12_way_19 (by decide) ?_
  refine aw_putI hC hSt 12 (ms_lt 64 (by decide) hM) (ms_k 64 12 0 (by decide) hM) rfl (by decide) w_976 rfl rfl rfl rfl dX12_way_20 ?_
  generalize eS4 : (sI S3 64 12 (0 : Int32)) = S4
  have hM : MS S4 := MS.of (by rw [← eS4]; exact shp_sI _ _ _ _) hM
  refine aw_aload_n hC 0 dX12_way_23 rfl rfl ?_
  refine aw_iconst (v := 0) hC dX12_way_24 (by decide) ?_
  refine aw_putI hC hSt 16 (ms_lt 64 (by decide) hM) (ms_k 64 12 0 (by decide) hM) rfl (by decide) w_988 rfl rfl rfl rfl dX12_way_25 ?_
  generalize eS5 : (sI S4 64 16 (0 : Int32)) = S5
  have hM : MS S5 := MS.of (by rw [← eS5]; exact shp_sI _ _ _ _) hM
  refine aw_iconst (v := 0) hC dX12_way_28 (by decide) ?_
  refine aw_istore_n hC [(1, .int _), (0, .ref 64)] dX12_way_29 rfl (by decide) rfl ?_
  refine aw_sub [1, 0] rfl ?_
  refine l_X12_way_30 hC hSt 1000 _ _ hM (h0 S1 eS1 S2 eS2 S3 eS3 S4 eS4 S5 eS5) ?_
  generalize er6 : L_X12_way_30 1000 S5 (0 : Int32) = r6
  have hM : MS r6.2 := MS.of (by rw [← er6]; exact qL_X12_way_30 _ _ _) hM
  refine aw_aload_n hC 0 dX12_way_50 rfl rfl ?_
  refine aw_getP (b := 69) hC hSt 6 (ms_lt 64 (by decide) hM) (ms_k 64 12 0 (by decide) hM) rfl (by decide) w_921 rfl (ms_p 6 69 (by decide) hM) dX12_way_51 ?_
  refine aw_bipush (v := 68) hC dX12_way_54 (by decide) ?_
  refine aw_sipush (v := 200) hC dX12_way_56 (by decide) ?_
  refine aw_iast hC hSt (ms_lt 69 (by decide) hM) (ms_k 69 14 172 (by decide) hM) (vp_len (n := 172) (ms_l 69 14 172 (by decide) hM) (by unfold vp_in; decide)) dX12_way_59 ?_
  generalize eS7 : (sI r6.2 69 (68 : Int32).toNatClampNeg (200 : Int32)) = S7
  have hM : MS S7 := MS.of (by rw [← eS7]; exact shp_sI _ _ _ _) hM
  refine aw_aload_n hC 0 dX12_way_60 rfl rfl ?_
  refine aw_getP (b := 69) hC hSt 6 (ms_lt 64 (by decide) hM) (ms_k 64 12 0 (by decide) hM) rfl (by decide) w_921 rfl (ms_p 6 69 (by decide) hM) dX12_way_61 ?_
  refine aw_bipush (v := 69) hC dX12_way_64 (by decide) ?_
  refine aw_iconst (v := 1) hC dX12_way_66 (by decide) ?_
  refine aw_iast hC hSt (ms_lt 69 (by decide) hM) (ms_k 69 14 172 (by decide) hM) (vp_len (n := 172) (ms_l 69 14 172 (by decide) hM) (by unfold vp_in; decide)) dX12_way_67 ?_
  generalize eS8 : (sI S7 69 (69 : Int32).toNatClampNeg (1 : Int32)) = S8
  have hM : MS S8 := MS.of (by rw [← eS8]; exact shp_sI _ _ _ _) hM
  refine aw_aload_n hC 0 dX12_way_68 rfl rfl ?_
  refine aw_getP (b := 69) hC hSt 6 (ms_lt 64 (by decide) hM) (ms_k 64 12 0 (by decide) hM) rfl (by decide) w_921 rfl (ms_p 6 69 (by decide) hM) dX12_way_69 ?_
  refine aw_bipush (v := 70) hC dX12_way_72 (by decide) ?_
  refine aw_iconst (v := 1) hC dX12_way_74 (by decide) ?_
  refine aw_iast hC hSt (ms_lt 69 (by decide) hM) (ms_k 69 14 172 (by decide) hM) (vp_len (n := 172) (ms_l 69 14 172 (by decide) hM) (by unfold vp_in; decide)) dX12_way_75 ?_
  generalize eS9 : (sI S8 69 (70 : Int32).toNatClampNeg (1 : Int32)) = S9
  have hM : MS S9 := MS.of (by rw [← eS9]; exact shp_sI _ _ _ _) hM
  refine aw_aload_n hC 0 dX12_way_76 rfl rfl ?_
  refine aw_cV0v hC hSt (t_X12_next G l hM  (h1 S1 eS1 S2 eS2 S3 eS3 S4 eS4 S5 eS5 r6 er6 S7 eS7 S8 eS8 S9 eS9)) w_975 w_993 w_994 w_995 w_953 rfl rfl (by decide +kernel) ⟨Nat.le_of_ble_eq_true rfl, Nat.le_of_ble_eq_true rfl⟩ (ms_lt 64 (by decide) hM) (ms_k 64 12 0 (by decide) hM) rfl (Nat.le_of_ble_eq_true rfl) dX12_way_77 ⟨Nat.zero_le _, Nat.zero_le _⟩ ?_
  generalize er10 : f_X12_next S9 64 = r10
  have hM : MS r10 := MS.of (by rw [← er10]; exact q_X12_next _ _) hM
  refine aw_aload_n hC 0 dX12_way_80 rfl rfl ?_
  refine aw_cV0r hC hSt (t_X12_word G l hM  (h2 S1 eS1 S2 eS2 S3 eS3 S4 eS4 S5 eS5 r6 er6 S7 eS7 S8 eS8 S9 eS9 r10 er10)) w_997 w_1024 w_1025 w_1026 w_953 rfl rfl (by decide +kernel) ⟨Nat.le_of_ble_eq_true rfl, Nat.le_of_ble_eq_true rfl⟩ (ms_lt 64 (by decide) hM) (ms_k 64 12 0 (by decide) hM) rfl (Nat.le_of_ble_eq_true rfl) dX12_way_81 ⟨Nat.zero_le _, Nat.zero_le _⟩ ?_
  refine aw_ldc2 (v := 1919905893) hC w_1044 dX12_way_84 ?_
  refine aw_lcmp hC dX12_way_87 ?_
  refine aw_cut (S' := (if (lg_cmp (f_X12_word r10 64) (1919905893 : Int64)) = 0 then r10 else (bd (f_X12_bad r10 64 (1 : Int32)) fun r12 => r12))) (pc' := 96) (lv' := [(0, .ref 64), (1, .int r6.1)]) (st' := []) ?_ (fun Jc11 => ?_)
  · generalize eS13 : (if (lg_cmp (f_X12_word r10 64) (1919905893 : Int64)) = 0 then r10 else (bd (f_X12_bad r10 64 (1 : Int32)) fun r12 => r12)) = S13
    have hM : MS S13 := MS.of (by rw [← eS13]; repeat' (first | with_reducible rfl | with_reducible refine (qL_X12_way_114 _ _ _).trans ?_ | with_reducible refine (qL_X12_way_132 _ _ _).trans ?_ | with_reducible refine (qL_X12_way_150 _ _ _).trans ?_ | with_reducible refine (qL_X12_way_183 _ _ _).trans ?_ | with_reducible refine (qL_X12_way_232 _ _ _).trans ?_ | with_reducible refine (qL_X12_way_30 _ _ _).trans ?_ | with_reducible refine (qL_X12_way_96 _ _ _).trans ?_ | with_reducible refine (q_X12_bad _ _ _).trans ?_ | with_reducible refine (q_X12_first _ _).trans ?_ | with_reducible refine (q_X12_keepLive _ _).trans ?_ | with_reducible refine (q_X12_next _ _).trans ?_ | with_reducible refine (q_X12_readRule _ _).trans ?_ | with_reducible refine (shp_sI _ _ _ _).trans ?_ | with_reducible refine (shp_sJ _ _ _ _).trans ?_ | with_reducible refine shi ?_ ?_ | with_reducible refine shb (fun _ _ => ?_) | (subst_vars; with_reducible rfl) | (subst_vars; with_reducible refine (qL_X12_way_114 _ _ _).trans ?_) | (subst_vars; with_reducible refine (qL_X12_way_132 _ _ _).trans ?_) | (subst_vars; with_reducible refine (qL_X12_way_150 _ _ _).trans ?_) | (subst_vars; with_reducible refine (qL_X12_way_183 _ _ _).trans ?_) | (subst_vars; with_reducible refine (qL_X12_way_232 _ _ _).trans ?_) | (subst_vars; with_reducible refine (qL_X12_way_30 _ _ _).trans ?_) | (subst_vars; with_reducible refine (qL_X12_way_96 _ _ _).trans ?_) | (subst_vars; with_reducible refine (q_X12_bad _ _ _).trans ?_) | (subst_vars; with_reducible refine (q_X12_first _ _).trans ?_) | (subst_vars; with_reducible refine (q_X12_keepLive _ _).trans ?_) | (subst_vars; with_reducible refine (q_X12_next _ _).trans ?_) | (subst_vars; with_reducible refine (q_X12_readRule _ _).trans ?_) | (subst_vars; with_reducible refine (shp_sI _ _ _ _).trans ?_) | (subst_vars; with_reducible refine (shp_sJ _ _ _ _).trans ?_) | (subst_vars; with_reducible refine shi ?_ ?_) | (subst_vars; with_reducible refine shb (fun _ _ => ?_)))) hM
    refine aw_sub [0, 1] rfl ?_
    refine l_X12_way_96 hC hSt 1000 _ _ hM (h3 S1 eS1 S2 eS2 S3 eS3 S4 eS4 S5 eS5 r6 er6 S7 eS7 S8 eS8 S9 eS9 r10 er10 S13 eS13) ?_
    generalize er14 : L_X12_way_96 1000 S13 r6.1 = r14
    have hM : MS r14.2 := MS.of (by rw [← er14]; exact qL_X12_way_96 _ _ _) hM
    refine aw_sub [0, 1] rfl ?_
    refine l_X12_way_114 hC hSt 1000 _ _ hM (h4 S1 eS1 S2 eS2 S3 eS3 S4 eS4 S5 eS5 r6 er6 S7 eS7 S8 eS8 S9 eS9 r10 er10 S13 eS13 r14 er14) ?_
    generalize er15 : L_X12_way_114 1000 r14.2 r14.1 = r15
    have hM : MS r15.2 := MS.of (by rw [← er15]; exact qL_X12_way_114 _ _ _) hM
    refine aw_sub [0, 1] rfl ?_
    refine l_X12_way_132 hC hSt 1000 _ _ hM (h5 S1 eS1 S2 eS2 S3 eS3 S4 eS4 S5 eS5 r6 er6 S7 eS7 S8 eS8 S9 eS9 r10 er10 S13 eS13 r14 er14 r15 er15) ?_
    generalize er16 : L_X12_way_132 1000 r15.2 r15.1 = r16
    have hM : MS r16.2 := MS.of (by rw [← er16]; exact qL_X12_way_132 _ _ _) hM
    refine aw_sub [0, 1] rfl ?_
    refine l_X12_way_150 hC hSt 1000 _ _ hM (h6 S1 eS1 S2 eS2 S3 eS3 S4 eS4 S5 eS5 r6 er6 S7 eS7 S8 eS8 S9 eS9 r10 er10 S13 eS13 r14 er14 r15 er15 r16 er16) ?_
    generalize er17 : L_X12_way_150 1000 r16.2 r16.1 = r17
    have hM : MS r17.2 := MS.of (by rw [← er17]; exact qL_X12_way_150 _ _ _) hM
    refine aw_aload_n hC 0 dX12_way_168 rfl rfl ?_
    refine aw_cV0r hC hSt (t_X12_word G l hM  (h7 S1 eS1 S2 eS2 S3 eS3 S4 eS4 S5 eS5 r6 er6 S7 eS7 S8 eS8 S9 eS9 r10 er10 S13 eS13 r14 er14 r15 er15 r16 er16 r17 er17)) w_997 w_1024 w_1025 w_1026 w_953 rfl rfl (by decide +kernel) ⟨Nat.le_of_ble_eq_true rfl, Nat.le_of_ble_eq_true rfl⟩ (ms_lt 64 (by decide) hM) (ms_k 64 12 0 (by decide) hM) rfl (Nat.le_of_ble_eq_true rfl) dX12_way_169 ⟨Nat.zero_le _, Nat.zero_le _⟩ ?_
    refine aw_ldc2 (v := 1920298085) hC w_1048 dX12_way_172 ?_
    refine aw_lcmp hC dX12_way_175 ?_
    refine aw_cut (S' := (if (lg_cmp (f_X12_word r17.2 64) (1920298085 : Int64)) = 0 then (bd (f_X12_readRule r17.2 64) fun r19 => r19) else r17.2)) (pc' := 183) (lv' := [(0, .ref 64), (1, .int r17.1)]) (st' := []) ?_ (fun Jc18 => ?_)
    · generalize eS20 : (if (lg_cmp (f_X12_word r17.2 64) (1920298085 : Int64)) = 0 then (bd (f_X12_readRule r17.2 64) fun r19 => r19) else r17.2) = S20
      have hM : MS S20 := MS.of (by rw [← eS20]; repeat' (first | with_reducible rfl | with_reducible refine (qL_X12_way_114 _ _ _).trans ?_ | with_reducible refine (qL_X12_way_132 _ _ _).trans ?_ | with_reducible refine (qL_X12_way_150 _ _ _).trans ?_ | with_reducible refine (qL_X12_way_183 _ _ _).trans ?_ | with_reducible refine (qL_X12_way_232 _ _ _).trans ?_ | with_reducible refine (qL_X12_way_30 _ _ _).trans ?_ | with_reducible refine (qL_X12_way_96 _ _ _).trans ?_ | with_reducible refine (q_X12_bad _ _ _).trans ?_ | with_reducible refine (q_X12_first _ _).trans ?_ | with_reducible refine (q_X12_keepLive _ _).trans ?_ | with_reducible refine (q_X12_next _ _).trans ?_ | with_reducible refine (q_X12_readRule _ _).trans ?_ | with_reducible refine (shp_sI _ _ _ _).trans ?_ | with_reducible refine (shp_sJ _ _ _ _).trans ?_ | with_reducible refine shi ?_ ?_ | with_reducible refine shb (fun _ _ => ?_) | (subst_vars; with_reducible rfl) | (subst_vars; with_reducible refine (qL_X12_way_114 _ _ _).trans ?_) | (subst_vars; with_reducible refine (qL_X12_way_132 _ _ _).trans ?_) | (subst_vars; with_reducible refine (qL_X12_way_150 _ _ _).trans ?_) | (subst_vars; with_reducible refine (qL_X12_way_183 _ _ _).trans ?_) | (subst_vars; with_reducible refine (qL_X12_way_232 _ _ _).trans ?_) | (subst_vars; with_reducible refine (qL_X12_way_30 _ _ _).trans ?_) | (subst_vars; with_reducible refine (qL_X12_way_96 _ _ _).trans ?_) | (subst_vars; with_reducible refine (q_X12_bad _ _ _).trans ?_) | (subst_vars; with_reducible refine (q_X12_first _ _).trans ?_) | (subst_vars; with_reducible refine (q_X12_keepLive _ _).trans ?_) | (subst_vars; with_reducible refine (q_X12_next _ _).trans ?_) | (subst_vars; with_reducible refine (q_X12_readRule _ _).trans ?_) | (subst_vars; with_reducible refine (shp_sI _ _ _ _).trans ?_) | (subst_vars; with_reducible refine (shp_sJ _ _ _ _).trans ?_) | (subst_vars; with_reducible refine shi ?_ ?_) | (subst_vars; with_reducible refine shb (fun _ _ => ?_)))) hM
      refine aw_sub [0, 1] rfl ?_
      refine l_X12_way_183 hC hSt 1000 _ _ hM (h9 S1 eS1 S2 eS2 S3 eS3 S4 eS4 S5 eS5 r6 er6 S7 eS7 S8 eS8 S9 eS9 r10 er10 S13 eS13 r14 er14 r15 er15 r16 er16 r17 er17 S20 eS20) ?_
      generalize er21 : L_X12_way_183 1000 S20 r17.1 = r21
      have hM : MS r21.2 := MS.of (by rw [← er21]; exact qL_X12_way_183 _ _ _) hM
      refine aw_aload_n hC 0 dX12_way_205 rfl rfl ?_
      refine aw_getI hC hSt 16 (ms_lt 64 (by decide) hM) (ms_k 64 12 0 (by decide) hM) rfl (by decide) w_988 rfl dX12_way_206 ?_
      refine aw_if_le hC 230 dX12_way_209 (by decide) (fun c22 => ?_) (fun c22 => ?_)
      · refine aw_iconst (v := 0) hC dX12_way_230 (by decide) ?_
        refine aw_istore_n hC [(1, .int _), (0, .ref 64)] dX12_way_231 rfl (by decide) rfl ?_
        refine aw_sub [1, 0] rfl ?_
        refine l_X12_way_232 hC hSt 1000 _ _ hM (h10 S1 eS1 S2 eS2 S3 eS3 S4 eS4 S5 eS5 r6 er6 S7 eS7 S8 eS8 S9 eS9 r10 er10 S13 eS13 r14 er14 r15 er15 r16 er16 r17 er17 S20 eS20 r21 er21 c22) ?_
        generalize er23 : L_X12_way_232 1000 r21.2 (0 : Int32) = r23
        have hM : MS r23.2 := MS.of (by rw [← er23]; exact qL_X12_way_232 _ _ _) hM
        refine aw_aload_n hC 0 dX12_way_257 rfl rfl ?_
        refine aw_iconst (v := 1) hC dX12_way_258 (by decide) ?_
        refine aw_putI hC hSt 7 (ms_lt 64 (by decide) hM) (ms_k 64 12 0 (by decide) hM) rfl (by decide) w_1051 rfl rfl (by decide) (by decide) dX12_way_259 ?_
        generalize eS24 : (sI r23.2 64 7 (1 : Int32)) = S24
        have hM : MS S24 := MS.of (by rw [← eS24]; exact shp_sI _ _ _ _) hM
        refine aw_aload_n hC 0 dX12_way_262 rfl rfl ?_
        refine aw_iconst (v := 0) hC dX12_way_263 (by decide) ?_
        refine aw_putI hC hSt 18 (ms_lt 64 (by decide) hM) (ms_k 64 12 0 (by decide) hM) rfl (by decide) w_1052 rfl rfl rfl rfl dX12_way_264 ?_
        generalize eS25 : (sI S24 64 18 (0 : Int32)) = S25
        have hM : MS S25 := MS.of (by rw [← eS25]; exact shp_sI _ _ _ _) hM
        refine aw_aload_n hC 0 dX12_way_267 rfl rfl ?_
        refine aw_aload_n hC 0 dX12_way_268 rfl rfl ?_
        refine aw_getP (b := 68) hC hSt 5 (ms_lt 64 (by decide) hM) (ms_k 64 12 0 (by decide) hM) rfl (by decide) w_920 rfl (ms_p 5 68 (by decide) hM) dX12_way_269 ?_
        refine aw_iconst (v := 1) hC dX12_way_272 (by decide) ?_
        refine aw_iald hC hSt (ms_lt 68 (by decide) hM) (ms_k 68 14 172 (by decide) hM) (vp_len (n := 172) (ms_l 68 14 172 (by decide) hM) (by unfold vp_in; decide)) dX12_way_273 ?_
        refine aw_cut (S' := S25) (pc' := 283) (lv' := [(0, .ref 64), (1, .int r23.1)]) (st' := [.int (if (gI S25 68 (1 : Int32).toNatClampNeg) ≤ 0 then (-1000000 : Int32) else (0 : Int32)), .ref 64]) ?_ (fun Jc26 => ?_)
        · generalize ex27 : (if (gI S25 68 (1 : Int32).toNatClampNeg) ≤ 0 then (-1000000 : Int32) else (0 : Int32)) = x27
          refine aw_putI hC hSt 19 (ms_lt 64 (by decide) hM) (ms_k 64 12 0 (by decide) hM) rfl (by decide) w_924 rfl rfl rfl rfl dX12_way_283 ?_
          generalize eS28 : (sI S25 64 19 x27) = S28
          have hM : MS S28 := MS.of (by rw [← eS28]; exact shp_sI _ _ _ _) hM
          refine aw_aload_n hC 0 dX12_way_286 rfl rfl ?_
          refine aw_cV0v hC hSt (t_X12_first G l hM ) w_1031 w_1071 w_1072 w_1073 w_953 rfl rfl (by decide +kernel) ⟨Nat.le_of_ble_eq_true rfl, Nat.le_of_ble_eq_true rfl⟩ (ms_lt 64 (by decide) hM) (ms_k 64 12 0 (by decide) hM) rfl (Nat.le_of_ble_eq_true rfl) dX12_way_287 ⟨Nat.zero_le _, Nat.zero_le _⟩ ?_
          generalize er29 : f_X12_first S28 64 = r29
          have hM : MS r29 := MS.of (by rw [← er29]; exact q_X12_first _ _) hM
          refine aw_aload_n hC 0 dX12_way_290 rfl rfl ?_
          refine aw_cV0v hC hSt (t_X12_keepLive G l hM  (h11 S1 eS1 S2 eS2 S3 eS3 S4 eS4 S5 eS5 r6 er6 S7 eS7 S8 eS8 S9 eS9 r10 er10 S13 eS13 r14 er14 r15 er15 r16 er16 r17 er17 S20 eS20 r21 er21 c22 r23 er23 S24 eS24 S25 eS25 x27 ex27 S28 eS28 r29 er29)) w_1040 w_1074 w_1075 w_1076 w_953 rfl rfl (by decide +kernel) ⟨Nat.le_of_ble_eq_true rfl, Nat.le_of_ble_eq_true rfl⟩ (ms_lt 64 (by decide) hM) (ms_k 64 12 0 (by decide) hM) rfl (Nat.le_of_ble_eq_true rfl) dX12_way_291 ⟨Nat.zero_le _, Nat.zero_le _⟩ ?_
          generalize er30 : f_X12_keepLive r29 64 = r30
          have hM : MS r30 := MS.of (by rw [← er30]; exact q_X12_keepLive _ _) hM
          refine aw_aload_n hC 0 dX12_way_294 rfl rfl ?_
          refine aw_getP (b := 68) hC hSt 5 (ms_lt 64 (by decide) hM) (ms_k 64 12 0 (by decide) hM) rfl (by decide) w_920 rfl (ms_p 5 68 (by decide) hM) dX12_way_295 ?_
          refine aw_iconst (v := 5) hC dX12_way_298 (by decide) ?_
          refine aw_iald hC hSt (ms_lt 68 (by decide) hM) (ms_k 68 14 172 (by decide) hM) (vp_len (n := 172) (ms_l 68 14 172 (by decide) hM) (by unfold vp_in; decide)) dX12_way_299 ?_
          refine aw_i2l hC dX12_way_300 ?_
          refine aw_lret hC dX12_way_301 (Nat.le_refl _) (Nat.le_refl _) ?_
          exact FP.qJ ((bd_eq eS1).trans ((bd_eq eS2).trans ((bd_eq eS3).trans ((bd_eq eS4).trans ((bd_eq eS5).trans ((bd_eq er6).trans ((bd_eq eS7).trans ((bd_eq eS8).trans ((bd_eq eS9).trans ((bd_eq er10).trans ((bd_eq eS13).trans ((bd_eq er14).trans ((bd_eq er15).trans ((bd_eq er16).trans ((bd_eq er17).trans ((bd_eq eS20).trans ((bd_eq er21).trans ((if_pos c22).trans ((bd_eq er23).trans ((bd_eq eS24).trans ((bd_eq eS25).trans ((bd_eq ex27).trans ((bd_eq eS28).trans ((bd_eq er29).trans ((bd_eq er30).trans (rfl))))))))))))))))))))))))))
        · refine aw_if_le hC 281 dX12_way_274 (by decide) (fun c26 => ?_) (fun c26 => ?_)
          · refine aw_ldc (v := -1000000) hC w_923 dX12_way_281 ?_
            simp only [bd_def, if_pos c26] at Jc26 ⊢
            exact Jc26
          · refine aw_iconst (v := 0) hC dX12_way_277 (by decide) ?_
            refine aw_goto hC 283 dX12_way_278 (by decide) ?_
            simp only [bd_def, if_neg c26] at Jc26 ⊢
            exact Jc26
      · refine aw_aload_n hC 0 dX12_way_212 rfl rfl ?_
        refine aw_aload_n hC 0 dX12_way_213 rfl rfl ?_
        refine aw_getI hC hSt 16 (ms_lt 64 (by decide) hM) (ms_k 64 12 0 (by decide) hM) rfl (by decide) w_988 rfl dX12_way_214 ?_
        refine aw_putI hC hSt 10 (ms_lt 64 (by decide) hM) (ms_k 64 12 0 (by decide) hM) rfl (by decide) w_1049 rfl rfl rfl rfl dX12_way_217 ?_
        generalize eS31 : (sI r21.2 64 10 (gI r21.2 64 16)) = S31
        have hM : MS S31 := MS.of (by rw [← eS31]; exact shp_sI _ _ _ _) hM
        refine aw_ldc2 (v := -9000000000000000100) hC w_1050 dX12_way_220 ?_
        refine aw_aload_n hC 0 dX12_way_223 rfl rfl ?_
        refine aw_getI hC hSt 17 (ms_lt 64 (by decide) hM) (ms_k 64 12 0 (by decide) hM) rfl (by decide) w_989 rfl dX12_way_224 ?_
        refine aw_i2l hC dX12_way_227 ?_
        refine aw_lsub hC dX12_way_228 ?_
        refine aw_lret hC dX12_way_229 (Nat.le_refl _) (Nat.le_refl _) ?_
        exact FP.qJ ((bd_eq eS1).trans ((bd_eq eS2).trans ((bd_eq eS3).trans ((bd_eq eS4).trans ((bd_eq eS5).trans ((bd_eq er6).trans ((bd_eq eS7).trans ((bd_eq eS8).trans ((bd_eq eS9).trans ((bd_eq er10).trans ((bd_eq eS13).trans ((bd_eq er14).trans ((bd_eq er15).trans ((bd_eq er16).trans ((bd_eq er17).trans ((bd_eq eS20).trans ((bd_eq er21).trans ((if_neg c22).trans ((bd_eq eS31).trans (rfl))))))))))))))))))))
    · refine aw_if_ne hC 183 dX12_way_176 (by decide) (fun c18 => ?_) (fun c18 => ?_)
      · simp only [bd_def, if_neg c18] at Jc18 ⊢
        exact Jc18
      · refine aw_aload_n hC 0 dX12_way_179 rfl rfl ?_
        refine aw_cV0v hC hSt (t_X12_readRule G l hM  (h8 S1 eS1 S2 eS2 S3 eS3 S4 eS4 S5 eS5 r6 er6 S7 eS7 S8 eS8 S9 eS9 r10 er10 S13 eS13 r14 er14 r15 er15 r16 er16 r17 er17 c18)) w_1017 w_1065 w_1066 w_1067 w_953 rfl rfl (by decide +kernel) ⟨Nat.le_of_ble_eq_true rfl, Nat.le_of_ble_eq_true rfl⟩ (ms_lt 64 (by decide) hM) (ms_k 64 12 0 (by decide) hM) rfl (Nat.le_of_ble_eq_true rfl) dX12_way_180 ⟨Nat.zero_le _, Nat.zero_le _⟩ ?_
        generalize er19 : f_X12_readRule r17.2 64 = r19
        have hM : MS r19 := MS.of (by rw [← er19]; exact q_X12_readRule _ _) hM
        subst er19
        simp only [bd_def, if_pos c18] at Jc18 ⊢
        exact Jc18
  · refine aw_if_eq hC 96 dX12_way_88 (by decide) (fun c11 => ?_) (fun c11 => ?_)
    · simp only [bd_def, if_pos c11] at Jc11 ⊢
      exact Jc11
    · refine aw_aload_n hC 0 dX12_way_91 rfl rfl ?_
      refine aw_iconst (v := 1) hC dX12_way_92 (by decide) ?_
      refine aw_cV1v hC hSt (t_X12_bad G l hM _) w_987 w_990 w_991 w_992 w_953 rfl rfl (by decide +kernel) ⟨Nat.le_of_ble_eq_true rfl, Nat.le_of_ble_eq_true rfl⟩ (ms_lt 64 (by decide) hM) (ms_k 64 12 0 (by decide) hM) rfl (Nat.le_of_ble_eq_true rfl) dX12_way_93 ⟨Nat.zero_le _, Nat.zero_le _⟩ ?_
      generalize er12 : f_X12_bad r10 64 (1 : Int32) = r12
      have hM : MS r12 := MS.of (by rw [← er12]; exact q_X12_bad _ _ _) hM
      subst er12
      simp only [bd_def, if_neg c11] at Jc11 ⊢
      exact Jc11
theorem q_X12_way (S : HSt) (_o : Nat)  : shp ((f_X12_way S _o).2) = shp S := by
  unfold f_X12_way
  repeat' (first | with_reducible refine shpr1 ?_ | with_reducible rfl | with_reducible refine (q_X12_bad _ _ _).trans ?_ | with_reducible refine (q_X12_first _ _).trans ?_ | with_reducible refine (q_X12_keepLive _ _).trans ?_ | with_reducible refine (q_X12_next _ _).trans ?_ | with_reducible refine (q_X12_readAct _ _).trans ?_ | with_reducible refine (q_X12_readBeast _ _).trans ?_ | with_reducible refine (q_X12_readForm _ _).trans ?_ | with_reducible refine (q_X12_readHorse _ _).trans ?_ | with_reducible refine (q_X12_readRope _ _).trans ?_ | with_reducible refine (q_X12_readRule _ _).trans ?_ | with_reducible refine (qL_X12_way_30 _ _ _).trans ?_ | with_reducible refine (qL_X12_way_96 _ _ _).trans ?_ | with_reducible refine (qL_X12_way_114 _ _ _).trans ?_ | with_reducible refine (qL_X12_way_132 _ _ _).trans ?_ | with_reducible refine (qL_X12_way_150 _ _ _).trans ?_ | with_reducible refine (qL_X12_way_183 _ _ _).trans ?_ | with_reducible refine (qL_X12_way_232 _ _ _).trans ?_ | with_reducible refine (shp_sI _ _ _ _).trans ?_ | with_reducible refine (shp_sJ _ _ _ _).trans ?_ | with_reducible refine shi ?_ ?_ | with_reducible refine shb (fun _ _ => ?_) | with_reducible refine shiP (fun q : Int64 × HSt => q.2) ?_ ?_ | with_reducible refine shbP (fun q : Int64 × HSt => q.2) (fun _ _ => ?_) | (subst_vars; with_reducible rfl) | (subst_vars; with_reducible refine (q_X12_bad _ _ _).trans ?_) | (subst_vars; with_reducible refine (q_X12_first _ _).trans ?_) | (subst_vars; with_reducible refine (q_X12_keepLive _ _).trans ?_) | (subst_vars; with_reducible refine (q_X12_next _ _).trans ?_) | (subst_vars; with_reducible refine (q_X12_readAct _ _).trans ?_) | (subst_vars; with_reducible refine (q_X12_readBeast _ _).trans ?_) | (subst_vars; with_reducible refine (q_X12_readForm _ _).trans ?_) | (subst_vars; with_reducible refine (q_X12_readHorse _ _).trans ?_) | (subst_vars; with_reducible refine (q_X12_readRope _ _).trans ?_) | (subst_vars; with_reducible refine (q_X12_readRule _ _).trans ?_) | (subst_vars; with_reducible refine (qL_X12_way_30 _ _ _).trans ?_) | (subst_vars; with_reducible refine (qL_X12_way_96 _ _ _).trans ?_) | (subst_vars; with_reducible refine (qL_X12_way_114 _ _ _).trans ?_) | (subst_vars; with_reducible refine (qL_X12_way_132 _ _ _).trans ?_) | (subst_vars; with_reducible refine (qL_X12_way_150 _ _ _).trans ?_) | (subst_vars; with_reducible refine (qL_X12_way_183 _ _ _).trans ?_) | (subst_vars; with_reducible refine (qL_X12_way_232 _ _ _).trans ?_) | (subst_vars; with_reducible refine (shp_sI _ _ _ _).trans ?_) | (subst_vars; with_reducible refine (shp_sJ _ _ _ _).trans ?_) | (subst_vars; with_reducible refine shi ?_ ?_) | (subst_vars; with_reducible refine shb (fun _ _ => ?_)))
theorem v_X12_way (S : HSt) (_o : Nat)  : Fr [(64, 0), (64, 10), (64, 11), (64, 12), (64, 13), (64, 14), (64, 15), (64, 16), (64, 17), (64, 18), (64, 19), (64, 20), (64, 21), (64, 22), (64, 23), (64, 24), (64, 25), (64, 26), (64, 7), (64, 9), (68, 1000), (69, 1000), (71, 1000)] S ((f_X12_way S _o).2) := by
  unfold f_X12_way
  repeat' (first | with_reducible refine frpr1 ?_ | with_reducible exact Fr.refl _ _ | with_reducible refine Fr.lP (fun q : Int64 × HSt => q.2) (fun _ _ => ?_) | with_reducible refine Fr.iteP (fun q : Int64 × HSt => q.2) ?_ ?_ | with_reducible refine Fr.l1 (fun _ _ => ?_) | with_reducible refine Fr.ite ?_ ?_ | with_reducible refine Fr.sE (by assumption) (by first | decide | simp only [List.mem_cons, List.not_mem_nil, or_false, true_or, or_true, eq_self_iff_true]) ?_ | with_reducible refine Fr.jE (by assumption) ?_ | with_reducible refine Fr.rE (by assumption) (by first | decide | simp only [List.mem_cons, List.not_mem_nil, or_false, true_or, or_true, eq_self_iff_true]) ?_ | with_reducible refine Fr.iE (by assumption) ?_ ?_ | with_reducible refine Fr.tr (w_X12_bad _ _ _ _ (by assumption)) (by first | decide | simp only [List.mem_cons, List.not_mem_nil, or_false, forall_eq_or_imp, forall_eq, true_or, or_true, and_self, eq_self_iff_true]) ?_ | with_reducible refine Fr.tr (w_X12_first _ _ _ (by assumption)) (by first | decide | simp only [List.mem_cons, List.not_mem_nil, or_false, forall_eq_or_imp, forall_eq, true_or, or_true, and_self, eq_self_iff_true]) ?_ | with_reducible refine Fr.tr (w_X12_keepLive _ _ _ (by assumption)) (by first | decide | simp only [List.mem_cons, List.not_mem_nil, or_false, forall_eq_or_imp, forall_eq, true_or, or_true, and_self, eq_self_iff_true]) ?_ | with_reducible refine Fr.tr (w_X12_next _ _ _ (by assumption)) (by first | decide | simp only [List.mem_cons, List.not_mem_nil, or_false, forall_eq_or_imp, forall_eq, true_or, or_true, and_self, eq_self_iff_true]) ?_ | with_reducible refine Fr.tr (w_X12_readAct _ _ _ (by assumption)) (by first | decide | simp only [List.mem_cons, List.not_mem_nil, or_false, forall_eq_or_imp, forall_eq, true_or, or_true, and_self, eq_self_iff_true]) ?_ | with_reducible refine Fr.tr (w_X12_readBeast _ _ _ (by assumption)) (by first | decide | simp only [List.mem_cons, List.not_mem_nil, or_false, forall_eq_or_imp, forall_eq, true_or, or_true, and_self, eq_self_iff_true]) ?_ | with_reducible refine Fr.tr (w_X12_readForm _ _ _ (by assumption)) (by first | decide | simp only [List.mem_cons, List.not_mem_nil, or_false, forall_eq_or_imp, forall_eq, true_or, or_true, and_self, eq_self_iff_true]) ?_ | with_reducible refine Fr.tr (w_X12_readHorse _ _ _ (by assumption)) (by first | decide | simp only [List.mem_cons, List.not_mem_nil, or_false, forall_eq_or_imp, forall_eq, true_or, or_true, and_self, eq_self_iff_true]) ?_ | with_reducible refine Fr.tr (w_X12_readRope _ _ _ (by assumption)) (by first | decide | simp only [List.mem_cons, List.not_mem_nil, or_false, forall_eq_or_imp, forall_eq, true_or, or_true, and_self, eq_self_iff_true]) ?_ | with_reducible refine Fr.tr (w_X12_readRule _ _ _ (by assumption)) (by first | decide | simp only [List.mem_cons, List.not_mem_nil, or_false, forall_eq_or_imp, forall_eq, true_or, or_true, and_self, eq_self_iff_true]) ?_ | with_reducible refine Fr.tr (wL_X12_way_30 _ _ _ _ (by assumption)) (by first | decide | simp only [List.mem_cons, List.not_mem_nil, or_false, forall_eq_or_imp, forall_eq, true_or, or_true, and_self, eq_self_iff_true]) ?_ | with_reducible refine Fr.tr (wL_X12_way_96 _ _ _ _ (by assumption)) (by first | decide | simp only [List.mem_cons, List.not_mem_nil, or_false, forall_eq_or_imp, forall_eq, true_or, or_true, and_self, eq_self_iff_true]) ?_ | with_reducible refine Fr.tr (wL_X12_way_114 _ _ _ _ (by assumption)) (by first | decide | simp only [List.mem_cons, List.not_mem_nil, or_false, forall_eq_or_imp, forall_eq, true_or, or_true, and_self, eq_self_iff_true]) ?_ | with_reducible refine Fr.tr (wL_X12_way_132 _ _ _ _ (by assumption)) (by first | decide | simp only [List.mem_cons, List.not_mem_nil, or_false, forall_eq_or_imp, forall_eq, true_or, or_true, and_self, eq_self_iff_true]) ?_ | with_reducible refine Fr.tr (wL_X12_way_150 _ _ _ _ (by assumption)) (by first | decide | simp only [List.mem_cons, List.not_mem_nil, or_false, forall_eq_or_imp, forall_eq, true_or, or_true, and_self, eq_self_iff_true]) ?_ | with_reducible refine Fr.tr (wL_X12_way_183 _ _ _ _ (by assumption)) (by first | decide | simp only [List.mem_cons, List.not_mem_nil, or_false, forall_eq_or_imp, forall_eq, true_or, or_true, and_self, eq_self_iff_true]) ?_ | with_reducible refine Fr.tr (wL_X12_way_232 _ _ _ _ (by assumption)) (by first | decide | simp only [List.mem_cons, List.not_mem_nil, or_false, forall_eq_or_imp, forall_eq, true_or, or_true, and_self, eq_self_iff_true]) ?_)
theorem w_X12_way (S : HSt) (_o : Nat)  (r : Int64 × HSt) (e : f_X12_way S _o = r) : Fr [(64, 0), (64, 10), (64, 11), (64, 12), (64, 13), (64, 14), (64, 15), (64, 16), (64, 17), (64, 18), (64, 19), (64, 20), (64, 21), (64, 22), (64, 23), (64, 24), (64, 25), (64, 26), (64, 7), (64, 9), (68, 1000), (69, 1000), (71, 1000)] S r.2 := by
  rw [← e]
  exact v_X12_way S _o