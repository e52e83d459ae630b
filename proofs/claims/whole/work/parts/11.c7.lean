noncomputable def F_X11_trace (S : HSt) (_o0 : Nat) (a1 : Int32) : Int32 × HSt := pr ((f_X0_begunAt S 62 a1)) (S)
noncomputable def f_X11_trace (S : HSt) (_o0 : Nat) (a1 : Int32) : Int32 := (F_X11_trace S _o0 a1).1
def p_X11_trace (S : HSt) (_o0 : Nat) (a1 : Int32) : Prop := (p_X0_begunAt S 62 a1)
set_option maxRecDepth 100000 in
theorem t_X11_trace (G : GG) (l : Launch) {S : HSt} (hM : CS S) (a1 : Int32)  (hp : p_X11_trace S 0 a1) : AM G l yX11_trace cX11_trace 2 (some .int) (rmD 1 0 0) 0 0 [.ref 0, .int a1] S (FP (some (.int (f_X11_trace S 0 a1))) (S)) := by
  have h0 := hp
  unfold p_X11_trace at h0
  refine AM.mk (by decide) (Nat.le_of_ble_eq_true rfl) ?_
  intro p e s m below meth c hC hSt _
  refine aw_aload_n hC 0 dX11_trace_0 rfl rfl ?_
  refine aw_getP (b := 62) hC hSt 8 (cs_lt 0 11 0 (by decide) hM) (cs_k 0 11 0 (by decide) hM) rfl (by decide) w_693 rfl (cs_p 0 8 62 (by decide) hM) dX11_trace_1 ?_
  refine aw_iload_n hC 1 dX11_trace_4 rfl rfl ?_
  refine aw_cV1r hC hSt (t_X0_begunAt G l hM _ (h0)) w_6 w_901 w_902 w_903 w_23 rfl rfl (by decide +kernel) ⟨Nat.le_of_ble_eq_true rfl, Nat.le_of_ble_eq_true rfl⟩ (cs_lt 62 0 0 (by decide) hM) (cs_k 62 0 0 (by decide) hM) rfl (Nat.le_of_ble_eq_true rfl) dX11_trace_5 ⟨Nat.zero_le _, Nat.zero_le _⟩ ?_
  refine aw_iret hC dX11_trace_8 (Nat.le_refl _) (Nat.le_refl _) ?_
  exact FP.pI (rfl)
noncomputable def F_X11_count (S : HSt) (_o0 : Nat) (a1 : Int32) : Int64 × HSt := if a1 = (0 : Int32) then (pr ((f_X5_howMany S 1).toInt64) (S)) else (if a1 = (1 : Int32) then (pr ((f_X10_howMany S 19 (0 : Int32)).toInt64) (S)) else (if a1 = (2 : Int32) then (pr ((f_X10_howMany S 19 (1 : Int32)).toInt64) (S)) else (if a1 = (3 : Int32) then (pr ((f_X10_howMany S 19 (2 : Int32)).toInt64) (S)) else (if a1 = (4 : Int32) then (pr ((f_X10_howMany S 19 (3 : Int32)).toInt64) (S)) else (if a1 = (5 : Int32) then (pr ((f_X10_howMany S 19 (5 : Int32)).toInt64) (S)) else (if a1 = (6 : Int32) then (pr ((f_X10_howManyThrows S 19).toInt64) (S)) else (if a1 = (7 : Int32) then (pr ((f_X4_bytes S 13).toInt64) (S)) else (if a1 = (8 : Int32) then (pr ((f_X11_imagesKept S 0).toInt64) (S)) else (pr ((-9000000000000000001 : Int64)) (S))))))))))
noncomputable def f_X11_count (S : HSt) (_o0 : Nat) (a1 : Int32) : Int64 := (F_X11_count S _o0 a1).1
def p_X11_count (S : HSt) (_o0 : Nat) (a1 : Int32) : Prop := ((a1 = (0 : Int32)) → p_X5_howMany S 1) ∧ ((¬ a1 = (0 : Int32)) → (a1 = (1 : Int32)) → p_X10_howMany S 19 (0 : Int32)) ∧ ((¬ a1 = (0 : Int32)) → (¬ a1 = (1 : Int32)) → (a1 = (2 : Int32)) → p_X10_howMany S 19 (1 : Int32)) ∧ ((¬ a1 = (0 : Int32)) → (¬ a1 = (1 : Int32)) → (¬ a1 = (2 : Int32)) → (a1 = (3 : Int32)) → p_X10_howMany S 19 (2 : Int32)) ∧ ((¬ a1 = (0 : Int32)) → (¬ a1 = (1 : Int32)) → (¬ a1 = (2 : Int32)) → (¬ a1 = (3 : Int32)) → (a1 = (4 : Int32)) → p_X10_howMany S 19 (3 : Int32)) ∧ ((¬ a1 = (0 : Int32)) → (¬ a1 = (1 : Int32)) → (¬ a1 = (2 : Int32)) → (¬ a1 = (3 : Int32)) → (¬ a1 = (4 : Int32)) → (a1 = (5 : Int32)) → p_X10_howMany S 19 (5 : Int32)) ∧ ((¬ a1 = (0 : Int32)) → (¬ a1 = (1 : Int32)) → (¬ a1 = (2 : Int32)) → (¬ a1 = (3 : Int32)) → (¬ a1 = (4 : Int32)) → (¬ a1 = (5 : Int32)) → (a1 = (6 : Int32)) → p_X10_howManyThrows S 19) ∧ ((¬ a1 = (0 : Int32)) → (¬ a1 = (1 : Int32)) → (¬ a1 = (2 : Int32)) → (¬ a1 = (3 : Int32)) → (¬ a1 = (4 : Int32)) → (¬ a1 = (5 : Int32)) → (¬ a1 = (6 : Int32)) → (¬ a1 = (7 : Int32)) → (a1 = (8 : Int32)) → p_X11_imagesKept S 0)
set_option maxRecDepth 100000 in
theorem t_X11_count (G : GG) (l : Launch) {S : HSt} (hM : CS S) (a1 : Int32)  (hp : p_X11_count S 0 a1) : AM G l yX11_count cX11_count 2 (some .long) (rmD 4 0 0) 0 0 [.ref 0, .int a1] S (FP (some (.long (f_X11_count S 0 a1))) (S)) := by
  obtain ⟨h0, h1, h2, h3, h4, h5, h6, h7⟩ := hp
  refine AM.mk (by decide) (Nat.le_of_ble_eq_true rfl) ?_
  intro p e s m below meth c hC hSt _
  refine aw_iload_n hC 1 dX11_count_0 rfl rfl ?_
  refine aw_switchE hC dX11_count_1 153 (by decide) [52, 61, 74, 87, 100, 113, 126, 138, 147] rfl (by decide) (by decide) (fun hdc1 => ?_) (fun kc1 hkc1 hxc1 => ?_)
  · have c1_0 : ¬ a1 = (0 : Int32) := hdc1 0 (by decide)
    have c1_1 : ¬ a1 = (1 : Int32) := hdc1 1 (by decide)
    have c1_2 : ¬ a1 = (2 : Int32) := hdc1 2 (by decide)
    have c1_3 : ¬ a1 = (3 : Int32) := hdc1 3 (by decide)
    have c1_4 : ¬ a1 = (4 : Int32) := hdc1 4 (by decide)
    have c1_5 : ¬ a1 = (5 : Int32) := hdc1 5 (by decide)
    have c1_6 : ¬ a1 = (6 : Int32) := hdc1 6 (by decide)
    have c1_7 : ¬ a1 = (7 : Int32) := hdc1 7 (by decide)
    have c1_8 : ¬ a1 = (8 : Int32) := hdc1 8 (by decide)
    refine aw_ldc2 (v := -9000000000000000001) hC w_710 dX11_count_153 ?_
    refine aw_lret hC dX11_count_156 (Nat.le_refl _) (Nat.le_refl _) ?_
    exact FP.pJ ((if_neg c1_0).trans ((if_neg c1_1).trans ((if_neg c1_2).trans ((if_neg c1_3).trans ((if_neg c1_4).trans ((if_neg c1_5).trans ((if_neg c1_6).trans ((if_neg c1_7).trans ((if_neg c1_8).trans (rfl))))))))))
  · match kc1, hkc1, hxc1 with
    | 0, _, hxc1 =>
      have c1_0 : a1 = (0 : Int32) := hxc1
      refine aw_at (pc' := 52) rfl ?_
      refine aw_aload_n hC 0 dX11_count_52 rfl rfl ?_
      refine aw_getP (b := 1) hC hSt 0 (cs_lt 0 11 0 (by decide) hM) (cs_k 0 11 0 (by decide) hM) rfl (by decide) w_672 rfl (cs_p 0 0 1 (by decide) hM) dX11_count_53 ?_
      refine aw_cV0r hC hSt (t_X5_howMany G l hM  (h0 c1_0)) w_489 w_905 w_906 w_907 w_473 rfl rfl (by decide +kernel) ⟨Nat.le_of_ble_eq_true rfl, Nat.le_of_ble_eq_true rfl⟩ (cs_lt 1 5 0 (by decide) hM) (cs_k 1 5 0 (by decide) hM) rfl (Nat.le_of_ble_eq_true rfl) dX11_count_56 ⟨Nat.zero_le _, Nat.zero_le _⟩ ?_
      refine aw_i2l hC dX11_count_59 ?_
      refine aw_lret hC dX11_count_60 (Nat.le_refl _) (Nat.le_refl _) ?_
      exact FP.pJ ((if_pos c1_0).trans (rfl))
    | 1, _, hxc1 =>
      have c1_1 : a1 = (1 : Int32) := hxc1
      have c1_0 : ¬ a1 = (0 : Int32) := by rw [c1_1]; decide
      refine aw_at (pc' := 61) rfl ?_
      refine aw_aload_n hC 0 dX11_count_61 rfl rfl ?_
      refine aw_getP (b := 18) hC hSt 2 (cs_lt 0 11 0 (by decide) hM) (cs_k 0 11 0 (by decide) hM) rfl (by decide) w_678 rfl (cs_p 0 2 18 (by decide) hM) dX11_count_62 ?_
      refine aw_getP (b := 19) hC hSt 0 (cs_lt 18 7 0 (by decide) hM) (cs_k 18 7 0 (by decide) hM) rfl (by decide) w_750 rfl (cs_p 18 0 19 (by decide) hM) dX11_count_65 ?_
      refine aw_iconst (v := 0) hC dX11_count_68 (by decide) ?_
      refine aw_cV1r hC hSt (t_X10_howMany G l hM _ _ (by decide) (h1 c1_0 c1_1)) w_152 w_763 w_237 w_238 w_18 rfl rfl (by decide +kernel) ⟨Nat.le_of_ble_eq_true rfl, Nat.le_of_ble_eq_true rfl⟩ (cs_lt 19 10 0 (by decide) hM) (cs_k 19 10 0 (by decide) hM) rfl (Nat.le_of_ble_eq_true rfl) dX11_count_69 ⟨Nat.zero_le _, Nat.zero_le _⟩ ?_
      refine aw_i2l hC dX11_count_72 ?_
      refine aw_lret hC dX11_count_73 (Nat.le_refl _) (Nat.le_refl _) ?_
      exact FP.pJ ((if_neg c1_0).trans ((if_pos c1_1).trans (rfl)))
    | 2, _, hxc1 =>
      have c1_2 : a1 = (2 : Int32) := hxc1
      have c1_0 : ¬ a1 = (0 : Int32) := by rw [c1_2]; decide
      have c1_1 : ¬ a1 = (1 : Int32) := by rw [c1_2]; decide
      refine aw_at (pc' := 74) rfl ?_
      refine aw_aload_n hC 0 dX11_count_74 rfl rfl ?_
      refine aw_getP (b := 18) hC hSt 2 (cs_lt 0 11 0 (by decide) hM) (cs_k 0 11 0 (by decide) hM) rfl (by decide) w_678 rfl (cs_p 0 2 18 (by decide) hM) dX11_count_75 ?_
      refine aw_getP (b := 19) hC hSt 0 (cs_lt 18 7 0 (by decide) hM) (cs_k 18 7 0 (by decide) hM) rfl (by decide) w_750 rfl (cs_p 18 0 19 (by decide) hM) dX11_count_78 ?_
      refine aw_iconst (v := 1) hC dX11_count_81 (by decide) ?_
      refine aw_cV1r hC hSt (t_X10_howMany G l hM _ _ (by decide) (h2 c1_0 c1_1 c1_2)) w_152 w_763 w_237 w_238 w_18 rfl rfl (by decide +kernel) ⟨Nat.le_of_ble_eq_true rfl, Nat.le_of_ble_eq_true rfl⟩ (cs_lt 19 10 0 (by decide) hM) (cs_k 19 10 0 (by decide) hM) rfl (Nat.le_of_ble_eq_true rfl) dX11_count_82 ⟨Nat.zero_le _, Nat.zero_le _⟩ ?_
      refine aw_i2l hC dX11_count_85 ?_
      refine aw_lret hC dX11_count_86 (Nat.le_refl _) (Nat.le_refl _) ?_
      exact FP.pJ ((if_neg c1_0).trans ((if_neg c1_1).trans ((if_pos c1_2).trans (rfl))))
    | 3, _, hxc1 =>
      have c1_3 : a1 = (3 : Int32) := hxc1
      have c1_0 : ¬ a1 = (0 : Int32) := by rw [c1_3]; decide
      have c1_1 : ¬ a1 = (1 : Int32) := by rw [c1_3]; decide
      have c1_2 : ¬ a1 = (2 : Int32) := by rw [c1_3]; decide
      refine aw_at (pc' := 87) rfl ?_
      refine aw_aload_n hC 0 dX11_count_87 rfl rfl ?_
      refine aw_getP (b := 18) hC hSt 2 (cs_lt 0 11 0 (by decide) hM) (cs_k 0 11 0 (by decide) hM) rfl (by decide) w_678 rfl (cs_p 0 2 18 (by decide) hM) dX11_count_88 ?_
      refine aw_getP (b := 19) hC hSt 0 (cs_lt 18 7 0 (by decide) hM) (cs_k 18 7 0 (by decide) hM) rfl (by decide) w_750 rfl (cs_p 18 0 19 (by decide) hM) dX11_count_91 ?_
      refine aw_iconst (v := 2) hC dX11_count_94 (by decide) ?_
      refine aw_cV1r hC hSt (t_X10_howMany G l hM _ _ (by decide) (h3 c1_0 c1_1 c1_2 c1_3)) w_152 w_763 w_237 w_238 w_18 rfl rfl (by decide +kernel) ⟨Nat.le_of_ble_eq_true rfl, Nat.le_of_ble_eq_true rfl⟩ (cs_lt 19 10 0 (by decide) hM) (cs_k 19 10 0 (by decide) hM) rfl (Nat.le_of_ble_eq_true rfl) dX11_count_95 ⟨Nat.zero_le _, Nat.zero_le _⟩ ?_
      refine aw_i2l hC dX11_count_98 ?_
      refine aw_lret hC dX11_count_99 (Nat.le_refl _) (Nat.le_refl _) ?_
      exact FP.pJ ((if_neg c1_0).trans ((if_neg c1_1).trans ((if_neg c1_2).trans ((if_pos c1_3).trans (rfl)))))
    | 4, _, hxc1 =>
      have c1_4 : a1 = (4 : Int32) := hxc1
      have c1_0 : ¬ a1 = (0 : Int32) := by rw [c1_4]; decide
      have c1_1 : ¬ a1 = (1 : Int32) := by rw [c1_4]; decide
      have c1_2 : ¬ a1 = (2 : Int32) := by rw [c1_4]; decide
      have c1_3 : ¬ a1 = (3 : Int32) := by rw [c1_4]; decide
      refine aw_at (pc' := 100) rfl ?_
      refine aw_aload_n hC 0 dX11_count_100 rfl rfl ?_
      refine aw_getP (b := 18) hC hSt 2 (cs_lt 0 11 0 (by decide) hM) (cs_k 0 11 0 (by decide) hM) rfl (by decide) w_678 rfl (cs_p 0 2 18 (by decide) hM) dX11_count_101 ?_
      refine aw_getP (b := 19) hC hSt 0 (cs_lt 18 7 0 (by decide) hM) (cs_k 18 7 0 (by decide) hM) rfl (by decide) w_750 rfl (cs_p 18 0 19 (by decide) hM) dX11_count_104 ?_
      refine aw_iconst (v := 3) hC dX11_count_107 (by decide) ?_
      refine aw_cV1r hC hSt (t_X10_howMany G l hM _ _ (by decide) (h4 c1_0 c1_1 c1_2 c1_3 c1_4)) w_152 w_763 w_237 w_238 w_18 rfl rfl (by decide +kernel) ⟨Nat.le_of_ble_eq_true rfl, Nat.le_of_ble_eq_true rfl⟩ (cs_lt 19 10 0 (by decide) hM) (cs_k 19 10 0 (by decide) hM) rfl (Nat.le_of_ble_eq_true rfl) dX11_count_108 ⟨Nat.zero_le _, Nat.zero_le _⟩ ?_
      refine aw_i2l hC dX11_count_111 ?_
      refine aw_lret hC dX11_count_112 (Nat.le_refl _) (Nat.le_refl _) ?_
      exact FP.pJ ((if_neg c1_0).trans ((if_neg c1_1).trans ((if_neg c1_2).trans ((if_neg c1_3).trans ((if_pos c1_4).trans (rfl))))))
    | 5, _, hxc1 =>
      have c1_5 : a1 = (5 : Int32) := hxc1
      have c1_0 : ¬ a1 = (0 : Int32) := by rw [c1_5]; decide
      have c1_1 : ¬ a1 = (1 : Int32) := by rw [c1_5]; decide
      have c1_2 : ¬ a1 = (2 : Int32) := by rw [c1_5]; decide
      have c1_3 : ¬ a1 = (3 : Int32) := by rw [c1_5]; decide
      have c1_4 : ¬ a1 = (4 : Int32) := by rw [c1_5]; decide
      refine aw_at (pc' := 113) rfl ?_
      refine aw_aload_n hC 0 dX11_count_113 rfl rfl ?_
      refine aw_getP (b := 18) hC hSt 2 (cs_lt 0 11 0 (by decide) hM) (cs_k 0 11 0 (by decide) hM) rfl (by decide) w_678 rfl (cs_p 0 2 18 (by decide) hM) dX11_count_114 ?_
      refine aw_getP (b := 19) hC hSt 0 (cs_lt 18 7 0 (by decide) hM) (cs_k 18 7 0 (by decide) hM) rfl (by decide) w_750 rfl (cs_p 18 0 19 (by decide) hM) dX11_count_117 ?_
      refine aw_iconst (v := 5) hC dX11_count_120 (by decide) ?_
      refine aw_cV1r hC hSt (t_X10_howMany G l hM _ _ (by decide) (h5 c1_0 c1_1 c1_2 c1_3 c1_4 c1_5)) w_152 w_763 w_237 w_238 w_18 rfl rfl (by decide +kernel) ⟨Nat.le_of_ble_eq_true rfl, Nat.le_of_ble_eq_true rfl⟩ (cs_lt 19 10 0 (by decide) hM) (cs_k 19 10 0 (by decide) hM) rfl (Nat.le_of_ble_eq_true rfl) dX11_count_121 ⟨Nat.zero_le _, Nat.zero_le _⟩ ?_
      refine aw_i2l hC dX11_count_124 ?_
      refine aw_lret hC dX11_count_125 (Nat.le_refl _) (Nat.le_refl _) ?_
      exact FP.pJ ((if_neg c1_0).trans ((if_neg c1_1).trans ((if_neg c1_2).trans ((if_neg c1_3).trans ((if_neg c1_4).trans ((if_pos c1_5).trans (rfl)))))))
    | 6, _, hxc1 =>
      have c1_6 : a1 = (6 : Int32) := hxc1
      have c1_0 : ¬ a1 = (0 : Int32) := by rw [c1_6]; decide
      have c1_1 : ¬ a1 = (1 : Int32) := by rw [c1_6]; decide
      have c1_2 : ¬ a1 = (2 : Int32) := by rw [c1_6]; decide
      have c1_3 : ¬ a1 = (3 : Int32) := by rw [c1_6]; decide
      have c1_4 : ¬ a1 = (4 : Int32) := by rw [c1_6]; decide
      have c1_5 : ¬ a1 = (5 : Int32) := by rw [c1_6]; decide
      refine aw_at (pc' := 126) rfl ?_
      refine aw_aload_n hC 0 dX11_count_126 rfl rfl ?_
      refine aw_getP (b := 18) hC hSt 2 (cs_lt 0 11 0 (by decide) hM) (cs_k 0 11 0 (by decide) hM) rfl (by decide) w_678 rfl (cs_p 0 2 18 (by decide) hM) dX11_count_127 ?_
      refine aw_getP (b := 19) hC hSt 0 (cs_lt 18 7 0 (by decide) hM) (cs_k 18 7 0 (by decide) hM) rfl (by decide) w_750 rfl (cs_p 18 0 19 (by decide) hM) dX11_count_130 ?_
      refine aw_cV0r hC hSt (t_X10_howManyThrows G l hM _ (by decide) (h6 c1_0 c1_1 c1_2 c1_3 c1_4 c1_5 c1_6)) w_667 w_908 w_909 w_910 w_18 rfl rfl (by decide +kernel) ⟨Nat.le_of_ble_eq_true rfl, Nat.le_of_ble_eq_true rfl⟩ (cs_lt 19 10 0 (by decide) hM) (cs_k 19 10 0 (by decide) hM) rfl (Nat.le_of_ble_eq_true rfl) dX11_count_133 ⟨Nat.zero_le _, Nat.zero_le _⟩ ?_
      refine aw_i2l hC dX11_count_136 ?_
      refine aw_lret hC dX11_count_137 (Nat.le_refl _) (Nat.le_refl _) ?_
      exact FP.pJ ((if_neg c1_0).trans ((if_neg c1_1).trans ((if_neg c1_2).trans ((if_neg c1_3).trans ((if_neg c1_4).trans ((if_neg c1_5).trans ((if_pos c1_6).trans (rfl))))))))
    | 7, _, hxc1 =>
      have c1_7 : a1 = (7 : Int32) := hxc1
      have c1_0 : ¬ a1 = (0 : Int32) := by rw [c1_7]; decide
      have c1_1 : ¬ a1 = (1 : Int32) := by rw [c1_7]; decide
      have c1_2 : ¬ a1 = (2 : Int32) := by rw [c1_7]; decide
      have c1_3 : ¬ a1 = (3 : Int32) := by rw [c1_7]; decide
      have c1_4 : ¬ a1 = (4 : Int32) := by rw [c1_7]; decide
      have c1_5 : ¬ a1 = (5 : Int32) := by rw [c1_7]; decide
      have c1_6 : ¬ a1 = (6 : Int32) := by rw [c1_7]; decide
      refine aw_at (pc' := 138) rfl ?_
      refine aw_aload_n hC 0 dX11_count_138 rfl rfl ?_
      refine aw_getP (b := 13) hC hSt 1 (cs_lt 0 11 0 (by decide) hM) (cs_k 0 11 0 (by decide) hM) rfl (by decide) w_675 rfl (cs_p 0 1 13 (by decide) hM) dX11_count_139 ?_
      refine aw_cV0r hC hSt (t_X4_bytes G l hM ) w_329 w_746 w_747 w_748 w_351 rfl rfl (by decide +kernel) ⟨Nat.le_of_ble_eq_true rfl, Nat.le_of_ble_eq_true rfl⟩ (cs_lt 13 4 0 (by decide) hM) (cs_k 13 4 0 (by decide) hM) rfl (Nat.le_of_ble_eq_true rfl) dX11_count_142 ⟨Nat.zero_le _, Nat.zero_le _⟩ ?_
      refine aw_i2l hC dX11_count_145 ?_
      refine aw_lret hC dX11_count_146 (Nat.le_refl _) (Nat.le_refl _) ?_
      exact FP.pJ ((if_neg c1_0).trans ((if_neg c1_1).trans ((if_neg c1_2).trans ((if_neg c1_3).trans ((if_neg c1_4).trans ((if_neg c1_5).trans ((if_neg c1_6).trans ((if_pos c1_7).trans (rfl)))))))))
    | 8, _, hxc1 =>
      have c1_8 : a1 = (8 : Int32) := hxc1
      have c1_0 : ¬ a1 = (0 : Int32) := by rw [c1_8]; decide
      have c1_1 : ¬ a1 = (1 : Int32) := by rw [c1_8]; decide
      have c1_2 : ¬ a1 = (2 : Int32) := by rw [c1_8]; decide
      have c1_3 : ¬ a1 = (3 : Int32) := by rw [c1_8]; decide
      have c1_4 : ¬ a1 = (4 : Int32) := by rw [c1_8]; decide
      have c1_5 : ¬ a1 = (5 : Int32) := by rw [c1_8]; decide
      have c1_6 : ¬ a1 = (6 : Int32) := by rw [c1_8]; decide
      have c1_7 : ¬ a1 = (7 : Int32) := by rw [c1_8]; decide
      refine aw_at (pc' := 147) rfl ?_
      refine aw_aload_n hC 0 dX11_count_147 rfl rfl ?_
      refine aw_cV0r hC hSt (t_X11_imagesKept G l hM  (h7 c1_0 c1_1 c1_2 c1_3 c1_4 c1_5 c1_6 c1_7 c1_8)) w_904 w_911 w_912 w_913 w_517 rfl rfl (by decide +kernel) ⟨Nat.le_of_ble_eq_true rfl, Nat.le_of_ble_eq_true rfl⟩ (cs_lt 0 11 0 (by decide) hM) (cs_k 0 11 0 (by decide) hM) rfl (Nat.le_of_ble_eq_true rfl) dX11_count_148 ⟨Nat.zero_le _, Nat.zero_le _⟩ ?_
      refine aw_i2l hC dX11_count_151 ?_
      refine aw_lret hC dX11_count_152 (Nat.le_refl _) (Nat.le_refl _) ?_
      exact FP.pJ ((if_neg c1_0).trans ((if_neg c1_1).trans ((if_neg c1_2).trans ((if_neg c1_3).trans ((if_neg c1_4).trans ((if_neg c1_5).trans ((if_neg c1_6).trans ((if_neg c1_7).trans ((if_pos c1_8).trans (rfl))))))))))
    | kc1 + 9, hkc1, _ => exact absurd hkc1 (by simp)
noncomputable def F_X11_status (S : HSt) (_o0 : Nat) : Int32 × HSt := pr ((gI S 0 10)) (S)
noncomputable def f_X11_status (S : HSt) (_o0 : Nat) : Int32 := (F_X11_status S _o0).1
set_option maxRecDepth 100000 in
theorem t_X11_status (G : GG) (l : Launch) {S : HSt} (hM : CS S)    : AM G l yX11_status cX11_status 1 (some .int) (rmD 0 0 0) 0 0 [.ref 0] S (FP (some (.int (f_X11_status S 0))) (S)) := by
  refine AM.mk (by decide) (Nat.le_of_ble_eq_true rfl) ?_
  intro p e s m below meth c hC hSt _
  refine aw_aload_n hC 0 dX11_status_0 rfl rfl ?_
  refine aw_getI hC hSt 10 (cs_lt 0 11 0 (by decide) hM) (cs_k 0 11 0 (by decide) hM) rfl (by decide) w_695 rfl dX11_status_1 ?_
  refine aw_iret hC dX11_status_4 (Nat.le_refl _) (Nat.le_refl _) ?_
  exact FP.pI (rfl)
noncomputable def f_X2_offer (S : HSt) (_o0 : Nat) (a1 : Int32) (a2 : Int32) (a3 : Int32) : HSt := if (gI S 52 a1.toNatClampNeg) ≤ 0 then (bd ((if (4 : Int32) < (gI S 52 (a1 + (1 : Int32)).toNatClampNeg) then (4 : Int32) else (gI S 52 (a1 + (1 : Int32)).toNatClampNeg))) fun x2 => bd ((sI S 53 a1.toNatClampNeg a3)) fun S3 => bd ((sI S3 (46 + a1.toNatClampNeg) (0 : Int32).toNatClampNeg a2)) fun S4 => bd ((rI S4 (46 + a1.toNatClampNeg) (va_cpy (gI S4 (46 + (a1 + (1 : Int32)).toNatClampNeg)) (gI S4 (46 + a1.toNatClampNeg)) (0 : Int32).toNatClampNeg (1 : Int32).toNatClampNeg x2.toNatClampNeg))) fun S5 => bd ((sI S5 52 a1.toNatClampNeg ((1 : Int32) + x2))) fun S6 => S6) else (if (gI S 53 a1.toNatClampNeg) < a3 then (bd ((if (4 : Int32) < (gI S 52 (a1 + (1 : Int32)).toNatClampNeg) then (4 : Int32) else (gI S 52 (a1 + (1 : Int32)).toNatClampNeg))) fun x8 => bd ((sI S 53 a1.toNatClampNeg a3)) fun S9 => bd ((sI S9 (46 + a1.toNatClampNeg) (0 : Int32).toNatClampNeg a2)) fun S10 => bd ((rI S10 (46 + a1.toNatClampNeg) (va_cpy (gI S10 (46 + (a1 + (1 : Int32)).toNatClampNeg)) (gI S10 (46 + a1.toNatClampNeg)) (0 : Int32).toNatClampNeg (1 : Int32).toNatClampNeg x8.toNatClampNeg))) fun S11 => bd ((sI S11 52 a1.toNatClampNeg ((1 : Int32) + x8))) fun S12 => S12) else (S))
def p_X2_offer (S : HSt) (_o0 : Nat) (a1 : Int32) (a2 : Int32) (a3 : Int32) : Prop := (vp_in a1 6) ∧ (((gI S 52 a1.toNatClampNeg) ≤ 0) → vp_in (a1 + (1 : Int32)) 6) ∧ (((gI S 52 a1.toNatClampNeg) ≤ 0) → ∀ x2 : Int32, (if (4 : Int32) < (gI S 52 (a1 + (1 : Int32)).toNatClampNeg) then (4 : Int32) else (gI S 52 (a1 + (1 : Int32)).toNatClampNeg)) = x2 → vp_in a1 6) ∧ (((gI S 52 a1.toNatClampNeg) ≤ 0) → ∀ x2 : Int32, (if (4 : Int32) < (gI S 52 (a1 + (1 : Int32)).toNatClampNeg) then (4 : Int32) else (gI S 52 (a1 + (1 : Int32)).toNatClampNeg)) = x2 → ∀ S3 : HSt, (sI S 53 a1.toNatClampNeg a3) = S3 → vp_in a1 6) ∧ (((gI S 52 a1.toNatClampNeg) ≤ 0) → ∀ x2 : Int32, (if (4 : Int32) < (gI S 52 (a1 + (1 : Int32)).toNatClampNeg) then (4 : Int32) else (gI S 52 (a1 + (1 : Int32)).toNatClampNeg)) = x2 → ∀ S3 : HSt, (sI S 53 a1.toNatClampNeg a3) = S3 → ∀ S4 : HSt, (sI S3 (46 + a1.toNatClampNeg) (0 : Int32).toNatClampNeg a2) = S4 → vp_in (a1 + (1 : Int32)) 6) ∧ (((gI S 52 a1.toNatClampNeg) ≤ 0) → ∀ x2 : Int32, (if (4 : Int32) < (gI S 52 (a1 + (1 : Int32)).toNatClampNeg) then (4 : Int32) else (gI S 52 (a1 + (1 : Int32)).toNatClampNeg)) = x2 → ∀ S3 : HSt, (sI S 53 a1.toNatClampNeg a3) = S3 → ∀ S4 : HSt, (sI S3 (46 + a1.toNatClampNeg) (0 : Int32).toNatClampNeg a2) = S4 → vp_in a1 6) ∧ (((gI S 52 a1.toNatClampNeg) ≤ 0) → ∀ x2 : Int32, (if (4 : Int32) < (gI S 52 (a1 + (1 : Int32)).toNatClampNeg) then (4 : Int32) else (gI S 52 (a1 + (1 : Int32)).toNatClampNeg)) = x2 → ∀ S3 : HSt, (sI S 53 a1.toNatClampNeg a3) = S3 → ∀ S4 : HSt, (sI S3 (46 + a1.toNatClampNeg) (0 : Int32).toNatClampNeg a2) = S4 → ¬ x2 < 0) ∧ (((gI S 52 a1.toNatClampNeg) ≤ 0) → ∀ x2 : Int32, (if (4 : Int32) < (gI S 52 (a1 + (1 : Int32)).toNatClampNeg) then (4 : Int32) else (gI S 52 (a1 + (1 : Int32)).toNatClampNeg)) = x2 → ∀ S3 : HSt, (sI S 53 a1.toNatClampNeg a3) = S3 → ∀ S4 : HSt, (sI S3 (46 + a1.toNatClampNeg) (0 : Int32).toNatClampNeg a2) = S4 → (0 : Int32).toNatClampNeg + x2.toNatClampNeg ≤ 5) ∧ (((gI S 52 a1.toNatClampNeg) ≤ 0) → ∀ x2 : Int32, (if (4 : Int32) < (gI S 52 (a1 + (1 : Int32)).toNatClampNeg) then (4 : Int32) else (gI S 52 (a1 + (1 : Int32)).toNatClampNeg)) = x2 → ∀ S3 : HSt, (sI S 53 a1.toNatClampNeg a3) = S3 → ∀ S4 : HSt, (sI S3 (46 + a1.toNatClampNeg) (0 : Int32).toNatClampNeg a2) = S4 → (1 : Int32).toNatClampNeg + x2.toNatClampNeg ≤ 5) ∧ (((gI S 52 a1.toNatClampNeg) ≤ 0) → ∀ x2 : Int32, (if (4 : Int32) < (gI S 52 (a1 + (1 : Int32)).toNatClampNeg) then (4 : Int32) else (gI S 52 (a1 + (1 : Int32)).toNatClampNeg)) = x2 → ∀ S3 : HSt, (sI S 53 a1.toNatClampNeg a3) = S3 → ∀ S4 : HSt, (sI S3 (46 + a1.toNatClampNeg) (0 : Int32).toNatClampNeg a2) = S4 → ∀ S5 : HSt, (rI S4 (46 + a1.toNatClampNeg) (va_cpy (gI S4 (46 + (a1 + (1 : Int32)).toNatClampNeg)) (gI S4 (46 + a1.toNatClampNeg)) (0 : Int32).toNatClampNeg (1 : Int32).toNatClampNeg x2.toNatClampNeg)) = S5 → vp_in a1 6) ∧ ((¬ (gI S 52 a1.toNatClampNeg) ≤ 0) → vp_in a1 6) ∧ ((¬ (gI S 52 a1.toNatClampNeg) ≤ 0) → ((gI S 53 a1.toNatClampNeg) < a3) → vp_in (a1 + (1 : Int32)) 6) ∧ ((¬ (gI S 52 a1.toNatClampNeg) ≤ 0) → ((gI S 53 a1.toNatClampNeg) < a3) → ∀ x8 : Int32, (if (4 : Int32) < (gI S 52 (a1 + (1 : Int32)).toNatClampNeg) then (4 : Int32) else (gI S 52 (a1 + (1 : Int32)).toNatClampNeg)) = x8 → vp_in a1 6) ∧ ((¬ (gI S 52 a1.toNatClampNeg) ≤ 0) → ((gI S 53 a1.toNatClampNeg) < a3) → ∀ x8 : Int32, (if (4 : Int32) < (gI S 52 (a1 + (1 : Int32)).toNatClampNeg) then (4 : Int32) else (gI S 52 (a1 + (1 : Int32)).toNatClampNeg)) = x8 → ∀ S9 : HSt, (sI S 53 a1.toNatClampNeg a3) = S9 → vp_in a1 6) ∧ ((¬ (gI S 52 a1.toNatClampNeg) ≤ 0) → ((gI S 53 a1.toNatClampNeg) < a3) → ∀ x8 : Int32, (if (4 : Int32) < (gI S 52 (a1 + (1 : Int32)).toNatClampNeg) then (4 : Int32) else (gI S 52 (a1 + (1 : Int32)).toNatClampNeg)) = x8 → ∀ S9 : HSt, (sI S 53 a1.toNatClampNeg a3) = S9 → ∀ S10 : HSt, (sI S9 (46 + a1.toNatClampNeg) (0 : Int32).toNatClampNeg a2) = S10 → vp_in (a1 + (1 : Int32)) 6) ∧ ((¬ (gI S 52 a1.toNatClampNeg) ≤ 0) → ((gI S 53 a1.toNatClampNeg) < a3) → ∀ x8 : Int32, (if (4 : Int32) < (gI S 52 (a1 + (1 : Int32)).toNatClampNeg) then (4 : Int32) else (gI S 52 (a1 + (1 : Int32)).toNatClampNeg)) = x8 → ∀ S9 : HSt, (sI S 53 a1.toNatClampNeg a3) = S9 → ∀ S10 : HSt, (sI S9 (46 + a1.toNatClampNeg) (0 : Int32).toNatClampNeg a2) = S10 → vp_in a1 6) ∧ ((¬ (gI S 52 a1.toNatClampNeg) ≤ 0) → ((gI S 53 a1.toNatClampNeg) < a3) → ∀ x8 : Int32, (if (4 : Int32) < (gI S 52 (a1 + (1 : Int32)).toNatClampNeg) then (4 : Int32) else (gI S 52 (a1 + (1 : Int32)).toNatClampNeg)) = x8 → ∀ S9 : HSt, (sI S 53 a1.toNatClampNeg a3) = S9 → ∀ S10 : HSt, (sI S9 (46 + a1.toNatClampNeg) (0 : Int32).toNatClampNeg a2) = S10 → ¬ x8 < 0) ∧ ((¬ (gI S 52 a1.toNatClampNeg) ≤ 0) → ((gI S 53 a1.toNatClampNeg) < a3) → ∀ x8 : Int32, (if (4 : Int32) < (gI S 52 (a1 + (1 : Int32)).toNatClampNeg) then (4 : Int32) else (gI S 52 (a1 + (1 : Int32)).toNatClampNeg)) = x8 → ∀ S9 : HSt, (sI S 53 a1.toNatClampNeg a3) = S9 → ∀ S10 : HSt, (sI S9 (46 + a1.toNatClampNeg) (0 : Int32).toNatClampNeg a2) = S10 → (0 : Int32).toNatClampNeg + x8.toNatClampNeg ≤ 5) ∧ ((¬ (gI S 52 a1.toNatClampNeg) ≤ 0) → ((gI S 53 a1.toNatClampNeg) < a3) → ∀ x8 : Int32, (if (4 : Int32) < (gI S 52 (a1 + (1 : Int32)).toNatClampNeg) then (4 : Int32) else (gI S 52 (a1 + (1 : Int32)).toNatClampNeg)) = x8 → ∀ S9 : HSt, (sI S 53 a1.toNatClampNeg a3) = S9 → ∀ S10 : HSt, (sI S9 (46 + a1.toNatClampNeg) (0 : Int32).toNatClampNeg a2) = S10 → (1 : Int32).toNatClampNeg + x8.toNatClampNeg ≤ 5) ∧ ((¬ (gI S 52 a1.toNatClampNeg) ≤ 0) → ((gI S 53 a1.toNatClampNeg) < a3) → ∀ x8 : Int32, (if (4 : Int32) < (gI S 52 (a1 + (1 : Int32)).toNatClampNeg) then (4 : Int32) else (gI S 52 (a1 + (1 : Int32)).toNatClampNeg)) = x8 → ∀ S9 : HSt, (sI S 53 a1.toNatClampNeg a3) = S9 → ∀ S10 : HSt, (sI S9 (46 + a1.toNatClampNeg) (0 : Int32).toNatClampNeg a2) = S10 → ∀ S11 : HSt, (rI S10 (46 + a1.toNatClampNeg) (va_cpy (gI S10 (46 + (a1 + (1 : Int32)).toNatClampNeg)) (gI S10 (46 + a1.toNatClampNeg)) (0 : Int32).toNatClampNeg (1 : Int32).toNatClampNeg x8.toNatClampNeg)) = S11 → vp_in a1 6)
set_option maxRecDepth 100000 in
theorem t_X2_offer (G : GG) (l : Launch) {S : HSt} (hM : CS S) (a1 : Int32) (a2 : Int32) (a3 : Int32)  (hp : p_X2_offer S 43 a1 a2 a3) : AM G l yX2_offer cX2_offer 5 none (rmD 1 0 0) 0 0 [.ref 43, .int a1, .int a2, .int a3] S (FP none (f_X2_offer S 43 a1 a2 a3)) := by
  obtain ⟨h0, h1, h2, h3, h4, h5, h6, h7, h8, h9, h10, h11, h12, h13, h14, h15, h16, h17, h18, h19⟩ := hp
  refine AM.mk (by decide) (Nat.le_of_ble_eq_true rfl) ?_
  intro p e s m below meth c hC hSt _
  refine aw_aload_n hC 0 dX2_offer_0 rfl rfl ?_
  refine aw_getP (b := 52) hC hSt 2 (cs_lt 43 2 0 (by decide) hM) (cs_k 43 2 0 (by decide) hM) rfl (by decide) w_135 rfl (cs_p 43 2 52 (by decide) hM) dX2_offer_1 ?_
  refine aw_iload_n hC 1 dX2_offer_4 rfl rfl ?_
  refine aw_iald hC hSt (cs_lt 52 14 6 (by decide) hM) (cs_k 52 14 6 (by decide) hM) (vp_len (n := 6) (cs_l 52 14 6 (by decide) hM) (h0)) dX2_offer_5 ?_
  refine aw_if_le hC 20 dX2_offer_6 (by decide) (fun c1 => ?_) (fun c1 => ?_)
  · refine aw_aload_n hC 0 dX2_offer_20 rfl rfl ?_
    refine aw_getP (b := 52) hC hSt 2 (cs_lt 43 2 0 (by decide) hM) (cs_k 43 2 0 (by decide) hM) rfl (by decide) w_135 rfl (cs_p 43 2 52 (by decide) hM) dX2_offer_21 ?_
    refine aw_iload_n hC 1 dX2_offer_24 rfl rfl ?_
    refine aw_iconst (v := 1) hC dX2_offer_25 (by decide) ?_
    refine aw_iadd hC dX2_offer_26 ?_
    refine aw_iald hC hSt (cs_lt 52 14 6 (by decide) hM) (cs_k 52 14 6 (by decide) hM) (vp_len (n := 6) (cs_l 52 14 6 (by decide) hM) (h1 c1)) dX2_offer_27 ?_
    refine aw_iconst (v := 4) hC dX2_offer_28 (by decide) ?_
    refine aw_min hC w_147 w_95 w_92 w_96 (by decide) (Nat.le_of_ble_eq_true rfl) (by decide) (by decide) dX2_offer_29 ?_
    refine aw_istore hC [(4, .int _), (0, .ref 43), (1, .int _), (2, .int _), (3, .int _)] dX2_offer_32 (by decide) rfl ?_
    generalize ex2 : (if (4 : Int32) < (gI S 52 (a1 + (1 : Int32)).toNatClampNeg) then (4 : Int32) else (gI S 52 (a1 + (1 : Int32)).toNatClampNeg)) = x2
    refine aw_aload_n hC 1 dX2_offer_34 rfl rfl ?_
    refine aw_getP (b := 53) hC hSt 3 (cs_lt 43 2 0 (by decide) hM) (cs_k 43 2 0 (by decide) hM) rfl (by decide) w_136 rfl (cs_p 43 3 53 (by decide) hM) dX2_offer_35 ?_
    refine aw_iload_n hC 2 dX2_offer_38 rfl rfl ?_
    refine aw_iload_n hC 4 dX2_offer_39 rfl rfl ?_
    refine aw_iast hC hSt (cs_lt 53 14 6 (by decide) hM) (cs_k 53 14 6 (by decide) hM) (vp_len (n := 6) (cs_l 53 14 6 (by decide) hM) (h2 c1 x2 ex2)) dX2_offer_40 ?_
    generalize eS3 : (sI S 53 a1.toNatClampNeg a3) = S3
    have hM : CS S3 := CS.of (by rw [← eS3]; exact shp_sI _ _ _ _) hM
    refine aw_aload_n hC 1 dX2_offer_41 rfl rfl ?_
    refine aw_getP (b := 45) hC hSt 1 (cs_lt 43 2 0 (by decide) hM) (cs_k 43 2 0 (by decide) hM) rfl (by decide) w_134 rfl (cs_p 43 1 45 (by decide) hM) dX2_offer_42 ?_
    refine aw_iload_n hC 2 dX2_offer_45 rfl rfl ?_
    refine aw_aaldI hC hSt (cs_lt 45 19 6 (by decide) hM) (cs_k 45 19 6 (by decide) hM) (vp_len (n := 6) (cs_l 45 19 6 (by decide) hM) (h3 c1 x2 ex2 S3 eS3)) (cs_p 45 a1.toNatClampNeg (46 + a1.toNatClampNeg) (ar_p45 (h3 c1 x2 ex2 S3 eS3)) hM) dX2_offer_46 ?_
    refine aw_iconst (v := 0) hC dX2_offer_47 (by decide) ?_
    refine aw_iload_n hC 3 dX2_offer_48 rfl rfl ?_
    refine aw_iast hC hSt (cs_lt (46 + a1.toNatClampNeg) 14 5 (ar_m45 (h3 c1 x2 ex2 S3 eS3)) hM) (cs_k (46 + a1.toNatClampNeg) 14 5 (ar_m45 (h3 c1 x2 ex2 S3 eS3)) hM) (vp_len (n := 5) (cs_l (46 + a1.toNatClampNeg) 14 5 (ar_m45 (h3 c1 x2 ex2 S3 eS3)) hM) (by unfold vp_in; decide)) dX2_offer_49 ?_
    generalize eS4 : (sI S3 (46 + a1.toNatClampNeg) (0 : Int32).toNatClampNeg a2) = S4
    have hM : CS S4 := CS.of (by rw [← eS4]; exact shp_sI _ _ _ _) hM
    refine aw_aload_n hC 1 dX2_offer_50 rfl rfl ?_
    refine aw_getP (b := 45) hC hSt 1 (cs_lt 43 2 0 (by decide) hM) (cs_k 43 2 0 (by decide) hM) rfl (by decide) w_134 rfl (cs_p 43 1 45 (by decide) hM) dX2_offer_51 ?_
    refine aw_iload_n hC 2 dX2_offer_54 rfl rfl ?_
    refine aw_iconst (v := 1) hC dX2_offer_55 (by decide) ?_
    refine aw_iadd hC dX2_offer_56 ?_
    refine aw_aaldI hC hSt (cs_lt 45 19 6 (by decide) hM) (cs_k 45 19 6 (by decide) hM) (vp_len (n := 6) (cs_l 45 19 6 (by decide) hM) (h4 c1 x2 ex2 S3 eS3 S4 eS4)) (cs_p 45 (a1 + (1 : Int32)).toNatClampNeg (46 + (a1 + (1 : Int32)).toNatClampNeg) (ar_p45 (h4 c1 x2 ex2 S3 eS3 S4 eS4)) hM) dX2_offer_57 ?_
    refine aw_iconst (v := 0) hC dX2_offer_58 (by decide) ?_
    refine aw_aload_n hC 1 dX2_offer_59 rfl rfl ?_
    refine aw_getP (b := 45) hC hSt 1 (cs_lt 43 2 0 (by decide) hM) (cs_k 43 2 0 (by decide) hM) rfl (by decide) w_134 rfl (cs_p 43 1 45 (by decide) hM) dX2_offer_60 ?_
    refine aw_iload_n hC 2 dX2_offer_63 rfl rfl ?_
    refine aw_aaldI hC hSt (cs_lt 45 19 6 (by decide) hM) (cs_k 45 19 6 (by decide) hM) (vp_len (n := 6) (cs_l 45 19 6 (by decide) hM) (h5 c1 x2 ex2 S3 eS3 S4 eS4)) (cs_p 45 a1.toNatClampNeg (46 + a1.toNatClampNeg) (ar_p45 (h5 c1 x2 ex2 S3 eS3 S4 eS4)) hM) dX2_offer_64 ?_
    refine aw_iconst (v := 1) hC dX2_offer_65 (by decide) ?_
    refine aw_iload hC 0 dX2_offer_66 rfl ?_
    refine aw_copy hC hSt (cs_lt (46 + (a1 + (1 : Int32)).toNatClampNeg) 14 5 (ar_m45 (h4 c1 x2 ex2 S3 eS3 S4 eS4)) hM) (cs_k (46 + (a1 + (1 : Int32)).toNatClampNeg) 14 5 (ar_m45 (h4 c1 x2 ex2 S3 eS3 S4 eS4)) hM) (cs_lt (46 + a1.toNatClampNeg) 14 5 (ar_m45 (h5 c1 x2 ex2 S3 eS3 S4 eS4)) hM) (cs_k (46 + a1.toNatClampNeg) 14 5 (ar_m45 (h5 c1 x2 ex2 S3 eS3 S4 eS4)) hM) (by decide) (by decide) (h6 c1 x2 ex2 S3 eS3 S4 eS4) (by rw [show gL _ _ = 5 from (cs_l (46 + (a1 + (1 : Int32)).toNatClampNeg) 14 5 (ar_m45 (h4 c1 x2 ex2 S3 eS3 S4 eS4)) hM)]; exact (h7 c1 x2 ex2 S3 eS3 S4 eS4)) (by rw [show gL _ _ = 5 from (cs_l (46 + a1.toNatClampNeg) 14 5 (ar_m45 (h5 c1 x2 ex2 S3 eS3 S4 eS4)) hM)]; exact (h8 c1 x2 ex2 S3 eS3 S4 eS4)) w_148 w_149 w_150 w_151 (by decide) (Nat.le_of_ble_eq_true rfl) dX2_offer_68 ?_
    generalize eS5 : (rI S4 (46 + a1.toNatClampNeg) (va_cpy (gI S4 (46 + (a1 + (1 : Int32)).toNatClampNeg)) (gI S4 (46 + a1.toNatClampNeg)) (0 : Int32).toNatClampNeg (1 : Int32).toNatClampNeg x2.toNatClampNeg)) = S5
    have hM : CS S5 := CS.of (by rw [← eS5]; exact shp_rI _ _ _) hM
    refine aw_aload_n hC 1 dX2_offer_71 rfl rfl ?_
    refine aw_getP (b := 52) hC hSt 2 (cs_lt 43 2 0 (by decide) hM) (cs_k 43 2 0 (by decide) hM) rfl (by decide) w_135 rfl (cs_p 43 2 52 (by decide) hM) dX2_offer_72 ?_
    refine aw_iload_n hC 2 dX2_offer_75 rfl rfl ?_
    refine aw_iconst (v := 1) hC dX2_offer_76 (by decide) ?_
    refine aw_iload hC 0 dX2_offer_77 rfl ?_
    refine aw_iadd hC dX2_offer_79 ?_
    refine aw_iast hC hSt (cs_lt 52 14 6 (by decide) hM) (cs_k 52 14 6 (by decide) hM) (vp_len (n := 6) (cs_l 52 14 6 (by decide) hM) (h9 c1 x2 ex2 S3 eS3 S4 eS4 S5 eS5)) dX2_offer_80 ?_
    generalize eS6 : (sI S5 52 a1.toNatClampNeg ((1 : Int32) + x2)) = S6
    have hM : CS S6 := CS.of (by rw [← eS6]; exact shp_sI _ _ _ _) hM
    refine aw_vret hC dX2_offer_81 (Nat.le_refl _) (Nat.le_refl _) ?_
    exact FP.qV ((if_pos c1).trans ((bd_eq ex2).trans ((bd_eq eS3).trans ((bd_eq eS4).trans ((bd_eq eS5).trans ((bd_eq eS6).trans (rfl)))))))
  · refine aw_iload_n hC 3 dX2_offer_9 rfl rfl ?_
    refine aw_aload_n hC 0 dX2_offer_10 rfl rfl ?_
    refine aw_getP (b := 53) hC hSt 3 (cs_lt 43 2 0 (by decide) hM) (cs_k 43 2 0 (by decide) hM) rfl (by decide) w_136 rfl (cs_p 43 3 53 (by decide) hM) dX2_offer_11 ?_
    refine aw_iload_n hC 1 dX2_offer_14 rfl rfl ?_
    refine aw_iald hC hSt (cs_lt 53 14 6 (by decide) hM) (cs_k 53 14 6 (by decide) hM) (vp_len (n := 6) (cs_l 53 14 6 (by decide) hM) (h10 c1)) dX2_offer_15 ?_
    refine aw_icmp_gt hC 20 dX2_offer_16 (by decide) (fun c7 => ?_) (fun c7 => ?_)
    · refine aw_aload_n hC 0 dX2_offer_20 rfl rfl ?_
      refine aw_getP (b := 52) hC hSt 2 (cs_lt 43 2 0 (by decide) hM) (cs_k 43 2 0 (by decide) hM) rfl (by decide) w_135 rfl (cs_p 43 2 52 (by decide) hM) dX2_offer_21 ?_
      refine aw_iload_n hC 1 dX2_offer_24 rfl rfl ?_
      refine aw_iconst (v := 1) hC dX2_offer_25 (by decide) ?_
      refine aw_iadd hC dX2_offer_26 ?_
      refine aw_iald hC hSt (cs_lt 52 14 6 (by decide) hM) (cs_k 52 14 6 (by decide) hM) (vp_len (n := 6) (cs_l 52 14 6 (by decide) hM) (h11 c1 c7)) dX2_offer_27 ?_
      refine aw_iconst (v := 4) hC dX2_offer_28 (by decide) ?_
      refine aw_min hC w_147 w_95 w_92 w_96 (by decide) (Nat.le_of_ble_eq_true rfl) (by decide) (by decide) dX2_offer_29 ?_
      refine aw_istore hC [(4, .int _), (0, .ref 43), (1, .int _), (2, .int _), (3, .int _)] dX2_offer_32 (by decide) rfl ?_
      generalize ex8 : (if (4 : Int32) < (gI S 52 (a1 + (1 : Int32)).toNatClampNeg) then (4 : Int32) else (gI S 52 (a1 + (1 : Int32)).toNatClampNeg)) = x8
      refine aw_aload_n hC 1 dX2_offer_34 rfl rfl ?_
      refine aw_getP (b := 53) hC hSt 3 (cs_lt 43 2 0 (by decide) hM) (cs_k 43 2 0 (by decide) hM) rfl (by decide) w_136 rfl (cs_p 43 3 53 (by decide) hM) dX2_offer_35 ?_
      refine aw_iload_n hC 2 dX2_offer_38 rfl rfl ?_
      refine aw_iload_n hC 4 dX2_offer_39 rfl rfl ?_
      refine aw_iast hC hSt (cs_lt 53 14 6 (by decide) hM) (cs_k 53 14 6 (by decide) hM) (vp_len (n := 6) (cs_l 53 14 6 (by decide) hM) (h12 c1 c7 x8 ex8)) dX2_offer_40 ?_
      generalize eS9 : (sI S 53 a1.toNatClampNeg a3) = S9
      have hM : CS S9 := CS.of (by rw [← eS9]; exact shp_sI _ _ _ _) hM
      refine aw_aload_n hC 1 dX2_offer_41 rfl rfl ?_
      refine aw_getP (b := 45) hC hSt 1 (cs_lt 43 2 0 (by decide) hM) (cs_k 43 2 0 (by decide) hM) rfl (by decide) w_134 rfl (cs_p 43 1 45 (by decide) hM) dX2_offer_42 ?_
      refine aw_iload_n hC 2 dX2_offer_45 rfl rfl ?_
      refine aw_aaldI hC hSt (cs_lt 45 19 6 (by decide) hM) (cs_k 45 19 6 (by decide) hM) (vp_len (n := 6) (cs_l 45 19 6 (by decide) hM) (h13 c1 c7 x8 ex8 S9 eS9)) (cs_p 45 a1.toNatClampNeg (46 + a1.toNatClampNeg) (ar_p45 (h13 c1 c7 x8 ex8 S9 eS9)) hM) dX2_offer_46 ?_
      refine aw_iconst (v := 0) hC dX2_offer_47 (by decide) ?_
      refine aw_iload_n hC 3 dX2_offer_48 rfl rfl ?_
      refine aw_iast hC hSt (cs_lt (46 + a1.toNatClampNeg) 14 5 (ar_m45 (h13 c1 c7 x8 ex8 S9 eS9)) hM) (cs_k (46 + a1.toNatClampNeg) 14 5 (ar_m45 (h13 c1 c7 x8 ex8 S9 eS9)) hM) (vp_len (n := 5) (cs_l (46 + a1.toNatClampNeg) 14 5 (ar_m45 (h13 c1 c7 x8 ex8 S9 eS9)) hM) (by unfold vp_in; decide)) dX2_offer_49 ?_
      generalize eS10 : (sI S9 (46 + a1.toNatClampNeg) (0 : Int32).toNatClampNeg a2) = S10
      have hM : CS S10 := CS.of (by rw [← eS10]; exact shp_sI _ _ _ _) hM
      refine aw_aload_n hC 1 dX2_offer_50 rfl rfl ?_
      refine aw_getP (b := 45) hC hSt 1 (cs_lt 43 2 0 (by decide) hM) (cs_k 43 2 0 (by decide) hM) rfl (by decide) w_134 rfl (cs_p 43 1 45 (by decide) hM) dX2_offer_51 ?_
      refine aw_iload_n hC 2 dX2_offer_54 rfl rfl ?_
      refine aw_iconst (v := 1) hC dX2_offer_55 (by decide) ?_
      refine aw_iadd hC dX2_offer_56 ?_
      refine aw_aaldI hC hSt (cs_lt 45 19 6 (by decide) hM) (cs_k 45 19 6 (by decide) hM) (vp_len (n := 6) (cs_l 45 19 6 (by decide) hM) (h14 c1 c7 x8 ex8 S9 eS9 S10 eS10)) (cs_p 45 (a1 + (1 : Int32)).toNatClampNeg (46 + (a1 + (1 : Int32)).toNatClampNeg) (ar_p45 (h14 c1 c7 x8 ex8 S9 eS9 S10 eS10)) hM) dX2_offer_57 ?_
      refine aw_iconst (v := 0) hC dX2_offer_58 (by decide) ?_
      refine aw_aload_n hC 1 dX2_offer_59 rfl rfl ?_
      refine aw_getP (b := 45) hC hSt 1 (cs_lt 43 2 0 (by decide) hM) (cs_k 43 2 0 (by decide) hM) rfl (by decide) w_134 rfl (cs_p 43 1 45 (by decide) hM) dX2_offer_60 ?_
      refine aw_iload_n hC 2 dX2_offer_63 rfl rfl ?_
      refine aw_aaldI hC hSt (cs_lt 45 19 6 (by decide) hM) (cs_k 45 19 6 (by decide) hM) (vp_len (n := 6) (cs_l 45 19 6 (by decide) hM) (h15 c1 c7 x8 ex8 S9 eS9 S10 eS10)) (cs_p 45 a1.toNatClampNeg (46 + a1.toNatClampNeg) (ar_p45 (h15 c1 c7 x8 ex8 S9 eS9 S10 eS10)) hM) dX2_offer_64 ?_
      refine aw_iconst (v := 1) hC dX2_offer_65 (by decide) ?_
      refine aw_iload hC 0 dX2_offer_66 rfl ?_
      refine aw_copy hC hSt (cs_lt (46 + (a1 + (1 : Int32)).toNatClampNeg) 14 5 (ar_m45 (h14 c1 c7 x8 ex8 S9 eS9 S10 eS10)) hM) (cs_k (46 + (a1 + (1 : Int32)).toNatClampNeg) 14 5 (ar_m45 (h14 c1 c7 x8 ex8 S9 eS9 S10 eS10)) hM) (cs_lt (46 + a1.toNatClampNeg) 14 5 (ar_m45 (h15 c1 c7 x8 ex8 S9 eS9 S10 eS10)) hM) (cs_k (46 + a1.toNatClampNeg) 14 5 (ar_m45 (h15 c1 c7 x8 ex8 S9 eS9 S10 eS10)) hM) (by decide) (by decide) (h16 c1 c7 x8 ex8 S9 eS9 S10 eS10) (by rw [show gL _ _ = 5 from (cs_l (46 + (a1 + (1 : Int32)).toNatClampNeg) 14 5 (ar_m45 (h14 c1 c7 x8 ex8 S9 eS9 S10 eS10)) hM)]; exact (h17 c1 c7 x8 ex8 S9 eS9 S10 eS10)) (by rw [show gL _ _ = 5 from (cs_l (46 + a1.toNatClampNeg) 14 5 (ar_m45 (h15 c1 c7 x8 ex8 S9 eS9 S10 eS10)) hM)]; exact (h18 c1 c7 x8 ex8 S9 eS9 S10 eS10)) w_148 w_149 w_150 w_151 (by decide) (Nat.le_of_ble_eq_true rfl) dX2_offer_68 ?_
      generalize eS11 : (rI S10 (46 + a1.toNatClampNeg) (va_cpy (gI S10 (46 + (a1 + (1 : Int32)).toNatClampNeg)) (gI S10 (46 + a1.toNatClampNeg)) (0 : Int32).toNatClampNeg (1 : Int32).toNatClampNeg x8.toNatClampNeg)) = S11
      have hM : CS S11 := CS.of (by rw [← eS11]; exact shp_rI _ _ _) hM
      refine aw_aload_n hC 1 dX2_offer_71 rfl rfl ?_
      refine aw_getP (b := 52) hC hSt 2 (cs_lt 43 2 0 (by decide) hM) (cs_k 43 2 0 (by decide) hM) rfl (by decide) w_135 rfl (cs_p 43 2 52 (by decide) hM) dX2_offer_72 ?_
      refine aw_iload_n hC 2 dX2_offer_75 rfl rfl ?_
      refine aw_iconst (v := 1) hC dX2_offer_76 (by decide) ?_
      refine aw_iload hC 0 dX2_offer_77 rfl ?_
      refine aw_iadd hC dX2_offer_79 ?_
      refine aw_iast hC hSt (cs_lt 52 14 6 (by decide) hM) (cs_k 52 14 6 (by decide) hM) (vp_len (n := 6) (cs_l 52 14 6 (by decide) hM) (h19 c1 c7 x8 ex8 S9 eS9 S10 eS10 S11 eS11)) dX2_offer_80 ?_
      generalize eS12 : (sI S11 52 a1.toNatClampNeg ((1 : Int32) + x8)) = S12
      have hM : CS S12 := CS.of (by rw [← eS12]; exact shp_sI _ _ _ _) hM
      refine aw_vret hC dX2_offer_81 (Nat.le_refl _) (Nat.le_refl _) ?_
      exact FP.qV ((if_neg c1).trans ((if_pos c7).trans ((bd_eq ex8).trans ((bd_eq eS9).trans ((bd_eq eS10).trans ((bd_eq eS11).trans ((bd_eq eS12).trans (rfl))))))))
    · refine aw_vret hC dX2_offer_19 (Nat.le_refl _) (Nat.le_refl _) ?_
      exact FP.qV ((if_neg c1).trans ((if_neg c7).trans (rfl)))
theorem q_X2_offer (S : HSt) (_o0 : Nat) (a1 : Int32) (a2 : Int32) (a3 : Int32) : shp (f_X2_offer S _o0 a1 a2 a3) = shp S := by
  unfold f_X2_offer
  repeat' (first | with_reducible rfl | with_reducible refine (shp_sI _ _ _ _).trans ?_ | with_reducible refine (shp_sJ _ _ _ _).trans ?_ | with_reducible refine (shp_rI _ _ _).trans ?_ | with_reducible refine shi ?_ ?_ | with_reducible refine shb (fun _ _ => ?_) | (subst_vars; with_reducible rfl) | (subst_vars; with_reducible refine (shp_sI _ _ _ _).trans ?_) | (subst_vars; with_reducible refine (shp_sJ _ _ _ _).trans ?_) | (subst_vars; with_reducible refine (shp_rI _ _ _).trans ?_) | (subst_vars; with_reducible refine shi ?_ ?_) | (subst_vars; with_reducible refine shb (fun _ _ => ?_)))
noncomputable def L_X2_tryLets_16 (g : HSt → Nat → Nat → Int32 → Int32 × HSt) (sc1 : Nat) (w5q : Nat) : Nat → HSt → Int32 → Int32 → Int32 → Int32 → Int32 → Int32 × Int32 × Int32 × Int32 × Int32 × HSt
  | 0, S, v2, v3, v4, v6, v7 => (v2, v3, v4, v6, v7, S)
  | n + 1, S, v2, v3, v4, v6, v7 =>
    if (1 : Int32) < v7 then ((pr (v2) (pr (v3) (pr (v4) (pr (v6) (pr (v7) (S))))))) else (bd (f_X1_copyFrom S w5q (56 + v2.toNatClampNeg)) fun r1002 => bd (f_X1_advance r1002 w5q sc1 (0 : Int32) (v3 + (1 : Int32)) ((4 : Int32) + ((4 : Int32) * v7)) v4) fun r1003 => bd ((if (gI r1003 w5q 0) = v6 then v6 else (bd ((gI r1003 w5q 0)) fun x1005 => bd (g r1003 43 sc1 (v2 + (1 : Int32))) fun r1006 => bd (f_X2_offer r1006.2 43 v2 (((2 : Int32) * v3) + v7) r1006.1) fun r1007 => x1005))) fun x1008 => bd ((if (gI r1003 w5q 0) = v6 then r1003 else (bd ((gI r1003 w5q 0)) fun x1005 => bd (g r1003 43 sc1 (v2 + (1 : Int32))) fun r1006 => bd (f_X2_offer r1006.2 43 v2 (((2 : Int32) * v3) + v7) r1006.1) fun r1007 => r1007))) fun S1009 => L_X2_tryLets_16 g sc1 w5q n S1009 v2 v3 v4 x1008 (v7 + (1 : Int32)))
def T_X2_tryLets_16 (g : HSt → Nat → Nat → Int32 → Int32 × HSt) (pg : HSt → Nat → Nat → Int32 → Prop) (sc1 : Nat) (w5q : Nat) : Nat → HSt → Int32 → Int32 → Int32 → Int32 → Int32 → Prop
  | 0, _, _, _, _, _, _ => False
  | n + 1, S, v2, v3, v4, v6, v7 => ((¬ (1 : Int32) < v7) → vp_in v2 6) ∧ ((¬ (1 : Int32) < v7) → p_X1_copyFrom S w5q (56 + v2.toNatClampNeg)) ∧ ((¬ (1 : Int32) < v7) → ∀ r1002, f_X1_copyFrom S w5q (56 + v2.toNatClampNeg) = r1002 → ∀ r1003, f_X1_advance r1002 w5q sc1 (0 : Int32) (v3 + (1 : Int32)) ((4 : Int32) + ((4 : Int32) * v7)) v4 = r1003 → (¬ (gI r1003 w5q 0) = v6) → ∀ x1005 : Int32, (gI r1003 w5q 0) = x1005 → pg r1003 43 sc1 (v2 + (1 : Int32))) ∧ ((¬ (1 : Int32) < v7) → ∀ r1002, f_X1_copyFrom S w5q (56 + v2.toNatClampNeg) = r1002 → ∀ r1003, f_X1_advance r1002 w5q sc1 (0 : Int32) (v3 + (1 : Int32)) ((4 : Int32) + ((4 : Int32) * v7)) v4 = r1003 → (¬ (gI r1003 w5q 0) = v6) → ∀ x1005 : Int32, (gI r1003 w5q 0) = x1005 → ∀ r1006, g r1003 43 sc1 (v2 + (1 : Int32)) = r1006 → p_X2_offer r1006.2 43 v2 (((2 : Int32) * v3) + v7) r1006.1) ∧ ((¬ (1 : Int32) < v7) → ∀ r1002, f_X1_copyFrom S w5q (56 + v2.toNatClampNeg) = r1002 → ∀ r1003, f_X1_advance r1002 w5q sc1 (0 : Int32) (v3 + (1 : Int32)) ((4 : Int32) + ((4 : Int32) * v7)) v4 = r1003 → ∀ x1008 : Int32, (if (gI r1003 w5q 0) = v6 then v6 else (bd ((gI r1003 w5q 0)) fun x1005 => bd (g r1003 43 sc1 (v2 + (1 : Int32))) fun r1006 => bd (f_X2_offer r1006.2 43 v2 (((2 : Int32) * v3) + v7) r1006.1) fun r1007 => x1005)) = x1008 → ∀ S1009 : HSt, (if (gI r1003 w5q 0) = v6 then r1003 else (bd ((gI r1003 w5q 0)) fun x1005 => bd (g r1003 43 sc1 (v2 + (1 : Int32))) fun r1006 => bd (f_X2_offer r1006.2 43 v2 (((2 : Int32) * v3) + v7) r1006.1) fun r1007 => r1007)) = S1009 → T_X2_tryLets_16 g pg sc1 w5q n S1009 v2 v3 v4 x1008 (v7 + (1 : Int32)))
theorem qL_X2_tryLets_16 (g : HSt → Nat → Nat → Int32 → Int32 × HSt) (qg : ∀ (S : HSt) (o sc : Nat) (a : Int32), shp (g S o sc a).2 = shp S) (sc1 : Nat) (w5q : Nat) : ∀ (n : Nat) (S : HSt) (v2 : Int32) (v3 : Int32) (v4 : Int32) (v6 : Int32) (v7 : Int32), shp (L_X2_tryLets_16 g sc1 w5q n S v2 v3 v4 v6 v7).2.2.2.2.2 = shp S := by
  intro n
  induction n with
  | zero => intros; rfl
  | succ n ih =>
    intro S v2 v3 v4 v6 v7
    unfold L_X2_tryLets_16
    repeat' (first | with_reducible refine shpr5 ?_ | with_reducible rfl | with_reducible refine (ih _ _ _ _ _ _).trans ?_ | with_reducible refine (q_X1_advance _ _ _ _ _ _ _).trans ?_ | with_reducible refine (q_X1_copyFrom _ _ _).trans ?_ | with_reducible refine (q_X2_offer _ _ _ _ _).trans ?_ | with_reducible refine (qg _ _ _ _).trans ?_ | with_reducible refine (shp_sI _ _ _ _).trans ?_ | with_reducible refine (shp_sJ _ _ _ _).trans ?_ | with_reducible refine (shp_rI _ _ _).trans ?_ | with_reducible refine shi ?_ ?_ | with_reducible refine shb (fun _ _ => ?_) | with_reducible refine shiP (fun q : Int32 × Int32 × Int32 × Int32 × Int32 × HSt => q.2.2.2.2.2) ?_ ?_ | with_reducible refine shbP (fun q : Int32 × Int32 × Int32 × Int32 × Int32 × HSt => q.2.2.2.2.2) (fun _ _ => ?_) | (subst_vars; with_reducible rfl) | (subst_vars; with_reducible refine (ih _ _ _ _ _ _).trans ?_) | (subst_vars; with_reducible refine (q_X1_advance _ _ _ _ _ _ _).trans ?_) | (subst_vars; with_reducible refine (q_X1_copyFrom _ _ _).trans ?_) | (subst_vars; with_reducible refine (q_X2_offer _ _ _ _ _).trans ?_) | (subst_vars; with_reducible refine (qg _ _ _ _).trans ?_) | (subst_vars; with_reducible refine (shp_sI _ _ _ _).trans ?_) | (subst_vars; with_reducible refine (shp_sJ _ _ _ _).trans ?_) | (subst_vars; with_reducible refine (shp_rI _ _ _).trans ?_) | (subst_vars; with_reducible refine shi ?_ ?_) | (subst_vars; with_reducible refine shb (fun _ _ => ?_)))
set_option maxRecDepth 100000 in
theorem l_X2_tryLets_16 {p : Program} {l : Launch} {e : Env} {s : State} {m : MethodId} {args : Array Value} {below : List Frame} {meth : Method} {c : Code} {G : GG} {Q : State → Prop} (hC : ACx p s m args meth c cX2_tryLets RX2 8 none) (hSt : St G s)  {D : Nat} (hD : 8 ≤ D) {g : HSt → Nat → Nat → Int32 → Int32 × HSt} {pg : HSt → Nat → Nat → Int32 → Prop} (hg : ∀ (S : HSt), CS S → ∀ (sc1 : Nat) (a2 : Int32), (sc1, 7, 0) ∈ cKT → pg S 43 sc1 a2 → AM G l yX2_seekFrom cX2_seekFrom 3 (some .int) (rmD D 0 0) 0 0 [.ref 43, .ref sc1, .int a2] S (FP (some (.int (g S 43 sc1 a2).1)) (g S 43 sc1 a2).2)) (qg : ∀ (S : HSt) (o sc : Nat) (a : Int32), shp (g S o sc a).2 = shp S) {sc1 : Nat} (hsc1 : (sc1, 7, 0) ∈ cKT) {w5q : Nat} (hw5q : (w5q, 1, 0) ∈ cKT) : ∀ (n : Nat) (S : HSt) (v2 : Int32) (v3 : Int32) (v4 : Int32) (v6 : Int32) (v7 : Int32), CS S → T_X2_tryLets_16 g pg sc1 w5q n S v2 v3 v4 v6 v7 → AW p l e (rmD (D + 1) 0 0) s m args below meth c G 8 Q (L_X2_tryLets_16 g sc1 w5q n S v2 v3 v4 v6 v7).2.2.2.2.2 0 0 93 [(0, .ref 43), (1, .ref sc1), (2, .int (L_X2_tryLets_16 g sc1 w5q n S v2 v3 v4 v6 v7).1), (3, .int (L_X2_tryLets_16 g sc1 w5q n S v2 v3 v4 v6 v7).2.1), (4, .int (L_X2_tryLets_16 g sc1 w5q n S v2 v3 v4 v6 v7).2.2.1), (5, .ref w5q), (6, .int (L_X2_tryLets_16 g sc1 w5q n S v2 v3 v4 v6 v7).2.2.2.1), (7, .int (L_X2_tryLets_16 g sc1 w5q n S v2 v3 v4 v6 v7).2.2.2.2.1)] [] → AW p l e (rmD (D + 1) 0 0) s m args below meth c G 8 Q S 0 0 16 [(0, .ref 43), (1, .ref sc1), (2, .int v2), (3, .int v3), (4, .int v4), (5, .ref w5q), (6, .int v6), (7, .int v7)] [] := by
  intro n
  induction n with
  | zero => intro S v2 v3 v4 v6 v7 _ hT; exact hT.elim
  | succ n ih =>
    intro S v2 v3 v4 v6 v7 hM hT hk
    unfold T_X2_tryLets_16 at hT
    obtain ⟨h0, h1, h2, h3, h4⟩ := hT
    refine aw_iload hC 7 dX2_tryLets_16 rfl ?_
    refine aw_iconst (v := 1) hC dX2_tryLets_18 (by decide) ?_
    refine aw_icmp_gt hC 93 dX2_tryLets_19 (by decide) (fun c1001 => ?_) (fun c1001 => ?_)
    · refine aw_sub [0, 1, 2, 3, 4, 5, 6, 7] rfl ?_
      have E : L_X2_tryLets_16 g sc1 w5q (n + 1) S v2 v3 v4 v6 v7 = _ := (if_pos c1001).trans (rfl)
      rw [E] at hk
      exact hk
    · refine aw_aload hC 5 dX2_tryLets_22 rfl ?_
      refine aw_aload_n hC 0 dX2_tryLets_24 rfl rfl ?_
      refine aw_getP (b := 44) hC hSt 0 (cs_lt 43 2 0 (by decide) hM) (cs_k 43 2 0 (by decide) hM) rfl (by decide) w_132 rfl (cs_p 43 0 44 (by decide) hM) dX2_tryLets_25 ?_
      refine aw_iload_n hC 2 dX2_tryLets_28 rfl rfl ?_
      refine aw_aaldL hC hSt (cs_lt 44 17 6 (by decide) hM) (cs_k 44 17 6 (by decide) hM) (vp_len (n := 6) (cs_l 44 17 6 (by decide) hM) (h0 c1001)) (cs_p 44 v2.toNatClampNeg (56 + v2.toNatClampNeg) (ar_p44 (h0 c1001)) hM) dX2_tryLets_29 ?_
      refine aw_cV1v hC hSt (t_X1_copyFrom G l hM _ _ hw5q (ar_m44 (h0 c1001)) (h1 c1001)) w_86 w_212 w_213 w_214 w_84 rfl rfl (by decide +kernel) ⟨by dsimp only [rmD]; omega, by dsimp only [rmD]; omega⟩ (cs_lt w5q 1 0 hw5q hM) (cs_k w5q 1 0 hw5q hM) rfl (Nat.le_of_ble_eq_true rfl) dX2_tryLets_30 ⟨Nat.zero_le _, Nat.zero_le _⟩ ?_
      generalize er1002 : f_X1_copyFrom S w5q (56 + v2.toNatClampNeg) = r1002
      have hM : CS r1002 := CS.of (by rw [← er1002]; exact q_X1_copyFrom _ _ _) hM
      refine aw_aload hC 5 dX2_tryLets_33 rfl ?_
      refine aw_aload_n hC 1 dX2_tryLets_35 rfl rfl ?_
      refine aw_iconst (v := 0) hC dX2_tryLets_36 (by decide) ?_
      refine aw_iload_n hC 3 dX2_tryLets_37 rfl rfl ?_
      refine aw_iconst (v := 1) hC dX2_tryLets_38 (by decide) ?_
      refine aw_iadd hC dX2_tryLets_39 ?_
      refine aw_iconst (v := 4) hC dX2_tryLets_40 (by decide) ?_
      refine aw_iconst (v := 4) hC dX2_tryLets_41 (by decide) ?_
      refine aw_iload hC 7 dX2_tryLets_42 rfl ?_
      refine aw_imul hC dX2_tryLets_44 ?_
      refine aw_iadd hC dX2_tryLets_45 ?_
      refine aw_iload hC 4 dX2_tryLets_46 rfl ?_
      refine aw_cV5v hC hSt (t_X1_advance G l hM _ _ _ _ _ _ hw5q hsc1) w_124 w_228 w_229 w_230 w_84 rfl rfl (by decide +kernel) ⟨by dsimp only [rmD]; omega, by dsimp only [rmD]; omega⟩ (cs_lt w5q 1 0 hw5q hM) (cs_k w5q 1 0 hw5q hM) rfl (Nat.le_of_ble_eq_true rfl) dX2_tryLets_48 ⟨Nat.zero_le _, Nat.zero_le _⟩ ?_
      generalize er1003 : f_X1_advance r1002 w5q sc1 (0 : Int32) (v3 + (1 : Int32)) ((4 : Int32) + ((4 : Int32) * v7)) v4 = r1003
      have hM : CS r1003 := CS.of (by rw [← er1003]; exact q_X1_advance _ _ _ _ _ _ _) hM
      refine aw_aload hC 5 dX2_tryLets_51 rfl ?_
      refine aw_getI hC hSt 0 (cs_lt w5q 1 0 hw5q hM) (cs_k w5q 1 0 hw5q hM) rfl (by decide) w_198 rfl dX2_tryLets_53 ?_
      refine aw_iload hC 6 dX2_tryLets_56 rfl ?_
      refine aw_cut (S' := (if (gI r1003 w5q 0) = v6 then r1003 else (bd ((gI r1003 w5q 0)) fun x1005 => bd (g r1003 43 sc1 (v2 + (1 : Int32))) fun r1006 => bd (f_X2_offer r1006.2 43 v2 (((2 : Int32) * v3) + v7) r1006.1) fun r1007 => r1007))) (pc' := 87) (lv' := [(0, .ref 43), (1, .ref sc1), (2, .int v2), (3, .int v3), (4, .int v4), (5, .ref w5q), (6, .int (if (gI r1003 w5q 0) = v6 then v6 else (bd ((gI r1003 w5q 0)) fun x1005 => bd (g r1003 43 sc1 (v2 + (1 : Int32))) fun r1006 => bd (f_X2_offer r1006.2 43 v2 (((2 : Int32) * v3) + v7) r1006.1) fun r1007 => x1005))), (7, .int v7)]) (st' := []) ?_ (fun Jc1004 => ?_)
      · generalize ex1008 : (if (gI r1003 w5q 0) = v6 then v6 else (bd ((gI r1003 w5q 0)) fun x1005 => bd (g r1003 43 sc1 (v2 + (1 : Int32))) fun r1006 => bd (f_X2_offer r1006.2 43 v2 (((2 : Int32) * v3) + v7) r1006.1) fun r1007 => x1005)) = x1008
        generalize eS1009 : (if (gI r1003 w5q 0) = v6 then r1003 else (bd ((gI r1003 w5q 0)) fun x1005 => bd (g r1003 43 sc1 (v2 + (1 : Int32))) fun r1006 => bd (f_X2_offer r1006.2 43 v2 (((2 : Int32) * v3) + v7) r1006.1) fun r1007 => r1007)) = S1009
        have hM : CS S1009 := CS.of (by rw [← eS1009]; repeat' (first | with_reducible rfl | with_reducible refine (q_X1_advance _ _ _ _ _ _ _).trans ?_ | with_reducible refine (q_X1_copyFrom _ _ _).trans ?_ | with_reducible refine (q_X2_offer _ _ _ _ _).trans ?_ | with_reducible refine (qg _ _ _ _).trans ?_ | with_reducible refine (shp_sI _ _ _ _).trans ?_ | with_reducible refine (shp_sJ _ _ _ _).trans ?_ | with_reducible refine (shp_rI _ _ _).trans ?_ | with_reducible refine shi ?_ ?_ | with_reducible refine shb (fun _ _ => ?_) | (subst_vars; with_reducible rfl) | (subst_vars; with_reducible refine (q_X1_advance _ _ _ _ _ _ _).trans ?_) | (subst_vars; with_reducible refine (q_X1_copyFrom _ _ _).trans ?_) | (subst_vars; with_reducible refine (q_X2_offer _ _ _ _ _).trans ?_) | (subst_vars; with_reducible refine (qg _ _ _ _).trans ?_) | (subst_vars; with_reducible refine (shp_sI _ _ _ _).trans ?_) | (subst_vars; with_reducible refine (shp_sJ _ _ _ _).trans ?_) | (subst_vars; with_reducible refine (shp_rI _ _ _).trans ?_) | (subst_vars; with_reducible refine shi ?_ ?_) | (subst_vars; with_reducible refine shb (fun _ _ => ?_)))) hM
        refine aw_iinc (v := (v7 + (1 : Int32))) hC 7 [(7, .int _), (0, .ref 43), (1, .ref sc1), (2, .int _), (3, .int _), (4, .int _), (5, .ref w5q), (6, .int _)] dX2_tryLets_87 rfl rfl (by decide) rfl ?_
        refine aw_goto hC 16 dX2_tryLets_90 (by decide) ?_
        refine aw_sub [1, 2, 3, 4, 5, 6, 7, 0] rfl ?_
        have hTn := (h4 c1001 r1002 er1002 r1003 er1003 x1008 ex1008 S1009 eS1009)
        have hMn : CS S1009 := hM
        have E : L_X2_tryLets_16 g sc1 w5q (n + 1) S v2 v3 v4 v6 v7 = _ := (if_neg c1001).trans ((bd_eq er1002).trans ((bd_eq er1003).trans ((bd_eq ex1008).trans ((bd_eq eS1009).trans (rfl)))))
        rw [E] at hk
        exact ih _ _ _ _ _ _ hMn hTn hk
      · refine aw_icmp_eq hC 87 dX2_tryLets_58 (by decide) (fun c1004 => ?_) (fun c1004 => ?_)
        · simp only [bd_def, if_pos c1004] at Jc1004 ⊢
          exact Jc1004
        · refine aw_aload hC 5 dX2_tryLets_61 rfl ?_
          refine aw_getI hC hSt 0 (cs_lt w5q 1 0 hw5q hM) (cs_k w5q 1 0 hw5q hM) rfl (by decide) w_198 rfl dX2_tryLets_63 ?_
          refine aw_istore hC [(6, .int _), (0, .ref 43), (1, .ref sc1), (2, .int _), (3, .int _), (4, .int _), (5, .ref w5q), (7, .int _)] dX2_tryLets_66 (by decide) rfl ?_
          generalize ex1005 : (gI r1003 w5q 0) = x1005
          refine aw_aload_n hC 1 dX2_tryLets_68 rfl rfl ?_
          refine aw_iload_n hC 3 dX2_tryLets_69 rfl rfl ?_
          refine aw_iconst (v := 2) hC dX2_tryLets_70 (by decide) ?_
          refine aw_iload_n hC 4 dX2_tryLets_71 rfl rfl ?_
          refine aw_imul hC dX2_tryLets_72 ?_
          refine aw_iload hC 7 dX2_tryLets_73 rfl ?_
          refine aw_iadd hC dX2_tryLets_75 ?_
          refine aw_aload_n hC 1 dX2_tryLets_76 rfl rfl ?_
          refine aw_aload_n hC 2 dX2_tryLets_77 rfl rfl ?_
          refine aw_iload_n hC 3 dX2_tryLets_78 rfl rfl ?_
          refine aw_iconst (v := 1) hC dX2_tryLets_79 (by decide) ?_
          refine aw_iadd hC dX2_tryLets_80 ?_
          refine aw_cV2r hC hSt (hg _ hM _ _ hsc1 (h2 c1001 r1002 er1002 r1003 er1003 c1004 x1005 ex1005)) w_220 w_216 w_217 w_218 w_219 rfl rfl (by decide +kernel) ⟨by dsimp only [rmD]; omega, by dsimp only [rmD]; omega⟩ (cs_lt 43 2 0 (by decide) hM) (cs_k 43 2 0 (by decide) hM) rfl (Nat.le_of_ble_eq_true rfl) dX2_tryLets_81 ⟨Nat.zero_le _, Nat.zero_le _⟩ ?_
          generalize er1006 : g r1003 43 sc1 (v2 + (1 : Int32)) = r1006
          have hM : CS r1006.2 := CS.of (by rw [← er1006]; exact qg _ _ _ _) hM
          refine aw_cV3v hC hSt (t_X2_offer G l hM _ _ _ (h3 c1001 r1002 er1002 r1003 er1003 c1004 x1005 ex1005 r1006 er1006)) w_146 w_231 w_232 w_233 w_219 rfl rfl (by decide +kernel) ⟨by dsimp only [rmD]; omega, by dsimp only [rmD]; omega⟩ (cs_lt 43 2 0 (by decide) hM) (cs_k 43 2 0 (by decide) hM) rfl (Nat.le_of_ble_eq_true rfl) dX2_tryLets_84 ⟨Nat.zero_le _, Nat.zero_le _⟩ ?_
          generalize er1007 : f_X2_offer r1006.2 43 v2 (((2 : Int32) * v3) + v7) r1006.1 = r1007
          have hM : CS r1007 := CS.of (by rw [← er1007]; exact q_X2_offer _ _ _ _ _) hM
          refine aw_sub [1, 2, 3, 4, 5, 6, 0, 7] rfl ?_
          subst er1007
          subst er1006
          subst ex1005
          simp only [bd_def, if_neg c1004] at Jc1004 ⊢
          exact Jc1004
noncomputable def f_X2_tryLets (g : HSt → Nat → Nat → Int32 → Int32 × HSt) (S : HSt) (_o0 : Nat) (sc1 : Nat) (a2 : Int32) (a3 : Int32) (a4 : Int32) : HSt := bd (L_X2_tryLets_16 g sc1 (56 + (a2 + (1 : Int32)).toNatClampNeg) 1000 S a2 a3 a4 (-1 : Int32) (0 : Int32)) fun r1 => r1.2.2.2.2.2
def p_X2_tryLets (g : HSt → Nat → Nat → Int32 → Int32 × HSt) (pg : HSt → Nat → Nat → Int32 → Prop) (S : HSt) (_o0 : Nat) (sc1 : Nat) (a2 : Int32) (a3 : Int32) (a4 : Int32) : Prop := (vp_in (a2 + (1 : Int32)) 6) ∧ (T_X2_tryLets_16 g pg sc1 (56 + (a2 + (1 : Int32)).toNatClampNeg) 1000 S a2 a3 a4 (-1 : Int32) (0 : Int32))
set_option maxRecDepth 100000 in
theorem t_X2_tryLets (G : GG) (l : Launch) {D : Nat} (hD : 8 ≤ D) {g : HSt → Nat → Nat → Int32 → Int32 × HSt} {pg : HSt → Nat → Nat → Int32 → Prop} (hg : ∀ (S : HSt), CS S → ∀ (sc1 : Nat) (a2 : Int32), (sc1, 7, 0) ∈ cKT → pg S 43 sc1 a2 → AM G l yX2_seekFrom cX2_seekFrom 3 (some .int) (rmD D 0 0) 0 0 [.ref 43, .ref sc1, .int a2] S (FP (some (.int (g S 43 sc1 a2).1)) (g S 43 sc1 a2).2)) (qg : ∀ (S : HSt) (o sc : Nat) (a : Int32), shp (g S o sc a).2 = shp S) {S : HSt} (hM : CS S) (sc1 : Nat) (a2 : Int32) (a3 : Int32) (a4 : Int32) (hsc1 : (sc1, 7, 0) ∈ cKT) (hp : p_X2_tryLets g pg S 43 sc1 a2 a3 a4) : AM G l yX2_tryLets cX2_tryLets 8 none (rmD (D + 1) 0 0) 0 0 [.ref 43, .ref sc1, .int a2, .int a3, .int a4] S (FP none (f_X2_tryLets g S 43 sc1 a2 a3 a4)) := by
  obtain ⟨h0, h1⟩ := hp
  refine AM.mk (by decide) (Nat.le_of_ble_eq_true rfl) ?_
  intro p e s m below meth c hC hSt _
  refine aw_aload_n hC 0 dX2_tryLets_0 rfl rfl ?_
  refine aw_getP (b := 44) hC hSt 0 (cs_lt 43 2 0 (by decide) hM) (cs_k 43 2 0 (by decide) hM) rfl (by decide) w_132 rfl (cs_p 43 0 44 (by decide) hM) dX2_tryLets_1 ?_
  refine aw_iload_n hC 2 dX2_tryLets_4 rfl rfl ?_
  refine aw_iconst (v := 1) hC dX2_tryLets_5 (by decide) ?_
  refine aw_iadd hC dX2_tryLets_6 ?_
  refine aw_aaldL hC hSt (cs_lt 44 17 6 (by decide) hM) (cs_k 44 17 6 (by decide) hM) (vp_len (n := 6) (cs_l 44 17 6 (by decide) hM) (h0)) (cs_p 44 (a2 + (1 : Int32)).toNatClampNeg (56 + (a2 + (1 : Int32)).toNatClampNeg) (ar_p44 (h0)) hM) dX2_tryLets_7 ?_
  refine aw_astore hC [(5, .ref (56 + (a2 + (1 : Int32)).toNatClampNeg)), (0, .ref 43), (1, .ref sc1), (2, .int _), (3, .int _), (4, .int _)] dX2_tryLets_8 (by decide) rfl ?_
  refine aw_iconst (v := -1) hC dX2_tryLets_10 (by decide) ?_
  refine aw_istore hC [(6, .int _), (5, .ref (56 + (a2 + (1 : Int32)).toNatClampNeg)), (0, .ref 43), (1, .ref sc1), (2, .int _), (3, .int _), (4, .int _)] dX2_tryLets_11 (by decide) rfl ?_
  refine aw_iconst (v := 0) hC dX2_tryLets_13 (by decide) ?_
  refine aw_istore hC [(7, .int _), (6, .int _), (5, .ref (56 + (a2 + (1 : Int32)).toNatClampNeg)), (0, .ref 43), (1, .ref sc1), (2, .int _), (3, .int _), (4, .int _)] dX2_tryLets_14 (by decide) rfl ?_
  refine aw_sub [3, 4, 5, 6, 7, 2, 1, 0] rfl ?_
  refine l_X2_tryLets_16 hC hSt hD hg qg hsc1 (ar_m44 (h0)) 1000 _ _ _ _ _ _ hM (h1) ?_
  generalize er1 : L_X2_tryLets_16 g sc1 (56 + (a2 + (1 : Int32)).toNatClampNeg) 1000 S a2 a3 a4 (-1 : Int32) (0 : Int32) = r1
  have hM : CS r1.2.2.2.2.2 := CS.of (by rw [← er1]; exact qL_X2_tryLets_16 g qg sc1 _ _ _ _ _ _ _ _) hM
  refine aw_vret hC dX2_tryLets_93 (Nat.le_refl _) (Nat.le_refl _) ?_
  exact FP.qV ((bd_eq er1).trans (rfl))
theorem q_X2_tryLets (g : HSt → Nat → Nat → Int32 → Int32 × HSt) (qg : ∀ (S : HSt) (o sc : Nat) (a : Int32), shp (g S o sc a).2 = shp S) (S : HSt) (_o0 : Nat) (sc1 : Nat) (a2 : Int32) (a3 : Int32) (a4 : Int32) : shp (f_X2_tryLets g S _o0 sc1 a2 a3 a4) = shp S := by
  unfold f_X2_tryLets
  repeat' (first | with_reducible rfl | with_reducible refine (q_X1_advance _ _ _ _ _ _ _).trans ?_ | with_reducible refine (q_X1_copyFrom _ _ _).trans ?_ | with_reducible refine (q_X2_offer _ _ _ _ _).trans ?_ | with_reducible refine (qg _ _ _ _).trans ?_ | with_reducible refine (qL_X2_tryLets_16 g qg sc1 _ _ _ _ _ _ _ _).trans ?_ | with_reducible refine (shp_sI _ _ _ _).trans ?_ | with_reducible refine (shp_sJ _ _ _ _).trans ?_ | with_reducible refine (shp_rI _ _ _).trans ?_ | with_reducible refine shi ?_ ?_ | with_reducible refine shb (fun _ _ => ?_) | (subst_vars; with_reducible rfl) | (subst_vars; with_reducible refine (q_X1_advance _ _ _ _ _ _ _).trans ?_) | (subst_vars; with_reducible refine (q_X1_copyFrom _ _ _).trans ?_) | (subst_vars; with_reducible refine (q_X2_offer _ _ _ _ _).trans ?_) | (subst_vars; with_reducible refine (qg _ _ _ _).trans ?_) | (subst_vars; with_reducible refine (qL_X2_tryLets_16 g qg sc1 _ _ _ _ _ _ _ _).trans ?_) | (subst_vars; with_reducible refine (shp_sI _ _ _ _).trans ?_) | (subst_vars; with_reducible refine (shp_sJ _ _ _ _).trans ?_) | (subst_vars; with_reducible refine (shp_rI _ _ _).trans ?_) | (subst_vars; with_reducible refine shi ?_ ?_) | (subst_vars; with_reducible refine shb (fun _ _ => ?_)))
noncomputable def f_X2_seekBehindThrow (g : HSt → Nat → Nat → Int32 → Int32 × HSt) (S : HSt) (_o0 : Nat) (sc1 : Nat) (a2 : Int32) (a3 : Int32) : Int32 × HSt := if a2 = ((gI S 43 6) - (1 : Int32)) then (pr ((0 : Int32)) (S)) else (bd (f_X1_copyFrom S (56 + (a2 + (1 : Int32)).toNatClampNeg) (56 + a2.toNatClampNeg)) fun r2 => bd (f_X1_fallToHand r2 (56 + (a2 + (1 : Int32)).toNatClampNeg)) fun r3 => bd ((sI r3 43 8 ((gI r3 43 8) ||| ((1 : Int32) <<< (a3 &&& 31))))) fun S4 => bd (g S4 43 sc1 (a2 + (1 : Int32))) fun r5 => bd (r5.1) fun x6 => bd ((sI r5.2 43 8 ((gI r5.2 43 8) &&& (((1 : Int32) <<< (a3 &&& 31)) ^^^ (-1 : Int32))))) fun S7 => pr (x6) (S7))
def p_X2_seekBehindThrow (g : HSt → Nat → Nat → Int32 → Int32 × HSt) (pg : HSt → Nat → Nat → Int32 → Prop) (S : HSt) (_o0 : Nat) (sc1 : Nat) (a2 : Int32) (a3 : Int32) : Prop := ((¬ a2 = ((gI S 43 6) - (1 : Int32))) → vp_in (a2 + (1 : Int32)) 6) ∧ ((¬ a2 = ((gI S 43 6) - (1 : Int32))) → vp_in a2 6) ∧ ((¬ a2 = ((gI S 43 6) - (1 : Int32))) → p_X1_copyFrom S (56 + (a2 + (1 : Int32)).toNatClampNeg) (56 + a2.toNatClampNeg)) ∧ ((¬ a2 = ((gI S 43 6) - (1 : Int32))) → ∀ r2, f_X1_copyFrom S (56 + (a2 + (1 : Int32)).toNatClampNeg) (56 + a2.toNatClampNeg) = r2 → ∀ r3, f_X1_fallToHand r2 (56 + (a2 + (1 : Int32)).toNatClampNeg) = r3 → ∀ S4 : HSt, (sI r3 43 8 ((gI r3 43 8) ||| ((1 : Int32) <<< (a3 &&& 31)))) = S4 → pg S4 43 sc1 (a2 + (1 : Int32)))
set_option maxRecDepth 100000 in
theorem t_X2_seekBehindThrow (G : GG) (l : Launch) {D : Nat} (hD : 8 ≤ D) {g : HSt → Nat → Nat → Int32 → Int32 × HSt} {pg : HSt → Nat → Nat → Int32 → Prop} (hg : ∀ (S : HSt), CS S → ∀ (sc1 : Nat) (a2 : Int32), (sc1, 7, 0) ∈ cKT → pg S 43 sc1 a2 → AM G l yX2_seekFrom cX2_seekFrom 3 (some .int) (rmD D 0 0) 0 0 [.ref 43, .ref sc1, .int a2] S (FP (some (.int (g S 43 sc1 a2).1)) (g S 43 sc1 a2).2)) (qg : ∀ (S : HSt) (o sc : Nat) (a : Int32), shp (g S o sc a).2 = shp S) {S : HSt} (hM : CS S) (sc1 : Nat) (a2 : Int32) (a3 : Int32) (hsc1 : (sc1, 7, 0) ∈ cKT) (hp : p_X2_seekBehindThrow g pg S 43 sc1 a2 a3) : AM G l yX2_seekBehindThrow cX2_seekBehindThrow 6 (some .int) (rmD (D + 1) 0 0) 0 0 [.ref 43, .ref sc1, .int a2, .int a3] S (FP (some (.int (f_X2_seekBehindThrow g S 43 sc1 a2 a3).1)) ((f_X2_seekBehindThrow g S 43 sc1 a2 a3).2)) := by
  obtain ⟨h0, h1, h2, h3⟩ := hp
  refine AM.mk (by decide) (Nat.le_of_ble_eq_true rfl) ?_
  intro p e s m below meth c hC hSt _
  refine aw_iload_n hC 2 dX2_seekBehindThrow_0 rfl rfl ?_
  refine aw_aload_n hC 0 dX2_seekBehindThrow_1 rfl rfl ?_
  refine aw_getI hC hSt 6 (cs_lt 43 2 0 (by decide) hM) (cs_k 43 2 0 (by decide) hM) rfl (by decide) w_210 rfl dX2_seekBehindThrow_2 ?_
  refine aw_iconst (v := 1) hC dX2_seekBehindThrow_5 (by decide) ?_
  refine aw_isub hC dX2_seekBehindThrow_6 ?_
  refine aw_icmp_ne hC 12 dX2_seekBehindThrow_7 (by decide) (fun c1 => ?_) (fun c1 => ?_)
  · refine aw_aload_n hC 0 dX2_seekBehindThrow_12 rfl rfl ?_
    refine aw_getP (b := 44) hC hSt 0 (cs_lt 43 2 0 (by decide) hM) (cs_k 43 2 0 (by decide) hM) rfl (by decide) w_132 rfl (cs_p 43 0 44 (by decide) hM) dX2_seekBehindThrow_13 ?_
    refine aw_iload_n hC 2 dX2_seekBehindThrow_16 rfl rfl ?_
    refine aw_iconst (v := 1) hC dX2_seekBehindThrow_17 (by decide) ?_
    refine aw_iadd hC dX2_seekBehindThrow_18 ?_
    refine aw_aaldL hC hSt (cs_lt 44 17 6 (by decide) hM) (cs_k 44 17 6 (by decide) hM) (vp_len (n := 6) (cs_l 44 17 6 (by decide) hM) (h0 c1)) (cs_p 44 (a2 + (1 : Int32)).toNatClampNeg (56 + (a2 + (1 : Int32)).toNatClampNeg) (ar_p44 (h0 c1)) hM) dX2_seekBehindThrow_19 ?_
    refine aw_astore hC [(4, .ref (56 + (a2 + (1 : Int32)).toNatClampNeg)), (0, .ref 43), (1, .ref sc1), (2, .int _), (3, .int _)] dX2_seekBehindThrow_20 (by decide) rfl ?_
    refine aw_aload hC 0 dX2_seekBehindThrow_22 rfl ?_
    refine aw_aload_n hC 1 dX2_seekBehindThrow_24 rfl rfl ?_
    refine aw_getP (b := 44) hC hSt 0 (cs_lt 43 2 0 (by decide) hM) (cs_k 43 2 0 (by decide) hM) rfl (by decide) w_132 rfl (cs_p 43 0 44 (by decide) hM) dX2_seekBehindThrow_25 ?_
    refine aw_iload_n hC 3 dX2_seekBehindThrow_28 rfl rfl ?_
    refine aw_aaldL hC hSt (cs_lt 44 17 6 (by decide) hM) (cs_k 44 17 6 (by decide) hM) (vp_len (n := 6) (cs_l 44 17 6 (by decide) hM) (h1 c1)) (cs_p 44 a2.toNatClampNeg (56 + a2.toNatClampNeg) (ar_p44 (h1 c1)) hM) dX2_seekBehindThrow_29 ?_
    refine aw_cV1v hC hSt (t_X1_copyFrom G l hM _ _ (ar_m44 (h0 c1)) (ar_m44 (h1 c1)) (h2 c1)) w_86 w_212 w_213 w_214 w_84 rfl rfl (by decide +kernel) ⟨by dsimp only [rmD]; omega, by dsimp only [rmD]; omega⟩ (cs_lt (56 + (a2 + (1 : Int32)).toNatClampNeg) 1 0 (ar_m44 (h0 c1)) hM) (cs_k (56 + (a2 + (1 : Int32)).toNatClampNeg) 1 0 (ar_m44 (h0 c1)) hM) rfl (Nat.le_of_ble_eq_true rfl) dX2_seekBehindThrow_30 ⟨Nat.zero_le _, Nat.zero_le _⟩ ?_
    generalize er2 : f_X1_copyFrom S (56 + (a2 + (1 : Int32)).toNatClampNeg) (56 + a2.toNatClampNeg) = r2
    have hM : CS r2 := CS.of (by rw [← er2]; exact q_X1_copyFrom _ _ _) hM
    refine aw_aload hC 0 dX2_seekBehindThrow_33 rfl ?_
    refine aw_cV0v hC hSt (t_X1_fallToHand G l hM _ (ar_m44 (h0 c1))) w_71 w_215 w_82 w_83 w_84 rfl rfl (by decide +kernel) ⟨by dsimp only [rmD]; omega, by dsimp only [rmD]; omega⟩ (cs_lt (56 + (a2 + (1 : Int32)).toNatClampNeg) 1 0 (ar_m44 (h0 c1)) hM) (cs_k (56 + (a2 + (1 : Int32)).toNatClampNeg) 1 0 (ar_m44 (h0 c1)) hM) rfl (Nat.le_of_ble_eq_true rfl) dX2_seekBehindThrow_35 ⟨Nat.zero_le _, Nat.zero_le _⟩ ?_
    generalize er3 : f_X1_fallToHand r2 (56 + (a2 + (1 : Int32)).toNatClampNeg) = r3
    have hM : CS r3 := CS.of (by rw [← er3]; exact q_X1_fallToHand _ _) hM
    refine aw_aload_n hC 1 dX2_seekBehindThrow_38 rfl rfl ?_
    refine aw_dup hC dX2_seekBehindThrow_39 rfl ?_
    refine aw_getI hC hSt 8 (cs_lt 43 2 0 (by decide) hM) (cs_k 43 2 0 (by decide) hM) rfl (by decide) w_211 rfl dX2_seekBehindThrow_40 ?_
    refine aw_iconst (v := 1) hC dX2_seekBehindThrow_43 (by decide) ?_
    refine aw_iload_n hC 4 dX2_seekBehindThrow_44 rfl rfl ?_
    refine aw_ishl hC dX2_seekBehindThrow_45 ?_
    refine aw_ior hC dX2_seekBehindThrow_46 ?_
    refine aw_putI hC hSt 8 (cs_lt 43 2 0 (by decide) hM) (cs_k 43 2 0 (by decide) hM) rfl (by decide) w_211 rfl rfl rfl rfl dX2_seekBehindThrow_47 ?_
    generalize eS4 : (sI r3 43 8 ((gI r3 43 8) ||| ((1 : Int32) <<< (a3 &&& 31)))) = S4
    have hM : CS S4 := CS.of (by rw [← eS4]; exact shp_sI _ _ _ _) hM
    refine aw_aload_n hC 1 dX2_seekBehindThrow_50 rfl rfl ?_
    refine aw_aload_n hC 2 dX2_seekBehindThrow_51 rfl rfl ?_
    refine aw_iload_n hC 3 dX2_seekBehindThrow_52 rfl rfl ?_
    refine aw_iconst (v := 1) hC dX2_seekBehindThrow_53 (by decide) ?_
    refine aw_iadd hC dX2_seekBehindThrow_54 ?_
    refine aw_cV2r hC hSt (hg _ hM _ _ hsc1 (h3 c1 r2 er2 r3 er3 S4 eS4)) w_220 w_216 w_217 w_218 w_219 rfl rfl (by decide +kernel) ⟨by dsimp only [rmD]; omega, by dsimp only [rmD]; omega⟩ (cs_lt 43 2 0 (by decide) hM) (cs_k 43 2 0 (by decide) hM) rfl (Nat.le_of_ble_eq_true rfl) dX2_seekBehindThrow_55 ⟨Nat.zero_le _, Nat.zero_le _⟩ ?_
    generalize er5 : g S4 43 sc1 (a2 + (1 : Int32)) = r5
    have hM : CS r5.2 := CS.of (by rw [← er5]; exact qg _ _ _ _) hM
    refine aw_istore hC [(5, .int _), (4, .ref (56 + (a2 + (1 : Int32)).toNatClampNeg)), (0, .ref 43), (1, .ref sc1), (2, .int _), (3, .int _)] dX2_seekBehindThrow_58 (by decide) rfl ?_
    generalize ex6 : r5.1 = x6
    refine aw_aload_n hC 2 dX2_seekBehindThrow_60 rfl rfl ?_
    refine aw_dup hC dX2_seekBehindThrow_61 rfl ?_
    refine aw_getI hC hSt 8 (cs_lt 43 2 0 (by decide) hM) (cs_k 43 2 0 (by decide) hM) rfl (by decide) w_211 rfl dX2_seekBehindThrow_62 ?_
    refine aw_iconst (v := 1) hC dX2_seekBehindThrow_65 (by decide) ?_
    refine aw_iload_n hC 5 dX2_seekBehindThrow_66 rfl rfl ?_
    refine aw_ishl hC dX2_seekBehindThrow_67 ?_
    refine aw_iconst (v := -1) hC dX2_seekBehindThrow_68 (by decide) ?_
    refine aw_ixor hC dX2_seekBehindThrow_69 ?_
    refine aw_iand hC dX2_seekBehindThrow_70 ?_
    refine aw_putI hC hSt 8 (cs_lt 43 2 0 (by decide) hM) (cs_k 43 2 0 (by decide) hM) rfl (by decide) w_211 rfl rfl rfl rfl dX2_seekBehindThrow_71 ?_
    generalize eS7 : (sI r5.2 43 8 ((gI r5.2 43 8) &&& (((1 : Int32) <<< (a3 &&& 31)) ^^^ (-1 : Int32)))) = S7
    have hM : CS S7 := CS.of (by rw [← eS7]; exact shp_sI _ _ _ _) hM
    refine aw_iload hC 0 dX2_seekBehindThrow_74 rfl ?_
    refine aw_iret hC dX2_seekBehindThrow_76 (Nat.le_refl _) (Nat.le_refl _) ?_
    exact FP.qI ((if_neg c1).trans ((bd_eq er2).trans ((bd_eq er3).trans ((bd_eq eS4).trans ((bd_eq er5).trans ((bd_eq ex6).trans ((bd_eq eS7).trans (rfl))))))))
  · refine aw_iconst (v := 0) hC dX2_seekBehindThrow_10 (by decide) ?_
    refine aw_iret hC dX2_seekBehindThrow_11 (Nat.le_refl _) (Nat.le_refl _) ?_
    exact FP.qI ((if_pos c1).trans (rfl))
theorem q_X2_seekBehindThrow (g : HSt → Nat → Nat → Int32 → Int32 × HSt) (qg : ∀ (S : HSt) (o sc : Nat) (a : Int32), shp (g S o sc a).2 = shp S) (S : HSt) (_o0 : Nat) (sc1 : Nat) (a2 : Int32) (a3 : Int32) : shp ((f_X2_seekBehindThrow g S _o0 sc1 a2 a3).2) = shp S := by
  unfold f_X2_seekBehindThrow
  repeat' (first | with_reducible refine shpr1 ?_ | with_reducible rfl | with_reducible refine (q_X1_copyFrom _ _ _).trans ?_ | with_reducible refine (q_X1_fallToHand _ _).trans ?_ | with_reducible refine (qg _ _ _ _).trans ?_ | with_reducible refine (shp_sI _ _ _ _).trans ?_ | with_reducible refine (shp_sJ _ _ _ _).trans ?_ | with_reducible refine (shp_rI _ _ _).trans ?_ | with_reducible refine shi ?_ ?_ | with_reducible refine shb (fun _ _ => ?_) | with_reducible refine shiP (fun q : Int32 × HSt => q.2) ?_ ?_ | with_reducible refine shbP (fun q : Int32 × HSt => q.2) (fun _ _ => ?_) | (subst_vars; with_reducible rfl) | (subst_vars; with_reducible refine (q_X1_copyFrom _ _ _).trans ?_) | (subst_vars; with_reducible refine (q_X1_fallToHand _ _).trans ?_) | (subst_vars; with_reducible refine (qg _ _ _ _).trans ?_) | (subst_vars; with_reducible refine (shp_sI _ _ _ _).trans ?_) | (subst_vars; with_reducible refine (shp_sJ _ _ _ _).trans ?_) | (subst_vars; with_reducible refine (shp_rI _ _ _).trans ?_) | (subst_vars; with_reducible refine shi ?_ ?_) | (subst_vars; with_reducible refine shb (fun _ _ => ?_)))
noncomputable def L_X2_tryTicks_39 (g : HSt → Nat → Nat → Int32 → Int32 × HSt) (sc1 : Nat) (w3q : Nat) : Nat → HSt → Int32 → Int32 → Int32 → Int32 × Int32 × Int32 × HSt
  | 0, S, v2, v4, v5 => (v2, v4, v5, S)
  | n + 1, S, v2, v4, v5 =>
    if (2 : Int32) < v5 then ((pr (v2) (pr (v4) (pr (v5) (S))))) else (bd ((if (f_X1_spinBy S w3q (v5 + (1 : Int32))) = v4 then v4 else (bd ((f_X1_spinBy S w3q (v5 + (1 : Int32)))) fun x1005 => bd (f_X2_tryLets g S 43 sc1 v2 v5 x1005) fun r1006 => x1005))) fun x1007 => bd ((if (f_X1_spinBy S w3q (v5 + (1 : Int32))) = v4 then S else (bd ((f_X1_spinBy S w3q (v5 + (1 : Int32)))) fun x1005 => bd (f_X2_tryLets g S 43 sc1 v2 v5 x1005) fun r1006 => r1006))) fun S1008 => L_X2_tryTicks_39 g sc1 w3q n S1008 v2 x1007 (v5 + (1 : Int32)))
def T_X2_tryTicks_39 (g : HSt → Nat → Nat → Int32 → Int32 × HSt) (pg : HSt → Nat → Nat → Int32 → Prop) (sc1 : Nat) (w3q : Nat) : Nat → HSt → Int32 → Int32 → Int32 → Prop
  | 0, _, _, _, _ => False
  | n + 1, S, v2, v4, v5 => ((¬ (2 : Int32) < v5) → (¬ (f_X1_spinBy S w3q (v5 + (1 : Int32))) = v4) → ∀ x1005 : Int32, (f_X1_spinBy S w3q (v5 + (1 : Int32))) = x1005 → p_X2_tryLets g pg S 43 sc1 v2 v5 x1005) ∧ ((¬ (2 : Int32) < v5) → ∀ x1007 : Int32, (if (f_X1_spinBy S w3q (v5 + (1 : Int32))) = v4 then v4 else (bd ((f_X1_spinBy S w3q (v5 + (1 : Int32)))) fun x1005 => bd (f_X2_tryLets g S 43 sc1 v2 v5 x1005) fun r1006 => x1005)) = x1007 → ∀ S1008 : HSt, (if (f_X1_spinBy S w3q (v5 + (1 : Int32))) = v4 then S else (bd ((f_X1_spinBy S w3q (v5 + (1 : Int32)))) fun x1005 => bd (f_X2_tryLets g S 43 sc1 v2 v5 x1005) fun r1006 => r1006)) = S1008 → T_X2_tryTicks_39 g pg sc1 w3q n S1008 v2 x1007 (v5 + (1 : Int32)))
theorem qL_X2_tryTicks_39 (g : HSt → Nat → Nat → Int32 → Int32 × HSt) (qg : ∀ (S : HSt) (o sc : Nat) (a : Int32), shp (g S o sc a).2 = shp S) (sc1 : Nat) (w3q : Nat) : ∀ (n : Nat) (S : HSt) (v2 : Int32) (v4 : Int32) (v5 : Int32), shp (L_X2_tryTicks_39 g sc1 w3q n S v2 v4 v5).2.2.2 = shp S := by
  intro n
  induction n with
  | zero => intros; rfl
  | succ n ih =>
    intro S v2 v4 v5
    unfold L_X2_tryTicks_39
    repeat' (first | with_reducible refine shpr3 ?_ | with_reducible rfl | with_reducible refine (ih _ _ _ _).trans ?_ | with_reducible refine (q_X2_offer _ _ _ _ _).trans ?_ | with_reducible refine (q_X2_tryLets g qg _ _ _ _ _ _).trans ?_ | with_reducible refine (shp_sI _ _ _ _).trans ?_ | with_reducible refine (shp_sJ _ _ _ _).trans ?_ | with_reducible refine (shp_rI _ _ _).trans ?_ | with_reducible refine shi ?_ ?_ | with_reducible refine shb (fun _ _ => ?_) | with_reducible refine shiP (fun q : Int32 × Int32 × Int32 × HSt => q.2.2.2) ?_ ?_ | with_reducible refine shbP (fun q : Int32 × Int32 × Int32 × HSt => q.2.2.2) (fun _ _ => ?_) | (subst_vars; with_reducible rfl) | (subst_vars; with_reducible refine (ih _ _ _ _).trans ?_) | (subst_vars; with_reducible refine (q_X2_offer _ _ _ _ _).trans ?_) | (subst_vars; with_reducible refine (q_X2_tryLets g qg _ _ _ _ _ _).trans ?_) | (subst_vars; with_reducible refine (shp_sI _ _ _ _).trans ?_) | (subst_vars; with_reducible refine (shp_sJ _ _ _ _).trans ?_) | (subst_vars; with_reducible refine (shp_rI _ _ _).trans ?_) | (subst_vars; with_reducible refine shi ?_ ?_) | (subst_vars; with_reducible refine shb (fun _ _ => ?_)))
set_option maxRecDepth 100000 in
theorem l_X2_tryTicks_39 {p : Program} {l : Launch} {e : Env} {s : State} {m : MethodId} {args : Array Value} {below : List Frame} {meth : Method} {c : Code} {G : GG} {Q : State → Prop} (hC : ACx p s m args meth c cX2_tryTicks RX2 6 none) (hSt : St G s)  {D : Nat} (hD : 8 ≤ D) {g : HSt → Nat → Nat → Int32 → Int32 × HSt} {pg : HSt → Nat → Nat → Int32 → Prop} (hg : ∀ (S : HSt), CS S → ∀ (sc1 : Nat) (a2 : Int32), (sc1, 7, 0) ∈ cKT → pg S 43 sc1 a2 → AM G l yX2_seekFrom cX2_seekFrom 3 (some .int) (rmD D 0 0) 0 0 [.ref 43, .ref sc1, .int a2] S (FP (some (.int (g S 43 sc1 a2).1)) (g S 43 sc1 a2).2)) (qg : ∀ (S : HSt) (o sc : Nat) (a : Int32), shp (g S o sc a).2 = shp S) {sc1 : Nat} (hsc1 : (sc1, 7, 0) ∈ cKT) {w3q : Nat} (hw3q : (w3q, 1, 0) ∈ cKT) : ∀ (n : Nat) (S : HSt) (v2 : Int32) (v4 : Int32) (v5 : Int32), CS S → T_X2_tryTicks_39 g pg sc1 w3q n S v2 v4 v5 → AW p l e (rmD (D + 2) 0 0) s m args below meth c G 6 Q (L_X2_tryTicks_39 g sc1 w3q n S v2 v4 v5).2.2.2 0 0 84 [(0, .ref 43), (1, .ref sc1), (2, .int (L_X2_tryTicks_39 g sc1 w3q n S v2 v4 v5).1), (3, .ref w3q), (4, .int (L_X2_tryTicks_39 g sc1 w3q n S v2 v4 v5).2.1), (5, .int (L_X2_tryTicks_39 g sc1 w3q n S v2 v4 v5).2.2.1)] [] → AW p l e (rmD (D + 2) 0 0) s m args below meth c G 6 Q S 0 0 39 [(0, .ref 43), (1, .ref sc1), (2, .int v2), (3, .ref w3q), (4, .int v4), (5, .int v5)] [] := by
  intro n
  induction n with
  | zero => intro S v2 v4 v5 _ hT; exact hT.elim
  | succ n ih =>
    intro S v2 v4 v5 hM hT hk
    unfold T_X2_tryTicks_39 at hT
    obtain ⟨h0, h1⟩ := hT
    refine aw_iload hC 5 dX2_tryTicks_39 rfl ?_
    refine aw_iconst (v := 2) hC dX2_tryTicks_41 (by decide) ?_
    refine aw_icmp_gt hC 84 dX2_tryTicks_42 (by decide) (fun c1003 => ?_) (fun c1003 => ?_)
    · refine aw_sub [0, 1, 2, 3, 4, 5] rfl ?_
      have E : L_X2_tryTicks_39 g sc1 w3q (n + 1) S v2 v4 v5 = _ := (if_pos c1003).trans (rfl)
      rw [E] at hk
      exact hk
    · refine aw_aload_n hC 3 dX2_tryTicks_45 rfl rfl ?_
      refine aw_iload hC 5 dX2_tryTicks_46 rfl ?_
      refine aw_iconst (v := 1) hC dX2_tryTicks_48 (by decide) ?_
      refine aw_iadd hC dX2_tryTicks_49 ?_
      refine aw_cV1r hC hSt (t_X1_spinBy G l hM _ _ hw3q) w_97 w_246 w_247 w_248 w_84 rfl rfl (by decide +kernel) ⟨by dsimp only [rmD]; omega, by dsimp only [rmD]; omega⟩ (cs_lt w3q 1 0 hw3q hM) (cs_k w3q 1 0 hw3q hM) rfl (Nat.le_of_ble_eq_true rfl) dX2_tryTicks_50 ⟨Nat.zero_le _, Nat.zero_le _⟩ ?_
      refine aw_iload hC 4 dX2_tryTicks_53 rfl ?_
      refine aw_cut (S' := (if (f_X1_spinBy S w3q (v5 + (1 : Int32))) = v4 then S else (bd ((f_X1_spinBy S w3q (v5 + (1 : Int32)))) fun x1005 => bd (f_X2_tryLets g S 43 sc1 v2 v5 x1005) fun r1006 => r1006))) (pc' := 78) (lv' := [(0, .ref 43), (1, .ref sc1), (2, .int v2), (3, .ref w3q), (4, .int (if (f_X1_spinBy S w3q (v5 + (1 : Int32))) = v4 then v4 else (bd ((f_X1_spinBy S w3q (v5 + (1 : Int32)))) fun x1005 => bd (f_X2_tryLets g S 43 sc1 v2 v5 x1005) fun r1006 => x1005))), (5, .int v5)]) (st' := []) ?_ (fun Jc1004 => ?_)
      · generalize ex1007 : (if (f_X1_spinBy S w3q (v5 + (1 : Int32))) = v4 then v4 else (bd ((f_X1_spinBy S w3q (v5 + (1 : Int32)))) fun x1005 => bd (f_X2_tryLets g S 43 sc1 v2 v5 x1005) fun r1006 => x1005)) = x1007
        generalize eS1008 : (if (f_X1_spinBy S w3q (v5 + (1 : Int32))) = v4 then S else (bd ((f_X1_spinBy S w3q (v5 + (1 : Int32)))) fun x1005 => bd (f_X2_tryLets g S 43 sc1 v2 v5 x1005) fun r1006 => r1006)) = S1008
        have hM : CS S1008 := CS.of (by rw [← eS1008]; repeat' (first | with_reducible rfl | with_reducible refine (q_X2_tryLets g qg _ _ _ _ _ _).trans ?_ | with_reducible refine (shp_sI _ _ _ _).trans ?_ | with_reducible refine (shp_sJ _ _ _ _).trans ?_ | with_reducible refine (shp_rI _ _ _).trans ?_ | with_reducible refine shi ?_ ?_ | with_reducible refine shb (fun _ _ => ?_) | (subst_vars; with_reducible rfl) | (subst_vars; with_reducible refine (q_X2_tryLets g qg _ _ _ _ _ _).trans ?_) | (subst_vars; with_reducible refine (shp_sI _ _ _ _).trans ?_) | (subst_vars; with_reducible refine (shp_sJ _ _ _ _).trans ?_) | (subst_vars; with_reducible refine (shp_rI _ _ _).trans ?_) | (subst_vars; with_reducible refine shi ?_ ?_) | (subst_vars; with_reducible refine shb (fun _ _ => ?_)))) hM
        refine aw_iinc (v := (v5 + (1 : Int32))) hC 5 [(5, .int _), (0, .ref 43), (1, .ref sc1), (2, .int _), (3, .ref w3q), (4, .int _)] dX2_tryTicks_78 rfl rfl (by decide) rfl ?_
        refine aw_goto hC 39 dX2_tryTicks_81 (by decide) ?_
        refine aw_sub [1, 2, 3, 4, 5, 0] rfl ?_
        have hTn := (h1 c1003 x1007 ex1007 S1008 eS1008)
        have hMn : CS S1008 := hM
        have E : L_X2_tryTicks_39 g sc1 w3q (n + 1) S v2 v4 v5 = _ := (if_neg c1003).trans ((bd_eq ex1007).trans ((bd_eq eS1008).trans (rfl)))
        rw [E] at hk
        exact ih _ _ _ _ hMn hTn hk
      · refine aw_icmp_eq hC 78 dX2_tryTicks_55 (by decide) (fun c1004 => ?_) (fun c1004 => ?_)
        · simp only [bd_def, if_pos c1004] at Jc1004 ⊢
          exact Jc1004
        · refine aw_aload_n hC 3 dX2_tryTicks_58 rfl rfl ?_
          refine aw_iload hC 5 dX2_tryTicks_59 rfl ?_
          refine aw_iconst (v := 1) hC dX2_tryTicks_61 (by decide) ?_
          refine aw_iadd hC dX2_tryTicks_62 ?_
          refine aw_cV1r hC hSt (t_X1_spinBy G l hM _ _ hw3q) w_97 w_246 w_247 w_248 w_84 rfl rfl (by decide +kernel) ⟨by dsimp only [rmD]; omega, by dsimp only [rmD]; omega⟩ (cs_lt w3q 1 0 hw3q hM) (cs_k w3q 1 0 hw3q hM) rfl (Nat.le_of_ble_eq_true rfl) dX2_tryTicks_63 ⟨Nat.zero_le _, Nat.zero_le _⟩ ?_
          refine aw_istore hC [(4, .int _), (0, .ref 43), (1, .ref sc1), (2, .int _), (3, .ref w3q), (5, .int _)] dX2_tryTicks_66 (by decide) rfl ?_
          generalize ex1005 : (f_X1_spinBy S w3q (v5 + (1 : Int32))) = x1005
          refine aw_aload_n hC 1 dX2_tryTicks_68 rfl rfl ?_
          refine aw_aload_n hC 2 dX2_tryTicks_69 rfl rfl ?_
          refine aw_iload_n hC 3 dX2_tryTicks_70 rfl rfl ?_
          refine aw_iload hC 5 dX2_tryTicks_71 rfl ?_
          refine aw_iload hC 0 dX2_tryTicks_73 rfl ?_
          refine aw_cV4v hC hSt (t_X2_tryLets G l hD hg qg hM _ _ _ _ hsc1 (h0 c1003 c1004 x1005 ex1005)) w_227 w_249 w_250 w_251 w_219 rfl rfl (by decide +kernel) ⟨by dsimp only [rmD]; omega, by dsimp only [rmD]; omega⟩ (cs_lt 43 2 0 (by decide) hM) (cs_k 43 2 0 (by decide) hM) rfl (Nat.le_of_ble_eq_true rfl) dX2_tryTicks_75 ⟨Nat.zero_le _, Nat.zero_le _⟩ ?_
          generalize er1006 : f_X2_tryLets g S 43 sc1 v2 v5 x1005 = r1006
          have hM : CS r1006 := CS.of (by rw [← er1006]; exact q_X2_tryLets g qg _ _ _ _ _ _) hM
          refine aw_sub [1, 2, 3, 4, 0, 5] rfl ?_
          subst er1006
          subst ex1005
          simp only [bd_def, if_neg c1004] at Jc1004 ⊢
          exact Jc1004
noncomputable def f_X2_tryTicks (g : HSt → Nat → Nat → Int32 → Int32 × HSt) (S : HSt) (_o0 : Nat) (sc1 : Nat) (a2 : Int32) : HSt := if (f_X1_hasFallen S (56 + a2.toNatClampNeg)) = 0 then (if a2 = ((gI S 43 6) - (1 : Int32)) then (bd (f_X2_offer S 43 a2 (0 : Int32) (0 : Int32)) fun r4 => r4) else (bd (L_X2_tryTicks_39 g sc1 (56 + a2.toNatClampNeg) 1000 S a2 (-1 : Int32) (0 : Int32)) fun r3 => r3.2.2.2)) else (S)
def p_X2_tryTicks (g : HSt → Nat → Nat → Int32 → Int32 × HSt) (pg : HSt → Nat → Nat → Int32 → Prop) (S : HSt) (_o0 : Nat) (sc1 : Nat) (a2 : Int32) : Prop := (vp_in a2 6) ∧ (((f_X1_hasFallen S (56 + a2.toNatClampNeg)) = 0) → (¬ a2 = ((gI S 43 6) - (1 : Int32))) → T_X2_tryTicks_39 g pg sc1 (56 + a2.toNatClampNeg) 1000 S a2 (-1 : Int32) (0 : Int32)) ∧ (((f_X1_hasFallen S (56 + a2.toNatClampNeg)) = 0) → (a2 = ((gI S 43 6) - (1 : Int32))) → p_X2_offer S 43 a2 (0 : Int32) (0 : Int32))
set_option maxRecDepth 100000 in
theorem t_X2_tryTicks (G : GG) (l : Launch) {D : Nat} (hD : 8 ≤ D) {g : HSt → Nat → Nat → Int32 → Int32 × HSt} {pg : HSt → Nat → Nat → Int32 → Prop} (hg : ∀ (S : HSt), CS S → ∀ (sc1 : Nat) (a2 : Int32), (sc1, 7, 0) ∈ cKT → pg S 43 sc1 a2 → AM G l yX2_seekFrom cX2_seekFrom 3 (some .int) (rmD D 0 0) 0 0 [.ref 43, .ref sc1, .int a2] S (FP (some (.int (g S 43 sc1 a2).1)) (g S 43 sc1 a2).2)) (qg : ∀ (S : HSt) (o sc : Nat) (a : Int32), shp (g S o sc a).2 = shp S) {S : HSt} (hM : CS S) (sc1 : Nat) (a2 : Int32) (hsc1 : (sc1, 7, 0) ∈ cKT) (hp : p_X2_tryTicks g pg S 43 sc1 a2) : AM G l yX2_tryTicks cX2_tryTicks 6 none (rmD (D + 2) 0 0) 0 0 [.ref 43, .ref sc1, .int a2] S (FP none (f_X2_tryTicks g S 43 sc1 a2)) := by
  obtain ⟨h0, h1, h2⟩ := hp
  refine AM.mk (by decide) (Nat.le_of_ble_eq_true rfl) ?_
  intro p e s m below meth c hC hSt _
  refine aw_aload_n hC 0 dX2_tryTicks_0 rfl rfl ?_
  refine aw_getP (b := 44) hC hSt 0 (cs_lt 43 2 0 (by decide) hM) (cs_k 43 2 0 (by decide) hM) rfl (by decide) w_132 rfl (cs_p 43 0 44 (by decide) hM) dX2_tryTicks_1 ?_
  refine aw_iload_n hC 2 dX2_tryTicks_4 rfl rfl ?_
  refine aw_aaldL hC hSt (cs_lt 44 17 6 (by decide) hM) (cs_k 44 17 6 (by decide) hM) (vp_len (n := 6) (cs_l 44 17 6 (by decide) hM) (h0)) (cs_p 44 a2.toNatClampNeg (56 + a2.toNatClampNeg) (ar_p44 (h0)) hM) dX2_tryTicks_5 ?_
  refine aw_astore_n hC [(3, .ref (56 + a2.toNatClampNeg)), (0, .ref 43), (1, .ref sc1), (2, .int _)] dX2_tryTicks_6 rfl (by decide) rfl ?_
  refine aw_aload_n hC 0 dX2_tryTicks_7 rfl rfl ?_
  refine aw_cV0r hC hSt (t_X1_hasFallen G l hM _ (ar_m44 (h0))) w_88 w_203 w_204 w_205 w_84 rfl rfl (by decide +kernel) ⟨by dsimp only [rmD]; omega, by dsimp only [rmD]; omega⟩ (cs_lt (56 + a2.toNatClampNeg) 1 0 (ar_m44 (h0)) hM) (cs_k (56 + a2.toNatClampNeg) 1 0 (ar_m44 (h0)) hM) rfl (Nat.le_of_ble_eq_true rfl) dX2_tryTicks_8 ⟨Nat.zero_le _, Nat.zero_le _⟩ ?_
  refine aw_if_eq hC 15 dX2_tryTicks_11 (by decide) (fun c1 => ?_) (fun c1 => ?_)
  · refine aw_iload_n hC 3 dX2_tryTicks_15 rfl rfl ?_
    refine aw_aload_n hC 1 dX2_tryTicks_16 rfl rfl ?_
    refine aw_getI hC hSt 6 (cs_lt 43 2 0 (by decide) hM) (cs_k 43 2 0 (by decide) hM) rfl (by decide) w_210 rfl dX2_tryTicks_17 ?_
    refine aw_iconst (v := 1) hC dX2_tryTicks_20 (by decide) ?_
    refine aw_isub hC dX2_tryTicks_21 ?_
    refine aw_icmp_ne hC 33 dX2_tryTicks_22 (by decide) (fun c2 => ?_) (fun c2 => ?_)
    · refine aw_iconst (v := -1) hC dX2_tryTicks_33 (by decide) ?_
      refine aw_istore hC [(4, .int _), (3, .ref (56 + a2.toNatClampNeg)), (0, .ref 43), (1, .ref sc1), (2, .int _)] dX2_tryTicks_34 (by decide) rfl ?_
      refine aw_iconst (v := 0) hC dX2_tryTicks_36 (by decide) ?_
      refine aw_istore hC [(5, .int _), (4, .int _), (3, .ref (56 + a2.toNatClampNeg)), (0, .ref 43), (1, .ref sc1), (2, .int _)] dX2_tryTicks_37 (by decide) rfl ?_
      refine aw_sub [3, 4, 5, 2, 1, 0] rfl ?_
      refine l_X2_tryTicks_39 hC hSt hD hg qg hsc1 (ar_m44 (h0)) 1000 _ _ _ _ hM (h1 c1 c2) ?_
      generalize er3 : L_X2_tryTicks_39 g sc1 (56 + a2.toNatClampNeg) 1000 S a2 (-1 : Int32) (0 : Int32) = r3
      have hM : CS r3.2.2.2 := CS.of (by rw [← er3]; exact qL_X2_tryTicks_39 g qg sc1 _ _ _ _ _ _) hM
      refine aw_vret hC dX2_tryTicks_84 (Nat.le_refl _) (Nat.le_refl _) ?_
      exact FP.qV ((if_pos c1).trans ((if_neg c2).trans ((bd_eq er3).trans (rfl))))
    · refine aw_aload_n hC 1 dX2_tryTicks_25 rfl rfl ?_
      refine aw_iload_n hC 3 dX2_tryTicks_26 rfl rfl ?_
      refine aw_iconst (v := 0) hC dX2_tryTicks_27 (by decide) ?_
      refine aw_iconst (v := 0) hC dX2_tryTicks_28 (by decide) ?_
      refine aw_cV3v hC hSt (t_X2_offer G l hM _ _ _ (h2 c1 c2)) w_146 w_231 w_232 w_233 w_219 rfl rfl (by decide +kernel) ⟨by dsimp only [rmD]; omega, by dsimp only [rmD]; omega⟩ (cs_lt 43 2 0 (by decide) hM) (cs_k 43 2 0 (by decide) hM) rfl (Nat.le_of_ble_eq_true rfl) dX2_tryTicks_29 ⟨Nat.zero_le _, Nat.zero_le _⟩ ?_
      generalize er4 : f_X2_offer S 43 a2 (0 : Int32) (0 : Int32) = r4
      have hM : CS r4 := CS.of (by rw [← er4]; exact q_X2_offer _ _ _ _ _) hM
      refine aw_vret hC dX2_tryTicks_32 (Nat.le_refl _) (Nat.le_refl _) ?_
      exact FP.qV ((if_pos c1).trans ((if_pos c2).trans ((bd_eq er4).trans (rfl))))
  · refine aw_vret hC dX2_tryTicks_14 (Nat.le_refl _) (Nat.le_refl _) ?_
    exact FP.qV ((if_neg c1).trans (rfl))
theorem q_X2_tryTicks (g : HSt → Nat → Nat → Int32 → Int32 × HSt) (qg : ∀ (S : HSt) (o sc : Nat) (a : Int32), shp (g S o sc a).2 = shp S) (S : HSt) (_o0 : Nat) (sc1 : Nat) (a2 : Int32) : shp (f_X2_tryTicks g S _o0 sc1 a2) = shp S := by
  unfold f_X2_tryTicks
  repeat' (first | with_reducible rfl | with_reducible refine (q_X2_offer _ _ _ _ _).trans ?_ | with_reducible refine (q_X2_tryLets g qg _ _ _ _ _ _).trans ?_ | with_reducible refine (qL_X2_tryTicks_39 g qg sc1 _ _ _ _ _ _).trans ?_ | with_reducible refine (shp_sI _ _ _ _).trans ?_ | with_reducible refine (shp_sJ _ _ _ _).trans ?_ | with_reducible refine (shp_rI _ _ _).trans ?_ | with_reducible refine shi ?_ ?_ | with_reducible refine shb (fun _ _ => ?_) | (subst_vars; with_reducible rfl) | (subst_vars; with_reducible refine (q_X2_offer _ _ _ _ _).trans ?_) | (subst_vars; with_reducible refine (q_X2_tryLets g qg _ _ _ _ _ _).trans ?_) | (subst_vars; with_reducible refine (qL_X2_tryTicks_39 g qg sc1 _ _ _ _ _ _).trans ?_) | (subst_vars; with_reducible refine (shp_sI _ _ _ _).trans ?_) | (subst_vars; with_reducible refine (shp_sJ _ _ _ _).trans ?_) | (subst_vars; with_reducible refine (shp_rI _ _ _).trans ?_) | (subst_vars; with_reducible refine shi ?_ ?_) | (subst_vars; with_reducible refine shb (fun _ _ => ?_)))
noncomputable def L_X2_tryThrows_12 (g : HSt → Nat → Nat → Int32 → Int32 × HSt) (sc1 : Nat) : Nat → HSt → Int32 → Int32 → Int32 → Int32 × Int32 × Int32 × HSt
  | 0, S, v2, v3, v4 => (v2, v3, v4, S)
  | n + 1, S, v2, v3, v4 =>
    if v3 ≤ v4 then ((pr (v2) (pr (v3) (pr (v4) (S))))) else (bd ((if ((gI S 43 8) &&& ((1 : Int32) <<< (v4 &&& 31))) = 0 then (bd (f_X2_worthOf S 43 sc1 v2 (0 : Int32) v4) fun r1004 => bd (r1004.1) fun x1005 => bd (f_X2_worthOf r1004.2 43 sc1 v2 (1 : Int32) v4) fun r1006 => bd (r1006.1) fun x1007 => bd ((if x1007 ≤ x1005 then (0 : Int32) else (1 : Int32))) fun x1009 => bd ((((6 : Int32) + ((2 : Int32) * v4)) + x1009)) fun x1010 => bd (f_X2_seekBehindThrow g r1006.2 43 sc1 v2 v4) fun r1011 => bd (f_X2_offer r1011.2 43 v2 x1010 ((if x1005 < x1007 then x1007 else x1005) + r1011.1)) fun r1012 => r1012) else S)) fun S1013 => L_X2_tryThrows_12 g sc1 n S1013 v2 v3 (v4 + (1 : Int32)))
def T_X2_tryThrows_12 (g : HSt → Nat → Nat → Int32 → Int32 × HSt) (pg : HSt → Nat → Nat → Int32 → Prop) (sc1 : Nat) : Nat → HSt → Int32 → Int32 → Int32 → Prop
  | 0, _, _, _, _ => False
  | n + 1, S, v2, v3, v4 => ((¬ v3 ≤ v4) → (((gI S 43 8) &&& ((1 : Int32) <<< (v4 &&& 31))) = 0) → p_X2_worthOf S 43 sc1 v2 (0 : Int32) v4) ∧ ((¬ v3 ≤ v4) → (((gI S 43 8) &&& ((1 : Int32) <<< (v4 &&& 31))) = 0) → ∀ r1004, f_X2_worthOf S 43 sc1 v2 (0 : Int32) v4 = r1004 → ∀ x1005 : Int32, r1004.1 = x1005 → p_X2_worthOf r1004.2 43 sc1 v2 (1 : Int32) v4) ∧ ((¬ v3 ≤ v4) → (((gI S 43 8) &&& ((1 : Int32) <<< (v4 &&& 31))) = 0) → ∀ r1004, f_X2_worthOf S 43 sc1 v2 (0 : Int32) v4 = r1004 → ∀ x1005 : Int32, r1004.1 = x1005 → ∀ r1006, f_X2_worthOf r1004.2 43 sc1 v2 (1 : Int32) v4 = r1006 → ∀ x1007 : Int32, r1006.1 = x1007 → ∀ x1009 : Int32, (if x1007 ≤ x1005 then (0 : Int32) else (1 : Int32)) = x1009 → ∀ x1010 : Int32, (((6 : Int32) + ((2 : Int32) * v4)) + x1009) = x1010 → p_X2_seekBehindThrow g pg r1006.2 43 sc1 v2 v4) ∧ ((¬ v3 ≤ v4) → (((gI S 43 8) &&& ((1 : Int32) <<< (v4 &&& 31))) = 0) → ∀ r1004, f_X2_worthOf S 43 sc1 v2 (0 : Int32) v4 = r1004 → ∀ x1005 : Int32, r1004.1 = x1005 → ∀ r1006, f_X2_worthOf r1004.2 43 sc1 v2 (1 : Int32) v4 = r1006 → ∀ x1007 : Int32, r1006.1 = x1007 → ∀ x1009 : Int32, (if x1007 ≤ x1005 then (0 : Int32) else (1 : Int32)) = x1009 → ∀ x1010 : Int32, (((6 : Int32) + ((2 : Int32) * v4)) + x1009) = x1010 → ∀ r1011, f_X2_seekBehindThrow g r1006.2 43 sc1 v2 v4 = r1011 → p_X2_offer r1011.2 43 v2 x1010 ((if x1005 < x1007 then x1007 else x1005) + r1011.1)) ∧ ((¬ v3 ≤ v4) → ∀ S1013 : HSt, (if ((gI S 43 8) &&& ((1 : Int32) <<< (v4 &&& 31))) = 0 then (bd (f_X2_worthOf S 43 sc1 v2 (0 : Int32) v4) fun r1004 => bd (r1004.1) fun x1005 => bd (f_X2_worthOf r1004.2 43 sc1 v2 (1 : Int32) v4) fun r1006 => bd (r1006.1) fun x1007 => bd ((if x1007 ≤ x1005 then (0 : Int32) else (1 : Int32))) fun x1009 => bd ((((6 : Int32) + ((2 : Int32) * v4)) + x1009)) fun x1010 => bd (f_X2_seekBehindThrow g r1006.2 43 sc1 v2 v4) fun r1011 => bd (f_X2_offer r1011.2 43 v2 x1010 ((if x1005 < x1007 then x1007 else x1005) + r1011.1)) fun r1012 => r1012) else S) = S1013 → T_X2_tryThrows_12 g pg sc1 n S1013 v2 v3 (v4 + (1 : Int32)))
theorem qL_X2_tryThrows_12 (g : HSt → Nat → Nat → Int32 → Int32 × HSt) (qg : ∀ (S : HSt) (o sc : Nat) (a : Int32), shp (g S o sc a).2 = shp S) (sc1 : Nat) : ∀ (n : Nat) (S : HSt) (v2 : Int32) (v3 : Int32) (v4 : Int32), shp (L_X2_tryThrows_12 g sc1 n S v2 v3 v4).2.2.2 = shp S := by
  intro n
  induction n with
  | zero => intros; rfl
  | succ n ih =>
    intro S v2 v3 v4
    unfold L_X2_tryThrows_12
    repeat' (first | with_reducible refine shpr3 ?_ | with_reducible rfl | with_reducible refine (ih _ _ _ _).trans ?_ | with_reducible refine (q_X2_offer _ _ _ _ _).trans ?_ | with_reducible refine (q_X2_seekBehindThrow g qg _ _ _ _ _).trans ?_ | with_reducible refine (q_X2_worthOf _ _ _ _ _ _).trans ?_ | with_reducible refine (shp_sI _ _ _ _).trans ?_ | with_reducible refine (shp_sJ _ _ _ _).trans ?_ | with_reducible refine (shp_rI _ _ _).trans ?_ | with_reducible refine shi ?_ ?_ | with_reducible refine shb (fun _ _ => ?_) | with_reducible refine shiP (fun q : Int32 × Int32 × Int32 × HSt => q.2.2.2) ?_ ?_ | with_reducible refine shbP (fun q : Int32 × Int32 × Int32 × HSt => q.2.2.2) (fun _ _ => ?_) | (subst_vars; with_reducible rfl) | (subst_vars; with_reducible refine (ih _ _ _ _).trans ?_) | (subst_vars; with_reducible refine (q_X2_offer _ _ _ _ _).trans ?_) | (subst_vars; with_reducible refine (q_X2_seekBehindThrow g qg _ _ _ _ _).trans ?_) | (subst_vars; with_reducible refine (q_X2_worthOf _ _ _ _ _ _).trans ?_) | (subst_vars; with_reducible refine (shp_sI _ _ _ _).trans ?_) | (subst_vars; with_reducible refine (shp_sJ _ _ _ _).trans ?_) | (subst_vars; with_reducible refine (shp_rI _ _ _).trans ?_) | (subst_vars; with_reducible refine shi ?_ ?_) | (subst_vars; with_reducible refine shb (fun _ _ => ?_)))
set_option maxRecDepth 100000 in
theorem l_X2_tryThrows_12 {p : Program} {l : Launch} {e : Env} {s : State} {m : MethodId} {args : Array Value} {below : List Frame} {meth : Method} {c : Code} {G : GG} {Q : State → Prop} (hC : ACx p s m args meth c cX2_tryThrows RX2 8 none) (hSt : St G s)  {D : Nat} (hD : 8 ≤ D) {g : HSt → Nat → Nat → Int32 → Int32 × HSt} {pg : HSt → Nat → Nat → Int32 → Prop} (hg : ∀ (S : HSt), CS S → ∀ (sc1 : Nat) (a2 : Int32), (sc1, 7, 0) ∈ cKT → pg S 43 sc1 a2 → AM G l yX2_seekFrom cX2_seekFrom 3 (some .int) (rmD D 0 0) 0 0 [.ref 43, .ref sc1, .int a2] S (FP (some (.int (g S 43 sc1 a2).1)) (g S 43 sc1 a2).2)) (qg : ∀ (S : HSt) (o sc : Nat) (a : Int32), shp (g S o sc a).2 = shp S) {sc1 : Nat} (hsc1 : (sc1, 7, 0) ∈ cKT) : ∀ (n : Nat) (S : HSt) (v2 : Int32) (v3 : Int32) (v4 : Int32), CS S → T_X2_tryThrows_12 g pg sc1 n S v2 v3 v4 → AW p l e (rmD (D + 2) 0 0) s m args below meth c G 8 Q (L_X2_tryThrows_12 g sc1 n S v2 v3 v4).2.2.2 0 0 103 [(0, .ref 43), (1, .ref sc1), (2, .int (L_X2_tryThrows_12 g sc1 n S v2 v3 v4).1), (3, .int (L_X2_tryThrows_12 g sc1 n S v2 v3 v4).2.1), (4, .int (L_X2_tryThrows_12 g sc1 n S v2 v3 v4).2.2.1)] [] → AW p l e (rmD (D + 2) 0 0) s m args below meth c G 8 Q S 0 0 12 [(0, .ref 43), (1, .ref sc1), (2, .int v2), (3, .int v3), (4, .int v4)] [] := by
  intro n
  induction n with
  | zero => intro S v2 v3 v4 _ hT; exact hT.elim
  | succ n ih =>
    intro S v2 v3 v4 hM hT hk
    unfold T_X2_tryThrows_12 at hT
    obtain ⟨h0, h1, h2, h3, h4⟩ := hT
    refine aw_iload hC 4 dX2_tryThrows_12 rfl ?_
    refine aw_iload_n hC 3 dX2_tryThrows_14 rfl rfl ?_
    refine aw_icmp_ge hC 103 dX2_tryThrows_15 (by decide) (fun c1002 => ?_) (fun c1002 => ?_)
    · refine aw_sub [0, 1, 2, 3, 4] rfl ?_
      have E : L_X2_tryThrows_12 g sc1 (n + 1) S v2 v3 v4 = _ := (if_pos c1002).trans (rfl)
      rw [E] at hk
      exact hk
    · refine aw_aload_n hC 0 dX2_tryThrows_18 rfl rfl ?_
      refine aw_getI hC hSt 8 (cs_lt 43 2 0 (by decide) hM) (cs_k 43 2 0 (by decide) hM) rfl (by decide) w_211 rfl dX2_tryThrows_19 ?_
      refine aw_iconst (v := 1) hC dX2_tryThrows_22 (by decide) ?_
      refine aw_iload hC 4 dX2_tryThrows_23 rfl ?_
      refine aw_ishl hC dX2_tryThrows_25 ?_
      refine aw_iand hC dX2_tryThrows_26 ?_
      refine aw_cut (S' := (if ((gI S 43 8) &&& ((1 : Int32) <<< (v4 &&& 31))) = 0 then (bd (f_X2_worthOf S 43 sc1 v2 (0 : Int32) v4) fun r1004 => bd (r1004.1) fun x1005 => bd (f_X2_worthOf r1004.2 43 sc1 v2 (1 : Int32) v4) fun r1006 => bd (r1006.1) fun x1007 => bd ((if x1007 ≤ x1005 then (0 : Int32) else (1 : Int32))) fun x1009 => bd ((((6 : Int32) + ((2 : Int32) * v4)) + x1009)) fun x1010 => bd (f_X2_seekBehindThrow g r1006.2 43 sc1 v2 v4) fun r1011 => bd (f_X2_offer r1011.2 43 v2 x1010 ((if x1005 < x1007 then x1007 else x1005) + r1011.1)) fun r1012 => r1012) else S)) (pc' := 97) (lv' := [(0, .ref 43), (1, .ref sc1), (2, .int v2), (3, .int v3), (4, .int v4)]) (st' := []) ?_ (fun Jc1003 => ?_)
      · generalize eS1013 : (if ((gI S 43 8) &&& ((1 : Int32) <<< (v4 &&& 31))) = 0 then (bd (f_X2_worthOf S 43 sc1 v2 (0 : Int32) v4) fun r1004 => bd (r1004.1) fun x1005 => bd (f_X2_worthOf r1004.2 43 sc1 v2 (1 : Int32) v4) fun r1006 => bd (r1006.1) fun x1007 => bd ((if x1007 ≤ x1005 then (0 : Int32) else (1 : Int32))) fun x1009 => bd ((((6 : Int32) + ((2 : Int32) * v4)) + x1009)) fun x1010 => bd (f_X2_seekBehindThrow g r1006.2 43 sc1 v2 v4) fun r1011 => bd (f_X2_offer r1011.2 43 v2 x1010 ((if x1005 < x1007 then x1007 else x1005) + r1011.1)) fun r1012 => r1012) else S) = S1013
        have hM : CS S1013 := CS.of (by rw [← eS1013]; repeat' (first | with_reducible rfl | with_reducible refine (q_X2_offer _ _ _ _ _).trans ?_ | with_reducible refine (q_X2_seekBehindThrow g qg _ _ _ _ _).trans ?_ | with_reducible refine (q_X2_worthOf _ _ _ _ _ _).trans ?_ | with_reducible refine (shp_sI _ _ _ _).trans ?_ | with_reducible refine (shp_sJ _ _ _ _).trans ?_ | with_reducible refine (shp_rI _ _ _).trans ?_ | with_reducible refine shi ?_ ?_ | with_reducible refine shb (fun _ _ => ?_) | (subst_vars; with_reducible rfl) | (subst_vars; with_reducible refine (q_X2_offer _ _ _ _ _).trans ?_) | (subst_vars; with_reducible refine (q_X2_seekBehindThrow g qg _ _ _ _ _).trans ?_) | (subst_vars; with_reducible refine (q_X2_worthOf _ _ _ _ _ _).trans ?_) | (subst_vars; with_reducible refine (shp_sI _ _ _ _).trans ?_) | (subst_vars; with_reducible refine (shp_sJ _ _ _ _).trans ?_) | (subst_vars; with_reducible refine (shp_rI _ _ _).trans ?_) | (subst_vars; with_reducible refine shi ?_ ?_) | (subst_vars; with_reducible refine shb (fun _ _ => ?_)))) hM
        refine aw_iinc (v := (v4 + (1 : Int32))) hC 4 [(4, .int _), (0, .ref 43), (1, .ref sc1), (2, .int _), (3, .int _)] dX2_tryThrows_97 rfl rfl (by decide) rfl ?_
        refine aw_goto hC 12 dX2_tryThrows_100 (by decide) ?_
        refine aw_sub [1, 2, 3, 4, 0] rfl ?_
        have hTn := (h4 c1002 S1013 eS1013)
        have hMn : CS S1013 := hM
        have E : L_X2_tryThrows_12 g sc1 (n + 1) S v2 v3 v4 = _ := (if_neg c1002).trans ((bd_eq eS1013).trans (rfl))
        rw [E] at hk
        exact ih _ _ _ _ hMn hTn hk
      · refine aw_if_ne hC 97 dX2_tryThrows_27 (by decide) (fun c1003 => ?_) (fun c1003 => ?_)
        · simp only [bd_def, if_neg c1003] at Jc1003 ⊢
          exact Jc1003
        · refine aw_aload_n hC 0 dX2_tryThrows_30 rfl rfl ?_
          refine aw_aload_n hC 1 dX2_tryThrows_31 rfl rfl ?_
          refine aw_iload_n hC 2 dX2_tryThrows_32 rfl rfl ?_
          refine aw_iconst (v := 0) hC dX2_tryThrows_33 (by decide) ?_
          refine aw_iload hC 4 dX2_tryThrows_34 rfl ?_
          refine aw_cV4r hC hSt (t_X2_worthOf G l hM _ _ _ _ hsc1 (h0 c1002 c1003)) w_209 w_239 w_240 w_241 w_219 rfl rfl (by decide +kernel) ⟨by dsimp only [rmD]; omega, by dsimp only [rmD]; omega⟩ (cs_lt 43 2 0 (by decide) hM) (cs_k 43 2 0 (by decide) hM) rfl (Nat.le_of_ble_eq_true rfl) dX2_tryThrows_36 ⟨Nat.zero_le _, Nat.zero_le _⟩ ?_
          generalize er1004 : f_X2_worthOf S 43 sc1 v2 (0 : Int32) v4 = r1004
          have hM : CS r1004.2 := CS.of (by rw [← er1004]; exact q_X2_worthOf _ _ _ _ _ _) hM
          refine aw_istore hC [(5, .int _), (0, .ref 43), (1, .ref sc1), (2, .int _), (3, .int _), (4, .int _)] dX2_tryThrows_39 (by decide) rfl ?_
          generalize ex1005 : r1004.1 = x1005
          refine aw_aload_n hC 1 dX2_tryThrows_41 rfl rfl ?_
          refine aw_aload_n hC 2 dX2_tryThrows_42 rfl rfl ?_
          refine aw_iload_n hC 3 dX2_tryThrows_43 rfl rfl ?_
          refine aw_iconst (v := 1) hC dX2_tryThrows_44 (by decide) ?_
          refine aw_iload hC 5 dX2_tryThrows_45 rfl ?_
          refine aw_cV4r hC hSt (t_X2_worthOf G l hM _ _ _ _ hsc1 (h1 c1002 c1003 r1004 er1004 x1005 ex1005)) w_209 w_239 w_240 w_241 w_219 rfl rfl (by decide +kernel) ⟨by dsimp only [rmD]; omega, by dsimp only [rmD]; omega⟩ (cs_lt 43 2 0 (by decide) hM) (cs_k 43 2 0 (by decide) hM) rfl (Nat.le_of_ble_eq_true rfl) dX2_tryThrows_47 ⟨Nat.zero_le _, Nat.zero_le _⟩ ?_
          generalize er1006 : f_X2_worthOf r1004.2 43 sc1 v2 (1 : Int32) v4 = r1006
          have hM : CS r1006.2 := CS.of (by rw [← er1006]; exact q_X2_worthOf _ _ _ _ _ _) hM
          refine aw_istore hC [(6, .int _), (5, .int _), (0, .ref 43), (1, .ref sc1), (2, .int _), (3, .int _), (4, .int _)] dX2_tryThrows_50 (by decide) rfl ?_
          generalize ex1007 : r1006.1 = x1007
          refine aw_bipush (v := 6) hC dX2_tryThrows_52 (by decide) ?_
          refine aw_iconst (v := 2) hC dX2_tryThrows_54 (by decide) ?_
          refine aw_iload hC 6 dX2_tryThrows_55 rfl ?_
          refine aw_imul hC dX2_tryThrows_57 ?_
          refine aw_iadd hC dX2_tryThrows_58 ?_
          refine aw_iload hC 0 dX2_tryThrows_59 rfl ?_
          refine aw_iload hC 1 dX2_tryThrows_61 rfl ?_
          refine aw_cut (S' := r1006.2) (pc' := 71) (lv' := [(6, .int x1007), (5, .int x1005), (0, .ref 43), (1, .ref sc1), (2, .int v2), (3, .int v3), (4, .int v4)]) (st' := [.int (if x1007 ≤ x1005 then (0 : Int32) else (1 : Int32)), .int ((6 : Int32) + ((2 : Int32) * v4))]) ?_ (fun Jc1008 => ?_)
          · generalize ex1009 : (if x1007 ≤ x1005 then (0 : Int32) else (1 : Int32)) = x1009
            refine aw_iadd hC dX2_tryThrows_71 ?_
            refine aw_istore hC [(7, .int _), (6, .int _), (5, .int _), (0, .ref 43), (1, .ref sc1), (2, .int _), (3, .int _), (4, .int _)] dX2_tryThrows_72 (by decide) rfl ?_
            generalize ex1010 : (((6 : Int32) + ((2 : Int32) * v4)) + x1009) = x1010
            refine aw_aload_n hC 3 dX2_tryThrows_74 rfl rfl ?_
            refine aw_iload_n hC 5 dX2_tryThrows_75 rfl rfl ?_
            refine aw_iload hC 0 dX2_tryThrows_76 rfl ?_
            refine aw_iload hC 2 dX2_tryThrows_78 rfl ?_
            refine aw_iload hC 1 dX2_tryThrows_80 rfl ?_
            refine aw_max hC w_235 w_91 w_92 w_93 (by dsimp only [rmD]; omega) (by dsimp only [rmD]; simp only [List.map_cons, List.map_nil, List.sum_cons, List.sum_nil, Value.category]; omega) (Nat.zero_le _) (Nat.zero_le _) dX2_tryThrows_82 ?_
            refine aw_aload_n hC 3 dX2_tryThrows_85 rfl rfl ?_
            refine aw_aload_n hC 4 dX2_tryThrows_86 rfl rfl ?_
            refine aw_iload_n hC 5 dX2_tryThrows_87 rfl rfl ?_
            refine aw_iload hC 7 dX2_tryThrows_88 rfl ?_
            refine aw_cV3r hC hSt (t_X2_seekBehindThrow G l hD hg qg hM _ _ _ hsc1 (h2 c1002 c1003 r1004 er1004 x1005 ex1005 r1006 er1006 x1007 ex1007 x1009 ex1009 x1010 ex1010)) w_252 w_242 w_243 w_244 w_219 rfl rfl (by decide +kernel) ⟨by dsimp only [rmD]; omega, by dsimp only [rmD]; omega⟩ (cs_lt 43 2 0 (by decide) hM) (cs_k 43 2 0 (by decide) hM) rfl (Nat.le_of_ble_eq_true rfl) dX2_tryThrows_90 ⟨Nat.zero_le _, Nat.zero_le _⟩ ?_
            generalize er1011 : f_X2_seekBehindThrow g r1006.2 43 sc1 v2 v4 = r1011
            have hM : CS r1011.2 := CS.of (by rw [← er1011]; exact q_X2_seekBehindThrow g qg _ _ _ _ _) hM
            refine aw_iadd hC dX2_tryThrows_93 ?_
            refine aw_cV3v hC hSt (t_X2_offer G l hM _ _ _ (h3 c1002 c1003 r1004 er1004 x1005 ex1005 r1006 er1006 x1007 ex1007 x1009 ex1009 x1010 ex1010 r1011 er1011)) w_146 w_231 w_232 w_233 w_219 rfl rfl (by decide +kernel) ⟨by dsimp only [rmD]; omega, by dsimp only [rmD]; omega⟩ (cs_lt 43 2 0 (by decide) hM) (cs_k 43 2 0 (by decide) hM) rfl (Nat.le_of_ble_eq_true rfl) dX2_tryThrows_94 ⟨Nat.zero_le _, Nat.zero_le _⟩ ?_
            generalize er1012 : f_X2_offer r1011.2 43 v2 x1010 ((if x1005 < x1007 then x1007 else x1005) + r1011.1) = r1012
            have hM : CS r1012 := CS.of (by rw [← er1012]; exact q_X2_offer _ _ _ _ _) hM
            refine aw_sub [3, 4, 5, 6, 7] rfl ?_
            subst er1012
            subst er1011
            subst ex1010
            subst ex1009
            subst ex1007
            subst er1006
            subst ex1005
            subst er1004
            simp only [bd_def, if_pos c1003] at Jc1003 ⊢
            exact Jc1003
          · refine aw_icmp_le hC 70 dX2_tryThrows_63 (by decide) (fun c1008 => ?_) (fun c1008 => ?_)
            · refine aw_iconst (v := 0) hC dX2_tryThrows_70 (by decide) ?_
              simp only [bd_def, if_pos c1008] at Jc1008 ⊢
              exact Jc1008
            · refine aw_iconst (v := 1) hC dX2_tryThrows_66 (by decide) ?_
              refine aw_goto hC 71 dX2_tryThrows_67 (by decide) ?_
              simp only [bd_def, if_neg c1008] at Jc1008 ⊢
              exact Jc1008
noncomputable def f_X2_tryThrows (g : HSt → Nat → Nat → Int32 → Int32 × HSt) (S : HSt) (_o0 : Nat) (sc1 : Nat) (a2 : Int32) : HSt := bd ((f_X10_howMany S (sc1 + 1) (2 : Int32))) fun x1 => bd (L_X2_tryThrows_12 g sc1 1000 S a2 x1 (0 : Int32)) fun r2 => r2.2.2.2
def p_X2_tryThrows (g : HSt → Nat → Nat → Int32 → Int32 × HSt) (pg : HSt → Nat → Nat → Int32 → Prop) (S : HSt) (_o0 : Nat) (sc1 : Nat) (a2 : Int32) : Prop := (p_X10_howMany S (sc1 + 1) (2 : Int32)) ∧ (∀ x1 : Int32, (f_X10_howMany S (sc1 + 1) (2 : Int32)) = x1 → T_X2_tryThrows_12 g pg sc1 1000 S a2 x1 (0 : Int32))
set_option maxRecDepth 100000 in
theorem t_X2_tryThrows (G : GG) (l : Launch) {D : Nat} (hD : 8 ≤ D) {g : HSt → Nat → Nat → Int32 → Int32 × HSt} {pg : HSt → Nat → Nat → Int32 → Prop} (hg : ∀ (S : HSt), CS S → ∀ (sc1 : Nat) (a2 : Int32), (sc1, 7, 0) ∈ cKT → pg S 43 sc1 a2 → AM G l yX2_seekFrom cX2_seekFrom 3 (some .int) (rmD D 0 0) 0 0 [.ref 43, .ref sc1, .int a2] S (FP (some (.int (g S 43 sc1 a2).1)) (g S 43 sc1 a2).2)) (qg : ∀ (S : HSt) (o sc : Nat) (a : Int32), shp (g S o sc a).2 = shp S) {S : HSt} (hM : CS S) (sc1 : Nat) (a2 : Int32) (hsc1 : (sc1, 7, 0) ∈ cKT) (hp : p_X2_tryThrows g pg S 43 sc1 a2) : AM G l yX2_tryThrows cX2_tryThrows 8 none (rmD (D + 2) 0 0) 0 0 [.ref 43, .ref sc1, .int a2] S (FP none (f_X2_tryThrows g S 43 sc1 a2)) := by
  obtain ⟨h0, h1⟩ := hp
  refine AM.mk (by decide) (Nat.le_of_ble_eq_true rfl) ?_
  intro p e s m below meth c hC hSt _
  refine aw_aload_n hC 1 dX2_tryThrows_0 rfl rfl ?_
  refine aw_getP (b := (sc1 + 1)) hC hSt 0 (cs_lt sc1 7 0 hsc1 hM) (cs_k sc1 7 0 hsc1 hM) rfl (by decide) w_199 rfl (cs_p sc1 0 (sc1 + 1) (sc_pway hsc1) hM) dX2_tryThrows_1 ?_
  refine aw_iconst (v := 2) hC dX2_tryThrows_4 (by decide) ?_
  refine aw_cV1r hC hSt (t_X10_howMany G l hM _ _ (sc_way hsc1) (h0)) w_152 w_236 w_237 w_238 w_18 rfl rfl (by decide +kernel) ⟨by dsimp only [rmD]; omega, by dsimp only [rmD]; omega⟩ (cs_lt (sc1 + 1) 10 0 (sc_way hsc1) hM) (cs_k (sc1 + 1) 10 0 (sc_way hsc1) hM) rfl (Nat.le_of_ble_eq_true rfl) dX2_tryThrows_5 ⟨Nat.zero_le _, Nat.zero_le _⟩ ?_
  refine aw_istore_n hC [(3, .int _), (0, .ref 43), (1, .ref sc1), (2, .int _)] dX2_tryThrows_8 rfl (by decide) rfl ?_
  generalize ex1 : (f_X10_howMany S (sc1 + 1) (2 : Int32)) = x1
  refine aw_iconst (v := 0) hC dX2_tryThrows_9 (by decide) ?_
  refine aw_istore hC [(4, .int _), (3, .int _), (0, .ref 43), (1, .ref sc1), (2, .int _)] dX2_tryThrows_10 (by decide) rfl ?_
  refine aw_sub [2, 3, 4, 1, 0] rfl ?_
  refine l_X2_tryThrows_12 hC hSt hD hg qg hsc1 1000 _ _ _ _ hM (h1 x1 ex1) ?_
  generalize er2 : L_X2_tryThrows_12 g sc1 1000 S a2 x1 (0 : Int32) = r2
  have hM : CS r2.2.2.2 := CS.of (by rw [← er2]; exact qL_X2_tryThrows_12 g qg sc1 _ _ _ _ _) hM
  refine aw_vret hC dX2_tryThrows_103 (Nat.le_refl _) (Nat.le_refl _) ?_
  exact FP.qV ((bd_eq ex1).trans ((bd_eq er2).trans (rfl)))
theorem q_X2_tryThrows (g : HSt → Nat → Nat → Int32 → Int32 × HSt) (qg : ∀ (S : HSt) (o sc : Nat) (a : Int32), shp (g S o sc a).2 = shp S) (S : HSt) (_o0 : Nat) (sc1 : Nat) (a2 : Int32) : shp (f_X2_tryThrows g S _o0 sc1 a2) = shp S := by
  unfold f_X2_tryThrows
  repeat' (first | with_reducible rfl | with_reducible refine (q_X2_offer _ _ _ _ _).trans ?_ | with_reducible refine (q_X2_seekBehindThrow g qg _ _ _ _ _).trans ?_ | with_reducible refine (q_X2_worthOf _ _ _ _ _ _).trans ?_ | with_reducible refine (qL_X2_tryThrows_12 g qg sc1 _ _ _ _ _).trans ?_ | with_reducible refine (shp_sI _ _ _ _).trans ?_ | with_reducible refine (shp_sJ _ _ _ _).trans ?_ | with_reducible refine (shp_rI _ _ _).trans ?_ | with_reducible refine shi ?_ ?_ | with_reducible refine shb (fun _ _ => ?_) | (subst_vars; with_reducible rfl) | (subst_vars; with_reducible refine (q_X2_offer _ _ _ _ _).trans ?_) | (subst_vars; with_reducible refine (q_X2_seekBehindThrow g qg _ _ _ _ _).trans ?_) | (subst_vars; with_reducible refine (q_X2_worthOf _ _ _ _ _ _).trans ?_) | (subst_vars; with_reducible refine (qL_X2_tryThrows_12 g qg sc1 _ _ _ _ _).trans ?_) | (subst_vars; with_reducible refine (shp_sI _ _ _ _).trans ?_) | (subst_vars; with_reducible refine (shp_sJ _ _ _ _).trans ?_) | (subst_vars; with_reducible refine (shp_rI _ _ _).trans ?_) | (subst_vars; with_reducible refine shi ?_ ?_) | (subst_vars; with_reducible refine shb (fun _ _ => ?_)))
noncomputable def f_X2_seekFromB (g : HSt → Nat → Nat → Int32 → Int32 × HSt) (S : HSt) (_o0 : Nat) (sc1 : Nat) (a2 : Int32) : Int32 × HSt := bd ((sI S 52 a2.toNatClampNeg (0 : Int32))) fun S1 => bd ((sI S1 53 a2.toNatClampNeg (0 : Int32))) fun S2 => bd ((if (gI S2 43 6) ≤ a2 then S2 else (bd (f_X2_tryTicks g S2 43 sc1 a2) fun r4 => bd (f_X2_tryThrows g r4 43 sc1 a2) fun r5 => r5))) fun S6 => pr ((gI S6 53 a2.toNatClampNeg)) (S6)
def p_X2_seekFromB (g : HSt → Nat → Nat → Int32 → Int32 × HSt) (pg : HSt → Nat → Nat → Int32 → Prop) (S : HSt) (_o0 : Nat) (sc1 : Nat) (a2 : Int32) : Prop := (vp_in a2 6) ∧ (∀ S1 : HSt, (sI S 52 a2.toNatClampNeg (0 : Int32)) = S1 → vp_in a2 6) ∧ (∀ S1 : HSt, (sI S 52 a2.toNatClampNeg (0 : Int32)) = S1 → ∀ S2 : HSt, (sI S1 53 a2.toNatClampNeg (0 : Int32)) = S2 → (¬ (gI S2 43 6) ≤ a2) → p_X2_tryTicks g pg S2 43 sc1 a2) ∧ (∀ S1 : HSt, (sI S 52 a2.toNatClampNeg (0 : Int32)) = S1 → ∀ S2 : HSt, (sI S1 53 a2.toNatClampNeg (0 : Int32)) = S2 → (¬ (gI S2 43 6) ≤ a2) → ∀ r4, f_X2_tryTicks g S2 43 sc1 a2 = r4 → p_X2_tryThrows g pg r4 43 sc1 a2) ∧ (∀ S1 : HSt, (sI S 52 a2.toNatClampNeg (0 : Int32)) = S1 → ∀ S2 : HSt, (sI S1 53 a2.toNatClampNeg (0 : Int32)) = S2 → ∀ S6 : HSt, (if (gI S2 43 6) ≤ a2 then S2 else (bd (f_X2_tryTicks g S2 43 sc1 a2) fun r4 => bd (f_X2_tryThrows g r4 43 sc1 a2) fun r5 => r5)) = S6 → vp_in a2 6)
set_option maxRecDepth 100000 in
theorem t_X2_seekFromB (G : GG) (l : Launch) {D : Nat} (hD : 8 ≤ D) {g : HSt → Nat → Nat → Int32 → Int32 × HSt} {pg : HSt → Nat → Nat → Int32 → Prop} (hg : ∀ (S : HSt), CS S → ∀ (sc1 : Nat) (a2 : Int32), (sc1, 7, 0) ∈ cKT → pg S 43 sc1 a2 → AM G l yX2_seekFrom cX2_seekFrom 3 (some .int) (rmD D 0 0) 0 0 [.ref 43, .ref sc1, .int a2] S (FP (some (.int (g S 43 sc1 a2).1)) (g S 43 sc1 a2).2)) (qg : ∀ (S : HSt) (o sc : Nat) (a : Int32), shp (g S o sc a).2 = shp S) {S : HSt} (hM : CS S) (sc1 : Nat) (a2 : Int32) (hsc1 : (sc1, 7, 0) ∈ cKT) (hp : p_X2_seekFromB g pg S 43 sc1 a2) : AM G l yX2_seekFrom cX2_seekFrom 3 (some .int) (rmD (D + 3) 0 0) 0 0 [.ref 43, .ref sc1, .int a2] S (FP (some (.int (f_X2_seekFromB g S 43 sc1 a2).1)) ((f_X2_seekFromB g S 43 sc1 a2).2)) := by
  obtain ⟨h0, h1, h2, h3, h4⟩ := hp
  refine AM.mk (by decide) (Nat.le_of_ble_eq_true rfl) ?_
  intro p e s m below meth c hC hSt _
  refine aw_aload_n hC 0 dX2_seekFrom_0 rfl rfl ?_
  refine aw_getP (b := 52) hC hSt 2 (cs_lt 43 2 0 (by decide) hM) (cs_k 43 2 0 (by decide) hM) rfl (by decide) w_135 rfl (cs_p 43 2 52 (by decide) hM) dX2_seekFrom_1 ?_
  refine aw_iload_n hC 2 dX2_seekFrom_4 rfl rfl ?_
  refine aw_iconst (v := 0) hC dX2_seekFrom_5 (by decide) ?_
  refine aw_iast hC hSt (cs_lt 52 14 6 (by decide) hM) (cs_k 52 14 6 (by decide) hM) (vp_len (n := 6) (cs_l 52 14 6 (by decide) hM) (h0)) dX2_seekFrom_6 ?_
  generalize eS1 : (sI S 52 a2.toNatClampNeg (0 : Int32)) = S1
  have hM : CS S1 := CS.of (by rw [← eS1]; exact shp_sI _ _ _ _) hM
  refine aw_aload_n hC 0 dX2_seekFrom_7 rfl rfl ?_
  refine aw_getP (b := 53) hC hSt 3 (cs_lt 43 2 0 (by decide) hM) (cs_k 43 2 0 (by decide) hM) rfl (by decide) w_136 rfl (cs_p 43 3 53 (by decide) hM) dX2_seekFrom_8 ?_
  refine aw_iload_n hC 2 dX2_seekFrom_11 rfl rfl ?_
  refine aw_iconst (v := 0) hC dX2_seekFrom_12 (by decide) ?_
  refine aw_iast hC hSt (cs_lt 53 14 6 (by decide) hM) (cs_k 53 14 6 (by decide) hM) (vp_len (n := 6) (cs_l 53 14 6 (by decide) hM) (h1 S1 eS1)) dX2_seekFrom_13 ?_
  generalize eS2 : (sI S1 53 a2.toNatClampNeg (0 : Int32)) = S2
  have hM : CS S2 := CS.of (by rw [← eS2]; exact shp_sI _ _ _ _) hM
  refine aw_iload_n hC 2 dX2_seekFrom_14 rfl rfl ?_
  refine aw_aload_n hC 0 dX2_seekFrom_15 rfl rfl ?_
  refine aw_getI hC hSt 6 (cs_lt 43 2 0 (by decide) hM) (cs_k 43 2 0 (by decide) hM) rfl (by decide) w_210 rfl dX2_seekFrom_16 ?_
  refine aw_cut (S' := (if (gI S2 43 6) ≤ a2 then S2 else (bd (f_X2_tryTicks g S2 43 sc1 a2) fun r4 => bd (f_X2_tryThrows g r4 43 sc1 a2) fun r5 => r5))) (pc' := 34) (lv' := [(0, .ref 43), (1, .ref sc1), (2, .int a2)]) (st' := []) ?_ (fun Jc3 => ?_)
  · generalize eS6 : (if (gI S2 43 6) ≤ a2 then S2 else (bd (f_X2_tryTicks g S2 43 sc1 a2) fun r4 => bd (f_X2_tryThrows g r4 43 sc1 a2) fun r5 => r5)) = S6
    have hM : CS S6 := CS.of (by rw [← eS6]; repeat' (first | with_reducible rfl | with_reducible refine (q_X2_tryThrows g qg _ _ _ _).trans ?_ | with_reducible refine (q_X2_tryTicks g qg _ _ _ _).trans ?_ | with_reducible refine (shp_sI _ _ _ _).trans ?_ | with_reducible refine (shp_sJ _ _ _ _).trans ?_ | with_reducible refine (shp_rI _ _ _).trans ?_ | with_reducible refine shi ?_ ?_ | with_reducible refine shb (fun _ _ => ?_) | (subst_vars; with_reducible rfl) | (subst_vars; with_reducible refine (q_X2_tryThrows g qg _ _ _ _).trans ?_) | (subst_vars; with_reducible refine (q_X2_tryTicks g qg _ _ _ _).trans ?_) | (subst_vars; with_reducible refine (shp_sI _ _ _ _).trans ?_) | (subst_vars; with_reducible refine (shp_sJ _ _ _ _).trans ?_) | (subst_vars; with_reducible refine (shp_rI _ _ _).trans ?_) | (subst_vars; with_reducible refine shi ?_ ?_) | (subst_vars; with_reducible refine shb (fun _ _ => ?_)))) hM
    refine aw_aload_n hC 0 dX2_seekFrom_34 rfl rfl ?_
    refine aw_getP (b := 53) hC hSt 3 (cs_lt 43 2 0 (by decide) hM) (cs_k 43 2 0 (by decide) hM) rfl (by decide) w_136 rfl (cs_p 43 3 53 (by decide) hM) dX2_seekFrom_35 ?_
    refine aw_iload_n hC 2 dX2_seekFrom_38 rfl rfl ?_
    refine aw_iald hC hSt (cs_lt 53 14 6 (by decide) hM) (cs_k 53 14 6 (by decide) hM) (vp_len (n := 6) (cs_l 53 14 6 (by decide) hM) (h4 S1 eS1 S2 eS2 S6 eS6)) dX2_seekFrom_39 ?_
    refine aw_iret hC dX2_seekFrom_40 (Nat.le_refl _) (Nat.le_refl _) ?_
    exact FP.qI ((bd_eq eS1).trans ((bd_eq eS2).trans ((bd_eq eS6).trans (rfl))))
  · refine aw_icmp_ge hC 34 dX2_seekFrom_19 (by decide) (fun c3 => ?_) (fun c3 => ?_)
    · simp only [bd_def, if_pos c3] at Jc3 ⊢
      exact Jc3
    · refine aw_aload_n hC 0 dX2_seekFrom_22 rfl rfl ?_
      refine aw_aload_n hC 1 dX2_seekFrom_23 rfl rfl ?_
      refine aw_iload_n hC 2 dX2_seekFrom_24 rfl rfl ?_
      refine aw_cV2v hC hSt (t_X2_tryTicks G l hD hg qg hM _ _ hsc1 (h2 S1 eS1 S2 eS2 c3)) w_245 w_221 w_222 w_223 w_219 rfl rfl (by decide +kernel) ⟨by dsimp only [rmD]; omega, by dsimp only [rmD]; omega⟩ (cs_lt 43 2 0 (by decide) hM) (cs_k 43 2 0 (by decide) hM) rfl (Nat.le_of_ble_eq_true rfl) dX2_seekFrom_25 ⟨Nat.zero_le _, Nat.zero_le _⟩ ?_
      generalize er4 : f_X2_tryTicks g S2 43 sc1 a2 = r4
      have hM : CS r4 := CS.of (by rw [← er4]; exact q_X2_tryTicks g qg _ _ _ _) hM
      refine aw_aload_n hC 0 dX2_seekFrom_28 rfl rfl ?_
      refine aw_aload_n hC 1 dX2_seekFrom_29 rfl rfl ?_
      refine aw_iload_n hC 2 dX2_seekFrom_30 rfl rfl ?_
      refine aw_cV2v hC hSt (t_X2_tryThrows G l hD hg qg hM _ _ hsc1 (h3 S1 eS1 S2 eS2 c3 r4 er4)) w_234 w_224 w_225 w_226 w_219 rfl rfl (by decide +kernel) ⟨by dsimp only [rmD]; omega, by dsimp only [rmD]; omega⟩ (cs_lt 43 2 0 (by decide) hM) (cs_k 43 2 0 (by decide) hM) rfl (Nat.le_of_ble_eq_true rfl) dX2_seekFrom_31 ⟨Nat.zero_le _, Nat.zero_le _⟩ ?_
      generalize er5 : f_X2_tryThrows g r4 43 sc1 a2 = r5
      have hM : CS r5 := CS.of (by rw [← er5]; exact q_X2_tryThrows g qg _ _ _ _) hM
      subst er5
      subst er4
      simp only [bd_def, if_neg c3] at Jc3 ⊢
      exact Jc3
theorem q_X2_seekFromB (g : HSt → Nat → Nat → Int32 → Int32 × HSt) (qg : ∀ (S : HSt) (o sc : Nat) (a : Int32), shp (g S o sc a).2 = shp S) (S : HSt) (_o0 : Nat) (sc1 : Nat) (a2 : Int32) : shp ((f_X2_seekFromB g S _o0 sc1 a2).2) = shp S := by
  unfold f_X2_seekFromB
  repeat' (first | with_reducible refine shpr1 ?_ | with_reducible rfl | with_reducible refine (q_X2_tryThrows g qg _ _ _ _).trans ?_ | with_reducible refine (q_X2_tryTicks g qg _ _ _ _).trans ?_ | with_reducible refine (shp_sI _ _ _ _).trans ?_ | with_reducible refine (shp_sJ _ _ _ _).trans ?_ | with_reducible refine (shp_rI _ _ _).trans ?_ | with_reducible refine shi ?_ ?_ | with_reducible refine shb (fun _ _ => ?_) | with_reducible refine shiP (fun q : Int32 × HSt => q.2) ?_ ?_ | with_reducible refine shbP (fun q : Int32 × HSt => q.2) (fun _ _ => ?_) | (subst_vars; with_reducible rfl) | (subst_vars; with_reducible refine (q_X2_tryThrows g qg _ _ _ _).trans ?_) | (subst_vars; with_reducible refine (q_X2_tryTicks g qg _ _ _ _).trans ?_) | (subst_vars; with_reducible refine (shp_sI _ _ _ _).trans ?_) | (subst_vars; with_reducible refine (shp_sJ _ _ _ _).trans ?_) | (subst_vars; with_reducible refine (shp_rI _ _ _).trans ?_) | (subst_vars; with_reducible refine shi ?_ ?_) | (subst_vars; with_reducible refine shb (fun _ _ => ?_)))
noncomputable def f_X2_seekFromN : Nat → HSt → Nat → Nat → Int32 → Int32 × HSt
  | 0, S, _, _, _ => (0, S)
  | k + 1, S, o, sc, a => f_X2_seekFromB (f_X2_seekFromN k) S o sc a
def p_X2_seekFromN : Nat → HSt → Nat → Nat → Int32 → Prop
  | 0, _, _, _, _ => False
  | k + 1, S, o, sc, a => p_X2_seekFromB (f_X2_seekFromN k) (p_X2_seekFromN k) S o sc a
theorem q_X2_seekFromN : ∀ (k : Nat) (S : HSt) (o sc : Nat) (a : Int32), shp (f_X2_seekFromN k S o sc a).2 = shp S := by
  intro k
  induction k with
  | zero => intros; rfl
  | succ k ih => intro S o sc a; exact q_X2_seekFromB _ ih S o sc a
theorem t_X2_seekFromN (G : GG) (l : Launch) : ∀ (k : Nat) (S : HSt), CS S → ∀ (sc1 : Nat) (a2 : Int32), (sc1, 7, 0) ∈ cKT → p_X2_seekFromN k S 43 sc1 a2 → AM G l yX2_seekFrom cX2_seekFrom 3 (some .int) (rmD (8 + 3 * k) 0 0) 0 0 [.ref 43, .ref sc1, .int a2] S (FP (some (.int (f_X2_seekFromN k S 43 sc1 a2).1)) (f_X2_seekFromN k S 43 sc1 a2).2) := by
  intro k
  induction k with
  | zero => intro S _ sc a _ h; exact h.elim
  | succ k ih => intro S hM sc a hsc hp; exact t_X2_seekFromB G l (D := 8 + 3 * k) (by omega) ih (q_X2_seekFromN k) hM sc a hsc hp
noncomputable def f_X2_seekFrom (S : HSt) (o sc : Nat) (a : Int32) : Int32 × HSt := f_X2_seekFromN 6 S o sc a
def p_X2_seekFrom (S : HSt) (o sc : Nat) (a : Int32) : Prop := p_X2_seekFromN 6 S o sc a
theorem q_X2_seekFrom (S : HSt) (o sc : Nat) (a : Int32) : shp (f_X2_seekFrom S o sc a).2 = shp S := q_X2_seekFromN 6 S o sc a
theorem t_X2_seekFrom (G : GG) (l : Launch) {S : HSt} (hM : CS S) (sc1 : Nat) (a2 : Int32) (hsc : (sc1, 7, 0) ∈ cKT) (hp : p_X2_seekFrom S 43 sc1 a2) : AM G l yX2_seekFrom cX2_seekFrom 3 (some .int) (rmD 26 0 0) 0 0 [.ref 43, .ref sc1, .int a2] S (FP (some (.int (f_X2_seekFrom S 43 sc1 a2).1)) (f_X2_seekFrom S 43 sc1 a2).2) := t_X2_seekFromN G l 6 S hM sc1 a2 hsc hp
noncomputable def f_X2_seekRow (S : HSt) (_o0 : Nat) (sc1 : Nat) (a2 : Int32) : Int32 × HSt := if a2 = (gI S 43 6) then (if (gI S 43 7) = (gI S sc1 3) then (if (f_X1_isLike S (56 + (0 : Int32).toNatClampNeg) (sc1 + 4)) = 0 then (bd (f_X1_copyFrom S (56 + (0 : Int32).toNatClampNeg) (sc1 + 4)) fun r18 => bd ((sI r18 43 6 (if (5 : Int32) < a2 then (5 : Int32) else a2))) fun S19 => bd ((sI S19 43 7 (gI S19 sc1 3))) fun S20 => bd ((sI S20 43 8 (0 : Int32))) fun S21 => bd (f_J7_fill_53178 S21 54 (-1 : Int32)) fun r22 => bd (f_J7_fill_53178 r22 52 (0 : Int32)) fun r23 => bd (f_X2_seekFrom r23 43 sc1 (0 : Int32)) fun r24 => pr (r24.1) (r24.2)) else (pr ((gI S 53 (0 : Int32).toNatClampNeg)) (S))) else (bd (f_X1_copyFrom S (56 + (0 : Int32).toNatClampNeg) (sc1 + 4)) fun r10 => bd ((sI r10 43 6 (if (5 : Int32) < a2 then (5 : Int32) else a2))) fun S11 => bd ((sI S11 43 7 (gI S11 sc1 3))) fun S12 => bd ((sI S12 43 8 (0 : Int32))) fun S13 => bd (f_J7_fill_53178 S13 54 (-1 : Int32)) fun r14 => bd (f_J7_fill_53178 r14 52 (0 : Int32)) fun r15 => bd (f_X2_seekFrom r15 43 sc1 (0 : Int32)) fun r16 => pr (r16.1) (r16.2))) else (bd (f_X1_copyFrom S (56 + (0 : Int32).toNatClampNeg) (sc1 + 4)) fun r2 => bd ((sI r2 43 6 (if (5 : Int32) < a2 then (5 : Int32) else a2))) fun S3 => bd ((sI S3 43 7 (gI S3 sc1 3))) fun S4 => bd ((sI S4 43 8 (0 : Int32))) fun S5 => bd (f_J7_fill_53178 S5 54 (-1 : Int32)) fun r6 => bd (f_J7_fill_53178 r6 52 (0 : Int32)) fun r7 => bd (f_X2_seekFrom r7 43 sc1 (0 : Int32)) fun r8 => pr (r8.1) (r8.2))
def p_X2_seekRow (S : HSt) (_o0 : Nat) (sc1 : Nat) (a2 : Int32) : Prop := ((¬ a2 = (gI S 43 6)) → p_X1_copyFrom S (56 + (0 : Int32).toNatClampNeg) (sc1 + 4)) ∧ ((¬ a2 = (gI S 43 6)) → ∀ r2, f_X1_copyFrom S (56 + (0 : Int32).toNatClampNeg) (sc1 + 4) = r2 → ∀ S3 : HSt, (sI r2 43 6 (if (5 : Int32) < a2 then (5 : Int32) else a2)) = S3 → ∀ S4 : HSt, (sI S3 43 7 (gI S3 sc1 3)) = S4 → ∀ S5 : HSt, (sI S4 43 8 (0 : Int32)) = S5 → p_J7_fill_53178 S5 54 (-1 : Int32)) ∧ ((¬ a2 = (gI S 43 6)) → ∀ r2, f_X1_copyFrom S (56 + (0 : Int32).toNatClampNeg) (sc1 + 4) = r2 → ∀ S3 : HSt, (sI r2 43 6 (if (5 : Int32) < a2 then (5 : Int32) else a2)) = S3 → ∀ S4 : HSt, (sI S3 43 7 (gI S3 sc1 3)) = S4 → ∀ S5 : HSt, (sI S4 43 8 (0 : Int32)) = S5 → ∀ r6, f_J7_fill_53178 S5 54 (-1 : Int32) = r6 → p_J7_fill_53178 r6 52 (0 : Int32)) ∧ ((¬ a2 = (gI S 43 6)) → ∀ r2, f_X1_copyFrom S (56 + (0 : Int32).toNatClampNeg) (sc1 + 4) = r2 → ∀ S3 : HSt, (sI r2 43 6 (if (5 : Int32) < a2 then (5 : Int32) else a2)) = S3 → ∀ S4 : HSt, (sI S3 43 7 (gI S3 sc1 3)) = S4 → ∀ S5 : HSt, (sI S4 43 8 (0 : Int32)) = S5 → ∀ r6, f_J7_fill_53178 S5 54 (-1 : Int32) = r6 → ∀ r7, f_J7_fill_53178 r6 52 (0 : Int32) = r7 → p_X2_seekFrom r7 43 sc1 (0 : Int32)) ∧ ((a2 = (gI S 43 6)) → (¬ (gI S 43 7) = (gI S sc1 3)) → p_X1_copyFrom S (56 + (0 : Int32).toNatClampNeg) (sc1 + 4)) ∧ ((a2 = (gI S 43 6)) → (¬ (gI S 43 7) = (gI S sc1 3)) → ∀ r10, f_X1_copyFrom S (56 + (0 : Int32).toNatClampNeg) (sc1 + 4) = r10 → ∀ S11 : HSt, (sI r10 43 6 (if (5 : Int32) < a2 then (5 : Int32) else a2)) = S11 → ∀ S12 : HSt, (sI S11 43 7 (gI S11 sc1 3)) = S12 → ∀ S13 : HSt, (sI S12 43 8 (0 : Int32)) = S13 → p_J7_fill_53178 S13 54 (-1 : Int32)) ∧ ((a2 = (gI S 43 6)) → (¬ (gI S 43 7) = (gI S sc1 3)) → ∀ r10, f_X1_copyFrom S (56 + (0 : Int32).toNatClampNeg) (sc1 + 4) = r10 → ∀ S11 : HSt, (sI r10 43 6 (if (5 : Int32) < a2 then (5 : Int32) else a2)) = S11 → ∀ S12 : HSt, (sI S11 43 7 (gI S11 sc1 3)) = S12 → ∀ S13 : HSt, (sI S12 43 8 (0 : Int32)) = S13 → ∀ r14, f_J7_fill_53178 S13 54 (-1 : Int32) = r14 → p_J7_fill_53178 r14 52 (0 : Int32)) ∧ ((a2 = (gI S 43 6)) → (¬ (gI S 43 7) = (gI S sc1 3)) → ∀ r10, f_X1_copyFrom S (56 + (0 : Int32).toNatClampNeg) (sc1 + 4) = r10 → ∀ S11 : HSt, (sI r10 43 6 (if (5 : Int32) < a2 then (5 : Int32) else a2)) = S11 → ∀ S12 : HSt, (sI S11 43 7 (gI S11 sc1 3)) = S12 → ∀ S13 : HSt, (sI S12 43 8 (0 : Int32)) = S13 → ∀ r14, f_J7_fill_53178 S13 54 (-1 : Int32) = r14 → ∀ r15, f_J7_fill_53178 r14 52 (0 : Int32) = r15 → p_X2_seekFrom r15 43 sc1 (0 : Int32)) ∧ ((a2 = (gI S 43 6)) → ((gI S 43 7) = (gI S sc1 3)) → ((f_X1_isLike S (56 + (0 : Int32).toNatClampNeg) (sc1 + 4)) = 0) → p_X1_copyFrom S (56 + (0 : Int32).toNatClampNeg) (sc1 + 4)) ∧ ((a2 = (gI S 43 6)) → ((gI S 43 7) = (gI S sc1 3)) → ((f_X1_isLike S (56 + (0 : Int32).toNatClampNeg) (sc1 + 4)) = 0) → ∀ r18, f_X1_copyFrom S (56 + (0 : Int32).toNatClampNeg) (sc1 + 4) = r18 → ∀ S19 : HSt, (sI r18 43 6 (if (5 : Int32) < a2 then (5 : Int32) else a2)) = S19 → ∀ S20 : HSt, (sI S19 43 7 (gI S19 sc1 3)) = S20 → ∀ S21 : HSt, (sI S20 43 8 (0 : Int32)) = S21 → p_J7_fill_53178 S21 54 (-1 : Int32)) ∧ ((a2 = (gI S 43 6)) → ((gI S 43 7) = (gI S sc1 3)) → ((f_X1_isLike S (56 + (0 : Int32).toNatClampNeg) (sc1 + 4)) = 0) → ∀ r18, f_X1_copyFrom S (56 + (0 : Int32).toNatClampNeg) (sc1 + 4) = r18 → ∀ S19 : HSt, (sI r18 43 6 (if (5 : Int32) < a2 then (5 : Int32) else a2)) = S19 → ∀ S20 : HSt, (sI S19 43 7 (gI S19 sc1 3)) = S20 → ∀ S21 : HSt, (sI S20 43 8 (0 : Int32)) = S21 → ∀ r22, f_J7_fill_53178 S21 54 (-1 : Int32) = r22 → p_J7_fill_53178 r22 52 (0 : Int32)) ∧ ((a2 = (gI S 43 6)) → ((gI S 43 7) = (gI S sc1 3)) → ((f_X1_isLike S (56 + (0 : Int32).toNatClampNeg) (sc1 + 4)) = 0) → ∀ r18, f_X1_copyFrom S (56 + (0 : Int32).toNatClampNeg) (sc1 + 4) = r18 → ∀ S19 : HSt, (sI r18 43 6 (if (5 : Int32) < a2 then (5 : Int32) else a2)) = S19 → ∀ S20 : HSt, (sI S19 43 7 (gI S19 sc1 3)) = S20 → ∀ S21 : HSt, (sI S20 43 8 (0 : Int32)) = S21 → ∀ r22, f_J7_fill_53178 S21 54 (-1 : Int32) = r22 → ∀ r23, f_J7_fill_53178 r22 52 (0 : Int32) = r23 → p_X2_seekFrom r23 43 sc1 (0 : Int32))
set_option maxRecDepth 100000 in
theorem t_X2_seekRow (G : GG) (l : Launch) {S : HSt} (hM : CS S) (sc1 : Nat) (a2 : Int32) (hsc1 : (sc1, 7, 0) ∈ cKT) (hp : p_X2_seekRow S 43 sc1 a2) : AM G l yX2_seekRow cX2_seekRow 3 (some .int) (rmD 27 0 0) 0 0 [.ref 43, .ref sc1, .int a2] S (FP (some (.int (f_X2_seekRow S 43 sc1 a2).1)) ((f_X2_seekRow S 43 sc1 a2).2)) := by
  obtain ⟨h0, h1, h2, h3, h4, h5, h6, h7, h8, h9, h10, h11⟩ := hp
  refine AM.mk (by decide) (Nat.le_of_ble_eq_true rfl) ?_
  intro p e s m below meth c hC hSt _
  refine aw_iload_n hC 2 dX2_seekRow_0 rfl rfl ?_
  refine aw_aload_n hC 0 dX2_seekRow_1 rfl rfl ?_
  refine aw_getI hC hSt 6 (cs_lt 43 2 0 (by decide) hM) (cs_k 43 2 0 (by decide) hM) rfl (by decide) w_210 rfl dX2_seekRow_2 ?_
  refine aw_icmp_ne hC 42 dX2_seekRow_5 (by decide) (fun c1 => ?_) (fun c1 => ?_)
  · refine aw_aload_n hC 0 dX2_seekRow_42 rfl rfl ?_
    refine aw_getP (b := 44) hC hSt 0 (cs_lt 43 2 0 (by decide) hM) (cs_k 43 2 0 (by decide) hM) rfl (by decide) w_132 rfl (cs_p 43 0 44 (by decide) hM) dX2_seekRow_43 ?_
    refine aw_iconst (v := 0) hC dX2_seekRow_46 (by decide) ?_
    refine aw_aaldL hC hSt (cs_lt 44 17 6 (by decide) hM) (cs_k 44 17 6 (by decide) hM) (vp_len (n := 6) (cs_l 44 17 6 (by decide) hM) (by unfold vp_in; decide)) (cs_p 44 (0 : Int32).toNatClampNeg (56 + (0 : Int32).toNatClampNeg) (ar_p44 (by unfold vp_in; decide)) hM) dX2_seekRow_47 ?_
    refine aw_aload_n hC 1 dX2_seekRow_48 rfl rfl ?_
    refine aw_getP (b := (sc1 + 4)) hC hSt 1 (cs_lt sc1 7 0 hsc1 hM) (cs_k sc1 7 0 hsc1 hM) rfl (by decide) w_255 rfl (cs_p sc1 1 (sc1 + 4) (sc_ploop hsc1) hM) dX2_seekRow_49 ?_
    refine aw_cV1v hC hSt (t_X1_copyFrom G l hM _ _ (ar_m44 (by unfold vp_in; decide)) (sc_loop hsc1) (h0 c1)) w_86 w_212 w_213 w_214 w_84 rfl rfl (by decide +kernel) ⟨Nat.le_of_ble_eq_true rfl, Nat.le_of_ble_eq_true rfl⟩ (cs_lt (56 + (0 : Int32).toNatClampNeg) 1 0 (ar_m44 (by unfold vp_in; decide)) hM) (cs_k (56 + (0 : Int32).toNatClampNeg) 1 0 (ar_m44 (by unfold vp_in; decide)) hM) rfl (Nat.le_of_ble_eq_true rfl) dX2_seekRow_52 ⟨Nat.zero_le _, Nat.zero_le _⟩ ?_
    generalize er2 : f_X1_copyFrom S (56 + (0 : Int32).toNatClampNeg) (sc1 + 4) = r2
    have hM : CS r2 := CS.of (by rw [← er2]; exact q_X1_copyFrom _ _ _) hM
    refine aw_aload_n hC 0 dX2_seekRow_55 rfl rfl ?_
    refine aw_iload_n hC 2 dX2_seekRow_56 rfl rfl ?_
    refine aw_iconst (v := 5) hC dX2_seekRow_57 (by decide) ?_
    refine aw_min hC w_147 w_95 w_92 w_96 (by decide) (Nat.le_of_ble_eq_true rfl) (by decide) (by decide) dX2_seekRow_58 ?_
    refine aw_putI hC hSt 6 (cs_lt 43 2 0 (by decide) hM) (cs_k 43 2 0 (by decide) hM) rfl (by decide) w_210 rfl rfl rfl rfl dX2_seekRow_61 ?_
    generalize eS3 : (sI r2 43 6 (if (5 : Int32) < a2 then (5 : Int32) else a2)) = S3
    have hM : CS S3 := CS.of (by rw [← eS3]; exact shp_sI _ _ _ _) hM
    refine aw_aload_n hC 0 dX2_seekRow_64 rfl rfl ?_
    refine aw_aload_n hC 1 dX2_seekRow_65 rfl rfl ?_
    refine aw_getI hC hSt 3 (cs_lt sc1 7 0 hsc1 hM) (cs_k sc1 7 0 hsc1 hM) rfl (by decide) w_254 rfl dX2_seekRow_66 ?_
    refine aw_putI hC hSt 7 (cs_lt 43 2 0 (by decide) hM) (cs_k 43 2 0 (by decide) hM) rfl (by decide) w_253 rfl rfl rfl rfl dX2_seekRow_69 ?_
    generalize eS4 : (sI S3 43 7 (gI S3 sc1 3)) = S4
    have hM : CS S4 := CS.of (by rw [← eS4]; exact shp_sI _ _ _ _) hM
    refine aw_aload_n hC 0 dX2_seekRow_72 rfl rfl ?_
    refine aw_iconst (v := 0) hC dX2_seekRow_73 (by decide) ?_
    refine aw_putI hC hSt 8 (cs_lt 43 2 0 (by decide) hM) (cs_k 43 2 0 (by decide) hM) rfl (by decide) w_211 rfl rfl rfl rfl dX2_seekRow_74 ?_
    generalize eS5 : (sI S4 43 8 (0 : Int32)) = S5
    have hM : CS S5 := CS.of (by rw [← eS5]; exact shp_sI _ _ _ _) hM
    refine aw_aload_n hC 0 dX2_seekRow_77 rfl rfl ?_
    refine aw_getP (b := 54) hC hSt 4 (cs_lt 43 2 0 (by decide) hM) (cs_k 43 2 0 (by decide) hM) rfl (by decide) w_137 rfl (cs_p 43 4 54 (by decide) hM) dX2_seekRow_78 ?_
    refine aw_iconst (v := -1) hC dX2_seekRow_81 (by decide) ?_
    refine aw_cS2v hC hSt (t_J7_fill_53178 G l hM _ _ ⟨640, (by decide)⟩ (h1 c1 r2 er2 S3 eS3 S4 eS4 S5 eS5)) w_145 w_259 w_260 w_261 rfl rfl (by decide +kernel) ⟨Nat.le_of_ble_eq_true rfl, Nat.le_of_ble_eq_true rfl⟩ (Nat.le_of_ble_eq_true rfl) dX2_seekRow_82 ⟨Nat.zero_le _, Nat.zero_le _⟩ ?_
    generalize er6 : f_J7_fill_53178 S5 54 (-1 : Int32) = r6
    have hM : CS r6 := CS.of (by rw [← er6]; exact q_J7_fill_53178 _ _ _) hM
    refine aw_aload_n hC 0 dX2_seekRow_85 rfl rfl ?_
    refine aw_getP (b := 52) hC hSt 2 (cs_lt 43 2 0 (by decide) hM) (cs_k 43 2 0 (by decide) hM) rfl (by decide) w_135 rfl (cs_p 43 2 52 (by decide) hM) dX2_seekRow_86 ?_
    refine aw_iconst (v := 0) hC dX2_seekRow_89 (by decide) ?_
    refine aw_cS2v hC hSt (t_J7_fill_53178 G l hM _ _ ⟨6, (by decide)⟩ (h2 c1 r2 er2 S3 eS3 S4 eS4 S5 eS5 r6 er6)) w_145 w_259 w_260 w_261 rfl rfl (by decide +kernel) ⟨Nat.le_of_ble_eq_true rfl, Nat.le_of_ble_eq_true rfl⟩ (Nat.le_of_ble_eq_true rfl) dX2_seekRow_90 ⟨Nat.zero_le _, Nat.zero_le _⟩ ?_
    generalize er7 : f_J7_fill_53178 r6 52 (0 : Int32) = r7
    have hM : CS r7 := CS.of (by rw [← er7]; exact q_J7_fill_53178 _ _ _) hM
    refine aw_aload_n hC 0 dX2_seekRow_93 rfl rfl ?_
    refine aw_aload_n hC 1 dX2_seekRow_94 rfl rfl ?_
    refine aw_iconst (v := 0) hC dX2_seekRow_95 (by decide) ?_
    refine aw_cV2r hC hSt (t_X2_seekFrom G l hM _ _ hsc1 (h3 c1 r2 er2 S3 eS3 S4 eS4 S5 eS5 r6 er6 r7 er7)) w_220 w_216 w_217 w_218 w_219 rfl rfl (by decide +kernel) ⟨Nat.le_of_ble_eq_true rfl, Nat.le_of_ble_eq_true rfl⟩ (cs_lt 43 2 0 (by decide) hM) (cs_k 43 2 0 (by decide) hM) rfl (Nat.le_of_ble_eq_true rfl) dX2_seekRow_96 ⟨Nat.zero_le _, Nat.zero_le _⟩ ?_
    generalize er8 : f_X2_seekFrom r7 43 sc1 (0 : Int32) = r8
    have hM : CS r8.2 := CS.of (by rw [← er8]; exact q_X2_seekFrom _ _ _ _) hM
    refine aw_iret hC dX2_seekRow_99 (Nat.le_refl _) (Nat.le_refl _) ?_
    exact FP.qI ((if_neg c1).trans ((bd_eq er2).trans ((bd_eq eS3).trans ((bd_eq eS4).trans ((bd_eq eS5).trans ((bd_eq er6).trans ((bd_eq er7).trans ((bd_eq er8).trans (rfl)))))))))
  · refine aw_aload_n hC 0 dX2_seekRow_8 rfl rfl ?_
    refine aw_getI hC hSt 7 (cs_lt 43 2 0 (by decide) hM) (cs_k 43 2 0 (by decide) hM) rfl (by decide) w_253 rfl dX2_seekRow_9 ?_
    refine aw_aload_n hC 1 dX2_seekRow_12 rfl rfl ?_
    refine aw_getI hC hSt 3 (cs_lt sc1 7 0 hsc1 hM) (cs_k sc1 7 0 hsc1 hM) rfl (by decide) w_254 rfl dX2_seekRow_13 ?_
    refine aw_icmp_ne hC 42 dX2_seekRow_16 (by decide) (fun c9 => ?_) (fun c9 => ?_)
    · refine aw_aload_n hC 0 dX2_seekRow_42 rfl rfl ?_
      refine aw_getP (b := 44) hC hSt 0 (cs_lt 43 2 0 (by decide) hM) (cs_k 43 2 0 (by decide) hM) rfl (by decide) w_132 rfl (cs_p 43 0 44 (by decide) hM) dX2_seekRow_43 ?_
      refine aw_iconst (v := 0) hC dX2_seekRow_46 (by decide) ?_
      refine aw_aaldL hC hSt (cs_lt 44 17 6 (by decide) hM) (cs_k 44 17 6 (by decide) hM) (vp_len (n := 6) (cs_l 44 17 6 (by decide) hM) (by unfold vp_in; decide)) (cs_p 44 (0 : Int32).toNatClampNeg (56 + (0 : Int32).toNatClampNeg) (ar_p44 (by unfold vp_in; decide)) hM) dX2_seekRow_47 ?_
      refine aw_aload_n hC 1 dX2_seekRow_48 rfl rfl ?_
      refine aw_getP (b := (sc1 + 4)) hC hSt 1 (cs_lt sc1 7 0 hsc1 hM) (cs_k sc1 7 0 hsc1 hM) rfl (by decide) w_255 rfl (cs_p sc1 1 (sc1 + 4) (sc_ploop hsc1) hM) dX2_seekRow_49 ?_
      refine aw_cV1v hC hSt (t_X1_copyFrom G l hM _ _ (ar_m44 (by unfold vp_in; decide)) (sc_loop hsc1) (h4 c1 c9)) w_86 w_212 w_213 w_214 w_84 rfl rfl (by decide +kernel) ⟨Nat.le_of_ble_eq_true rfl, Nat.le_of_ble_eq_true rfl⟩ (cs_lt (56 + (0 : Int32).toNatClampNeg) 1 0 (ar_m44 (by unfold vp_in; decide)) hM) (cs_k (56 + (0 : Int32).toNatClampNeg) 1 0 (ar_m44 (by unfold vp_in; decide)) hM) rfl (Nat.le_of_ble_eq_true rfl) dX2_seekRow_52 ⟨Nat.zero_le _, Nat.zero_le _⟩ ?_
      generalize er10 : f_X1_copyFrom S (56 + (0 : Int32).toNatClampNeg) (sc1 + 4) = r10
      have hM : CS r10 := CS.of (by rw [← er10]; exact q_X1_copyFrom _ _ _) hM
      refine aw_aload_n hC 0 dX2_seekRow_55 rfl rfl ?_
      refine aw_iload_n hC 2 dX2_seekRow_56 rfl rfl ?_
      refine aw_iconst (v := 5) hC dX2_seekRow_57 (by decide) ?_
      refine aw_min hC w_147 w_95 w_92 w_96 (by decide) (Nat.le_of_ble_eq_true rfl) (by decide) (by decide) dX2_seekRow_58 ?_
      refine aw_putI hC hSt 6 (cs_lt 43 2 0 (by decide) hM) (cs_k 43 2 0 (by decide) hM) rfl (by decide) w_210 rfl rfl rfl rfl dX2_seekRow_61 ?_
      generalize eS11 : (sI r10 43 6 (if (5 : Int32) < a2 then (5 : Int32) else a2)) = S11
      have hM : CS S11 := CS.of (by rw [← eS11]; exact shp_sI _ _ _ _) hM
      refine aw_aload_n hC 0 dX2_seekRow_64 rfl rfl ?_
      refine aw_aload_n hC 1 dX2_seekRow_65 rfl rfl ?_
      refine aw_getI hC hSt 3 (cs_lt sc1 7 0 hsc1 hM) (cs_k sc1 7 0 hsc1 hM) rfl (by decide) w_254 rfl dX2_seekRow_66 ?_
      refine aw_putI hC hSt 7 (cs_lt 43 2 0 (by decide) hM) (cs_k 43 2 0 (by decide) hM) rfl (by decide) w_253 rfl rfl rfl rfl dX2_seekRow_69 ?_
      generalize eS12 : (sI S11 43 7 (gI S11 sc1 3)) = S12
      have hM : CS S12 := CS.of (by rw [← eS12]; exact shp_sI _ _ _ _) hM
      refine aw_aload_n hC 0 dX2_seekRow_72 rfl rfl ?_
      refine aw_iconst (v := 0) hC dX2_seekRow_73 (by decide) ?_
      refine aw_putI hC hSt 8 (cs_lt 43 2 0 (by decide) hM) (cs_k 43 2 0 (by decide) hM) rfl (by decide) w_211 rfl rfl rfl rfl dX2_seekRow_74 ?_
      generalize eS13 : (sI S12 43 8 (0 : Int32)) = S13
      have hM : CS S13 := CS.of (by rw [← eS13]; exact shp_sI _ _ _ _) hM
      refine aw_aload_n hC 0 dX2_seekRow_77 rfl rfl ?_
      refine aw_getP (b := 54) hC hSt 4 (cs_lt 43 2 0 (by decide) hM) (cs_k 43 2 0 (by decide) hM) rfl (by decide) w_137 rfl (cs_p 43 4 54 (by decide) hM) dX2_seekRow_78 ?_
      refine aw_iconst (v := -1) hC dX2_seekRow_81 (by decide) ?_
      refine aw_cS2v hC hSt (t_J7_fill_53178 G l hM _ _ ⟨640, (by decide)⟩ (h5 c1 c9 r10 er10 S11 eS11 S12 eS12 S13 eS13)) w_145 w_259 w_260 w_261 rfl rfl (by decide +kernel) ⟨Nat.le_of_ble_eq_true rfl, Nat.le_of_ble_eq_true rfl⟩ (Nat.le_of_ble_eq_true rfl) dX2_seekRow_82 ⟨Nat.zero_le _, Nat.zero_le _⟩ ?_
      generalize er14 : f_J7_fill_53178 S13 54 (-1 : Int32) = r14
      have hM : CS r14 := CS.of (by rw [← er14]; exact q_J7_fill_53178 _ _ _) hM
      refine aw_aload_n hC 0 dX2_seekRow_85 rfl rfl ?_
      refine aw_getP (b := 52) hC hSt 2 (cs_lt 43 2 0 (by decide) hM) (cs_k 43 2 0 (by decide) hM) rfl (by decide) w_135 rfl (cs_p 43 2 52 (by decide) hM) dX2_seekRow_86 ?_
      refine aw_iconst (v := 0) hC dX2_seekRow_89 (by decide) ?_
      refine aw_cS2v hC hSt (t_J7_fill_53178 G l hM _ _ ⟨6, (by decide)⟩ (h6 c1 c9 r10 er10 S11 eS11 S12 eS12 S13 eS13 r14 er14)) w_145 w_259 w_260 w_261 rfl rfl (by decide +kernel) ⟨Nat.le_of_ble_eq_true rfl, Nat.le_of_ble_eq_true rfl⟩ (Nat.le_of_ble_eq_true rfl) dX2_seekRow_90 ⟨Nat.zero_le _, Nat.zero_le _⟩ ?_
      generalize er15 : f_J7_fill_53178 r14 52 (0 : Int32) = r15
      have hM : CS r15 := CS.of (by rw [← er15]; exact q_J7_fill_53178 _ _ _) hM
      refine aw_aload_n hC 0 dX2_seekRow_93 rfl rfl ?_
      refine aw_aload_n hC 1 dX2_seekRow_94 rfl rfl ?_
      refine aw_iconst (v := 0) hC dX2_seekRow_95 (by decide) ?_
      refine aw_cV2r hC hSt (t_X2_seekFrom G l hM _ _ hsc1 (h7 c1 c9 r10 er10 S11 eS11 S12 eS12 S13 eS13 r14 er14 r15 er15)) w_220 w_216 w_217 w_218 w_219 rfl rfl (by decide +kernel) ⟨Nat.le_of_ble_eq_true rfl, Nat.le_of_ble_eq_true rfl⟩ (cs_lt 43 2 0 (by decide) hM) (cs_k 43 2 0 (by decide) hM) rfl (Nat.le_of_ble_eq_true rfl) dX2_seekRow_96 ⟨Nat.zero_le _, Nat.zero_le _⟩ ?_
      generalize er16 : f_X2_seekFrom r15 43 sc1 (0 : Int32) = r16
      have hM : CS r16.2 := CS.of (by rw [← er16]; exact q_X2_seekFrom _ _ _ _) hM
      refine aw_iret hC dX2_seekRow_99 (Nat.le_refl _) (Nat.le_refl _) ?_
      exact FP.qI ((if_pos c1).trans ((if_neg c9).trans ((bd_eq er10).trans ((bd_eq eS11).trans ((bd_eq eS12).trans ((bd_eq eS13).trans ((bd_eq er14).trans ((bd_eq er15).trans ((bd_eq er16).trans (rfl))))))))))
    · refine aw_aload_n hC 0 dX2_seekRow_19 rfl rfl ?_
      refine aw_getP (b := 44) hC hSt 0 (cs_lt 43 2 0 (by decide) hM) (cs_k 43 2 0 (by decide) hM) rfl (by decide) w_132 rfl (cs_p 43 0 44 (by decide) hM) dX2_seekRow_20 ?_
      refine aw_iconst (v := 0) hC dX2_seekRow_23 (by decide) ?_
      refine aw_aaldL hC hSt (cs_lt 44 17 6 (by decide) hM) (cs_k 44 17 6 (by decide) hM) (vp_len (n := 6) (cs_l 44 17 6 (by decide) hM) (by unfold vp_in; decide)) (cs_p 44 (0 : Int32).toNatClampNeg (56 + (0 : Int32).toNatClampNeg) (ar_p44 (by unfold vp_in; decide)) hM) dX2_seekRow_24 ?_
      refine aw_aload_n hC 1 dX2_seekRow_25 rfl rfl ?_
      refine aw_getP (b := (sc1 + 4)) hC hSt 1 (cs_lt sc1 7 0 hsc1 hM) (cs_k sc1 7 0 hsc1 hM) rfl (by decide) w_255 rfl (cs_p sc1 1 (sc1 + 4) (sc_ploop hsc1) hM) dX2_seekRow_26 ?_
      refine aw_cV1r hC hSt (t_X1_isLike G l hM _ _ (ar_m44 (by unfold vp_in; decide)) (sc_loop hsc1)) w_87 w_256 w_257 w_258 w_84 rfl rfl (by decide +kernel) ⟨Nat.le_of_ble_eq_true rfl, Nat.le_of_ble_eq_true rfl⟩ (cs_lt (56 + (0 : Int32).toNatClampNeg) 1 0 (ar_m44 (by unfold vp_in; decide)) hM) (cs_k (56 + (0 : Int32).toNatClampNeg) 1 0 (ar_m44 (by unfold vp_in; decide)) hM) rfl (Nat.le_of_ble_eq_true rfl) dX2_seekRow_29 ⟨Nat.zero_le _, Nat.zero_le _⟩ ?_
      refine aw_if_eq hC 42 dX2_seekRow_32 (by decide) (fun c17 => ?_) (fun c17 => ?_)
      · refine aw_aload_n hC 0 dX2_seekRow_42 rfl rfl ?_
        refine aw_getP (b := 44) hC hSt 0 (cs_lt 43 2 0 (by decide) hM) (cs_k 43 2 0 (by decide) hM) rfl (by decide) w_132 rfl (cs_p 43 0 44 (by decide) hM) dX2_seekRow_43 ?_
        refine aw_iconst (v := 0) hC dX2_seekRow_46 (by decide) ?_
        refine aw_aaldL hC hSt (cs_lt 44 17 6 (by decide) hM) (cs_k 44 17 6 (by decide) hM) (vp_len (n := 6) (cs_l 44 17 6 (by decide) hM) (by unfold vp_in; decide)) (cs_p 44 (0 : Int32).toNatClampNeg (56 + (0 : Int32).toNatClampNeg) (ar_p44 (by unfold vp_in; decide)) hM) dX2_seekRow_47 ?_
        refine aw_aload_n hC 1 dX2_seekRow_48 rfl rfl ?_
        refine aw_getP (b := (sc1 + 4)) hC hSt 1 (cs_lt sc1 7 0 hsc1 hM) (cs_k sc1 7 0 hsc1 hM) rfl (by decide) w_255 rfl (cs_p sc1 1 (sc1 + 4) (sc_ploop hsc1) hM) dX2_seekRow_49 ?_
        refine aw_cV1v hC hSt (t_X1_copyFrom G l hM _ _ (ar_m44 (by unfold vp_in; decide)) (sc_loop hsc1) (h8 c1 c9 c17)) w_86 w_212 w_213 w_214 w_84 rfl rfl (by decide +kernel) ⟨Nat.le_of_ble_eq_true rfl, Nat.le_of_ble_eq_true rfl⟩ (cs_lt (56 + (0 : Int32).toNatClampNeg) 1 0 (ar_m44 (by unfold vp_in; decide)) hM) (cs_k (56 + (0 : Int32).toNatClampNeg) 1 0 (ar_m44 (by unfold vp_in; decide)) hM) rfl (Nat.le_of_ble_eq_true rfl) dX2_seekRow_52 ⟨Nat.zero_le _, Nat.zero_le _⟩ ?_
        generalize er18 : f_X1_copyFrom S (56 + (0 : Int32).toNatClampNeg) (sc1 + 4) = r18
        have hM : CS r18 := CS.of (by rw [← er18]; exact q_X1_copyFrom _ _ _) hM
        refine aw_aload_n hC 0 dX2_seekRow_55 rfl rfl ?_
        refine aw_iload_n hC 2 dX2_seekRow_56 rfl rfl ?_
        refine aw_iconst (v := 5) hC dX2_seekRow_57 (by decide) ?_
        refine aw_min hC w_147 w_95 w_92 w_96 (by decide) (Nat.le_of_ble_eq_true rfl) (by decide) (by decide) dX2_seekRow_58 ?_
        refine aw_putI hC hSt 6 (cs_lt 43 2 0 (by decide) hM) (cs_k 43 2 0 (by decide) hM) rfl (by decide) w_210 rfl rfl rfl rfl dX2_seekRow_61 ?_
        generalize eS19 : (sI r18 43 6 (if (5 : Int32) < a2 then (5 : Int32) else a2)) = S19
        have hM : CS S19 := CS.of (by rw [← eS19]; exact shp_sI _ _ _ _) hM
        refine aw_aload_n hC 0 dX2_seekRow_64 rfl rfl ?_
        refine aw_aload_n hC 1 dX2_seekRow_65 rfl rfl ?_
        refine aw_getI hC hSt 3 (cs_lt sc1 7 0 hsc1 hM) (cs_k sc1 7 0 hsc1 hM) rfl (by decide) w_254 rfl dX2_seekRow_66 ?_
        refine aw_putI hC hSt 7 (cs_lt 43 2 0 (by decide) hM) (cs_k 43 2 0 (by decide) hM) rfl (by decide) w_253 rfl rfl rfl rfl dX2_seekRow_69 ?_
        generalize eS20 : (sI S19 43 7 (gI S19 sc1 3)) = S20
        have hM : CS S20 := CS.of (by rw [← eS20]; exact shp_sI _ _ _ _) hM
        refine aw_aload_n hC 0 dX2_seekRow_72 rfl rfl ?_
        refine aw_iconst (v := 0) hC dX2_seekRow_73 (by decide) ?_
        refine aw_putI hC hSt 8 (cs_lt 43 2 0 (by decide) hM) (cs_k 43 2 0 (by decide) hM) rfl (by decide) w_211 rfl rfl rfl rfl dX2_seekRow_74 ?_
        generalize eS21 : (sI S20 43 8 (0 : Int32)) = S21
        have hM : CS S21 := CS.of (by rw [← eS21]; exact shp_sI _ _ _ _) hM
        refine aw_aload_n hC 0 dX2_seekRow_77 rfl rfl ?_
        refine aw_getP (b := 54) hC hSt 4 (cs_lt 43 2 0 (by decide) hM) (cs_k 43 2 0 (by decide) hM) rfl (by decide) w_137 rfl (cs_p 43 4 54 (by decide) hM) dX2_seekRow_78 ?_
        refine aw_iconst (v := -1) hC dX2_seekRow_81 (by decide) ?_
        refine aw_cS2v hC hSt (t_J7_fill_53178 G l hM _ _ ⟨640, (by decide)⟩ (h9 c1 c9 c17 r18 er18 S19 eS19 S20 eS20 S21 eS21)) w_145 w_259 w_260 w_261 rfl rfl (by decide +kernel) ⟨Nat.le_of_ble_eq_true rfl, Nat.le_of_ble_eq_true rfl⟩ (Nat.le_of_ble_eq_true rfl) dX2_seekRow_82 ⟨Nat.zero_le _, Nat.zero_le _⟩ ?_
        generalize er22 : f_J7_fill_53178 S21 54 (-1 : Int32) = r22
        have hM : CS r22 := CS.of (by rw [← er22]; exact q_J7_fill_53178 _ _ _) hM
        refine aw_aload_n hC 0 dX2_seekRow_85 rfl rfl ?_
        refine aw_getP (b := 52) hC hSt 2 (cs_lt 43 2 0 (by decide) hM) (cs_k 43 2 0 (by decide) hM) rfl (by decide) w_135 rfl (cs_p 43 2 52 (by decide) hM) dX2_seekRow_86 ?_
        refine aw_iconst (v := 0) hC dX2_seekRow_89 (by decide) ?_
        refine aw_cS2v hC hSt (t_J7_fill_53178 G l hM _ _ ⟨6, (by decide)⟩ (h10 c1 c9 c17 r18 er18 S19 eS19 S20 eS20 S21 eS21 r22 er22)) w_145 w_259 w_260 w_261 rfl rfl (by decide +kernel) ⟨Nat.le_of_ble_eq_true rfl, Nat.le_of_ble_eq_true rfl⟩ (Nat.le_of_ble_eq_true rfl) dX2_seekRow_90 ⟨Nat.zero_le _, Nat.zero_le _⟩ ?_
        generalize er23 : f_J7_fill_53178 r22 52 (0 : Int32) = r23
        have hM : CS r23 := CS.of (by rw [← er23]; exact q_J7_fill_53178 _ _ _) hM
        refine aw_aload_n hC 0 dX2_seekRow_93 rfl rfl ?_
        refine aw_aload_n hC 1 dX2_seekRow_94 rfl rfl ?_
        refine aw_iconst (v := 0) hC dX2_seekRow_95 (by decide) ?_
        refine aw_cV2r hC hSt (t_X2_seekFrom G l hM _ _ hsc1 (h11 c1 c9 c17 r18 er18 S19 eS19 S20 eS20 S21 eS21 r22 er22 r23 er23)) w_220 w_216 w_217 w_218 w_219 rfl rfl (by decide +kernel) ⟨Nat.le_of_ble_eq_true rfl, Nat.le_of_ble_eq_true rfl⟩ (cs_lt 43 2 0 (by decide) hM) (cs_k 43 2 0 (by decide) hM) rfl (Nat.le_of_ble_eq_true rfl) dX2_seekRow_96 ⟨Nat.zero_le _, Nat.zero_le _⟩ ?_
        generalize er24 : f_X2_seekFrom r23 43 sc1 (0 : Int32) = r24
        have hM : CS r24.2 := CS.of (by rw [← er24]; exact q_X2_seekFrom _ _ _ _) hM
        refine aw_iret hC dX2_seekRow_99 (Nat.le_refl _) (Nat.le_refl _) ?_
        exact FP.qI ((if_pos c1).trans ((if_pos c9).trans ((if_pos c17).trans ((bd_eq er18).trans ((bd_eq eS19).trans ((bd_eq eS20).trans ((bd_eq eS21).trans ((bd_eq er22).trans ((bd_eq er23).trans ((bd_eq er24).trans (rfl)))))))))))
      · refine aw_aload_n hC 0 dX2_seekRow_35 rfl rfl ?_
        refine aw_getP (b := 53) hC hSt 3 (cs_lt 43 2 0 (by decide) hM) (cs_k 43 2 0 (by decide) hM) rfl (by decide) w_136 rfl (cs_p 43 3 53 (by decide) hM) dX2_seekRow_36 ?_
        refine aw_iconst (v := 0) hC dX2_seekRow_39 (by decide) ?_
        refine aw_iald hC hSt (cs_lt 53 14 6 (by decide) hM) (cs_k 53 14 6 (by decide) hM) (vp_len (n := 6) (cs_l 53 14 6 (by decide) hM) (by unfold vp_in; decide)) dX2_seekRow_40 ?_
        refine aw_iret hC dX2_seekRow_41 (Nat.le_refl _) (Nat.le_refl _) ?_
        exact FP.qI ((if_pos c1).trans ((if_pos c9).trans ((if_neg c17).trans (rfl))))
theorem q_X2_seekRow (S : HSt) (_o0 : Nat) (sc1 : Nat) (a2 : Int32) : shp ((f_X2_seekRow S _o0 sc1 a2).2) = shp S := by
  unfold f_X2_seekRow
  repeat' (first | with_reducible refine shpr1 ?_ | with_reducible rfl | with_reducible refine (q_J7_fill_53178 _ _ _).trans ?_ | with_reducible refine (q_X1_copyFrom _ _ _).trans ?_ | with_reducible refine (q_X2_seekFrom _ _ _ _).trans ?_ | with_reducible refine (shp_sI _ _ _ _).trans ?_ | with_reducible refine (shp_sJ _ _ _ _).trans ?_ | with_reducible refine (shp_rI _ _ _).trans ?_ | with_reducible refine shi ?_ ?_ | with_reducible refine shb (fun _ _ => ?_) | with_reducible refine shiP (fun q : Int32 × HSt => q.2) ?_ ?_ | with_reducible refine shbP (fun q : Int32 × HSt => q.2) (fun _ _ => ?_) | (subst_vars; with_reducible rfl) | (subst_vars; with_reducible refine (q_J7_fill_53178 _ _ _).trans ?_) | (subst_vars; with_reducible refine (q_X1_copyFrom _ _ _).trans ?_) | (subst_vars; with_reducible refine (q_X2_seekFrom _ _ _ _).trans ?_) | (subst_vars; with_reducible refine (shp_sI _ _ _ _).trans ?_) | (subst_vars; with_reducible refine (shp_sJ _ _ _ _).trans ?_) | (subst_vars; with_reducible refine (shp_rI _ _ _).trans ?_) | (subst_vars; with_reducible refine shi ?_ ?_) | (subst_vars; with_reducible refine shb (fun _ _ => ?_)))
noncomputable def f_X11_moves (S : HSt) (_o0 : Nat) (a1 : Int32) (a2 : Int32) : Int64 × HSt := if (f_X11_within S a1 (1 : Int32) (5 : Int32)) = 0 then (pr ((-9000000000000000001 : Int64)) (S)) else (if (-1 : Int32) ≤ a2 then (if (gI S 18 2) = 0 then (pr ((-9000000000000000002 : Int64)) (S)) else (bd (f_X2_seekRow S 43 18 a1) fun r4 => bd (r4.1) fun x5 => bd ((if a2 = (-1 : Int32) then x5.toInt64 else (f_X2_moveAt r4.2 43 a2).toInt64)) fun x7 => pr (x7) (r4.2))) else (pr ((-9000000000000000001 : Int64)) (S)))
def p_X11_moves (S : HSt) (_o0 : Nat) (a1 : Int32) (a2 : Int32) : Prop := ((¬ (f_X11_within S a1 (1 : Int32) (5 : Int32)) = 0) → ((-1 : Int32) ≤ a2) → (¬ (gI S 18 2) = 0) → p_X2_seekRow S 43 18 a1) ∧ ((¬ (f_X11_within S a1 (1 : Int32) (5 : Int32)) = 0) → ((-1 : Int32) ≤ a2) → (¬ (gI S 18 2) = 0) → ∀ r4, f_X2_seekRow S 43 18 a1 = r4 → ∀ x5 : Int32, r4.1 = x5 → (¬ a2 = (-1 : Int32)) → p_X2_moveAt r4.2 43 a2)
set_option maxRecDepth 100000 in
theorem t_X11_moves (G : GG) (l : Launch) {S : HSt} (hM : CS S) (a1 : Int32) (a2 : Int32)  (hp : p_X11_moves S 0 a1 a2) : AM G l yX11_moves cX11_moves 4 (some .long) (rmD 28 0 0) 0 0 [.ref 0, .int a1, .int a2] S (FP (some (.long (f_X11_moves S 0 a1 a2).1)) ((f_X11_moves S 0 a1 a2).2)) := by
  obtain ⟨h0, h1⟩ := hp
  refine AM.mk (by decide) (Nat.le_of_ble_eq_true rfl) ?_
  intro p e s m below meth c hC hSt _
  refine aw_iload_n hC 1 dX11_moves_0 rfl rfl ?_
  refine aw_iconst (v := 1) hC dX11_moves_1 (by decide) ?_
  refine aw_iconst (v := 5) hC dX11_moves_2 (by decide) ?_
  refine aw_cS3r hC hSt (t_X11_within G l  _ _ _) w_706 w_712 w_713 w_517 rfl rfl (by decide +kernel) ⟨Nat.le_of_ble_eq_true rfl, Nat.le_of_ble_eq_true rfl⟩ (Nat.le_of_ble_eq_true rfl) dX11_moves_3 ⟨Nat.zero_le _, Nat.zero_le _⟩ ?_
  refine aw_if_eq hC 14 dX11_moves_6 (by decide) (fun c1 => ?_) (fun c1 => ?_)
  · refine aw_ldc2 (v := -9000000000000000001) hC w_710 dX11_moves_14 ?_
    refine aw_lret hC dX11_moves_17 (Nat.le_refl _) (Nat.le_refl _) ?_
    exact FP.qJ ((if_pos c1).trans (rfl))
  · refine aw_iload_n hC 2 dX11_moves_9 rfl rfl ?_
    refine aw_iconst (v := -1) hC dX11_moves_10 (by decide) ?_
    refine aw_icmp_ge hC 18 dX11_moves_11 (by decide) (fun c2 => ?_) (fun c2 => ?_)
    · refine aw_aload_n hC 0 dX11_moves_18 rfl rfl ?_
      refine aw_getP (b := 18) hC hSt 2 (cs_lt 0 11 0 (by decide) hM) (cs_k 0 11 0 (by decide) hM) rfl (by decide) w_678 rfl (cs_p 0 2 18 (by decide) hM) dX11_moves_19 ?_
      refine aw_getI hC hSt 2 (cs_lt 18 7 0 (by decide) hM) (cs_k 18 7 0 (by decide) hM) rfl (by decide) w_783 rfl dX11_moves_22 ?_
      refine aw_if_ne hC 32 dX11_moves_25 (by decide) (fun c3 => ?_) (fun c3 => ?_)
      · refine aw_aload_n hC 0 dX11_moves_32 rfl rfl ?_
        refine aw_getP (b := 43) hC hSt 7 (cs_lt 0 11 0 (by decide) hM) (cs_k 0 11 0 (by decide) hM) rfl (by decide) w_690 rfl (cs_p 0 7 43 (by decide) hM) dX11_moves_33 ?_
        refine aw_aload_n hC 0 dX11_moves_36 rfl rfl ?_
        refine aw_getP (b := 18) hC hSt 2 (cs_lt 0 11 0 (by decide) hM) (cs_k 0 11 0 (by decide) hM) rfl (by decide) w_678 rfl (cs_p 0 2 18 (by decide) hM) dX11_moves_37 ?_
        refine aw_iload_n hC 1 dX11_moves_40 rfl rfl ?_
        refine aw_cV2r hC hSt (t_X2_seekRow G l hM _ _ (by decide) (h0 c1 c2 c3)) w_262 w_849 w_850 w_851 w_219 rfl rfl (by decide +kernel) ⟨Nat.le_of_ble_eq_true rfl, Nat.le_of_ble_eq_true rfl⟩ (cs_lt 43 2 0 (by decide) hM) (cs_k 43 2 0 (by decide) hM) rfl (Nat.le_of_ble_eq_true rfl) dX11_moves_41 ⟨Nat.zero_le _, Nat.zero_le _⟩ ?_
        generalize er4 : f_X2_seekRow S 43 18 a1 = r4
        have hM : CS r4.2 := CS.of (by rw [← er4]; exact q_X2_seekRow _ _ _ _) hM
        refine aw_istore_n hC [(3, .int _), (0, .ref 0), (1, .int _), (2, .int _)] dX11_moves_44 rfl (by decide) rfl ?_
        generalize ex5 : r4.1 = x5
        refine aw_iload_n hC 3 dX11_moves_45 rfl rfl ?_
        refine aw_iconst (v := -1) hC dX11_moves_46 (by decide) ?_
        refine aw_cut (S' := r4.2) (pc' := 64) (lv' := [(3, .int x5), (0, .ref 0), (1, .int a1), (2, .int a2)]) (st' := [.long (if a2 = (-1 : Int32) then x5.toInt64 else (f_X2_moveAt r4.2 43 a2).toInt64)]) ?_ (fun Jc6 => ?_)
        · generalize ex7 : (if a2 = (-1 : Int32) then x5.toInt64 else (f_X2_moveAt r4.2 43 a2).toInt64) = x7
          refine aw_lret hC dX11_moves_64 (Nat.le_refl _) (Nat.le_refl _) ?_
          exact FP.qJ ((if_neg c1).trans ((if_pos c2).trans ((if_neg c3).trans ((bd_eq er4).trans ((bd_eq ex5).trans ((bd_eq ex7).trans (rfl)))))))
        · refine aw_icmp_ne hC 55 dX11_moves_47 (by decide) (fun c6 => ?_) (fun c6 => ?_)
          · refine aw_aload_n hC 1 dX11_moves_55 rfl rfl ?_
            refine aw_getP (b := 43) hC hSt 7 (cs_lt 0 11 0 (by decide) hM) (cs_k 0 11 0 (by decide) hM) rfl (by decide) w_690 rfl (cs_p 0 7 43 (by decide) hM) dX11_moves_56 ?_
            refine aw_iload_n hC 3 dX11_moves_59 rfl rfl ?_
            refine aw_cV1r hC hSt (t_X2_moveAt G l hM _ (h1 c1 c2 c3 r4 er4 x5 ex5 c6)) w_263 w_852 w_853 w_854 w_219 rfl rfl (by decide +kernel) ⟨Nat.le_of_ble_eq_true rfl, Nat.le_of_ble_eq_true rfl⟩ (cs_lt 43 2 0 (by decide) hM) (cs_k 43 2 0 (by decide) hM) rfl (Nat.le_of_ble_eq_true rfl) dX11_moves_60 ⟨Nat.zero_le _, Nat.zero_le _⟩ ?_
            refine aw_i2l hC dX11_moves_63 ?_
            simp only [bd_def, if_neg c6] at Jc6 ⊢
            exact Jc6
          · refine aw_iload_n hC 0 dX11_moves_50 rfl rfl ?_
            refine aw_i2l hC dX11_moves_51 ?_
            refine aw_goto hC 64 dX11_moves_52 (by decide) ?_
            simp only [bd_def, if_pos c6] at Jc6 ⊢
            exact Jc6
      · refine aw_ldc2 (v := -9000000000000000002) hC w_785 dX11_moves_28 ?_
        refine aw_lret hC dX11_moves_31 (Nat.le_refl _) (Nat.le_refl _) ?_
        exact FP.qJ ((if_neg c1).trans ((if_pos c2).trans ((if_pos c3).trans (rfl))))
    · refine aw_ldc2 (v := -9000000000000000001) hC w_710 dX11_moves_14 ?_
      refine aw_lret hC dX11_moves_17 (Nat.le_refl _) (Nat.le_refl _) ?_
      exact FP.qJ ((if_neg c1).trans ((if_neg c2).trans (rfl)))
theorem q_X11_moves (S : HSt) (_o0 : Nat) (a1 : Int32) (a2 : Int32) : shp ((f_X11_moves S _o0 a1 a2).2) = shp S := by
  unfold f_X11_moves
  repeat' (first | with_reducible refine shpr1 ?_ | with_reducible rfl | with_reducible refine (q_X2_seekRow _ _ _ _).trans ?_ | with_reducible refine (shp_sI _ _ _ _).trans ?_ | with_reducible refine (shp_sJ _ _ _ _).trans ?_ | with_reducible refine (shp_rI _ _ _).trans ?_ | with_reducible refine shi ?_ ?_ | with_reducible refine shb (fun _ _ => ?_) | with_reducible refine shiP (fun q : Int64 × HSt => q.2) ?_ ?_ | with_reducible refine shbP (fun q : Int64 × HSt => q.2) (fun _ _ => ?_) | (subst_vars; with_reducible rfl) | (subst_vars; with_reducible refine (q_X2_seekRow _ _ _ _).trans ?_) | (subst_vars; with_reducible refine (shp_sI _ _ _ _).trans ?_) | (subst_vars; with_reducible refine (shp_sJ _ _ _ _).trans ?_) | (subst_vars; with_reducible refine (shp_rI _ _ _).trans ?_) | (subst_vars; with_reducible refine shi ?_ ?_) | (subst_vars; with_reducible refine shb (fun _ _ => ?_)))
/-- the class with its Reach: h is its row here, nx its row next -/
def RS (h nx : Nat) (S : HSt) : Prop := CS S ∧ 91 ≤ gn S ∧ gK S 88 = 3 ∧ (∀ r, r = h ∨ r = nx → r < gn S ∧ gK S r = 15 ∧ gL S r = 11584) ∧ gP S 88 0 = some h ∧ gP S 88 1 = some nx
theorem rs_lt88 {h nx : Nat} {S : HSt} (hM : RS h nx S) : 88 < gn S := Nat.lt_of_lt_of_le (by decide) hM.2.1
theorem rs_k88 {h nx : Nat} {S : HSt} (hM : RS h nx S) : gK S 88 = 3 := hM.2.2.1
theorem rs_lt {h nx r : Nat} {S : HSt} (hr : r = h ∨ r = nx) (hM : RS h nx S) : r < gn S := (hM.2.2.2.1 r hr).1
theorem rs_k {h nx r : Nat} {S : HSt} (hr : r = h ∨ r = nx) (hM : RS h nx S) : gK S r = 15 := (hM.2.2.2.1 r hr).2.1
theorem rs_l {h nx r : Nat} {S : HSt} (hr : r = h ∨ r = nx) (hM : RS h nx S) : gL S r = 11584 := (hM.2.2.2.1 r hr).2.2
theorem rs_ph {h nx : Nat} {S : HSt} (hM : RS h nx S) : gP S 88 0 = some h := hM.2.2.2.2.1
theorem rs_pn {h nx : Nat} {S : HSt} (hM : RS h nx S) : gP S 88 1 = some nx := hM.2.2.2.2.2
theorem RS.of {h nx : Nat} {S T : HSt} (hq : shp T = shp S) (hM : RS h nx S) : RS h nx T := by
  have h0 := CS.of hq hM.1
  have h1 : gn T = gn S := congrArg (fun q => q.1) hq
  have h2 : gK T = gK S := congrArg (fun q => q.2.1) hq
  have h3 : gL T = gL S := congrArg (fun q => q.2.2.1) hq
  have h4 : gP T = gP S := congrArg (fun q => q.2.2.2) hq
  unfold RS
  rw [h1, h2, h3, h4]
  exact ⟨h0, hM.2⟩
theorem cPT_88 : ∀ q ∈ cPT, q.1 ≠ 88 := by decide
theorem rs_swap {h nx : Nat} {S : HSt} (hM : RS h nx S) : RS nx h (sP (sP S 88 0 (some nx)) 88 1 (some h)) := by
  obtain ⟨h0, h1, h2, h3, h4, h5⟩ := hM
  refine ⟨⟨h0.1, h0.2.1, fun q hq => ?_⟩, h1, h2, fun r hr => h3 r hr.symm, ?_, ?_⟩
  · rw [gP_sP, if_neg (cPT_88 q hq), gP_sP, if_neg (cPT_88 q hq)]
    exact h0.2.2 q hq
  · rw [gP_sP, if_pos rfl, if_neg (by decide), gP_sP, if_pos rfl, if_pos rfl]
  · rw [gP_sP, if_pos rfl, if_pos rfl]
noncomputable def F_X3_placeOf (S : HSt) (a1 : Int32) (a2 : Int32) : Int32 × HSt := pr ((((a1 * (181 : Int32)) + a2) * (4 : Int32))) (S)
noncomputable def f_X3_placeOf (S : HSt) (a1 : Int32) (a2 : Int32) : Int32 := (F_X3_placeOf S a1 a2).1
set_option maxRecDepth 100000 in
theorem t_X3_placeOf (G : GG) (l : Launch) {S : HSt} (a1 : Int32) (a2 : Int32)   : AM G l yX3_placeOf cX3_placeOf 2 (some .int) (rmD 0 0 0) 0 0 [.int a1, .int a2] S (FP (some (.int (f_X3_placeOf S a1 a2))) (S)) := by
  refine AM.mk (by decide) (Nat.le_of_ble_eq_true rfl) ?_
  intro p e s m below meth c hC hSt _
  refine aw_iload_n hC 0 dX3_placeOf_0 rfl rfl ?_
  refine aw_sipush (v := 181) hC dX3_placeOf_1 (by decide) ?_
  refine aw_imul hC dX3_placeOf_4 ?_
  refine aw_iload_n hC 1 dX3_placeOf_5 rfl rfl ?_
  refine aw_iadd hC dX3_placeOf_6 ?_
  refine aw_iconst (v := 4) hC dX3_placeOf_7 (by decide) ?_
  refine aw_imul hC dX3_placeOf_8 ?_
  refine aw_iret hC dX3_placeOf_9 (Nat.le_refl _) (Nat.le_refl _) ?_
  exact FP.pI (rfl)
noncomputable def L_J7_fill_d0a16_6 (h : Nat) (nx : Nat) (r1q : Nat) : Nat → HSt → Int64 → Int32 → Int32 → Int64 × Int32 × Int32 × HSt
  | 0, S, v1, v3, v4 => (v1, v3, v4, S)
  | n + 1, S, v1, v3, v4 =>
    if v4 ≤ v3 then ((pr (v1) (pr (v3) (pr (v4) (S))))) else (bd ((sJ S r1q v3.toNatClampNeg v1)) fun S1003 => L_J7_fill_d0a16_6 h nx r1q n S1003 v1 (v3 + (1 : Int32)) v4)
def T_J7_fill_d0a16_6 (h : Nat) (nx : Nat) (r1q : Nat) : Nat → HSt → Int64 → Int32 → Int32 → Prop
  | 0, _, _, _, _ => False
  | n + 1, S, v1, v3, v4 => ((¬ v4 ≤ v3) → vp_in v3 11584) ∧ ((¬ v4 ≤ v3) → ∀ S1003 : HSt, (sJ S r1q v3.toNatClampNeg v1) = S1003 → T_J7_fill_d0a16_6 h nx r1q n S1003 v1 (v3 + (1 : Int32)) v4)
theorem qL_J7_fill_d0a16_6 (h : Nat) (nx : Nat) (r1q : Nat) : ∀ (n : Nat) (S : HSt) (v1 : Int64) (v3 : Int32) (v4 : Int32), shp (L_J7_fill_d0a16_6 h nx r1q n S v1 v3 v4).2.2.2 = shp S := by
  intro n
  induction n with
  | zero => intros; rfl
  | succ n ih =>
    intro S v1 v3 v4
    unfold L_J7_fill_d0a16_6
    repeat' (first | with_reducible refine shpr3 ?_ | with_reducible rfl | with_reducible refine (ih _ _ _ _).trans ?_ | with_reducible refine (shp_sI _ _ _ _).trans ?_ | with_reducible refine (shp_sJ _ _ _ _).trans ?_ | with_reducible refine (shp_rI _ _ _).trans ?_ | with_reducible refine shi ?_ ?_ | with_reducible refine shb (fun _ _ => ?_) | with_reducible refine shiP (fun q : Int64 × Int32 × Int32 × HSt => q.2.2.2) ?_ ?_ | with_reducible refine shbP (fun q : Int64 × Int32 × Int32 × HSt => q.2.2.2) (fun _ _ => ?_) | (subst_vars; with_reducible rfl) | (subst_vars; with_reducible refine (ih _ _ _ _).trans ?_) | (subst_vars; with_reducible refine (shp_sI _ _ _ _).trans ?_) | (subst_vars; with_reducible refine (shp_sJ _ _ _ _).trans ?_) | (subst_vars; with_reducible refine (shp_rI _ _ _).trans ?_) | (subst_vars; with_reducible refine shi ?_ ?_) | (subst_vars; with_reducible refine shb (fun _ _ => ?_)))
theorem vL_J7_fill_d0a16_6 (h : Nat) (nx : Nat) (r1q : Nat) : ∀ (n : Nat) (S : HSt) (v1 : Int64) (v3 : Int32) (v4 : Int32), Fr [] S (L_J7_fill_d0a16_6 h nx r1q n S v1 v3 v4).2.2.2 := by
  intro n
  induction n with
  | zero => intros; exact Fr.refl _ _
  | succ n ih =>
    intro S v1 v3 v4
    unfold L_J7_fill_d0a16_6
    repeat' (first | with_reducible refine frpr3 ?_ | with_reducible exact Fr.refl _ _ | with_reducible refine Fr.lP (fun q : Int64 × Int32 × Int32 × HSt => q.2.2.2) (fun _ _ => ?_) | with_reducible refine Fr.iteP (fun q : Int64 × Int32 × Int32 × HSt => q.2.2.2) ?_ ?_ | with_reducible refine Fr.l1 (fun _ _ => ?_) | with_reducible refine Fr.ite ?_ ?_ | with_reducible refine Fr.sE (by assumption) (by first | decide | simp only [List.mem_cons, List.not_mem_nil, or_false, true_or, or_true, eq_self_iff_true]) ?_ | with_reducible refine Fr.jE (by assumption) ?_ | with_reducible refine Fr.rE (by assumption) (by first | decide | simp only [List.mem_cons, List.not_mem_nil, or_false, true_or, or_true, eq_self_iff_true]) ?_ | with_reducible refine Fr.iE (by assumption) ?_ ?_ | with_reducible refine Fr.tr (ih _ _ _ _) (by first | decide | simp only [List.mem_cons, List.not_mem_nil, or_false, forall_eq_or_imp, forall_eq, true_or, or_true, and_self, eq_self_iff_true]) ?_)
theorem wL_J7_fill_d0a16_6 (h : Nat) (nx : Nat) (r1q : Nat) (n : Nat) (S : HSt) (v1 : Int64) (v3 : Int32) (v4 : Int32) (r : Int64 × Int32 × Int32 × HSt) (e : L_J7_fill_d0a16_6 h nx r1q n S v1 v3 v4 = r) : Fr [] S r.2.2.2 := by
  rw [← e]
  exact vL_J7_fill_d0a16_6 h nx r1q n S v1 v3 v4
set_option maxRecDepth 100000 in
theorem l_J7_fill_d0a16_6 {p : Program} {l : Launch} {e : Env} {s : State} {m : MethodId} {args : Array Value} {below : List Frame} {meth : Method} {c : Code} {G : GG} {Q : State → Prop} (hC : ACx p s m args meth c cJ7_fill_d0a16 RJ7 5 none) (hSt : St G s) {h nx : Nat} {r1q : Nat} (hr1q : r1q = h ∨ r1q = nx) : ∀ (n : Nat) (S : HSt) (v1 : Int64) (v3 : Int32) (v4 : Int32), RS h nx S → T_J7_fill_d0a16_6 h nx r1q n S v1 v3 v4 → AW p l e (rmD 0 0 0) s m args below meth c G 5 Q (L_J7_fill_d0a16_6 h nx r1q n S v1 v3 v4).2.2.2 0 0 22 [(0, .ref r1q), (1, .long (L_J7_fill_d0a16_6 h nx r1q n S v1 v3 v4).1), (3, .int (L_J7_fill_d0a16_6 h nx r1q n S v1 v3 v4).2.1), (4, .int (L_J7_fill_d0a16_6 h nx r1q n S v1 v3 v4).2.2.1)] [] → AW p l e (rmD 0 0 0) s m args below meth c G 5 Q S 0 0 6 [(0, .ref r1q), (1, .long v1), (3, .int v3), (4, .int v4)] [] := by
  intro n
  induction n with
  | zero => intro S v1 v3 v4 _ hT; exact hT.elim
  | succ n ih =>
    intro S v1 v3 v4 hM hT hk
    unfold T_J7_fill_d0a16_6 at hT
    obtain ⟨h0, h1⟩ := hT
    refine aw_iload_n hC 2 dJ7_fill_d0a16_6 rfl rfl ?_
    refine aw_iload hC 3 dJ7_fill_d0a16_7 rfl ?_
    refine aw_icmp_ge hC 22 dJ7_fill_d0a16_9 (by decide) (fun c1002 => ?_) (fun c1002 => ?_)
    · refine aw_sub [0, 1, 2, 3] rfl ?_
      have E : L_J7_fill_d0a16_6 h nx r1q (n + 1) S v1 v3 v4 = _ := (if_pos c1002).trans (rfl)
      rw [E] at hk
      exact hk
    · refine aw_aload_n hC 0 dJ7_fill_d0a16_12 rfl rfl ?_
      refine aw_iload_n hC 2 dJ7_fill_d0a16_13 rfl rfl ?_
      refine aw_lload_n hC 1 dJ7_fill_d0a16_14 rfl rfl ?_
      refine aw_last hC hSt (rs_lt hr1q hM) (rs_k hr1q hM) (vp_len (n := 11584) (rs_l hr1q hM) (h0 c1002)) dJ7_fill_d0a16_15 ?_
      generalize eS1003 : (sJ S r1q v3.toNatClampNeg v1) = S1003
      have hM : RS h nx S1003 := RS.of (by rw [← eS1003]; exact shp_sJ _ _ _ _) hM
      refine aw_iinc (v := (v3 + (1 : Int32))) hC 2 [(3, .int _), (0, .ref r1q), (1, .long _), (4, .int _)] dJ7_fill_d0a16_16 rfl rfl (by decide) rfl ?_
      refine aw_goto hC 6 dJ7_fill_d0a16_19 (by decide) ?_
      refine aw_sub [1, 2, 0, 3] rfl ?_
      have hTn := (h1 c1002 S1003 eS1003)
      have hMn : RS h nx S1003 := hM
      have E : L_J7_fill_d0a16_6 h nx r1q (n + 1) S v1 v3 v4 = _ := (if_neg c1002).trans ((bd_eq eS1003).trans (rfl))
      rw [E] at hk
      exact ih _ _ _ _ hMn hTn hk
noncomputable def f_J7_fill_d0a16 (S : HSt) (h nx : Nat) (r1q : Nat) (a2 : Int64) : HSt := bd ((nI (gL S r1q))) fun x1 => bd (L_J7_fill_d0a16_6 h nx r1q FU S a2 (0 : Int32) x1) fun r2 => r2.2.2.2
def p_J7_fill_d0a16 (S : HSt) (h nx : Nat) (r1q : Nat) (a2 : Int64) : Prop := (∀ x1 : Int32, (nI (gL S r1q)) = x1 → T_J7_fill_d0a16_6 h nx r1q FU S a2 (0 : Int32) x1)
set_option maxRecDepth 100000 in
theorem t_J7_fill_d0a16 (G : GG) (l : Launch) {h nx : Nat} {S : HSt} (hM : RS h nx S) (r1q : Nat) (a2 : Int64) (hr1q : r1q = h ∨ r1q = nx) (hp : p_J7_fill_d0a16 S h nx r1q a2) : AM G l yJ7_fill_d0a16 cJ7_fill_d0a16 5 none (rmD 0 0 0) 0 0 [.ref r1q, .long a2] S (FP none (f_J7_fill_d0a16 S h nx r1q a2)) := by
  have h0 := hp
  unfold p_J7_fill_d0a16 at h0
  refine AM.mk (by decide) (Nat.le_of_ble_eq_true rfl) ?_
  intro p e s m below meth c hC hSt _
  refine aw_iconst (v := 0) hC dJ7_fill_d0a16_0 (by decide) ?_
  refine aw_istore_n hC [(3, .int _), (0, .ref r1q), (1, .long _)] dJ7_fill_d0a16_1 rfl (by decide) rfl ?_
  refine aw_aload_n hC 1 dJ7_fill_d0a16_2 rfl rfl ?_
  refine aw_alen hC hSt (rs_lt hr1q hM) (rs_k hr1q hM) (by decide) (by decide) dJ7_fill_d0a16_3 ?_
  refine aw_istore hC [(4, .int _), (3, .int _), (0, .ref r1q), (1, .long _)] dJ7_fill_d0a16_4 (by decide) rfl ?_
  generalize ex1 : (nI (gL S r1q)) = x1
  refine aw_sub [2, 3, 1, 0] rfl ?_
  refine l_J7_fill_d0a16_6 hC hSt hr1q FU _ _ _ _ hM (h0 x1 ex1) ?_
  generalize er2 : L_J7_fill_d0a16_6 h nx r1q FU S a2 (0 : Int32) x1 = r2
  have hM : RS h nx r2.2.2.2 := RS.of (by rw [← er2]; exact qL_J7_fill_d0a16_6 h nx r1q _ _ _ _ _) hM
  refine aw_vret hC dJ7_fill_d0a16_22 (Nat.le_refl _) (Nat.le_refl _) ?_
  exact FP.qV ((bd_eq ex1).trans ((bd_eq er2).trans (rfl)))
theorem q_J7_fill_d0a16 (S : HSt) (h nx : Nat) (r1q : Nat) (a2 : Int64) : shp (f_J7_fill_d0a16 S h nx r1q a2) = shp S := by
  unfold f_J7_fill_d0a16
  repeat' (first | with_reducible rfl | with_reducible refine (qL_J7_fill_d0a16_6 h nx r1q _ _ _ _ _).trans ?_ | with_reducible refine (shp_sI _ _ _ _).trans ?_ | with_reducible refine (shp_sJ _ _ _ _).trans ?_ | with_reducible refine (shp_rI _ _ _).trans ?_ | with_reducible refine shi ?_ ?_ | with_reducible refine shb (fun _ _ => ?_) | (subst_vars; with_reducible rfl) | (subst_vars; with_reducible refine (qL_J7_fill_d0a16_6 h nx r1q _ _ _ _ _).trans ?_) | (subst_vars; with_reducible refine (shp_sI _ _ _ _).trans ?_) | (subst_vars; with_reducible refine (shp_sJ _ _ _ _).trans ?_) | (subst_vars; with_reducible refine (shp_rI _ _ _).trans ?_) | (subst_vars; with_reducible refine shi ?_ ?_) | (subst_vars; with_reducible refine shb (fun _ _ => ?_)))
noncomputable def L_X3_emptyAt_2 (h : Nat) (nx : Nat) : Nat → HSt → Int32 → Int32 → Int32 × Int32 × HSt
  | 0, S, v1, v2 => (v1, v2, S)
  | n + 1, S, v1, v2 =>
    if (4 : Int32) ≤ v2 then ((pr (v1) (pr (v2) (S)))) else (bd ((sJ S h (v1 + v2).toNatClampNeg (0 : Int64))) fun S1002 => L_X3_emptyAt_2 h nx n S1002 v1 (v2 + (1 : Int32)))
def T_X3_emptyAt_2 (h : Nat) (nx : Nat) : Nat → HSt → Int32 → Int32 → Prop
  | 0, _, _, _ => False
  | n + 1, S, v1, v2 => ((¬ (4 : Int32) ≤ v2) → vp_in (v1 + v2) 11584) ∧ ((¬ (4 : Int32) ≤ v2) → ∀ S1002 : HSt, (sJ S h (v1 + v2).toNatClampNeg (0 : Int64)) = S1002 → T_X3_emptyAt_2 h nx n S1002 v1 (v2 + (1 : Int32)))
theorem qL_X3_emptyAt_2 (h : Nat) (nx : Nat) : ∀ (n : Nat) (S : HSt) (v1 : Int32) (v2 : Int32), shp (L_X3_emptyAt_2 h nx n S v1 v2).2.2 = shp S := by
  intro n
  induction n with
  | zero => intros; rfl
  | succ n ih =>
    intro S v1 v2
    unfold L_X3_emptyAt_2
    repeat' (first | with_reducible refine shpr2 ?_ | with_reducible rfl | with_reducible refine (ih _ _ _).trans ?_ | with_reducible refine (shp_sI _ _ _ _).trans ?_ | with_reducible refine (shp_sJ _ _ _ _).trans ?_ | with_reducible refine (shp_rI _ _ _).trans ?_ | with_reducible refine shi ?_ ?_ | with_reducible refine shb (fun _ _ => ?_) | with_reducible refine shiP (fun q : Int32 × Int32 × HSt => q.2.2) ?_ ?_ | with_reducible refine shbP (fun q : Int32 × Int32 × HSt => q.2.2) (fun _ _ => ?_) | (subst_vars; with_reducible rfl) | (subst_vars; with_reducible refine (ih _ _ _).trans ?_) | (subst_vars; with_reducible refine (shp_sI _ _ _ _).trans ?_) | (subst_vars; with_reducible refine (shp_sJ _ _ _ _).trans ?_) | (subst_vars; with_reducible refine (shp_rI _ _ _).trans ?_) | (subst_vars; with_reducible refine shi ?_ ?_) | (subst_vars; with_reducible refine shb (fun _ _ => ?_)))
theorem vL_X3_emptyAt_2 (h : Nat) (nx : Nat) : ∀ (n : Nat) (S : HSt) (v1 : Int32) (v2 : Int32), Fr [] S (L_X3_emptyAt_2 h nx n S v1 v2).2.2 := by
  intro n
  induction n with
  | zero => intros; exact Fr.refl _ _
  | succ n ih =>
    intro S v1 v2
    unfold L_X3_emptyAt_2
    repeat' (first | with_reducible refine frpr2 ?_ | with_reducible exact Fr.refl _ _ | with_reducible refine Fr.lP (fun q : Int32 × Int32 × HSt => q.2.2) (fun _ _ => ?_) | with_reducible refine Fr.iteP (fun q : Int32 × Int32 × HSt => q.2.2) ?_ ?_ | with_reducible refine Fr.l1 (fun _ _ => ?_) | with_reducible refine Fr.ite ?_ ?_ | with_reducible refine Fr.sE (by assumption) (by first | decide | simp only [List.mem_cons, List.not_mem_nil, or_false, true_or, or_true, eq_self_iff_true]) ?_ | with_reducible refine Fr.jE (by assumption) ?_ | with_reducible refine Fr.rE (by assumption) (by first | decide | simp only [List.mem_cons, List.not_mem_nil, or_false, true_or, or_true, eq_self_iff_true]) ?_ | with_reducible refine Fr.iE (by assumption) ?_ ?_ | with_reducible refine Fr.tr (ih _ _ _) (by first | decide | simp only [List.mem_cons, List.not_mem_nil, or_false, forall_eq_or_imp, forall_eq, true_or, or_true, and_self, eq_self_iff_true]) ?_)
theorem wL_X3_emptyAt_2 (h : Nat) (nx : Nat) (n : Nat) (S : HSt) (v1 : Int32) (v2 : Int32) (r : Int32 × Int32 × HSt) (e : L_X3_emptyAt_2 h nx n S v1 v2 = r) : Fr [] S r.2.2 := by
  rw [← e]
  exact vL_X3_emptyAt_2 h nx n S v1 v2
set_option maxRecDepth 100000 in
theorem l_X3_emptyAt_2 {p : Program} {l : Launch} {e : Env} {s : State} {m : MethodId} {args : Array Value} {below : List Frame} {meth : Method} {c : Code} {G : GG} {Q : State → Prop} (hC : ACx p s m args meth c cX3_emptyAt RX3 3 none) (hSt : St G s) {h nx : Nat}   : ∀ (n : Nat) (S : HSt) (v1 : Int32) (v2 : Int32), RS h nx S → T_X3_emptyAt_2 h nx n S v1 v2 → AW p l e (rmD 0 0 0) s m args below meth c G 3 Q (L_X3_emptyAt_2 h nx n S v1 v2).2.2 0 0 22 [(0, .ref 88), (1, .int (L_X3_emptyAt_2 h nx n S v1 v2).1), (2, .int (L_X3_emptyAt_2 h nx n S v1 v2).2.1)] [] → AW p l e (rmD 0 0 0) s m args below meth c G 3 Q S 0 0 2 [(0, .ref 88), (1, .int v1), (2, .int v2)] [] := by
  intro n
  induction n with
  | zero => intro S v1 v2 _ hT; exact hT.elim
  | succ n ih =>
    intro S v1 v2 hM hT hk
    unfold T_X3_emptyAt_2 at hT
    obtain ⟨h0, h1⟩ := hT
    refine aw_iload_n hC 2 dX3_emptyAt_2 rfl rfl ?_
    refine aw_iconst (v := 4) hC dX3_emptyAt_3 (by decide) ?_
    refine aw_icmp_ge hC 22 dX3_emptyAt_4 (by decide) (fun c1001 => ?_) (fun c1001 => ?_)
    · refine aw_sub [0, 1, 2] rfl ?_
      have E : L_X3_emptyAt_2 h nx (n + 1) S v1 v2 = _ := (if_pos c1001).trans (rfl)
      rw [E] at hk
      exact hk
    · refine aw_aload_n hC 0 dX3_emptyAt_7 rfl rfl ?_
      refine aw_getP (b := h) hC hSt 0 (rs_lt88 hM) (rs_k88 hM) rfl (by decide) w_268 rfl (rs_ph hM) dX3_emptyAt_8 ?_
      refine aw_iload_n hC 1 dX3_emptyAt_11 rfl rfl ?_
      refine aw_iload_n hC 2 dX3_emptyAt_12 rfl rfl ?_
      refine aw_iadd hC dX3_emptyAt_13 ?_
      refine aw_lconst (v := 0) hC dX3_emptyAt_14 (by decide) ?_
      refine aw_last hC hSt (rs_lt (Or.inl rfl) hM) (rs_k (Or.inl rfl) hM) (vp_len (n := 11584) (rs_l (Or.inl rfl) hM) (h0 c1001)) dX3_emptyAt_15 ?_
      generalize eS1002 : (sJ S h (v1 + v2).toNatClampNeg (0 : Int64)) = S1002
      have hM : RS h nx S1002 := RS.of (by rw [← eS1002]; exact shp_sJ _ _ _ _) hM
      refine aw_iinc (v := (v2 + (1 : Int32))) hC 2 [(2, .int _), (0, .ref 88), (1, .int _)] dX3_emptyAt_16 rfl rfl (by decide) rfl ?_
      refine aw_goto hC 2 dX3_emptyAt_19 (by decide) ?_
      refine aw_sub [1, 2, 0] rfl ?_
      have hTn := (h1 c1001 S1002 eS1002)
      have hMn : RS h nx S1002 := hM
      have E : L_X3_emptyAt_2 h nx (n + 1) S v1 v2 = _ := (if_neg c1001).trans ((bd_eq eS1002).trans (rfl))
      rw [E] at hk
      exact ih _ _ _ hMn hTn hk
noncomputable def f_X3_emptyAt (S : HSt) (h nx : Nat) (_o0 : Nat) (a1 : Int32) : HSt := bd (L_X3_emptyAt_2 h nx 1000 S a1 (0 : Int32)) fun r1 => r1.2.2
def p_X3_emptyAt (S : HSt) (h nx : Nat) (_o0 : Nat) (a1 : Int32) : Prop := (T_X3_emptyAt_2 h nx 1000 S a1 (0 : Int32))
set_option maxRecDepth 100000 in
theorem t_X3_emptyAt (G : GG) (l : Launch) {h nx : Nat} {S : HSt} (hM : RS h nx S) (a1 : Int32)  (hp : p_X3_emptyAt S h nx 88 a1) : AM G l yX3_emptyAt cX3_emptyAt 3 none (rmD 0 0 0) 0 0 [.ref 88, .int a1] S (FP none (f_X3_emptyAt S h nx 88 a1)) := by
  have h0 := hp
  unfold p_X3_emptyAt at h0
  refine AM.mk (by decide) (Nat.le_of_ble_eq_true rfl) ?_
  intro p e s m below meth c hC hSt _
  refine aw_iconst (v := 0) hC dX3_emptyAt_0 (by decide) ?_
  refine aw_istore_n hC [(2, .int _), (0, .ref 88), (1, .int _)] dX3_emptyAt_1 rfl (by decide) rfl ?_
  refine aw_sub [1, 2, 0] rfl ?_
  refine l_X3_emptyAt_2 hC hSt 1000 _ _ _ hM (h0) ?_
  generalize er1 : L_X3_emptyAt_2 h nx 1000 S a1 (0 : Int32) = r1
  have hM : RS h nx r1.2.2 := RS.of (by rw [← er1]; exact qL_X3_emptyAt_2 h nx _ _ _ _) hM
  refine aw_vret hC dX3_emptyAt_22 (Nat.le_refl _) (Nat.le_refl _) ?_
  exact FP.qV ((bd_eq er1).trans (rfl))
theorem q_X3_emptyAt (S : HSt) (h nx : Nat) (_o0 : Nat) (a1 : Int32) : shp (f_X3_emptyAt S h nx _o0 a1) = shp S := by
  unfold f_X3_emptyAt
  repeat' (first | with_reducible rfl | with_reducible refine (qL_X3_emptyAt_2 h nx _ _ _ _).trans ?_ | with_reducible refine (shp_sI _ _ _ _).trans ?_ | with_reducible refine (shp_sJ _ _ _ _).trans ?_ | with_reducible refine (shp_rI _ _ _).trans ?_ | with_reducible refine shi ?_ ?_ | with_reducible refine shb (fun _ _ => ?_) | (subst_vars; with_reducible rfl) | (subst_vars; with_reducible refine (qL_X3_emptyAt_2 h nx _ _ _ _).trans ?_) | (subst_vars; with_reducible refine (shp_sI _ _ _ _).trans ?_) | (subst_vars; with_reducible refine (shp_sJ _ _ _ _).trans ?_) | (subst_vars; with_reducible refine (shp_rI _ _ _).trans ?_) | (subst_vars; with_reducible refine shi ?_ ?_) | (subst_vars; with_reducible refine shb (fun _ _ => ?_)))
noncomputable def F_X3_bandAt (S : HSt) (h nx : Nat) (_o0 : Nat) (a1 : Int32) (a2 : Int32) : Int64 × HSt := bd ((a2 / (64 : Int32))) fun x1 => bd ((a2 - a2 / (64 : Int32) * (64 : Int32))) fun x2 => bd ((((gJ S h (a1 + x1).toNatClampNeg).toUInt64 >>> (x2.toInt64.toUInt64 &&& Int64.toUInt64 63)).toInt64)) fun x3 => bd ((if x2 ≤ (44 : Int32) then x3 else (if (4 : Int32) ≤ (x1 + (1 : Int32)) then x3 else (bd ((x3 ||| ((gJ S h ((a1 + x1) + (1 : Int32)).toNatClampNeg) <<< (((64 : Int32) - x2).toInt64 &&& 63)))) fun x6 => x6)))) fun x7 => pr ((x7 &&& (1048575 : Int64))) (S)
noncomputable def f_X3_bandAt (S : HSt) (h nx : Nat) (_o0 : Nat) (a1 : Int32) (a2 : Int32) : Int64 := (F_X3_bandAt S h nx _o0 a1 a2).1
def p_X3_bandAt (S : HSt) (h nx : Nat) (_o0 : Nat) (a1 : Int32) (a2 : Int32) : Prop := (∀ x1 : Int32, (a2 / (64 : Int32)) = x1 → ∀ x2 : Int32, (a2 - a2 / (64 : Int32) * (64 : Int32)) = x2 → vp_in (a1 + x1) 11584) ∧ (∀ x1 : Int32, (a2 / (64 : Int32)) = x1 → ∀ x2 : Int32, (a2 - a2 / (64 : Int32) * (64 : Int32)) = x2 → ∀ x3 : Int64, (((gJ S h (a1 + x1).toNatClampNeg).toUInt64 >>> (x2.toInt64.toUInt64 &&& Int64.toUInt64 63)).toInt64) = x3 → (¬ x2 ≤ (44 : Int32)) → (¬ (4 : Int32) ≤ (x1 + (1 : Int32))) → vp_in ((a1 + x1) + (1 : Int32)) 11584)
set_option maxRecDepth 100000 in
theorem t_X3_bandAt (G : GG) (l : Launch) {h nx : Nat} {S : HSt} (hM : RS h nx S) (a1 : Int32) (a2 : Int32)  (hp : p_X3_bandAt S h nx 88 a1 a2) : AM G l yX3_bandAt cX3_bandAt 7 (some .long) (rmD 0 0 0) 0 0 [.ref 88, .int a1, .int a2] S (FP (some (.long (f_X3_bandAt S h nx 88 a1 a2))) (S)) := by
  obtain ⟨h0, h1⟩ := hp
  refine AM.mk (by decide) (Nat.le_of_ble_eq_true rfl) ?_
  intro p e s m below meth c hC hSt _
  refine aw_iload_n hC 2 dX3_bandAt_0 rfl rfl ?_
  refine aw_bipush (v := 64) hC dX3_bandAt_1 (by decide) ?_
  refine aw_idiv hC dX3_bandAt_3 (by decide) ?_
  refine aw_istore_n hC [(3, .int _), (0, .ref 88), (1, .int _), (2, .int _)] dX3_bandAt_4 rfl (by decide) rfl ?_
  generalize ex1 : (a2 / (64 : Int32)) = x1
  refine aw_iload_n hC 3 dX3_bandAt_5 rfl rfl ?_
  refine aw_bipush (v := 64) hC dX3_bandAt_6 (by decide) ?_
  refine aw_irem hC dX3_bandAt_8 (by decide) ?_
  refine aw_istore hC [(4, .int _), (3, .int _), (0, .ref 88), (1, .int _), (2, .int _)] dX3_bandAt_9 (by decide) rfl ?_
  generalize ex2 : (a2 - a2 / (64 : Int32) * (64 : Int32)) = x2
  refine aw_aload_n hC 2 dX3_bandAt_11 rfl rfl ?_
  refine aw_getP (b := h) hC hSt 0 (rs_lt88 hM) (rs_k88 hM) rfl (by decide) w_268 rfl (rs_ph hM) dX3_bandAt_12 ?_
  refine aw_iload_n hC 3 dX3_bandAt_15 rfl rfl ?_
  refine aw_iload_n hC 1 dX3_bandAt_16 rfl rfl ?_
  refine aw_iadd hC dX3_bandAt_17 ?_
  refine aw_lald hC hSt (rs_lt (Or.inl rfl) hM) (rs_k (Or.inl rfl) hM) (vp_len (n := 11584) (rs_l (Or.inl rfl) hM) (h0 x1 ex1 x2 ex2)) dX3_bandAt_18 ?_
  refine aw_iload hC 0 dX3_bandAt_19 rfl ?_
  refine aw_lushr hC dX3_bandAt_21 ?_
  refine aw_lstore hC [(5, .long _), (4, .int _), (3, .int _), (0, .ref 88), (1, .int _), (2, .int _)] dX3_bandAt_22 (by decide) rfl ?_
  generalize ex3 : (((gJ S h (a1 + x1).toNatClampNeg).toUInt64 >>> (x2.toInt64.toUInt64 &&& Int64.toUInt64 63)).toInt64) = x3
  refine aw_iload hC 1 dX3_bandAt_24 rfl ?_
  refine aw_bipush (v := 44) hC dX3_bandAt_26 (by decide) ?_
  refine aw_cut (S' := S) (pc' := 59) (lv' := [(5, .long (if x2 ≤ (44 : Int32) then x3 else (if (4 : Int32) ≤ (x1 + (1 : Int32)) then x3 else (bd ((x3 ||| ((gJ S h ((a1 + x1) + (1 : Int32)).toNatClampNeg) <<< (((64 : Int32) - x2).toInt64 &&& 63)))) fun x6 => x6)))), (4, .int x2), (3, .int x1), (0, .ref 88), (1, .int a1), (2, .int a2)]) (st' := []) ?_ (fun Jc4 => ?_)
  · generalize ex7 : (if x2 ≤ (44 : Int32) then x3 else (if (4 : Int32) ≤ (x1 + (1 : Int32)) then x3 else (bd ((x3 ||| ((gJ S h ((a1 + x1) + (1 : Int32)).toNatClampNeg) <<< (((64 : Int32) - x2).toInt64 &&& 63)))) fun x6 => x6))) = x7
    refine aw_lload hC 0 dX3_bandAt_59 rfl ?_
    refine aw_ldc2 (v := 1048575) hC w_278 dX3_bandAt_61 ?_
    refine aw_land hC dX3_bandAt_64 ?_
    refine aw_lret hC dX3_bandAt_65 (Nat.le_refl _) (Nat.le_refl _) ?_
    exact FP.pJ ((bd_eq ex1).trans ((bd_eq ex2).trans ((bd_eq ex3).trans ((bd_eq ex7).trans (rfl)))))
  · refine aw_icmp_le hC 59 dX3_bandAt_28 (by decide) (fun c4 => ?_) (fun c4 => ?_)
    · simp only [bd_def, if_pos c4] at Jc4 ⊢
      exact Jc4
    · refine aw_iload_n hC 2 dX3_bandAt_31 rfl rfl ?_
      refine aw_iconst (v := 1) hC dX3_bandAt_32 (by decide) ?_
      refine aw_iadd hC dX3_bandAt_33 ?_
      refine aw_iconst (v := 4) hC dX3_bandAt_34 (by decide) ?_
      refine aw_icmp_ge hC 59 dX3_bandAt_35 (by decide) (fun c5 => ?_) (fun c5 => ?_)
      · simp only [bd_def, if_neg c4, if_pos c5] at Jc4 ⊢
        exact Jc4
      · refine aw_lload hC 0 dX3_bandAt_38 rfl ?_
        refine aw_aload_n hC 3 dX3_bandAt_40 rfl rfl ?_
        refine aw_getP (b := h) hC hSt 0 (rs_lt88 hM) (rs_k88 hM) rfl (by decide) w_268 rfl (rs_ph hM) dX3_bandAt_41 ?_
        refine aw_iload_n hC 4 dX3_bandAt_44 rfl rfl ?_
        refine aw_iload_n hC 2 dX3_bandAt_45 rfl rfl ?_
        refine aw_iadd hC dX3_bandAt_46 ?_
        refine aw_iconst (v := 1) hC dX3_bandAt_47 (by decide) ?_
        refine aw_iadd hC dX3_bandAt_48 ?_
        refine aw_lald hC hSt (rs_lt (Or.inl rfl) hM) (rs_k (Or.inl rfl) hM) (vp_len (n := 11584) (rs_l (Or.inl rfl) hM) (h1 x1 ex1 x2 ex2 x3 ex3 c4 c5)) dX3_bandAt_49 ?_
        refine aw_bipush (v := 64) hC dX3_bandAt_50 (by decide) ?_
        refine aw_iload hC 1 dX3_bandAt_52 rfl ?_
        refine aw_isub hC dX3_bandAt_54 ?_
        refine aw_lshl hC dX3_bandAt_55 ?_
        refine aw_lor hC dX3_bandAt_56 ?_
        refine aw_lstore hC [(5, .long _), (4, .int _), (3, .int _), (0, .ref 88), (1, .int _), (2, .int _)] dX3_bandAt_57 (by decide) rfl ?_
        generalize ex6 : (x3 ||| ((gJ S h ((a1 + x1) + (1 : Int32)).toNatClampNeg) <<< (((64 : Int32) - x2).toInt64 &&& 63))) = x6
        subst ex6
        simp only [bd_def, if_neg c4, if_neg c5] at Jc4 ⊢
        exact Jc4
noncomputable def f_X3_add (S : HSt) (h nx : Nat) (_o0 : Nat) (r1q : Nat) (a2 : Int32) (a3 : Int32) (a4 : Int64) : HSt := bd ((if (0 : Int32) < a3 then a3 else (0 : Int32))) fun x1 => bd ((if a3 < 0 then (if a3 ≤ (-20 : Int32) then (0 : Int64) else ((a4.toUInt64 >>> ((-a3).toInt64.toUInt64 &&& Int64.toUInt64 63)).toInt64)) else a4)) fun x4 => bd ((if x1 = 0 then (bd ((x4 &&& (-2 : Int64))) fun x6 => x6) else x4)) fun x7 => bd (((gI S 88 3) - x1)) fun x8 => if 0 < x8 then (if (20 : Int32) ≤ x8 then (bd ((x1 / (64 : Int32))) fun x11 => bd ((x1 - x1 / (64 : Int32) * (64 : Int32))) fun x12 => bd ((if (4 : Int32) ≤ x11 then S else (bd ((sJ S r1q (a2 + x11).toNatClampNeg ((gJ S r1q (a2 + x11).toNatClampNeg) ||| (x7 <<< (x12.toInt64 &&& 63))))) fun S14 => S14))) fun S15 => bd ((if x12 ≤ (44 : Int32) then S15 else (if (4 : Int32) ≤ (x11 + (1 : Int32)) then S15 else (bd ((sJ S15 r1q ((a2 + x11) + (1 : Int32)).toNatClampNeg ((gJ S15 r1q ((a2 + x11) + (1 : Int32)).toNatClampNeg) ||| ((x7.toUInt64 >>> (((64 : Int32) - x12).toInt64.toUInt64 &&& Int64.toUInt64 63)).toInt64)))) fun S18 => S18)))) fun S19 => S19) else (if (lg_cmp ((x7.toUInt64 >>> (x8.toInt64.toUInt64 &&& Int64.toUInt64 63)).toInt64) (0 : Int64)) = 0 then (bd ((x1 / (64 : Int32))) fun x21 => bd ((x1 - x1 / (64 : Int32) * (64 : Int32))) fun x22 => bd ((if (4 : Int32) ≤ x21 then S else (bd ((sJ S r1q (a2 + x21).toNatClampNeg ((gJ S r1q (a2 + x21).toNatClampNeg) ||| (x7 <<< (x22.toInt64 &&& 63))))) fun S24 => S24))) fun S25 => bd ((if x22 ≤ (44 : Int32) then S25 else (if (4 : Int32) ≤ (x21 + (1 : Int32)) then S25 else (bd ((sJ S25 r1q ((a2 + x21) + (1 : Int32)).toNatClampNeg ((gJ S25 r1q ((a2 + x21) + (1 : Int32)).toNatClampNeg) ||| ((x7.toUInt64 >>> (((64 : Int32) - x22).toInt64.toUInt64 &&& Int64.toUInt64 63)).toInt64)))) fun S28 => S28)))) fun S29 => S29) else (bd ((sI S 88 4 (1 : Int32))) fun S30 => S30))) else (if (lg_cmp x7 (0 : Int64)) = 0 then (bd ((x1 / (64 : Int32))) fun x32 => bd ((x1 - x1 / (64 : Int32) * (64 : Int32))) fun x33 => bd ((if (4 : Int32) ≤ x32 then S else (bd ((sJ S r1q (a2 + x32).toNatClampNeg ((gJ S r1q (a2 + x32).toNatClampNeg) ||| (x7 <<< (x33.toInt64 &&& 63))))) fun S35 => S35))) fun S36 => bd ((if x33 ≤ (44 : Int32) then S36 else (if (4 : Int32) ≤ (x32 + (1 : Int32)) then S36 else (bd ((sJ S36 r1q ((a2 + x32) + (1 : Int32)).toNatClampNeg ((gJ S36 r1q ((a2 + x32) + (1 : Int32)).toNatClampNeg) ||| ((x7.toUInt64 >>> (((64 : Int32) - x33).toInt64.toUInt64 &&& Int64.toUInt64 63)).toInt64)))) fun S39 => S39)))) fun S40 => S40) else (bd ((sI S 88 4 (1 : Int32))) fun S41 => S41))
def p_X3_add (S : HSt) (h nx : Nat) (_o0 : Nat) (r1q : Nat) (a2 : Int32) (a3 : Int32) (a4 : Int64) : Prop := (∀ x1 : Int32, (if (0 : Int32) < a3 then a3 else (0 : Int32)) = x1 → ∀ x4 : Int64, (if a3 < 0 then (if a3 ≤ (-20 : Int32) then (0 : Int64) else ((a4.toUInt64 >>> ((-a3).toInt64.toUInt64 &&& Int64.toUInt64 63)).toInt64)) else a4) = x4 → ∀ x7 : Int64, (if x1 = 0 then (bd ((x4 &&& (-2 : Int64))) fun x6 => x6) else x4) = x7 → ∀ x8 : Int32, ((gI S 88 3) - x1) = x8 → (0 < x8) → ((20 : Int32) ≤ x8) → ∀ x11 : Int32, (x1 / (64 : Int32)) = x11 → ∀ x12 : Int32, (x1 - x1 / (64 : Int32) * (64 : Int32)) = x12 → (¬ (4 : Int32) ≤ x11) → vp_in (a2 + x11) 11584) ∧ (∀ x1 : Int32, (if (0 : Int32) < a3 then a3 else (0 : Int32)) = x1 → ∀ x4 : Int64, (if a3 < 0 then (if a3 ≤ (-20 : Int32) then (0 : Int64) else ((a4.toUInt64 >>> ((-a3).toInt64.toUInt64 &&& Int64.toUInt64 63)).toInt64)) else a4) = x4 → ∀ x7 : Int64, (if x1 = 0 then (bd ((x4 &&& (-2 : Int64))) fun x6 => x6) else x4) = x7 → ∀ x8 : Int32, ((gI S 88 3) - x1) = x8 → (0 < x8) → ((20 : Int32) ≤ x8) → ∀ x11 : Int32, (x1 / (64 : Int32)) = x11 → ∀ x12 : Int32, (x1 - x1 / (64 : Int32) * (64 : Int32)) = x12 → (¬ (4 : Int32) ≤ x11) → vp_in (a2 + x11) 11584) ∧ (∀ x1 : Int32, (if (0 : Int32) < a3 then a3 else (0 : Int32)) = x1 → ∀ x4 : Int64, (if a3 < 0 then (if a3 ≤ (-20 : Int32) then (0 : Int64) else ((a4.toUInt64 >>> ((-a3).toInt64.toUInt64 &&& Int64.toUInt64 63)).toInt64)) else a4) = x4 → ∀ x7 : Int64, (if x1 = 0 then (bd ((x4 &&& (-2 : Int64))) fun x6 => x6) else x4) = x7 → ∀ x8 : Int32, ((gI S 88 3) - x1) = x8 → (0 < x8) → ((20 : Int32) ≤ x8) → ∀ x11 : Int32, (x1 / (64 : Int32)) = x11 → ∀ x12 : Int32, (x1 - x1 / (64 : Int32) * (64 : Int32)) = x12 → ∀ S15 : HSt, (if (4 : Int32) ≤ x11 then S else (bd ((sJ S r1q (a2 + x11).toNatClampNeg ((gJ S r1q (a2 + x11).toNatClampNeg) ||| (x7 <<< (x12.toInt64 &&& 63))))) fun S14 => S14)) = S15 → (¬ x12 ≤ (44 : Int32)) → (¬ (4 : Int32) ≤ (x11 + (1 : Int32))) → vp_in ((a2 + x11) + (1 : Int32)) 11584) ∧ (∀ x1 : Int32, (if (0 : Int32) < a3 then a3 else (0 : Int32)) = x1 → ∀ x4 : Int64, (if a3 < 0 then (if a3 ≤ (-20 : Int32) then (0 : Int64) else ((a4.toUInt64 >>> ((-a3).toInt64.toUInt64 &&& Int64.toUInt64 63)).toInt64)) else a4) = x4 → ∀ x7 : Int64, (if x1 = 0 then (bd ((x4 &&& (-2 : Int64))) fun x6 => x6) else x4) = x7 → ∀ x8 : Int32, ((gI S 88 3) - x1) = x8 → (0 < x8) → ((20 : Int32) ≤ x8) → ∀ x11 : Int32, (x1 / (64 : Int32)) = x11 → ∀ x12 : Int32, (x1 - x1 / (64 : Int32) * (64 : Int32)) = x12 → ∀ S15 : HSt, (if (4 : Int32) ≤ x11 then S else (bd ((sJ S r1q (a2 + x11).toNatClampNeg ((gJ S r1q (a2 + x11).toNatClampNeg) ||| (x7 <<< (x12.toInt64 &&& 63))))) fun S14 => S14)) = S15 → (¬ x12 ≤ (44 : Int32)) → (¬ (4 : Int32) ≤ (x11 + (1 : Int32))) → vp_in ((a2 + x11) + (1 : Int32)) 11584) ∧ (∀ x1 : Int32, (if (0 : Int32) < a3 then a3 else (0 : Int32)) = x1 → ∀ x4 : Int64, (if a3 < 0 then (if a3 ≤ (-20 : Int32) then (0 : Int64) else ((a4.toUInt64 >>> ((-a3).toInt64.toUInt64 &&& Int64.toUInt64 63)).toInt64)) else a4) = x4 → ∀ x7 : Int64, (if x1 = 0 then (bd ((x4 &&& (-2 : Int64))) fun x6 => x6) else x4) = x7 → ∀ x8 : Int32, ((gI S 88 3) - x1) = x8 → (0 < x8) → (¬ (20 : Int32) ≤ x8) → ((lg_cmp ((x7.toUInt64 >>> (x8.toInt64.toUInt64 &&& Int64.toUInt64 63)).toInt64) (0 : Int64)) = 0) → ∀ x21 : Int32, (x1 / (64 : Int32)) = x21 → ∀ x22 : Int32, (x1 - x1 / (64 : Int32) * (64 : Int32)) = x22 → (¬ (4 : Int32) ≤ x21) → vp_in (a2 + x21) 11584) ∧ (∀ x1 : Int32, (if (0 : Int32) < a3 then a3 else (0 : Int32)) = x1 → ∀ x4 : Int64, (if a3 < 0 then (if a3 ≤ (-20 : Int32) then (0 : Int64) else ((a4.toUInt64 >>> ((-a3).toInt64.toUInt64 &&& Int64.toUInt64 63)).toInt64)) else a4) = x4 → ∀ x7 : Int64, (if x1 = 0 then (bd ((x4 &&& (-2 : Int64))) fun x6 => x6) else x4) = x7 → ∀ x8 : Int32, ((gI S 88 3) - x1) = x8 → (0 < x8) → (¬ (20 : Int32) ≤ x8) → ((lg_cmp ((x7.toUInt64 >>> (x8.toInt64.toUInt64 &&& Int64.toUInt64 63)).toInt64) (0 : Int64)) = 0) → ∀ x21 : Int32, (x1 / (64 : Int32)) = x21 → ∀ x22 : Int32, (x1 - x1 / (64 : Int32) * (64 : Int32)) = x22 → (¬ (4 : Int32) ≤ x21) → vp_in (a2 + x21) 11584) ∧ (∀ x1 : Int32, (if (0 : Int32) < a3 then a3 else (0 : Int32)) = x1 → ∀ x4 : Int64, (if a3 < 0 then (if a3 ≤ (-20 : Int32) then (0 : Int64) else ((a4.toUInt64 >>> ((-a3).toInt64.toUInt64 &&& Int64.toUInt64 63)).toInt64)) else a4) = x4 → ∀ x7 : Int64, (if x1 = 0 then (bd ((x4 &&& (-2 : Int64))) fun x6 => x6) else x4) = x7 → ∀ x8 : Int32, ((gI S 88 3) - x1) = x8 → (0 < x8) → (¬ (20 : Int32) ≤ x8) → ((lg_cmp ((x7.toUInt64 >>> (x8.toInt64.toUInt64 &&& Int64.toUInt64 63)).toInt64) (0 : Int64)) = 0) → ∀ x21 : Int32, (x1 / (64 : Int32)) = x21 → ∀ x22 : Int32, (x1 - x1 / (64 : Int32) * (64 : Int32)) = x22 → ∀ S25 : HSt, (if (4 : Int32) ≤ x21 then S else (bd ((sJ S r1q (a2 + x21).toNatClampNeg ((gJ S r1q (a2 + x21).toNatClampNeg) ||| (x7 <<< (x22.toInt64 &&& 63))))) fun S24 => S24)) = S25 → (¬ x22 ≤ (44 : Int32)) → (¬ (4 : Int32) ≤ (x21 + (1 : Int32))) → vp_in ((a2 + x21) + (1 : Int32)) 11584) ∧ (∀ x1 : Int32, (if (0 : Int32) < a3 then a3 else (0 : Int32)) = x1 → ∀ x4 : Int64, (if a3 < 0 then (if a3 ≤ (-20 : Int32) then (0 : Int64) else ((a4.toUInt64 >>> ((-a3).toInt64.toUInt64 &&& Int64.toUInt64 63)).toInt64)) else a4) = x4 → ∀ x7 : Int64, (if x1 = 0 then (bd ((x4 &&& (-2 : Int64))) fun x6 => x6) else x4) = x7 → ∀ x8 : Int32, ((gI S 88 3) - x1) = x8 → (0 < x8) → (¬ (20 : Int32) ≤ x8) → ((lg_cmp ((x7.toUInt64 >>> (x8.toInt64.toUInt64 &&& Int64.toUInt64 63)).toInt64) (0 : Int64)) = 0) → ∀ x21 : Int32, (x1 / (64 : Int32)) = x21 → ∀ x22 : Int32, (x1 - x1 / (64 : Int32) * (64 : Int32)) = x22 → ∀ S25 : HSt, (if (4 : Int32) ≤ x21 then S else (bd ((sJ S r1q (a2 + x21).toNatClampNeg ((gJ S r1q (a2 + x21).toNatClampNeg) ||| (x7 <<< (x22.toInt64 &&& 63))))) fun S24 => S24)) = S25 → (¬ x22 ≤ (44 : Int32)) → (¬ (4 : Int32) ≤ (x21 + (1 : Int32))) → vp_in ((a2 + x21) + (1 : Int32)) 11584) ∧ (∀ x1 : Int32, (if (0 : Int32) < a3 then a3 else (0 : Int32)) = x1 → ∀ x4 : Int64, (if a3 < 0 then (if a3 ≤ (-20 : Int32) then (0 : Int64) else ((a4.toUInt64 >>> ((-a3).toInt64.toUInt64 &&& Int64.toUInt64 63)).toInt64)) else a4) = x4 → ∀ x7 : Int64, (if x1 = 0 then (bd ((x4 &&& (-2 : Int64))) fun x6 => x6) else x4) = x7 → ∀ x8 : Int32, ((gI S 88 3) - x1) = x8 → (¬ 0 < x8) → ((lg_cmp x7 (0 : Int64)) = 0) → ∀ x32 : Int32, (x1 / (64 : Int32)) = x32 → ∀ x33 : Int32, (x1 - x1 / (64 : Int32) * (64 : Int32)) = x33 → (¬ (4 : Int32) ≤ x32) → vp_in (a2 + x32) 11584) ∧ (∀ x1 : Int32, (if (0 : Int32) < a3 then a3 else (0 : Int32)) = x1 → ∀ x4 : Int64, (if a3 < 0 then (if a3 ≤ (-20 : Int32) then (0 : Int64) else ((a4.toUInt64 >>> ((-a3).toInt64.toUInt64 &&& Int64.toUInt64 63)).toInt64)) else a4) = x4 → ∀ x7 : Int64, (if x1 = 0 then (bd ((x4 &&& (-2 : Int64))) fun x6 => x6) else x4) = x7 → ∀ x8 : Int32, ((gI S 88 3) - x1) = x8 → (¬ 0 < x8) → ((lg_cmp x7 (0 : Int64)) = 0) → ∀ x32 : Int32, (x1 / (64 : Int32)) = x32 → ∀ x33 : Int32, (x1 - x1 / (64 : Int32) * (64 : Int32)) = x33 → (¬ (4 : Int32) ≤ x32) → vp_in (a2 + x32) 11584) ∧ (∀ x1 : Int32, (if (0 : Int32) < a3 then a3 else (0 : Int32)) = x1 → ∀ x4 : Int64, (if a3 < 0 then (if a3 ≤ (-20 : Int32) then (0 : Int64) else ((a4.toUInt64 >>> ((-a3).toInt64.toUInt64 &&& Int64.toUInt64 63)).toInt64)) else a4) = x4 → ∀ x7 : Int64, (if x1 = 0 then (bd ((x4 &&& (-2 : Int64))) fun x6 => x6) else x4) = x7 → ∀ x8 : Int32, ((gI S 88 3) - x1) = x8 → (¬ 0 < x8) → ((lg_cmp x7 (0 : Int64)) = 0) → ∀ x32 : Int32, (x1 / (64 : Int32)) = x32 → ∀ x33 : Int32, (x1 - x1 / (64 : Int32) * (64 : Int32)) = x33 → ∀ S36 : HSt, (if (4 : Int32) ≤ x32 then S else (bd ((sJ S r1q (a2 + x32).toNatClampNeg ((gJ S r1q (a2 + x32).toNatClampNeg) ||| (x7 <<< (x33.toInt64 &&& 63))))) fun S35 => S35)) = S36 → (¬ x33 ≤ (44 : Int32)) → (¬ (4 : Int32) ≤ (x32 + (1 : Int32))) → vp_in ((a2 + x32) + (1 : Int32)) 11584) ∧ (∀ x1 : Int32, (if (0 : Int32) < a3 then a3 else (0 : Int32)) = x1 → ∀ x4 : Int64, (if a3 < 0 then (if a3 ≤ (-20 : Int32) then (0 : Int64) else ((a4.toUInt64 >>> ((-a3).toInt64.toUInt64 &&& Int64.toUInt64 63)).toInt64)) else a4) = x4 → ∀ x7 : Int64, (if x1 = 0 then (bd ((x4 &&& (-2 : Int64))) fun x6 => x6) else x4) = x7 → ∀ x8 : Int32, ((gI S 88 3) - x1) = x8 → (¬ 0 < x8) → ((lg_cmp x7 (0 : Int64)) = 0) → ∀ x32 : Int32, (x1 / (64 : Int32)) = x32 → ∀ x33 : Int32, (x1 - x1 / (64 : Int32) * (64 : Int32)) = x33 → ∀ S36 : HSt, (if (4 : Int32) ≤ x32 then S else (bd ((sJ S r1q (a2 + x32).toNatClampNeg ((gJ S r1q (a2 + x32).toNatClampNeg) ||| (x7 <<< (x33.toInt64 &&& 63))))) fun S35 => S35)) = S36 → (¬ x33 ≤ (44 : Int32)) → (¬ (4 : Int32) ≤ (x32 + (1 : Int32))) → vp_in ((a2 + x32) + (1 : Int32)) 11584)
set_option maxRecDepth 100000 in
theorem t_X3_add (G : GG) (l : Launch) {h nx : Nat} {S : HSt} (hM : RS h nx S) (r1q : Nat) (a2 : Int32) (a3 : Int32) (a4 : Int64) (hr1q : r1q = h ∨ r1q = nx) (hp : p_X3_add S h nx 88 r1q a2 a3 a4) : AM G l yX3_add cX3_add 12 none (rmD 1 0 0) 0 0 [.ref 88, .ref r1q, .int a2, .int a3, .long a4] S (FP none (f_X3_add S h nx 88 r1q a2 a3 a4)) := by
  obtain ⟨h0, h1, h2, h3, h4, h5, h6, h7, h8, h9, h10, h11⟩ := hp
  refine AM.mk (by decide) (Nat.le_of_ble_eq_true rfl) ?_
  intro p e s m below meth c hC hSt _
  refine aw_iconst (v := 0) hC dX3_add_0 (by decide) ?_
  refine aw_iload_n hC 3 dX3_add_1 rfl rfl ?_
  refine aw_max hC w_273 w_91 w_92 w_93 (by decide) (Nat.le_of_ble_eq_true rfl) (by decide) (by decide) dX3_add_2 ?_
  refine aw_istore hC [(6, .int _), (0, .ref 88), (1, .ref r1q), (2, .int _), (3, .int _), (4, .long _)] dX3_add_5 (by decide) rfl ?_
  generalize ex1 : (if (0 : Int32) < a3 then a3 else (0 : Int32)) = x1
  refine aw_iload_n hC 4 dX3_add_7 rfl rfl ?_
  refine aw_cut (S' := S) (pc' := 31) (lv' := [(6, .int x1), (0, .ref 88), (1, .ref r1q), (2, .int a2), (3, .int a3), (4, .long a4)]) (st' := [.long (if a3 < 0 then (if a3 ≤ (-20 : Int32) then (0 : Int64) else ((a4.toUInt64 >>> ((-a3).toInt64.toUInt64 &&& Int64.toUInt64 63)).toInt64)) else a4)]) ?_ (fun Jc2 => ?_)
  · generalize ex4 : (if a3 < 0 then (if a3 ≤ (-20 : Int32) then (0 : Int64) else ((a4.toUInt64 >>> ((-a3).toInt64.toUInt64 &&& Int64.toUInt64 63)).toInt64)) else a4) = x4
    refine aw_lstore hC [(7, .long _), (6, .int _), (0, .ref 88), (1, .ref r1q), (2, .int _), (3, .int _), (4, .long _)] dX3_add_31 (by decide) rfl ?_
    refine aw_iload hC 1 dX3_add_33 rfl ?_
    refine aw_cut (S' := S) (pc' := 46) (lv' := [(7, .long (if x1 = 0 then (bd ((x4 &&& (-2 : Int64))) fun x6 => x6) else x4)), (6, .int x1), (0, .ref 88), (1, .ref r1q), (2, .int a2), (3, .int a3), (4, .long a4)]) (st' := []) ?_ (fun Jc5 => ?_)
    · generalize ex7 : (if x1 = 0 then (bd ((x4 &&& (-2 : Int64))) fun x6 => x6) else x4) = x7
      refine aw_aload_n hC 2 dX3_add_46 rfl rfl ?_
      refine aw_getI hC hSt 3 (rs_lt88 hM) (rs_k88 hM) rfl (by decide) w_275 rfl dX3_add_47 ?_
      refine aw_iload hC 1 dX3_add_50 rfl ?_
      refine aw_isub hC dX3_add_52 ?_
      refine aw_istore hC [(9, .int _), (7, .long _), (6, .int _), (0, .ref 88), (1, .ref r1q), (2, .int _), (3, .int _), (4, .long _)] dX3_add_53 (by decide) rfl ?_
      generalize ex8 : ((gI S 88 3) - x1) = x8
      refine aw_iload hC 0 dX3_add_55 rfl ?_
      refine aw_if_gt hC 70 dX3_add_57 (by decide) (fun c9 => ?_) (fun c9 => ?_)
      · refine aw_iload hC 0 dX3_add_70 rfl ?_
        refine aw_bipush (v := 20) hC dX3_add_72 (by decide) ?_
        refine aw_icmp_ge hC 93 dX3_add_74 (by decide) (fun c10 => ?_) (fun c10 => ?_)
        · refine aw_iload hC 2 dX3_add_93 rfl ?_
          refine aw_bipush (v := 64) hC dX3_add_95 (by decide) ?_
          refine aw_idiv hC dX3_add_97 (by decide) ?_
          refine aw_istore hC [(10, .int _), (9, .int _), (7, .long _), (6, .int _), (0, .ref 88), (1, .ref r1q), (2, .int _), (3, .int _), (4, .long _)] dX3_add_98 (by decide) rfl ?_
          generalize ex11 : (x1 / (64 : Int32)) = x11
          refine aw_iload hC 3 dX3_add_100 rfl ?_
          refine aw_bipush (v := 64) hC dX3_add_102 (by decide) ?_
          refine aw_irem hC dX3_add_104 (by decide) ?_
          refine aw_istore hC [(11, .int _), (10, .int _), (9, .int _), (7, .long _), (6, .int _), (0, .ref 88), (1, .ref r1q), (2, .int _), (3, .int _), (4, .long _)] dX3_add_105 (by decide) rfl ?_
          generalize ex12 : (x1 - x1 / (64 : Int32) * (64 : Int32)) = x12
          refine aw_iload hC 1 dX3_add_107 rfl ?_
          refine aw_iconst (v := 4) hC dX3_add_109 (by decide) ?_
          refine aw_cut (S' := (if (4 : Int32) ≤ x11 then S else (bd ((sJ S r1q (a2 + x11).toNatClampNeg ((gJ S r1q (a2 + x11).toNatClampNeg) ||| (x7 <<< (x12.toInt64 &&& 63))))) fun S14 => S14))) (pc' := 127) (lv' := [(11, .int x12), (10, .int x11), (9, .int x8), (7, .long x7), (6, .int x1), (0, .ref 88), (1, .ref r1q), (2, .int a2), (3, .int a3), (4, .long a4)]) (st' := []) ?_ (fun Jc13 => ?_)
          · generalize eS15 : (if (4 : Int32) ≤ x11 then S else (bd ((sJ S r1q (a2 + x11).toNatClampNeg ((gJ S r1q (a2 + x11).toNatClampNeg) ||| (x7 <<< (x12.toInt64 &&& 63))))) fun S14 => S14)) = S15
            have hM : RS h nx S15 := RS.of (by rw [← eS15]; repeat' (first | with_reducible rfl | with_reducible refine (shp_sI _ _ _ _).trans ?_ | with_reducible refine (shp_sJ _ _ _ _).trans ?_ | with_reducible refine (shp_rI _ _ _).trans ?_ | with_reducible refine shi ?_ ?_ | with_reducible refine shb (fun _ _ => ?_) | (subst_vars; with_reducible rfl) | (subst_vars; with_reducible refine (shp_sI _ _ _ _).trans ?_) | (subst_vars; with_reducible refine (shp_sJ _ _ _ _).trans ?_) | (subst_vars; with_reducible refine (shp_rI _ _ _).trans ?_) | (subst_vars; with_reducible refine shi ?_ ?_) | (subst_vars; with_reducible refine shb (fun _ _ => ?_)))) hM
            refine aw_iload hC 0 dX3_add_127 rfl ?_
            refine aw_bipush (v := 44) hC dX3_add_129 (by decide) ?_
            refine aw_cut (S' := (if x12 ≤ (44 : Int32) then S15 else (if (4 : Int32) ≤ (x11 + (1 : Int32)) then S15 else (bd ((sJ S15 r1q ((a2 + x11) + (1 : Int32)).toNatClampNeg ((gJ S15 r1q ((a2 + x11) + (1 : Int32)).toNatClampNeg) ||| ((x7.toUInt64 >>> (((64 : Int32) - x12).toInt64.toUInt64 &&& Int64.toUInt64 63)).toInt64)))) fun S18 => S18)))) (pc' := 161) (lv' := [(11, .int x12), (10, .int x11), (9, .int x8), (7, .long x7), (6, .int x1), (0, .ref 88), (1, .ref r1q), (2, .int a2), (3, .int a3), (4, .long a4)]) (st' := []) ?_ (fun Jc16 => ?_)
            · generalize eS19 : (if x12 ≤ (44 : Int32) then S15 else (if (4 : Int32) ≤ (x11 + (1 : Int32)) then S15 else (bd ((sJ S15 r1q ((a2 + x11) + (1 : Int32)).toNatClampNeg ((gJ S15 r1q ((a2 + x11) + (1 : Int32)).toNatClampNeg) ||| ((x7.toUInt64 >>> (((64 : Int32) - x12).toInt64.toUInt64 &&& Int64.toUInt64 63)).toInt64)))) fun S18 => S18))) = S19
              have hM : RS h nx S19 := RS.of (by rw [← eS19]; repeat' (first | with_reducible rfl | with_reducible refine (shp_sI _ _ _ _).trans ?_ | with_reducible refine (shp_sJ _ _ _ _).trans ?_ | with_reducible refine (shp_rI _ _ _).trans ?_ | with_reducible refine shi ?_ ?_ | with_reducible refine shb (fun _ _ => ?_) | (subst_vars; with_reducible rfl) | (subst_vars; with_reducible refine (shp_sI _ _ _ _).trans ?_) | (subst_vars; with_reducible refine (shp_sJ _ _ _ _).trans ?_) | (subst_vars; with_reducible refine (shp_rI _ _ _).trans ?_) | (subst_vars; with_reducible refine shi ?_ ?_) | (subst_vars; with_reducible refine shb (fun _ _ => ?_)))) hM
              refine aw_vret hC dX3_add_161 (Nat.le_refl _) (Nat.le_refl _) ?_
              exact FP.qV ((bd_eq ex1).trans ((bd_eq ex4).trans ((bd_eq ex7).trans ((bd_eq ex8).trans ((if_pos c9).trans ((if_pos c10).trans ((bd_eq ex11).trans ((bd_eq ex12).trans ((bd_eq eS15).trans ((bd_eq eS19).trans (rfl)))))))))))
            · refine aw_icmp_le hC 161 dX3_add_131 (by decide) (fun c16 => ?_) (fun c16 => ?_)
              · simp only [bd_def, if_pos c16] at Jc16 ⊢
                exact Jc16
              · refine aw_iload hC 1 dX3_add_134 rfl ?_
                refine aw_iconst (v := 1) hC dX3_add_136 (by decide) ?_
                refine aw_iadd hC dX3_add_137 ?_
                refine aw_iconst (v := 4) hC dX3_add_138 (by decide) ?_
                refine aw_icmp_ge hC 161 dX3_add_139 (by decide) (fun c17 => ?_) (fun c17 => ?_)
                · simp only [bd_def, if_neg c16, if_pos c17] at Jc16 ⊢
                  exact Jc16
                · refine aw_aload_n hC 6 dX3_add_142 rfl rfl ?_
                  refine aw_iload_n hC 7 dX3_add_143 rfl rfl ?_
                  refine aw_iload hC 1 dX3_add_144 rfl ?_
                  refine aw_iadd hC dX3_add_146 ?_
                  refine aw_iconst (v := 1) hC dX3_add_147 (by decide) ?_
                  refine aw_iadd hC dX3_add_148 ?_
                  refine aw_dup2_11 hC dX3_add_149 rfl rfl ?_
                  refine aw_lald hC hSt (rs_lt hr1q hM) (rs_k hr1q hM) (vp_len (n := 11584) (rs_l hr1q hM) (h2 x1 ex1 x4 ex4 x7 ex7 x8 ex8 c9 c10 x11 ex11 x12 ex12 S15 eS15 c16 c17)) dX3_add_150 ?_
                  refine aw_lload hC 3 dX3_add_151 rfl ?_
                  refine aw_bipush (v := 64) hC dX3_add_153 (by decide) ?_
                  refine aw_iload hC 0 dX3_add_155 rfl ?_
                  refine aw_isub hC dX3_add_157 ?_
                  refine aw_lushr hC dX3_add_158 ?_
                  refine aw_lor hC dX3_add_159 ?_
                  refine aw_last hC hSt (rs_lt hr1q hM) (rs_k hr1q hM) (vp_len (n := 11584) (rs_l hr1q hM) (h3 x1 ex1 x4 ex4 x7 ex7 x8 ex8 c9 c10 x11 ex11 x12 ex12 S15 eS15 c16 c17)) dX3_add_160 ?_
                  generalize eS18 : (sJ S15 r1q ((a2 + x11) + (1 : Int32)).toNatClampNeg ((gJ S15 r1q ((a2 + x11) + (1 : Int32)).toNatClampNeg) ||| ((x7.toUInt64 >>> (((64 : Int32) - x12).toInt64.toUInt64 &&& Int64.toUInt64 63)).toInt64))) = S18
                  have hM : RS h nx S18 := RS.of (by rw [← eS18]; exact shp_sJ _ _ _ _) hM
                  subst eS18
                  simp only [bd_def, if_neg c16, if_neg c17] at Jc16 ⊢
                  exact Jc16
          · refine aw_icmp_ge hC 127 dX3_add_110 (by decide) (fun c13 => ?_) (fun c13 => ?_)
            · simp only [bd_def, if_pos c13] at Jc13 ⊢
              exact Jc13
            · refine aw_aload_n hC 6 dX3_add_113 rfl rfl ?_
              refine aw_iload_n hC 7 dX3_add_114 rfl rfl ?_
              refine aw_iload hC 1 dX3_add_115 rfl ?_
              refine aw_iadd hC dX3_add_117 ?_
              refine aw_dup2_11 hC dX3_add_118 rfl rfl ?_
              refine aw_lald hC hSt (rs_lt hr1q hM) (rs_k hr1q hM) (vp_len (n := 11584) (rs_l hr1q hM) (h0 x1 ex1 x4 ex4 x7 ex7 x8 ex8 c9 c10 x11 ex11 x12 ex12 c13)) dX3_add_119 ?_
              refine aw_lload hC 3 dX3_add_120 rfl ?_
              refine aw_iload hC 0 dX3_add_122 rfl ?_
              refine aw_lshl hC dX3_add_124 ?_
              refine aw_lor hC dX3_add_125 ?_
              refine aw_last hC hSt (rs_lt hr1q hM) (rs_k hr1q hM) (vp_len (n := 11584) (rs_l hr1q hM) (h1 x1 ex1 x4 ex4 x7 ex7 x8 ex8 c9 c10 x11 ex11 x12 ex12 c13)) dX3_add_126 ?_
              generalize eS14 : (sJ S r1q (a2 + x11).toNatClampNeg ((gJ S r1q (a2 + x11).toNatClampNeg) ||| (x7 <<< (x12.toInt64 &&& 63)))) = S14
              have hM : RS h nx S14 := RS.of (by rw [← eS14]; exact shp_sJ _ _ _ _) hM
              subst eS14
              simp only [bd_def, if_neg c13] at Jc13 ⊢
              exact Jc13
        · refine aw_lload hC 1 dX3_add_77 rfl ?_
          refine aw_iload hC 0 dX3_add_79 rfl ?_
          refine aw_lushr hC dX3_add_81 ?_
          refine aw_lconst (v := 0) hC dX3_add_82 (by decide) ?_
          refine aw_lcmp hC dX3_add_83 ?_
          refine aw_if_eq hC 93 dX3_add_84 (by decide) (fun c20 => ?_) (fun c20 => ?_)
          · refine aw_iload hC 2 dX3_add_93 rfl ?_
            refine aw_bipush (v := 64) hC dX3_add_95 (by decide) ?_
            refine aw_idiv hC dX3_add_97 (by decide) ?_
            refine aw_istore hC [(10, .int _), (9, .int _), (7, .long _), (6, .int _), (0, .ref 88), (1, .ref r1q), (2, .int _), (3, .int _), (4, .long _)] dX3_add_98 (by decide) rfl ?_
            generalize ex21 : (x1 / (64 : Int32)) = x21
            refine aw_iload hC 3 dX3_add_100 rfl ?_
            refine aw_bipush (v := 64) hC dX3_add_102 (by decide) ?_
            refine aw_irem hC dX3_add_104 (by decide) ?_
            refine aw_istore hC [(11, .int _), (10, .int _), (9, .int _), (7, .long _), (6, .int _), (0, .ref 88), (1, .ref r1q), (2, .int _), (3, .int _), (4, .long _)] dX3_add_105 (by decide) rfl ?_
            generalize ex22 : (x1 - x1 / (64 : Int32) * (64 : Int32)) = x22
            refine aw_iload hC 1 dX3_add_107 rfl ?_
            refine aw_iconst (v := 4) hC dX3_add_109 (by decide) ?_
            refine aw_cut (S' := (if (4 : Int32) ≤ x21 then S else (bd ((sJ S r1q (a2 + x21).toNatClampNeg ((gJ S r1q (a2 + x21).toNatClampNeg) ||| (x7 <<< (x22.toInt64 &&& 63))))) fun S24 => S24))) (pc' := 127) (lv' := [(11, .int x22), (10, .int x21), (9, .int x8), (7, .long x7), (6, .int x1), (0, .ref 88), (1, .ref r1q), (2, .int a2), (3, .int a3), (4, .long a4)]) (st' := []) ?_ (fun Jc23 => ?_)
            · generalize eS25 : (if (4 : Int32) ≤ x21 then S else (bd ((sJ S r1q (a2 + x21).toNatClampNeg ((gJ S r1q (a2 + x21).toNatClampNeg) ||| (x7 <<< (x22.toInt64 &&& 63))))) fun S24 => S24)) = S25
              have hM : RS h nx S25 := RS.of (by rw [← eS25]; repeat' (first | with_reducible rfl | with_reducible refine (shp_sI _ _ _ _).trans ?_ | with_reducible refine (shp_sJ _ _ _ _).trans ?_ | with_reducible refine (shp_rI _ _ _).trans ?_ | with_reducible refine shi ?_ ?_ | with_reducible refine shb (fun _ _ => ?_) | (subst_vars; with_reducible rfl) | (subst_vars; with_reducible refine (shp_sI _ _ _ _).trans ?_) | (subst_vars; with_reducible refine (shp_sJ _ _ _ _).trans ?_) | (subst_vars; with_reducible refine (shp_rI _ _ _).trans ?_) | (subst_vars; with_reducible refine shi ?_ ?_) | (subst_vars; with_reducible refine shb (fun _ _ => ?_)))) hM
              refine aw_iload hC 0 dX3_add_127 rfl ?_
              refine aw_bipush (v := 44) hC dX3_add_129 (by decide) ?_
              refine aw_cut (S' := (if x22 ≤ (44 : Int32) then S25 else (if (4 : Int32) ≤ (x21 + (1 : Int32)) then S25 else (bd ((sJ S25 r1q ((a2 + x21) + (1 : Int32)).toNatClampNeg ((gJ S25 r1q ((a2 + x21) + (1 : Int32)).toNatClampNeg) ||| ((x7.toUInt64 >>> (((64 : Int32) - x22).toInt64.toUInt64 &&& Int64.toUInt64 63)).toInt64)))) fun S28 => S28)))) (pc' := 161) (lv' := [(11, .int x22), (10, .int x21), (9, .int x8), (7, .long x7), (6, .int x1), (0, .ref 88), (1, .ref r1q), (2, .int a2), (3, .int a3), (4, .long a4)]) (st' := []) ?_ (fun Jc26 => ?_)
              · generalize eS29 : (if x22 ≤ (44 : Int32) then S25 else (if (4 : Int32) ≤ (x21 + (1 : Int32)) then S25 else (bd ((sJ S25 r1q ((a2 + x21) + (1 : Int32)).toNatClampNeg ((gJ S25 r1q ((a2 + x21) + (1 : Int32)).toNatClampNeg) ||| ((x7.toUInt64 >>> (((64 : Int32) - x22).toInt64.toUInt64 &&& Int64.toUInt64 63)).toInt64)))) fun S28 => S28))) = S29
                have hM : RS h nx S29 := RS.of (by rw [← eS29]; repeat' (first | with_reducible rfl | with_reducible refine (shp_sI _ _ _ _).trans ?_ | with_reducible refine (shp_sJ _ _ _ _).trans ?_ | with_reducible refine (shp_rI _ _ _).trans ?_ | with_reducible refine shi ?_ ?_ | with_reducible refine shb (fun _ _ => ?_) | (subst_vars; with_reducible rfl) | (subst_vars; with_reducible refine (shp_sI _ _ _ _).trans ?_) | (subst_vars; with_reducible refine (shp_sJ _ _ _ _).trans ?_) | (subst_vars; with_reducible refine (shp_rI _ _ _).trans ?_) | (subst_vars; with_reducible refine shi ?_ ?_) | (subst_vars; with_reducible refine shb (fun _ _ => ?_)))) hM
                refine aw_vret hC dX3_add_161 (Nat.le_refl _) (Nat.le_refl _) ?_
                exact FP.qV ((bd_eq ex1).trans ((bd_eq ex4).trans ((bd_eq ex7).trans ((bd_eq ex8).trans ((if_pos c9).trans ((if_neg c10).trans ((if_pos c20).trans ((bd_eq ex21).trans ((bd_eq ex22).trans ((bd_eq eS25).trans ((bd_eq eS29).trans (rfl))))))))))))
              · refine aw_icmp_le hC 161 dX3_add_131 (by decide) (fun c26 => ?_) (fun c26 => ?_)
                · simp only [bd_def, if_pos c26] at Jc26 ⊢
                  exact Jc26
                · refine aw_iload hC 1 dX3_add_134 rfl ?_
                  refine aw_iconst (v := 1) hC dX3_add_136 (by decide) ?_
                  refine aw_iadd hC dX3_add_137 ?_
                  refine aw_iconst (v := 4) hC dX3_add_138 (by decide) ?_
                  refine aw_icmp_ge hC 161 dX3_add_139 (by decide) (fun c27 => ?_) (fun c27 => ?_)
                  · simp only [bd_def, if_neg c26, if_pos c27] at Jc26 ⊢
                    exact Jc26
                  · refine aw_aload_n hC 6 dX3_add_142 rfl rfl ?_
                    refine aw_iload_n hC 7 dX3_add_143 rfl rfl ?_
                    refine aw_iload hC 1 dX3_add_144 rfl ?_
                    refine aw_iadd hC dX3_add_146 ?_
                    refine aw_iconst (v := 1) hC dX3_add_147 (by decide) ?_
                    refine aw_iadd hC dX3_add_148 ?_
                    refine aw_dup2_11 hC dX3_add_149 rfl rfl ?_
                    refine aw_lald hC hSt (rs_lt hr1q hM) (rs_k hr1q hM) (vp_len (n := 11584) (rs_l hr1q hM) (h6 x1 ex1 x4 ex4 x7 ex7 x8 ex8 c9 c10 c20 x21 ex21 x22 ex22 S25 eS25 c26 c27)) dX3_add_150 ?_
                    refine aw_lload hC 3 dX3_add_151 rfl ?_
                    refine aw_bipush (v := 64) hC dX3_add_153 (by decide) ?_
                    refine aw_iload hC 0 dX3_add_155 rfl ?_
                    refine aw_isub hC dX3_add_157 ?_
                    refine aw_lushr hC dX3_add_158 ?_
                    refine aw_lor hC dX3_add_159 ?_
                    refine aw_last hC hSt (rs_lt hr1q hM) (rs_k hr1q hM) (vp_len (n := 11584) (rs_l hr1q hM) (h7 x1 ex1 x4 ex4 x7 ex7 x8 ex8 c9 c10 c20 x21 ex21 x22 ex22 S25 eS25 c26 c27)) dX3_add_160 ?_
                    generalize eS28 : (sJ S25 r1q ((a2 + x21) + (1 : Int32)).toNatClampNeg ((gJ S25 r1q ((a2 + x21) + (1 : Int32)).toNatClampNeg) ||| ((x7.toUInt64 >>> (((64 : Int32) - x22).toInt64.toUInt64 &&& Int64.toUInt64 63)).toInt64))) = S28
                    have hM : RS h nx S28 := RS.of (by rw [← eS28]; exact shp_sJ _ _ _ _) hM
                    subst eS28
                    simp only [bd_def, if_neg c26, if_neg c27] at Jc26 ⊢
                    exact Jc26
            · refine aw_icmp_ge hC 127 dX3_add_110 (by decide) (fun c23 => ?_) (fun c23 => ?_)
              · simp only [bd_def, if_pos c23] at Jc23 ⊢
                exact Jc23
              · refine aw_aload_n hC 6 dX3_add_113 rfl rfl ?_
                refine aw_iload_n hC 7 dX3_add_114 rfl rfl ?_
                refine aw_iload hC 1 dX3_add_115 rfl ?_
                refine aw_iadd hC dX3_add_117 ?_
                refine aw_dup2_11 hC dX3_add_118 rfl rfl ?_
                refine aw_lald hC hSt (rs_lt hr1q hM) (rs_k hr1q hM) (vp_len (n := 11584) (rs_l hr1q hM) (h4 x1 ex1 x4 ex4 x7 ex7 x8 ex8 c9 c10 c20 x21 ex21 x22 ex22 c23)) dX3_add_119 ?_
                refine aw_lload hC 3 dX3_add_120 rfl ?_
                refine aw_iload hC 0 dX3_add_122 rfl ?_
                refine aw_lshl hC dX3_add_124 ?_
                refine aw_lor hC dX3_add_125 ?_
                refine aw_last hC hSt (rs_lt hr1q hM) (rs_k hr1q hM) (vp_len (n := 11584) (rs_l hr1q hM) (h5 x1 ex1 x4 ex4 x7 ex7 x8 ex8 c9 c10 c20 x21 ex21 x22 ex22 c23)) dX3_add_126 ?_
                generalize eS24 : (sJ S r1q (a2 + x21).toNatClampNeg ((gJ S r1q (a2 + x21).toNatClampNeg) ||| (x7 <<< (x22.toInt64 &&& 63)))) = S24
                have hM : RS h nx S24 := RS.of (by rw [← eS24]; exact shp_sJ _ _ _ _) hM
                subst eS24
                simp only [bd_def, if_neg c23] at Jc23 ⊢
                exact Jc23
          · refine aw_aload_n hC 3 dX3_add_87 rfl rfl ?_
            refine aw_iconst (v := 1) hC dX3_add_88 (by decide) ?_
            refine aw_putI hC hSt 4 (rs_lt88 hM) (rs_k88 hM) rfl (by decide) w_276 rfl rfl (by decide) (by decide) dX3_add_89 ?_
            generalize eS30 : (sI S 88 4 (1 : Int32)) = S30
            have hM : RS h nx S30 := RS.of (by rw [← eS30]; exact shp_sI _ _ _ _) hM
            refine aw_vret hC dX3_add_92 (Nat.le_refl _) (Nat.le_refl _) ?_
            exact FP.qV ((bd_eq ex1).trans ((bd_eq ex4).trans ((bd_eq ex7).trans ((bd_eq ex8).trans ((if_pos c9).trans ((if_neg c10).trans ((if_neg c20).trans ((bd_eq eS30).trans (rfl)))))))))
      · refine aw_lload hC 1 dX3_add_60 rfl ?_
        refine aw_lconst (v := 0) hC dX3_add_62 (by decide) ?_
        refine aw_lcmp hC dX3_add_63 ?_
        refine aw_if_eq hC 93 dX3_add_64 (by decide) (fun c31 => ?_) (fun c31 => ?_)
        · refine aw_iload hC 2 dX3_add_93 rfl ?_
          refine aw_bipush (v := 64) hC dX3_add_95 (by decide) ?_
          refine aw_idiv hC dX3_add_97 (by decide) ?_
          refine aw_istore hC [(10, .int _), (9, .int _), (7, .long _), (6, .int _), (0, .ref 88), (1, .ref r1q), (2, .int _), (3, .int _), (4, .long _)] dX3_add_98 (by decide) rfl ?_
          generalize ex32 : (x1 / (64 : Int32)) = x32
          refine aw_iload hC 3 dX3_add_100 rfl ?_
          refine aw_bipush (v := 64) hC dX3_add_102 (by decide) ?_
          refine aw_irem hC dX3_add_104 (by decide) ?_
          refine aw_istore hC [(11, .int _), (10, .int _), (9, .int _), (7, .long _), (6, .int _), (0, .ref 88), (1, .ref r1q), (2, .int _), (3, .int _), (4, .long _)] dX3_add_105 (by decide) rfl ?_
          generalize ex33 : (x1 - x1 / (64 : Int32) * (64 : Int32)) = x33
          refine aw_iload hC 1 dX3_add_107 rfl ?_
          refine aw_iconst (v := 4) hC dX3_add_109 (by decide) ?_
          refine aw_cut (S' := (if (4 : Int32) ≤ x32 then S else (bd ((sJ S r1q (a2 + x32).toNatClampNeg ((gJ S r1q (a2 + x32).toNatClampNeg) ||| (x7 <<< (x33.toInt64 &&& 63))))) fun S35 => S35))) (pc' := 127) (lv' := [(11, .int x33), (10, .int x32), (9, .int x8), (7, .long x7), (6, .int x1), (0, .ref 88), (1, .ref r1q), (2, .int a2), (3, .int a3), (4, .long a4)]) (st' := []) ?_ (fun Jc34 => ?_)
          · generalize eS36 : (if (4 : Int32) ≤ x32 then S else (bd ((sJ S r1q (a2 + x32).toNatClampNeg ((gJ S r1q (a2 + x32).toNatClampNeg) ||| (x7 <<< (x33.toInt64 &&& 63))))) fun S35 => S35)) = S36
            have hM : RS h nx S36 := RS.of (by rw [← eS36]; repeat' (first | with_reducible rfl | with_reducible refine (shp_sI _ _ _ _).trans ?_ | with_reducible refine (shp_sJ _ _ _ _).trans ?_ | with_reducible refine (shp_rI _ _ _).trans ?_ | with_reducible refine shi ?_ ?_ | with_reducible refine shb (fun _ _ => ?_) | (subst_vars; with_reducible rfl) | (subst_vars; with_reducible refine (shp_sI _ _ _ _).trans ?_) | (subst_vars; with_reducible refine (shp_sJ _ _ _ _).trans ?_) | (subst_vars; with_reducible refine (shp_rI _ _ _).trans ?_) | (subst_vars; with_reducible refine shi ?_ ?_) | (subst_vars; with_reducible refine shb (fun _ _ => ?_)))) hM
            refine aw_iload hC 0 dX3_add_127 rfl ?_
            refine aw_bipush (v := 44) hC dX3_add_129 (by decide) ?_
            refine aw_cut (S' := (if x33 ≤ (44 : Int32) then S36 else (if (4 : Int32) ≤ (x32 + (1 : Int32)) then S36 else (bd ((sJ S36 r1q ((a2 + x32) + (1 : Int32)).toNatClampNeg ((gJ S36 r1q ((a2 + x32) + (1 : Int32)).toNatClampNeg) ||| ((x7.toUInt64 >>> (((64 : Int32) - x33).toInt64.toUInt64 &&& Int64.toUInt64 63)).toInt64)))) fun S39 => S39)))) (pc' := 161) (lv' := [(11, .int x33), (10, .int x32), (9, .int x8), (7, .long x7), (6, .int x1), (0, .ref 88), (1, .ref r1q), (2, .int a2), (3, .int a3), (4, .long a4)]) (st' := []) ?_ (fun Jc37 => ?_)
            · generalize eS40 : (if x33 ≤ (44 : Int32) then S36 else (if (4 : Int32) ≤ (x32 + (1 : Int32)) then S36 else (bd ((sJ S36 r1q ((a2 + x32) + (1 : Int32)).toNatClampNeg ((gJ S36 r1q ((a2 + x32) + (1 : Int32)).toNatClampNeg) ||| ((x7.toUInt64 >>> (((64 : Int32) - x33).toInt64.toUInt64 &&& Int64.toUInt64 63)).toInt64)))) fun S39 => S39))) = S40
              have hM : RS h nx S40 := RS.of (by rw [← eS40]; repeat' (first | with_reducible rfl | with_reducible refine (shp_sI _ _ _ _).trans ?_ | with_reducible refine (shp_sJ _ _ _ _).trans ?_ | with_reducible refine (shp_rI _ _ _).trans ?_ | with_reducible refine shi ?_ ?_ | with_reducible refine shb (fun _ _ => ?_) | (subst_vars; with_reducible rfl) | (subst_vars; with_reducible refine (shp_sI _ _ _ _).trans ?_) | (subst_vars; with_reducible refine (shp_sJ _ _ _ _).trans ?_) | (subst_vars; with_reducible refine (shp_rI _ _ _).trans ?_) | (subst_vars; with_reducible refine shi ?_ ?_) | (subst_vars; with_reducible refine shb (fun _ _ => ?_)))) hM
              refine aw_vret hC dX3_add_161 (Nat.le_refl _) (Nat.le_refl _) ?_
              exact FP.qV ((bd_eq ex1).trans ((bd_eq ex4).trans ((bd_eq ex7).trans ((bd_eq ex8).trans ((if_neg c9).trans ((if_pos c31).trans ((bd_eq ex32).trans ((bd_eq ex33).trans ((bd_eq eS36).trans ((bd_eq eS40).trans (rfl)))))))))))
            · refine aw_icmp_le hC 161 dX3_add_131 (by decide) (fun c37 => ?_) (fun c37 => ?_)
              · simp only [bd_def, if_pos c37] at Jc37 ⊢
                exact Jc37
              · refine aw_iload hC 1 dX3_add_134 rfl ?_
                refine aw_iconst (v := 1) hC dX3_add_136 (by decide) ?_
                refine aw_iadd hC dX3_add_137 ?_
                refine aw_iconst (v := 4) hC dX3_add_138 (by decide) ?_
                refine aw_icmp_ge hC 161 dX3_add_139 (by decide) (fun c38 => ?_) (fun c38 => ?_)
                · simp only [bd_def, if_neg c37, if_pos c38] at Jc37 ⊢
                  exact Jc37
                · refine aw_aload_n hC 6 dX3_add_142 rfl rfl ?_
                  refine aw_iload_n hC 7 dX3_add_143 rfl rfl ?_
                  refine aw_iload hC 1 dX3_add_144 rfl ?_
                  refine aw_iadd hC dX3_add_146 ?_
                  refine aw_iconst (v := 1) hC dX3_add_147 (by decide) ?_
                  refine aw_iadd hC dX3_add_148 ?_
                  refine aw_dup2_11 hC dX3_add_149 rfl rfl ?_
                  refine aw_lald hC hSt (rs_lt hr1q hM) (rs_k hr1q hM) (vp_len (n := 11584) (rs_l hr1q hM) (h10 x1 ex1 x4 ex4 x7 ex7 x8 ex8 c9 c31 x32 ex32 x33 ex33 S36 eS36 c37 c38)) dX3_add_150 ?_
                  refine aw_lload hC 3 dX3_add_151 rfl ?_
                  refine aw_bipush (v := 64) hC dX3_add_153 (by decide) ?_
                  refine aw_iload hC 0 dX3_add_155 rfl ?_
                  refine aw_isub hC dX3_add_157 ?_
                  refine aw_lushr hC dX3_add_158 ?_
                  refine aw_lor hC dX3_add_159 ?_
                  refine aw_last hC hSt (rs_lt hr1q hM) (rs_k hr1q hM) (vp_len (n := 11584) (rs_l hr1q hM) (h11 x1 ex1 x4 ex4 x7 ex7 x8 ex8 c9 c31 x32 ex32 x33 ex33 S36 eS36 c37 c38)) dX3_add_160 ?_
                  generalize eS39 : (sJ S36 r1q ((a2 + x32) + (1 : Int32)).toNatClampNeg ((gJ S36 r1q ((a2 + x32) + (1 : Int32)).toNatClampNeg) ||| ((x7.toUInt64 >>> (((64 : Int32) - x33).toInt64.toUInt64 &&& Int64.toUInt64 63)).toInt64))) = S39
                  have hM : RS h nx S39 := RS.of (by rw [← eS39]; exact shp_sJ _ _ _ _) hM
                  subst eS39
                  simp only [bd_def, if_neg c37, if_neg c38] at Jc37 ⊢
                  exact Jc37
          · refine aw_icmp_ge hC 127 dX3_add_110 (by decide) (fun c34 => ?_) (fun c34 => ?_)
            · simp only [bd_def, if_pos c34] at Jc34 ⊢
              exact Jc34
            · refine aw_aload_n hC 6 dX3_add_113 rfl rfl ?_
              refine aw_iload_n hC 7 dX3_add_114 rfl rfl ?_
              refine aw_iload hC 1 dX3_add_115 rfl ?_
              refine aw_iadd hC dX3_add_117 ?_
              refine aw_dup2_11 hC dX3_add_118 rfl rfl ?_
              refine aw_lald hC hSt (rs_lt hr1q hM) (rs_k hr1q hM) (vp_len (n := 11584) (rs_l hr1q hM) (h8 x1 ex1 x4 ex4 x7 ex7 x8 ex8 c9 c31 x32 ex32 x33 ex33 c34)) dX3_add_119 ?_
              refine aw_lload hC 3 dX3_add_120 rfl ?_
              refine aw_iload hC 0 dX3_add_122 rfl ?_
              refine aw_lshl hC dX3_add_124 ?_
              refine aw_lor hC dX3_add_125 ?_
              refine aw_last hC hSt (rs_lt hr1q hM) (rs_k hr1q hM) (vp_len (n := 11584) (rs_l hr1q hM) (h9 x1 ex1 x4 ex4 x7 ex7 x8 ex8 c9 c31 x32 ex32 x33 ex33 c34)) dX3_add_126 ?_
              generalize eS35 : (sJ S r1q (a2 + x32).toNatClampNeg ((gJ S r1q (a2 + x32).toNatClampNeg) ||| (x7 <<< (x33.toInt64 &&& 63)))) = S35
              have hM : RS h nx S35 := RS.of (by rw [← eS35]; exact shp_sJ _ _ _ _) hM
              subst eS35
              simp only [bd_def, if_neg c34] at Jc34 ⊢
              exact Jc34
        · refine aw_goto hC 87 dX3_add_67 (by decide) ?_
          refine aw_aload_n hC 3 dX3_add_87 rfl rfl ?_
          refine aw_iconst (v := 1) hC dX3_add_88 (by decide) ?_
          refine aw_putI hC hSt 4 (rs_lt88 hM) (rs_k88 hM) rfl (by decide) w_276 rfl rfl (by decide) (by decide) dX3_add_89 ?_
          generalize eS41 : (sI S 88 4 (1 : Int32)) = S41
          have hM : RS h nx S41 := RS.of (by rw [← eS41]; exact shp_sI _ _ _ _) hM
          refine aw_vret hC dX3_add_92 (Nat.le_refl _) (Nat.le_refl _) ?_
          exact FP.qV ((bd_eq ex1).trans ((bd_eq ex4).trans ((bd_eq ex7).trans ((bd_eq ex8).trans ((if_neg c9).trans ((if_neg c31).trans ((bd_eq eS41).trans (rfl))))))))
    · refine aw_if_ne hC 46 dX3_add_35 (by decide) (fun c5 => ?_) (fun c5 => ?_)
      · simp only [bd_def, if_neg c5] at Jc5 ⊢
        exact Jc5
      · refine aw_lload hC 0 dX3_add_38 rfl ?_
        refine aw_ldc2 (v := -2) hC w_274 dX3_add_40 ?_
        refine aw_land hC dX3_add_43 ?_
        refine aw_lstore hC [(7, .long _), (6, .int _), (0, .ref 88), (1, .ref r1q), (2, .int _), (3, .int _), (4, .long _)] dX3_add_44 (by decide) rfl ?_
        generalize ex6 : (x4 &&& (-2 : Int64)) = x6
        subst ex6
        simp only [bd_def, if_pos c5] at Jc5 ⊢
        exact Jc5
  · refine aw_if_lt hC 16 dX3_add_8 (by decide) (fun c2 => ?_) (fun c2 => ?_)
    · refine aw_iload_n hC 4 dX3_add_16 rfl rfl ?_
      refine aw_bipush (v := -20) hC dX3_add_17 (by decide) ?_
      refine aw_icmp_le hC 30 dX3_add_19 (by decide) (fun c3 => ?_) (fun c3 => ?_)
      · refine aw_lconst (v := 0) hC dX3_add_30 (by decide) ?_
        simp only [bd_def, if_pos c2, if_pos c3] at Jc2 ⊢
        exact Jc2
      · refine aw_lload hC 5 dX3_add_22 rfl ?_
        refine aw_iload_n hC 4 dX3_add_24 rfl rfl ?_
        refine aw_ineg hC dX3_add_25 ?_
        refine aw_lushr hC dX3_add_26 ?_
        refine aw_goto hC 31 dX3_add_27 (by decide) ?_
        simp only [bd_def, if_pos c2, if_neg c3] at Jc2 ⊢
        exact Jc2
    · refine aw_lload hC 5 dX3_add_11 rfl ?_
      refine aw_goto hC 31 dX3_add_13 (by decide) ?_
      simp only [bd_def, if_neg c2] at Jc2 ⊢
      exact Jc2
theorem q_X3_add (S : HSt) (h nx : Nat) (_o0 : Nat) (r1q : Nat) (a2 : Int32) (a3 : Int32) (a4 : Int64) : shp (f_X3_add S h nx _o0 r1q a2 a3 a4) = shp S := by
  unfold f_X3_add
  repeat' (first | with_reducible rfl | with_reducible refine (shp_sI _ _ _ _).trans ?_ | with_reducible refine (shp_sJ _ _ _ _).trans ?_ | with_reducible refine (shp_rI _ _ _).trans ?_ | with_reducible refine shi ?_ ?_ | with_reducible refine shb (fun _ _ => ?_) | (subst_vars; with_reducible rfl) | (subst_vars; with_reducible refine (shp_sI _ _ _ _).trans ?_) | (subst_vars; with_reducible refine (shp_sJ _ _ _ _).trans ?_) | (subst_vars; with_reducible refine (shp_rI _ _ _).trans ?_) | (subst_vars; with_reducible refine shi ?_ ?_) | (subst_vars; with_reducible refine shb (fun _ _ => ?_)))
noncomputable def L_X3_spreadBands_3 (h : Nat) (nx : Nat) (sc1 : Nat) : Nat → HSt → Int32 → Int32 → Int32 → Int32 → Int32 × Int32 × Int32 × Int32 × HSt
  | 0, S, v2, v3, v4, v5 => (v2, v3, v4, v5, S)
  | n + 1, S, v2, v3, v4, v5 =>
    if (gI S 88 3) ≤ v5 then ((pr (v2) (pr (v3) (pr (v4) (pr (v5) (S)))))) else (bd ((f_X3_bandAt S h nx 88 v2 v5)) fun x1002 => bd ((if (lg_cmp x1002 (0 : Int64)) = 0 then S else (bd (((f_X7_needOf S sc1 v5) - v3)) fun x1004 => (if x1004 ≤ 0 then (bd (f_X3_add S h nx 88 nx v4 (v5 + (v3 / (2 : Int32))) x1002) fun r1006 => bd (f_X3_add r1006 h nx 88 nx v4 (v5 + v3) x1002) fun r1007 => r1007) else (bd (f_X3_add S h nx 88 nx v4 (v5 - ((5 : Int32) * x1004)) x1002) fun r1008 => r1008))))) fun S1009 => L_X3_spreadBands_3 h nx sc1 n S1009 v2 v3 v4 (v5 + (20 : Int32)))
def T_X3_spreadBands_3 (h : Nat) (nx : Nat) (sc1 : Nat) : Nat → HSt → Int32 → Int32 → Int32 → Int32 → Prop
  | 0, _, _, _, _, _ => False
  | n + 1, S, v2, v3, v4, v5 => ((¬ (gI S 88 3) ≤ v5) → p_X3_bandAt S h nx 88 v2 v5) ∧ ((¬ (gI S 88 3) ≤ v5) → ∀ x1002 : Int64, (f_X3_bandAt S h nx 88 v2 v5) = x1002 → (¬ (lg_cmp x1002 (0 : Int64)) = 0) → ∀ x1004 : Int32, ((f_X7_needOf S sc1 v5) - v3) = x1004 → (x1004 ≤ 0) → p_X3_add S h nx 88 nx v4 (v5 + (v3 / (2 : Int32))) x1002) ∧ ((¬ (gI S 88 3) ≤ v5) → ∀ x1002 : Int64, (f_X3_bandAt S h nx 88 v2 v5) = x1002 → (¬ (lg_cmp x1002 (0 : Int64)) = 0) → ∀ x1004 : Int32, ((f_X7_needOf S sc1 v5) - v3) = x1004 → (x1004 ≤ 0) → ∀ r1006, f_X3_add S h nx 88 nx v4 (v5 + (v3 / (2 : Int32))) x1002 = r1006 → p_X3_add r1006 h nx 88 nx v4 (v5 + v3) x1002) ∧ ((¬ (gI S 88 3) ≤ v5) → ∀ x1002 : Int64, (f_X3_bandAt S h nx 88 v2 v5) = x1002 → (¬ (lg_cmp x1002 (0 : Int64)) = 0) → ∀ x1004 : Int32, ((f_X7_needOf S sc1 v5) - v3) = x1004 → (¬ x1004 ≤ 0) → p_X3_add S h nx 88 nx v4 (v5 - ((5 : Int32) * x1004)) x1002) ∧ ((¬ (gI S 88 3) ≤ v5) → ∀ x1002 : Int64, (f_X3_bandAt S h nx 88 v2 v5) = x1002 → ∀ S1009 : HSt, (if (lg_cmp x1002 (0 : Int64)) = 0 then S else (bd (((f_X7_needOf S sc1 v5) - v3)) fun x1004 => (if x1004 ≤ 0 then (bd (f_X3_add S h nx 88 nx v4 (v5 + (v3 / (2 : Int32))) x1002) fun r1006 => bd (f_X3_add r1006 h nx 88 nx v4 (v5 + v3) x1002) fun r1007 => r1007) else (bd (f_X3_add S h nx 88 nx v4 (v5 - ((5 : Int32) * x1004)) x1002) fun r1008 => r1008)))) = S1009 → T_X3_spreadBands_3 h nx sc1 n S1009 v2 v3 v4 (v5 + (20 : Int32)))
theorem qL_X3_spreadBands_3 (h : Nat) (nx : Nat) (sc1 : Nat) : ∀ (n : Nat) (S : HSt) (v2 : Int32) (v3 : Int32) (v4 : Int32) (v5 : Int32), shp (L_X3_spreadBands_3 h nx sc1 n S v2 v3 v4 v5).2.2.2.2 = shp S := by
  intro n
  induction n with
  | zero => intros; rfl
  | succ n ih =>
    intro S v2 v3 v4 v5
    unfold L_X3_spreadBands_3
    repeat' (first | with_reducible refine shpr4 ?_ | with_reducible rfl | with_reducible refine (ih _ _ _ _ _).trans ?_ | with_reducible refine (q_X3_add _ _ _ _ _ _ _ _).trans ?_ | with_reducible refine (shp_sI _ _ _ _).trans ?_ | with_reducible refine (shp_sJ _ _ _ _).trans ?_ | with_reducible refine (shp_rI _ _ _).trans ?_ | with_reducible refine shi ?_ ?_ | with_reducible refine shb (fun _ _ => ?_) | with_reducible refine shiP (fun q : Int32 × Int32 × Int32 × Int32 × HSt => q.2.2.2.2) ?_ ?_ | with_reducible refine shbP (fun q : Int32 × Int32 × Int32 × Int32 × HSt => q.2.2.2.2) (fun _ _ => ?_) | (subst_vars; with_reducible rfl) | (subst_vars; with_reducible refine (ih _ _ _ _ _).trans ?_) | (subst_vars; with_reducible refine (q_X3_add _ _ _ _ _ _ _ _).trans ?_) | (subst_vars; with_reducible refine (shp_sI _ _ _ _).trans ?_) | (subst_vars; with_reducible refine (shp_sJ _ _ _ _).trans ?_) | (subst_vars; with_reducible refine (shp_rI _ _ _).trans ?_) | (subst_vars; with_reducible refine shi ?_ ?_) | (subst_vars; with_reducible refine shb (fun _ _ => ?_)))
set_option maxRecDepth 100000 in
theorem l_X3_spreadBands_3 {p : Program} {l : Launch} {e : Env} {s : State} {m : MethodId} {args : Array Value} {below : List Frame} {meth : Method} {c : Code} {G : GG} {Q : State → Prop} (hC : ACx p s m args meth c cX3_spreadBands RX3 9 none) (hSt : St G s) {h nx : Nat} {sc1 : Nat} (hsc1 : (sc1, 7, 0) ∈ cKT) : ∀ (n : Nat) (S : HSt) (v2 : Int32) (v3 : Int32) (v4 : Int32) (v5 : Int32), RS h nx S → T_X3_spreadBands_3 h nx sc1 n S v2 v3 v4 v5 → AW p l e (rmD 2 0 0) s m args below meth c G 9 Q (L_X3_spreadBands_3 h nx sc1 n S v2 v3 v4 v5).2.2.2.2 0 0 108 [(0, .ref 88), (1, .ref sc1), (2, .int (L_X3_spreadBands_3 h nx sc1 n S v2 v3 v4 v5).1), (3, .int (L_X3_spreadBands_3 h nx sc1 n S v2 v3 v4 v5).2.1), (4, .int (L_X3_spreadBands_3 h nx sc1 n S v2 v3 v4 v5).2.2.1), (5, .int (L_X3_spreadBands_3 h nx sc1 n S v2 v3 v4 v5).2.2.2.1)] [] → AW p l e (rmD 2 0 0) s m args below meth c G 9 Q S 0 0 3 [(0, .ref 88), (1, .ref sc1), (2, .int v2), (3, .int v3), (4, .int v4), (5, .int v5)] [] := by
  intro n
  induction n with
  | zero => intro S v2 v3 v4 v5 _ hT; exact hT.elim
  | succ n ih =>
    intro S v2 v3 v4 v5 hM hT hk
    unfold T_X3_spreadBands_3 at hT
    obtain ⟨h0, h1, h2, h3, h4⟩ := hT
    refine aw_iload hC 5 dX3_spreadBands_3 rfl ?_
    refine aw_aload_n hC 0 dX3_spreadBands_5 rfl rfl ?_
    refine aw_getI hC hSt 3 (rs_lt88 hM) (rs_k88 hM) rfl (by decide) w_275 rfl dX3_spreadBands_6 ?_
    refine aw_icmp_ge hC 108 dX3_spreadBands_9 (by decide) (fun c1001 => ?_) (fun c1001 => ?_)
    · refine aw_sub [0, 1, 2, 3, 4, 5] rfl ?_
      have E : L_X3_spreadBands_3 h nx sc1 (n + 1) S v2 v3 v4 v5 = _ := (if_pos c1001).trans (rfl)
      rw [E] at hk
      exact hk
    · refine aw_aload_n hC 0 dX3_spreadBands_12 rfl rfl ?_
      refine aw_iload_n hC 2 dX3_spreadBands_13 rfl rfl ?_
      refine aw_iload hC 5 dX3_spreadBands_14 rfl ?_
      refine aw_cV2r hC hSt (t_X3_bandAt G l hM _ _ (h0 c1001)) w_277 w_279 w_280 w_281 w_282 rfl rfl (by decide +kernel) ⟨Nat.le_of_ble_eq_true rfl, Nat.le_of_ble_eq_true rfl⟩ (rs_lt88 hM) (rs_k88 hM) rfl (Nat.le_of_ble_eq_true rfl) dX3_spreadBands_16 ⟨Nat.zero_le _, Nat.zero_le _⟩ ?_
      refine aw_lstore hC [(6, .long _), (0, .ref 88), (1, .ref sc1), (2, .int _), (3, .int _), (4, .int _), (5, .int _)] dX3_spreadBands_19 (by decide) rfl ?_
      generalize ex1002 : (f_X3_bandAt S h nx 88 v2 v5) = x1002
      refine aw_lload hC 0 dX3_spreadBands_21 rfl ?_
      refine aw_lconst (v := 0) hC dX3_spreadBands_23 (by decide) ?_
      refine aw_lcmp hC dX3_spreadBands_24 ?_
      refine aw_cut (S' := (if (lg_cmp x1002 (0 : Int64)) = 0 then S else (bd (((f_X7_needOf S sc1 v5) - v3)) fun x1004 => (if x1004 ≤ 0 then (bd (f_X3_add S h nx 88 nx v4 (v5 + (v3 / (2 : Int32))) x1002) fun r1006 => bd (f_X3_add r1006 h nx 88 nx v4 (v5 + v3) x1002) fun r1007 => r1007) else (bd (f_X3_add S h nx 88 nx v4 (v5 - ((5 : Int32) * x1004)) x1002) fun r1008 => r1008))))) (pc' := 102) (lv' := [(6, .long x1002), (0, .ref 88), (1, .ref sc1), (2, .int v2), (3, .int v3), (4, .int v4), (5, .int v5)]) (st' := []) ?_ (fun Jc1003 => ?_)
      · generalize eS1009 : (if (lg_cmp x1002 (0 : Int64)) = 0 then S else (bd (((f_X7_needOf S sc1 v5) - v3)) fun x1004 => (if x1004 ≤ 0 then (bd (f_X3_add S h nx 88 nx v4 (v5 + (v3 / (2 : Int32))) x1002) fun r1006 => bd (f_X3_add r1006 h nx 88 nx v4 (v5 + v3) x1002) fun r1007 => r1007) else (bd (f_X3_add S h nx 88 nx v4 (v5 - ((5 : Int32) * x1004)) x1002) fun r1008 => r1008)))) = S1009
        have hM : RS h nx S1009 := RS.of (by rw [← eS1009]; repeat' (first | with_reducible rfl | with_reducible refine (q_X3_add _ _ _ _ _ _ _ _).trans ?_ | with_reducible refine (shp_sI _ _ _ _).trans ?_ | with_reducible refine (shp_sJ _ _ _ _).trans ?_ | with_reducible refine (shp_rI _ _ _).trans ?_ | with_reducible refine shi ?_ ?_ | with_reducible refine shb (fun _ _ => ?_) | (subst_vars; with_reducible rfl) | (subst_vars; with_reducible refine (q_X3_add _ _ _ _ _ _ _ _).trans ?_) | (subst_vars; with_reducible refine (shp_sI _ _ _ _).trans ?_) | (subst_vars; with_reducible refine (shp_sJ _ _ _ _).trans ?_) | (subst_vars; with_reducible refine (shp_rI _ _ _).trans ?_) | (subst_vars; with_reducible refine shi ?_ ?_) | (subst_vars; with_reducible refine shb (fun _ _ => ?_)))) hM
        refine aw_iinc (v := (v5 + (20 : Int32))) hC 6 [(5, .int _), (6, .long _), (0, .ref 88), (1, .ref sc1), (2, .int _), (3, .int _), (4, .int _)] dX3_spreadBands_102 rfl rfl (by decide) rfl ?_
        refine aw_goto hC 3 dX3_spreadBands_105 (by decide) ?_
        refine aw_sub [2, 3, 4, 5, 6, 0] rfl ?_
        have hTn := (h4 c1001 x1002 ex1002 S1009 eS1009)
        have hMn : RS h nx S1009 := hM
        have E : L_X3_spreadBands_3 h nx sc1 (n + 1) S v2 v3 v4 v5 = _ := (if_neg c1001).trans ((bd_eq ex1002).trans ((bd_eq eS1009).trans (rfl)))
        rw [E] at hk
        exact ih _ _ _ _ _ hMn hTn hk
      · refine aw_if_ne hC 31 dX3_spreadBands_25 (by decide) (fun c1003 => ?_) (fun c1003 => ?_)
        · refine aw_aload_n hC 2 dX3_spreadBands_31 rfl rfl ?_
          refine aw_iload hC 6 dX3_spreadBands_32 rfl ?_
          refine aw_cV1r hC hSt (t_X7_needOf G l hM.1 _ _ hsc1) w_100 w_283 w_112 w_113 w_114 rfl rfl (by decide +kernel) ⟨Nat.le_of_ble_eq_true rfl, Nat.le_of_ble_eq_true rfl⟩ (cs_lt sc1 7 0 hsc1 hM.1) (cs_k sc1 7 0 hsc1 hM.1) rfl (Nat.le_of_ble_eq_true rfl) dX3_spreadBands_34 ⟨Nat.zero_le _, Nat.zero_le _⟩ ?_
          refine aw_iload_n hC 4 dX3_spreadBands_37 rfl rfl ?_
          refine aw_isub hC dX3_spreadBands_38 ?_
          refine aw_istore hC [(8, .int _), (6, .long _), (0, .ref 88), (1, .ref sc1), (2, .int _), (3, .int _), (4, .int _), (5, .int _)] dX3_spreadBands_39 (by decide) rfl ?_
          generalize ex1004 : ((f_X7_needOf S sc1 v5) - v3) = x1004
          refine aw_iload hC 0 dX3_spreadBands_41 rfl ?_
          refine aw_if_le hC 68 dX3_spreadBands_43 (by decide) (fun c1005 => ?_) (fun c1005 => ?_)
          · refine aw_aload_n hC 2 dX3_spreadBands_68 rfl rfl ?_
            refine aw_aload_n hC 2 dX3_spreadBands_69 rfl rfl ?_
            refine aw_getP (b := nx) hC hSt 1 (rs_lt88 hM) (rs_k88 hM) rfl (by decide) w_269 rfl (rs_pn hM) dX3_spreadBands_70 ?_
            refine aw_iload hC 6 dX3_spreadBands_73 rfl ?_
            refine aw_iload hC 7 dX3_spreadBands_75 rfl ?_
            refine aw_iload_n hC 5 dX3_spreadBands_77 rfl rfl ?_
            refine aw_iconst (v := 2) hC dX3_spreadBands_78 (by decide) ?_
            refine aw_idiv hC dX3_spreadBands_79 (by decide) ?_
            refine aw_iadd hC dX3_spreadBands_80 ?_
            refine aw_lload hC 1 dX3_spreadBands_81 rfl ?_
            refine aw_cV4v hC hSt (t_X3_add G l hM _ _ _ _ (Or.inr rfl) (h1 c1001 x1002 ex1002 c1003 x1004 ex1004 c1005)) w_272 w_284 w_285 w_286 w_282 rfl rfl (by decide +kernel) ⟨Nat.le_of_ble_eq_true rfl, Nat.le_of_ble_eq_true rfl⟩ (rs_lt88 hM) (rs_k88 hM) rfl (Nat.le_of_ble_eq_true rfl) dX3_spreadBands_83 ⟨Nat.zero_le _, Nat.zero_le _⟩ ?_
            generalize er1006 : f_X3_add S h nx 88 nx v4 (v5 + (v3 / (2 : Int32))) x1002 = r1006
            have hM : RS h nx r1006 := RS.of (by rw [← er1006]; exact q_X3_add _ _ _ _ _ _ _ _) hM
            refine aw_aload_n hC 2 dX3_spreadBands_86 rfl rfl ?_
            refine aw_aload_n hC 2 dX3_spreadBands_87 rfl rfl ?_
            refine aw_getP (b := nx) hC hSt 1 (rs_lt88 hM) (rs_k88 hM) rfl (by decide) w_269 rfl (rs_pn hM) dX3_spreadBands_88 ?_
            refine aw_iload hC 6 dX3_spreadBands_91 rfl ?_
            refine aw_iload hC 7 dX3_spreadBands_93 rfl ?_
            refine aw_iload_n hC 5 dX3_spreadBands_95 rfl rfl ?_
            refine aw_iadd hC dX3_spreadBands_96 ?_
            refine aw_lload hC 1 dX3_spreadBands_97 rfl ?_
            refine aw_cV4v hC hSt (t_X3_add G l hM _ _ _ _ (Or.inr rfl) (h2 c1001 x1002 ex1002 c1003 x1004 ex1004 c1005 r1006 er1006)) w_272 w_284 w_285 w_286 w_282 rfl rfl (by decide +kernel) ⟨Nat.le_of_ble_eq_true rfl, Nat.le_of_ble_eq_true rfl⟩ (rs_lt88 hM) (rs_k88 hM) rfl (Nat.le_of_ble_eq_true rfl) dX3_spreadBands_99 ⟨Nat.zero_le _, Nat.zero_le _⟩ ?_
            generalize er1007 : f_X3_add r1006 h nx 88 nx v4 (v5 + v3) x1002 = r1007
            have hM : RS h nx r1007 := RS.of (by rw [← er1007]; exact q_X3_add _ _ _ _ _ _ _ _) hM
            refine aw_sub [1, 2, 3, 4, 5, 6, 7] rfl ?_
            subst er1007
            subst er1006
            subst ex1004
            simp only [bd_def, if_neg c1003, if_pos c1005] at Jc1003 ⊢
            exact Jc1003
          · refine aw_aload_n hC 2 dX3_spreadBands_46 rfl rfl ?_
            refine aw_aload_n hC 2 dX3_spreadBands_47 rfl rfl ?_
            refine aw_getP (b := nx) hC hSt 1 (rs_lt88 hM) (rs_k88 hM) rfl (by decide) w_269 rfl (rs_pn hM) dX3_spreadBands_48 ?_
            refine aw_iload hC 6 dX3_spreadBands_51 rfl ?_
            refine aw_iload hC 7 dX3_spreadBands_53 rfl ?_
            refine aw_iconst (v := 5) hC dX3_spreadBands_55 (by decide) ?_
            refine aw_iload hC 0 dX3_spreadBands_56 rfl ?_
            refine aw_imul hC dX3_spreadBands_58 ?_
            refine aw_isub hC dX3_spreadBands_59 ?_
            refine aw_lload hC 1 dX3_spreadBands_60 rfl ?_
            refine aw_cV4v hC hSt (t_X3_add G l hM _ _ _ _ (Or.inr rfl) (h3 c1001 x1002 ex1002 c1003 x1004 ex1004 c1005)) w_272 w_284 w_285 w_286 w_282 rfl rfl (by decide +kernel) ⟨Nat.le_of_ble_eq_true rfl, Nat.le_of_ble_eq_true rfl⟩ (rs_lt88 hM) (rs_k88 hM) rfl (Nat.le_of_ble_eq_true rfl) dX3_spreadBands_62 ⟨Nat.zero_le _, Nat.zero_le _⟩ ?_
            generalize er1008 : f_X3_add S h nx 88 nx v4 (v5 - ((5 : Int32) * x1004)) x1002 = r1008
            have hM : RS h nx r1008 := RS.of (by rw [← er1008]; exact q_X3_add _ _ _ _ _ _ _ _) hM
            refine aw_goto hC 102 dX3_spreadBands_65 (by decide) ?_
            refine aw_sub [1, 2, 3, 4, 5, 6, 7] rfl ?_
            subst er1008
            subst ex1004
            simp only [bd_def, if_neg c1003, if_neg c1005] at Jc1003 ⊢
            exact Jc1003
        · refine aw_goto hC 102 dX3_spreadBands_28 (by decide) ?_
          simp only [bd_def, if_pos c1003] at Jc1003 ⊢
          exact Jc1003
noncomputable def f_X3_spreadBands (S : HSt) (h nx : Nat) (_o0 : Nat) (sc1 : Nat) (a2 : Int32) (a3 : Int32) (a4 : Int32) : HSt := bd (L_X3_spreadBands_3 h nx sc1 1000 S a2 a3 a4 (0 : Int32)) fun r1 => r1.2.2.2.2
def p_X3_spreadBands (S : HSt) (h nx : Nat) (_o0 : Nat) (sc1 : Nat) (a2 : Int32) (a3 : Int32) (a4 : Int32) : Prop := (T_X3_spreadBands_3 h nx sc1 1000 S a2 a3 a4 (0 : Int32))
set_option maxRecDepth 100000 in
theorem t_X3_spreadBands (G : GG) (l : Launch) {h nx : Nat} {S : HSt} (hM : RS h nx S) (sc1 : Nat) (a2 : Int32) (a3 : Int32) (a4 : Int32) (hsc1 : (sc1, 7, 0) ∈ cKT) (hp : p_X3_spreadBands S h nx 88 sc1 a2 a3 a4) : AM G l yX3_spreadBands cX3_spreadBands 9 none (rmD 2 0 0) 0 0 [.ref 88, .ref sc1, .int a2, .int a3, .int a4] S (FP none (f_X3_spreadBands S h nx 88 sc1 a2 a3 a4)) := by
  have h0 := hp
  unfold p_X3_spreadBands at h0
  refine AM.mk (by decide) (Nat.le_of_ble_eq_true rfl) ?_
  intro p e s m below meth c hC hSt _
  refine aw_iconst (v := 0) hC dX3_spreadBands_0 (by decide) ?_
  refine aw_istore hC [(5, .int _), (0, .ref 88), (1, .ref sc1), (2, .int _), (3, .int _), (4, .int _)] dX3_spreadBands_1 (by decide) rfl ?_
  refine aw_sub [1, 2, 3, 4, 5, 0] rfl ?_
  refine l_X3_spreadBands_3 hC hSt hsc1 1000 _ _ _ _ _ hM (h0) ?_
  generalize er1 : L_X3_spreadBands_3 h nx sc1 1000 S a2 a3 a4 (0 : Int32) = r1
  have hM : RS h nx r1.2.2.2.2 := RS.of (by rw [← er1]; exact qL_X3_spreadBands_3 h nx sc1 _ _ _ _ _ _) hM
  refine aw_vret hC dX3_spreadBands_108 (Nat.le_refl _) (Nat.le_refl _) ?_
  exact FP.qV ((bd_eq er1).trans (rfl))
theorem q_X3_spreadBands (S : HSt) (h nx : Nat) (_o0 : Nat) (sc1 : Nat) (a2 : Int32) (a3 : Int32) (a4 : Int32) : shp (f_X3_spreadBands S h nx _o0 sc1 a2 a3 a4) = shp S := by
  unfold f_X3_spreadBands
  repeat' (first | with_reducible rfl | with_reducible refine (q_X3_add _ _ _ _ _ _ _ _).trans ?_ | with_reducible refine (qL_X3_spreadBands_3 h nx sc1 _ _ _ _ _ _).trans ?_ | with_reducible refine (shp_sI _ _ _ _).trans ?_ | with_reducible refine (shp_sJ _ _ _ _).trans ?_ | with_reducible refine (shp_rI _ _ _).trans ?_ | with_reducible refine shi ?_ ?_ | with_reducible refine shb (fun _ _ => ?_) | (subst_vars; with_reducible rfl) | (subst_vars; with_reducible refine (q_X3_add _ _ _ _ _ _ _ _).trans ?_) | (subst_vars; with_reducible refine (qL_X3_spreadBands_3 h nx sc1 _ _ _ _ _ _).trans ?_) | (subst_vars; with_reducible refine (shp_sI _ _ _ _).trans ?_) | (subst_vars; with_reducible refine (shp_sJ _ _ _ _).trans ?_) | (subst_vars; with_reducible refine (shp_rI _ _ _).trans ?_) | (subst_vars; with_reducible refine shi ?_ ?_) | (subst_vars; with_reducible refine shb (fun _ _ => ?_)))
noncomputable def L_X3_spread_6 (h : Nat) (nx : Nat) (sc1 : Nat) : Nat → HSt → Int32 → Int32 → Int32 → Int32 → Int32 → Int32 × Int32 × Int32 × Int32 × Int32 × HSt
  | 0, S, v2, v3, v4, v5, v6 => (v2, v3, v4, v5, v6, S)
  | n + 1, S, v2, v3, v4, v5, v6 =>
    if (3 : Int32) < v6 then ((pr (v2) (pr (v3) (pr (v4) (pr (v5) (pr (v6) (S))))))) else (bd ((f_X1_turned S v3 v6 ((gI S 88 2) + v4))) fun x1002 => bd ((if x1002 = v5 then v5 else (if (16 : Int32) ≤ x1002 then v5 else (if (181 : Int32) ≤ (v4 + x1002) then v5 else (bd (f_X3_spreadBands S h nx 88 sc1 v2 x1002 (f_X3_placeOf S x1002 (v4 + x1002))) fun r1006 => x1002))))) fun x1007 => bd ((if x1002 = v5 then S else (if (16 : Int32) ≤ x1002 then S else (if (181 : Int32) ≤ (v4 + x1002) then S else (bd (f_X3_spreadBands S h nx 88 sc1 v2 x1002 (f_X3_placeOf S x1002 (v4 + x1002))) fun r1006 => r1006))))) fun S1008 => L_X3_spread_6 h nx sc1 n S1008 v2 v3 v4 x1007 (v6 + (1 : Int32)))
def T_X3_spread_6 (h : Nat) (nx : Nat) (sc1 : Nat) : Nat → HSt → Int32 → Int32 → Int32 → Int32 → Int32 → Prop
  | 0, _, _, _, _, _, _ => False
  | n + 1, S, v2, v3, v4, v5, v6 => ((¬ (3 : Int32) < v6) → ∀ x1002 : Int32, (f_X1_turned S v3 v6 ((gI S 88 2) + v4)) = x1002 → (¬ x1002 = v5) → (¬ (16 : Int32) ≤ x1002) → (¬ (181 : Int32) ≤ (v4 + x1002)) → p_X3_spreadBands S h nx 88 sc1 v2 x1002 (f_X3_placeOf S x1002 (v4 + x1002))) ∧ ((¬ (3 : Int32) < v6) → ∀ x1002 : Int32, (f_X1_turned S v3 v6 ((gI S 88 2) + v4)) = x1002 → ∀ x1007 : Int32, (if x1002 = v5 then v5 else (if (16 : Int32) ≤ x1002 then v5 else (if (181 : Int32) ≤ (v4 + x1002) then v5 else (bd (f_X3_spreadBands S h nx 88 sc1 v2 x1002 (f_X3_placeOf S x1002 (v4 + x1002))) fun r1006 => x1002)))) = x1007 → ∀ S1008 : HSt, (if x1002 = v5 then S else (if (16 : Int32) ≤ x1002 then S else (if (181 : Int32) ≤ (v4 + x1002) then S else (bd (f_X3_spreadBands S h nx 88 sc1 v2 x1002 (f_X3_placeOf S x1002 (v4 + x1002))) fun r1006 => r1006)))) = S1008 → T_X3_spread_6 h nx sc1 n S1008 v2 v3 v4 x1007 (v6 + (1 : Int32)))
theorem qL_X3_spread_6 (h : Nat) (nx : Nat) (sc1 : Nat) : ∀ (n : Nat) (S : HSt) (v2 : Int32) (v3 : Int32) (v4 : Int32) (v5 : Int32) (v6 : Int32), shp (L_X3_spread_6 h nx sc1 n S v2 v3 v4 v5 v6).2.2.2.2.2 = shp S := by
  intro n
  induction n with
  | zero => intros; rfl
  | succ n ih =>
    intro S v2 v3 v4 v5 v6
    unfold L_X3_spread_6
    repeat' (first | with_reducible refine shpr5 ?_ | with_reducible rfl | with_reducible refine (ih _ _ _ _ _ _).trans ?_ | with_reducible refine (q_X3_spreadBands _ _ _ _ _ _ _ _).trans ?_ | with_reducible refine (shp_sI _ _ _ _).trans ?_ | with_reducible refine (shp_sJ _ _ _ _).trans ?_ | with_reducible refine (shp_rI _ _ _).trans ?_ | with_reducible refine shi ?_ ?_ | with_reducible refine shb (fun _ _ => ?_) | with_reducible refine shiP (fun q : Int32 × Int32 × Int32 × Int32 × Int32 × HSt => q.2.2.2.2.2) ?_ ?_ | with_reducible refine shbP (fun q : Int32 × Int32 × Int32 × Int32 × Int32 × HSt => q.2.2.2.2.2) (fun _ _ => ?_) | (subst_vars; with_reducible rfl) | (subst_vars; with_reducible refine (ih _ _ _ _ _ _).trans ?_) | (subst_vars; with_reducible refine (q_X3_spreadBands _ _ _ _ _ _ _ _).trans ?_) | (subst_vars; with_reducible refine (shp_sI _ _ _ _).trans ?_) | (subst_vars; with_reducible refine (shp_sJ _ _ _ _).trans ?_) | (subst_vars; with_reducible refine (shp_rI _ _ _).trans ?_) | (subst_vars; with_reducible refine shi ?_ ?_) | (subst_vars; with_reducible refine shb (fun _ _ => ?_)))
set_option maxRecDepth 100000 in
theorem l_X3_spread_6 {p : Program} {l : Launch} {e : Env} {s : State} {m : MethodId} {args : Array Value} {below : List Frame} {meth : Method} {c : Code} {G : GG} {Q : State → Prop} (hC : ACx p s m args meth c cX3_spread RX3 8 none) (hSt : St G s) {h nx : Nat} {sc1 : Nat} (hsc1 : (sc1, 7, 0) ∈ cKT) : ∀ (n : Nat) (S : HSt) (v2 : Int32) (v3 : Int32) (v4 : Int32) (v5 : Int32) (v6 : Int32), RS h nx S → T_X3_spread_6 h nx sc1 n S v2 v3 v4 v5 v6 → AW p l e (rmD 3 0 0) s m args below meth c G 8 Q (L_X3_spread_6 h nx sc1 n S v2 v3 v4 v5 v6).2.2.2.2.2 0 0 80 [(0, .ref 88), (1, .ref sc1), (2, .int (L_X3_spread_6 h nx sc1 n S v2 v3 v4 v5 v6).1), (3, .int (L_X3_spread_6 h nx sc1 n S v2 v3 v4 v5 v6).2.1), (4, .int (L_X3_spread_6 h nx sc1 n S v2 v3 v4 v5 v6).2.2.1), (5, .int (L_X3_spread_6 h nx sc1 n S v2 v3 v4 v5 v6).2.2.2.1), (6, .int (L_X3_spread_6 h nx sc1 n S v2 v3 v4 v5 v6).2.2.2.2.1)] [] → AW p l e (rmD 3 0 0) s m args below meth c G 8 Q S 0 0 6 [(0, .ref 88), (1, .ref sc1), (2, .int v2), (3, .int v3), (4, .int v4), (5, .int v5), (6, .int v6)] [] := by
  intro n
  induction n with
  | zero => intro S v2 v3 v4 v5 v6 _ hT; exact hT.elim
  | succ n ih =>
    intro S v2 v3 v4 v5 v6 hM hT hk
    unfold T_X3_spread_6 at hT
    obtain ⟨h0, h1⟩ := hT
    refine aw_iload hC 6 dX3_spread_6 rfl ?_
    refine aw_iconst (v := 3) hC dX3_spread_8 (by decide) ?_
    refine aw_icmp_gt hC 80 dX3_spread_9 (by decide) (fun c1001 => ?_) (fun c1001 => ?_)
    · refine aw_sub [0, 1, 2, 3, 4, 5, 6] rfl ?_
      have E : L_X3_spread_6 h nx sc1 (n + 1) S v2 v3 v4 v5 v6 = _ := (if_pos c1001).trans (rfl)
      rw [E] at hk
      exact hk
    · refine aw_iload_n hC 3 dX3_spread_12 rfl rfl ?_
      refine aw_iload hC 6 dX3_spread_13 rfl ?_
      refine aw_aload_n hC 0 dX3_spread_15 rfl rfl ?_
      refine aw_getI hC hSt 2 (rs_lt88 hM) (rs_k88 hM) rfl (by decide) w_288 rfl dX3_spread_16 ?_
      refine aw_iload hC 4 dX3_spread_19 rfl ?_
      refine aw_iadd hC dX3_spread_21 ?_
      refine aw_cS3r hC hSt (t_X1_turned G l  _ _ _) w_89 w_289 w_99 w_84 rfl rfl (by decide +kernel) ⟨Nat.le_of_ble_eq_true rfl, Nat.le_of_ble_eq_true rfl⟩ (Nat.le_of_ble_eq_true rfl) dX3_spread_22 ⟨Nat.zero_le _, Nat.zero_le _⟩ ?_
      refine aw_istore hC [(7, .int _), (0, .ref 88), (1, .ref sc1), (2, .int _), (3, .int _), (4, .int _), (5, .int _), (6, .int _)] dX3_spread_25 (by decide) rfl ?_
      generalize ex1002 : (f_X1_turned S v3 v6 ((gI S 88 2) + v4)) = x1002
      refine aw_iload hC 0 dX3_spread_27 rfl ?_
      refine aw_iload hC 6 dX3_spread_29 rfl ?_
      refine aw_cut (S' := (if x1002 = v5 then S else (if (16 : Int32) ≤ x1002 then S else (if (181 : Int32) ≤ (v4 + x1002) then S else (bd (f_X3_spreadBands S h nx 88 sc1 v2 x1002 (f_X3_placeOf S x1002 (v4 + x1002))) fun r1006 => r1006))))) (pc' := 74) (lv' := [(7, .int x1002), (0, .ref 88), (1, .ref sc1), (2, .int v2), (3, .int v3), (4, .int v4), (5, .int (if x1002 = v5 then v5 else (if (16 : Int32) ≤ x1002 then v5 else (if (181 : Int32) ≤ (v4 + x1002) then v5 else (bd (f_X3_spreadBands S h nx 88 sc1 v2 x1002 (f_X3_placeOf S x1002 (v4 + x1002))) fun r1006 => x1002))))), (6, .int v6)]) (st' := []) ?_ (fun Jc1003 => ?_)
      · generalize ex1007 : (if x1002 = v5 then v5 else (if (16 : Int32) ≤ x1002 then v5 else (if (181 : Int32) ≤ (v4 + x1002) then v5 else (bd (f_X3_spreadBands S h nx 88 sc1 v2 x1002 (f_X3_placeOf S x1002 (v4 + x1002))) fun r1006 => x1002)))) = x1007
        generalize eS1008 : (if x1002 = v5 then S else (if (16 : Int32) ≤ x1002 then S else (if (181 : Int32) ≤ (v4 + x1002) then S else (bd (f_X3_spreadBands S h nx 88 sc1 v2 x1002 (f_X3_placeOf S x1002 (v4 + x1002))) fun r1006 => r1006)))) = S1008
        have hM : RS h nx S1008 := RS.of (by rw [← eS1008]; repeat' (first | with_reducible rfl | with_reducible refine (q_X3_spreadBands _ _ _ _ _ _ _ _).trans ?_ | with_reducible refine (shp_sI _ _ _ _).trans ?_ | with_reducible refine (shp_sJ _ _ _ _).trans ?_ | with_reducible refine (shp_rI _ _ _).trans ?_ | with_reducible refine shi ?_ ?_ | with_reducible refine shb (fun _ _ => ?_) | (subst_vars; with_reducible rfl) | (subst_vars; with_reducible refine (q_X3_spreadBands _ _ _ _ _ _ _ _).trans ?_) | (subst_vars; with_reducible refine (shp_sI _ _ _ _).trans ?_) | (subst_vars; with_reducible refine (shp_sJ _ _ _ _).trans ?_) | (subst_vars; with_reducible refine (shp_rI _ _ _).trans ?_) | (subst_vars; with_reducible refine shi ?_ ?_) | (subst_vars; with_reducible refine shb (fun _ _ => ?_)))) hM
        refine aw_iinc (v := (v6 + (1 : Int32))) hC 7 [(6, .int _), (7, .int _), (0, .ref 88), (1, .ref sc1), (2, .int _), (3, .int _), (4, .int _), (5, .int _)] dX3_spread_74 rfl rfl (by decide) rfl ?_
        refine aw_goto hC 6 dX3_spread_77 (by decide) ?_
        refine aw_sub [2, 3, 4, 5, 6, 7, 0] rfl ?_
        have hTn := (h1 c1001 x1002 ex1002 x1007 ex1007 S1008 eS1008)
        have hMn : RS h nx S1008 := hM
        have E : L_X3_spread_6 h nx sc1 (n + 1) S v2 v3 v4 v5 v6 = _ := (if_neg c1001).trans ((bd_eq ex1002).trans ((bd_eq ex1007).trans ((bd_eq eS1008).trans (rfl))))
        rw [E] at hk
        exact ih _ _ _ _ _ _ hMn hTn hk
      · refine aw_icmp_eq hC 74 dX3_spread_31 (by decide) (fun c1003 => ?_) (fun c1003 => ?_)
        · simp only [bd_def, if_pos c1003] at Jc1003 ⊢
          exact Jc1003
        · refine aw_iload hC 0 dX3_spread_34 rfl ?_
          refine aw_bipush (v := 16) hC dX3_spread_36 (by decide) ?_
          refine aw_icmp_ge hC 74 dX3_spread_38 (by decide) (fun c1004 => ?_) (fun c1004 => ?_)
          · simp only [bd_def, if_neg c1003, if_pos c1004] at Jc1003 ⊢
            exact Jc1003
          · refine aw_iload hC 5 dX3_spread_41 rfl ?_
            refine aw_iload hC 0 dX3_spread_43 rfl ?_
            refine aw_iadd hC dX3_spread_45 ?_
            refine aw_sipush (v := 181) hC dX3_spread_46 (by decide) ?_
            refine aw_icmp_ge hC 74 dX3_spread_49 (by decide) (fun c1005 => ?_) (fun c1005 => ?_)
            · simp only [bd_def, if_neg c1003, if_neg c1004, if_pos c1005] at Jc1003 ⊢
              exact Jc1003
            · refine aw_iload hC 0 dX3_spread_52 rfl ?_
              refine aw_istore hC [(5, .int _), (7, .int _), (0, .ref 88), (1, .ref sc1), (2, .int _), (3, .int _), (4, .int _), (6, .int _)] dX3_spread_54 (by decide) rfl ?_
              refine aw_aload_n hC 2 dX3_spread_56 rfl rfl ?_
              refine aw_aload_n hC 3 dX3_spread_57 rfl rfl ?_
              refine aw_iload_n hC 4 dX3_spread_58 rfl rfl ?_
              refine aw_iload hC 1 dX3_spread_59 rfl ?_
              refine aw_iload hC 1 dX3_spread_61 rfl ?_
              refine aw_iload hC 6 dX3_spread_63 rfl ?_
              refine aw_iload hC 1 dX3_spread_65 rfl ?_
              refine aw_iadd hC dX3_spread_67 ?_
              refine aw_cS2r hC hSt (t_X3_placeOf G l  _ _) w_271 w_290 w_291 w_282 rfl rfl (by decide +kernel) ⟨Nat.le_of_ble_eq_true rfl, Nat.le_of_ble_eq_true rfl⟩ (Nat.le_of_ble_eq_true rfl) dX3_spread_68 ⟨Nat.zero_le _, Nat.zero_le _⟩ ?_
              refine aw_cV4v hC hSt (t_X3_spreadBands G l hM _ _ _ _ hsc1 (h0 c1001 x1002 ex1002 c1003 c1004 c1005)) w_287 w_292 w_293 w_294 w_282 rfl rfl (by decide +kernel) ⟨Nat.le_of_ble_eq_true rfl, Nat.le_of_ble_eq_true rfl⟩ (rs_lt88 hM) (rs_k88 hM) rfl (Nat.le_of_ble_eq_true rfl) dX3_spread_71 ⟨Nat.zero_le _, Nat.zero_le _⟩ ?_
              generalize er1006 : f_X3_spreadBands S h nx 88 sc1 v2 x1002 (f_X3_placeOf S x1002 (v4 + x1002)) = r1006
              have hM : RS h nx r1006 := RS.of (by rw [← er1006]; exact q_X3_spreadBands _ _ _ _ _ _ _ _) hM
              refine aw_sub [1, 2, 3, 4, 5, 6, 0, 7] rfl ?_
              subst er1006
              simp only [bd_def, if_neg c1003, if_neg c1004, if_neg c1005] at Jc1003 ⊢
              exact Jc1003
noncomputable def f_X3_spread (S : HSt) (h nx : Nat) (_o0 : Nat) (sc1 : Nat) (a2 : Int32) (a3 : Int32) (a4 : Int32) : HSt := bd (L_X3_spread_6 h nx sc1 1000 S a2 a3 a4 (-1 : Int32) (1 : Int32)) fun r1 => r1.2.2.2.2.2
def p_X3_spread (S : HSt) (h nx : Nat) (_o0 : Nat) (sc1 : Nat) (a2 : Int32) (a3 : Int32) (a4 : Int32) : Prop := (T_X3_spread_6 h nx sc1 1000 S a2 a3 a4 (-1 : Int32) (1 : Int32))
set_option maxRecDepth 100000 in
theorem t_X3_spread (G : GG) (l : Launch) {h nx : Nat} {S : HSt} (hM : RS h nx S) (sc1 : Nat) (a2 : Int32) (a3 : Int32) (a4 : Int32) (hsc1 : (sc1, 7, 0) ∈ cKT) (hp : p_X3_spread S h nx 88 sc1 a2 a3 a4) : AM G l yX3_spread cX3_spread 8 none (rmD 3 0 0) 0 0 [.ref 88, .ref sc1, .int a2, .int a3, .int a4] S (FP none (f_X3_spread S h nx 88 sc1 a2 a3 a4)) := by
  have h0 := hp
  unfold p_X3_spread at h0
  refine AM.mk (by decide) (Nat.le_of_ble_eq_true rfl) ?_
  intro p e s m below meth c hC hSt _
  refine aw_iconst (v := -1) hC dX3_spread_0 (by decide) ?_
  refine aw_istore hC [(5, .int _), (0, .ref 88), (1, .ref sc1), (2, .int _), (3, .int _), (4, .int _)] dX3_spread_1 (by decide) rfl ?_
  refine aw_iconst (v := 1) hC dX3_spread_3 (by decide) ?_
  refine aw_istore hC [(6, .int _), (5, .int _), (0, .ref 88), (1, .ref sc1), (2, .int _), (3, .int _), (4, .int _)] dX3_spread_4 (by decide) rfl ?_
  refine aw_sub [2, 3, 4, 5, 6, 1, 0] rfl ?_
  refine l_X3_spread_6 hC hSt hsc1 1000 _ _ _ _ _ _ hM (h0) ?_
  generalize er1 : L_X3_spread_6 h nx sc1 1000 S a2 a3 a4 (-1 : Int32) (1 : Int32) = r1
  have hM : RS h nx r1.2.2.2.2.2 := RS.of (by rw [← er1]; exact qL_X3_spread_6 h nx sc1 _ _ _ _ _ _ _) hM
  refine aw_vret hC dX3_spread_80 (Nat.le_refl _) (Nat.le_refl _) ?_
  exact FP.qV ((bd_eq er1).trans (rfl))
theorem q_X3_spread (S : HSt) (h nx : Nat) (_o0 : Nat) (sc1 : Nat) (a2 : Int32) (a3 : Int32) (a4 : Int32) : shp (f_X3_spread S h nx _o0 sc1 a2 a3 a4) = shp S := by
  unfold f_X3_spread
  repeat' (first | with_reducible rfl | with_reducible refine (q_X3_spreadBands _ _ _ _ _ _ _ _).trans ?_ | with_reducible refine (qL_X3_spread_6 h nx sc1 _ _ _ _ _ _ _).trans ?_ | with_reducible refine (shp_sI _ _ _ _).trans ?_ | with_reducible refine (shp_sJ _ _ _ _).trans ?_ | with_reducible refine (shp_rI _ _ _).trans ?_ | with_reducible refine shi ?_ ?_ | with_reducible refine shb (fun _ _ => ?_) | (subst_vars; with_reducible rfl) | (subst_vars; with_reducible refine (q_X3_spreadBands _ _ _ _ _ _ _ _).trans ?_) | (subst_vars; with_reducible refine (qL_X3_spread_6 h nx sc1 _ _ _ _ _ _ _).trans ?_) | (subst_vars; with_reducible refine (shp_sI _ _ _ _).trans ?_) | (subst_vars; with_reducible refine (shp_sJ _ _ _ _).trans ?_) | (subst_vars; with_reducible refine (shp_rI _ _ _).trans ?_) | (subst_vars; with_reducible refine shi ?_ ?_) | (subst_vars; with_reducible refine shb (fun _ _ => ?_)))
noncomputable def L_X3_spreadAll_11 (h : Nat) (nx : Nat) (sc1 : Nat) : Nat → HSt → Int32 → Int32 → Int32 → Int32 × Int32 × Int32 × HSt
  | 0, S, v2, v3, v4 => (v2, v3, v4, S)
  | n + 1, S, v2, v3, v4 =>
    if v2 < v4 then ((pr (v2) (pr (v3) (pr (v4) (S))))) else (if (181 : Int32) ≤ v4 then ((pr (v2) (pr (v3) (pr (v4) (S))))) else (bd ((f_X3_placeOf S v3 v4)) fun x2004 => bd ((if (lg_cmp ((((gJ S h x2004.toNatClampNeg) ||| (gJ S h (x2004 + (1 : Int32)).toNatClampNeg)) ||| (gJ S h (x2004 + (2 : Int32)).toNatClampNeg)) ||| (gJ S h (x2004 + (3 : Int32)).toNatClampNeg)) (0 : Int64)) = 0 then S else (bd (f_X3_spread S h nx 88 sc1 x2004 v3 v4) fun r2006 => bd (f_X3_emptyAt r2006 h nx 88 x2004) fun r2007 => r2007))) fun S2008 => L_X3_spreadAll_11 h nx sc1 n S2008 v2 v3 (v4 + (1 : Int32))))
def T_X3_spreadAll_11 (h : Nat) (nx : Nat) (sc1 : Nat) : Nat → HSt → Int32 → Int32 → Int32 → Prop
  | 0, _, _, _, _ => False
  | n + 1, S, v2, v3, v4 => ((¬ v2 < v4) → (¬ (181 : Int32) ≤ v4) → ∀ x2004 : Int32, (f_X3_placeOf S v3 v4) = x2004 → vp_in x2004 11584) ∧ ((¬ v2 < v4) → (¬ (181 : Int32) ≤ v4) → ∀ x2004 : Int32, (f_X3_placeOf S v3 v4) = x2004 → vp_in (x2004 + (1 : Int32)) 11584) ∧ ((¬ v2 < v4) → (¬ (181 : Int32) ≤ v4) → ∀ x2004 : Int32, (f_X3_placeOf S v3 v4) = x2004 → vp_in (x2004 + (2 : Int32)) 11584) ∧ ((¬ v2 < v4) → (¬ (181 : Int32) ≤ v4) → ∀ x2004 : Int32, (f_X3_placeOf S v3 v4) = x2004 → vp_in (x2004 + (3 : Int32)) 11584) ∧ ((¬ v2 < v4) → (¬ (181 : Int32) ≤ v4) → ∀ x2004 : Int32, (f_X3_placeOf S v3 v4) = x2004 → (¬ (lg_cmp ((((gJ S h x2004.toNatClampNeg) ||| (gJ S h (x2004 + (1 : Int32)).toNatClampNeg)) ||| (gJ S h (x2004 + (2 : Int32)).toNatClampNeg)) ||| (gJ S h (x2004 + (3 : Int32)).toNatClampNeg)) (0 : Int64)) = 0) → p_X3_spread S h nx 88 sc1 x2004 v3 v4) ∧ ((¬ v2 < v4) → (¬ (181 : Int32) ≤ v4) → ∀ x2004 : Int32, (f_X3_placeOf S v3 v4) = x2004 → (¬ (lg_cmp ((((gJ S h x2004.toNatClampNeg) ||| (gJ S h (x2004 + (1 : Int32)).toNatClampNeg)) ||| (gJ S h (x2004 + (2 : Int32)).toNatClampNeg)) ||| (gJ S h (x2004 + (3 : Int32)).toNatClampNeg)) (0 : Int64)) = 0) → ∀ r2006, f_X3_spread S h nx 88 sc1 x2004 v3 v4 = r2006 → p_X3_emptyAt r2006 h nx 88 x2004) ∧ ((¬ v2 < v4) → (¬ (181 : Int32) ≤ v4) → ∀ x2004 : Int32, (f_X3_placeOf S v3 v4) = x2004 → ∀ S2008 : HSt, (if (lg_cmp ((((gJ S h x2004.toNatClampNeg) ||| (gJ S h (x2004 + (1 : Int32)).toNatClampNeg)) ||| (gJ S h (x2004 + (2 : Int32)).toNatClampNeg)) ||| (gJ S h (x2004 + (3 : Int32)).toNatClampNeg)) (0 : Int64)) = 0 then S else (bd (f_X3_spread S h nx 88 sc1 x2004 v3 v4) fun r2006 => bd (f_X3_emptyAt r2006 h nx 88 x2004) fun r2007 => r2007)) = S2008 → T_X3_spreadAll_11 h nx sc1 n S2008 v2 v3 (v4 + (1 : Int32)))
theorem qL_X3_spreadAll_11 (h : Nat) (nx : Nat) (sc1 : Nat) : ∀ (n : Nat) (S : HSt) (v2 : Int32) (v3 : Int32) (v4 : Int32), shp (L_X3_spreadAll_11 h nx sc1 n S v2 v3 v4).2.2.2 = shp S := by
  intro n
  induction n with
  | zero => intros; rfl
  | succ n ih =>
    intro S v2 v3 v4
    unfold L_X3_spreadAll_11
    repeat' (first | with_reducible refine shpr3 ?_ | with_reducible rfl | with_reducible refine (ih _ _ _ _).trans ?_ | with_reducible refine (q_X3_emptyAt _ _ _ _ _).trans ?_ | with_reducible refine (q_X3_spread _ _ _ _ _ _ _ _).trans ?_ | with_reducible refine (shp_sI _ _ _ _).trans ?_ | with_reducible refine (shp_sJ _ _ _ _).trans ?_ | with_reducible refine (shp_rI _ _ _).trans ?_ | with_reducible refine shi ?_ ?_ | with_reducible refine shb (fun _ _ => ?_) | with_reducible refine shiP (fun q : Int32 × Int32 × Int32 × HSt => q.2.2.2) ?_ ?_ | with_reducible refine shbP (fun q : Int32 × Int32 × Int32 × HSt => q.2.2.2) (fun _ _ => ?_) | (subst_vars; with_reducible rfl) | (subst_vars; with_reducible refine (ih _ _ _ _).trans ?_) | (subst_vars; with_reducible refine (q_X3_emptyAt _ _ _ _ _).trans ?_) | (subst_vars; with_reducible refine (q_X3_spread _ _ _ _ _ _ _ _).trans ?_) | (subst_vars; with_reducible refine (shp_sI _ _ _ _).trans ?_) | (subst_vars; with_reducible refine (shp_sJ _ _ _ _).trans ?_) | (subst_vars; with_reducible refine (shp_rI _ _ _).trans ?_) | (subst_vars; with_reducible refine shi ?_ ?_) | (subst_vars; with_reducible refine shb (fun _ _ => ?_)))
set_option maxRecDepth 100000 in
theorem l_X3_spreadAll_11 {p : Program} {l : Launch} {e : Env} {s : State} {m : MethodId} {args : Array Value} {below : List Frame} {meth : Method} {c : Code} {G : GG} {Q : State → Prop} (hC : ACx p s m args meth c cX3_spreadAll RX3 6 none) (hSt : St G s) {h nx : Nat} {sc1 : Nat} (hsc1 : (sc1, 7, 0) ∈ cKT) : ∀ (n : Nat) (S : HSt) (v2 : Int32) (v3 : Int32) (v4 : Int32), RS h nx S → T_X3_spreadAll_11 h nx sc1 n S v2 v3 v4 → AW p l e (rmD 4 0 0) s m args below meth c G 6 Q (L_X3_spreadAll_11 h nx sc1 n S v2 v3 v4).2.2.2 0 0 97 [(0, .ref 88), (1, .ref sc1), (2, .int (L_X3_spreadAll_11 h nx sc1 n S v2 v3 v4).1), (3, .int (L_X3_spreadAll_11 h nx sc1 n S v2 v3 v4).2.1), (4, .int (L_X3_spreadAll_11 h nx sc1 n S v2 v3 v4).2.2.1)] [] → AW p l e (rmD 4 0 0) s m args below meth c G 6 Q S 0 0 11 [(0, .ref 88), (1, .ref sc1), (2, .int v2), (3, .int v3), (4, .int v4)] [] := by
  intro n
  induction n with
  | zero => intro S v2 v3 v4 _ hT; exact hT.elim
  | succ n ih =>
    intro S v2 v3 v4 hM hT hk
    unfold T_X3_spreadAll_11 at hT
    obtain ⟨h0, h1, h2, h3, h4, h5, h6⟩ := hT
    refine aw_iload hC 4 dX3_spreadAll_11 rfl ?_
    refine aw_iload_n hC 2 dX3_spreadAll_13 rfl rfl ?_
    refine aw_icmp_gt hC 97 dX3_spreadAll_14 (by decide) (fun c2002 => ?_) (fun c2002 => ?_)
    · refine aw_sub [0, 1, 2, 3, 4] rfl ?_
      have E : L_X3_spreadAll_11 h nx sc1 (n + 1) S v2 v3 v4 = _ := (if_pos c2002).trans (rfl)
      rw [E] at hk
      exact hk
    · refine aw_iload hC 4 dX3_spreadAll_17 rfl ?_
      refine aw_sipush (v := 181) hC dX3_spreadAll_19 (by decide) ?_
      refine aw_icmp_ge hC 97 dX3_spreadAll_22 (by decide) (fun c2003 => ?_) (fun c2003 => ?_)
      · refine aw_sub [0, 1, 2, 3, 4] rfl ?_
        have E : L_X3_spreadAll_11 h nx sc1 (n + 1) S v2 v3 v4 = _ := (if_neg c2002).trans ((if_pos c2003).trans (rfl))
        rw [E] at hk
        exact hk
      · refine aw_iload_n hC 3 dX3_spreadAll_25 rfl rfl ?_
        refine aw_iload hC 4 dX3_spreadAll_26 rfl ?_
        refine aw_cS2r hC hSt (t_X3_placeOf G l  _ _) w_271 w_290 w_291 w_282 rfl rfl (by decide +kernel) ⟨Nat.le_of_ble_eq_true rfl, Nat.le_of_ble_eq_true rfl⟩ (Nat.le_of_ble_eq_true rfl) dX3_spreadAll_28 ⟨Nat.zero_le _, Nat.zero_le _⟩ ?_
        refine aw_istore hC [(5, .int _), (0, .ref 88), (1, .ref sc1), (2, .int _), (3, .int _), (4, .int _)] dX3_spreadAll_31 (by decide) rfl ?_
        generalize ex2004 : (f_X3_placeOf S v3 v4) = x2004
        refine aw_aload_n hC 1 dX3_spreadAll_33 rfl rfl ?_
        refine aw_getP (b := h) hC hSt 0 (rs_lt88 hM) (rs_k88 hM) rfl (by decide) w_268 rfl (rs_ph hM) dX3_spreadAll_34 ?_
        refine aw_iload hC 0 dX3_spreadAll_37 rfl ?_
        refine aw_lald hC hSt (rs_lt (Or.inl rfl) hM) (rs_k (Or.inl rfl) hM) (vp_len (n := 11584) (rs_l (Or.inl rfl) hM) (h0 c2002 c2003 x2004 ex2004)) dX3_spreadAll_39 ?_
        refine aw_aload_n hC 1 dX3_spreadAll_40 rfl rfl ?_
        refine aw_getP (b := h) hC hSt 0 (rs_lt88 hM) (rs_k88 hM) rfl (by decide) w_268 rfl (rs_ph hM) dX3_spreadAll_41 ?_
        refine aw_iload hC 0 dX3_spreadAll_44 rfl ?_
        refine aw_iconst (v := 1) hC dX3_spreadAll_46 (by decide) ?_
        refine aw_iadd hC dX3_spreadAll_47 ?_
        refine aw_lald hC hSt (rs_lt (Or.inl rfl) hM) (rs_k (Or.inl rfl) hM) (vp_len (n := 11584) (rs_l (Or.inl rfl) hM) (h1 c2002 c2003 x2004 ex2004)) dX3_spreadAll_48 ?_
        refine aw_lor hC dX3_spreadAll_49 ?_
        refine aw_aload_n hC 1 dX3_spreadAll_50 rfl rfl ?_
        refine aw_getP (b := h) hC hSt 0 (rs_lt88 hM) (rs_k88 hM) rfl (by decide) w_268 rfl (rs_ph hM) dX3_spreadAll_51 ?_
        refine aw_iload hC 0 dX3_spreadAll_54 rfl ?_
        refine aw_iconst (v := 2) hC dX3_spreadAll_56 (by decide) ?_
        refine aw_iadd hC dX3_spreadAll_57 ?_
        refine aw_lald hC hSt (rs_lt (Or.inl rfl) hM) (rs_k (Or.inl rfl) hM) (vp_len (n := 11584) (rs_l (Or.inl rfl) hM) (h2 c2002 c2003 x2004 ex2004)) dX3_spreadAll_58 ?_
        refine aw_lor hC dX3_spreadAll_59 ?_
        refine aw_aload_n hC 1 dX3_spreadAll_60 rfl rfl ?_
        refine aw_getP (b := h) hC hSt 0 (rs_lt88 hM) (rs_k88 hM) rfl (by decide) w_268 rfl (rs_ph hM) dX3_spreadAll_61 ?_
        refine aw_iload hC 0 dX3_spreadAll_64 rfl ?_
        refine aw_iconst (v := 3) hC dX3_spreadAll_66 (by decide) ?_
        refine aw_iadd hC dX3_spreadAll_67 ?_
        refine aw_lald hC hSt (rs_lt (Or.inl rfl) hM) (rs_k (Or.inl rfl) hM) (vp_len (n := 11584) (rs_l (Or.inl rfl) hM) (h3 c2002 c2003 x2004 ex2004)) dX3_spreadAll_68 ?_
        refine aw_lor hC dX3_spreadAll_69 ?_
        refine aw_lconst (v := 0) hC dX3_spreadAll_70 (by decide) ?_
        refine aw_lcmp hC dX3_spreadAll_71 ?_
        refine aw_cut (S' := (if (lg_cmp ((((gJ S h x2004.toNatClampNeg) ||| (gJ S h (x2004 + (1 : Int32)).toNatClampNeg)) ||| (gJ S h (x2004 + (2 : Int32)).toNatClampNeg)) ||| (gJ S h (x2004 + (3 : Int32)).toNatClampNeg)) (0 : Int64)) = 0 then S else (bd (f_X3_spread S h nx 88 sc1 x2004 v3 v4) fun r2006 => bd (f_X3_emptyAt r2006 h nx 88 x2004) fun r2007 => r2007))) (pc' := 91) (lv' := [(5, .int x2004), (0, .ref 88), (1, .ref sc1), (2, .int v2), (3, .int v3), (4, .int v4)]) (st' := []) ?_ (fun Jc2005 => ?_)
        · generalize eS2008 : (if (lg_cmp ((((gJ S h x2004.toNatClampNeg) ||| (gJ S h (x2004 + (1 : Int32)).toNatClampNeg)) ||| (gJ S h (x2004 + (2 : Int32)).toNatClampNeg)) ||| (gJ S h (x2004 + (3 : Int32)).toNatClampNeg)) (0 : Int64)) = 0 then S else (bd (f_X3_spread S h nx 88 sc1 x2004 v3 v4) fun r2006 => bd (f_X3_emptyAt r2006 h nx 88 x2004) fun r2007 => r2007)) = S2008
          have hM : RS h nx S2008 := RS.of (by rw [← eS2008]; repeat' (first | with_reducible rfl | with_reducible refine (q_X3_emptyAt _ _ _ _ _).trans ?_ | with_reducible refine (q_X3_spread _ _ _ _ _ _ _ _).trans ?_ | with_reducible refine (shp_sI _ _ _ _).trans ?_ | with_reducible refine (shp_sJ _ _ _ _).trans ?_ | with_reducible refine (shp_rI _ _ _).trans ?_ | with_reducible refine shi ?_ ?_ | with_reducible refine shb (fun _ _ => ?_) | (subst_vars; with_reducible rfl) | (subst_vars; with_reducible refine (q_X3_emptyAt _ _ _ _ _).trans ?_) | (subst_vars; with_reducible refine (q_X3_spread _ _ _ _ _ _ _ _).trans ?_) | (subst_vars; with_reducible refine (shp_sI _ _ _ _).trans ?_) | (subst_vars; with_reducible refine (shp_sJ _ _ _ _).trans ?_) | (subst_vars; with_reducible refine (shp_rI _ _ _).trans ?_) | (subst_vars; with_reducible refine shi ?_ ?_) | (subst_vars; with_reducible refine shb (fun _ _ => ?_)))) hM
          refine aw_iinc (v := (v4 + (1 : Int32))) hC 5 [(4, .int _), (5, .int _), (0, .ref 88), (1, .ref sc1), (2, .int _), (3, .int _)] dX3_spreadAll_91 rfl rfl (by decide) rfl ?_
          refine aw_goto hC 11 dX3_spreadAll_94 (by decide) ?_
          refine aw_sub [2, 3, 4, 5, 0] rfl ?_
          have hTn := (h6 c2002 c2003 x2004 ex2004 S2008 eS2008)
          have hMn : RS h nx S2008 := hM
          have E : L_X3_spreadAll_11 h nx sc1 (n + 1) S v2 v3 v4 = _ := (if_neg c2002).trans ((if_neg c2003).trans ((bd_eq ex2004).trans ((bd_eq eS2008).trans (rfl))))
          rw [E] at hk
          exact ih _ _ _ _ hMn hTn hk
        · refine aw_if_eq hC 91 dX3_spreadAll_72 (by decide) (fun c2005 => ?_) (fun c2005 => ?_)
          · simp only [bd_def, if_pos c2005] at Jc2005 ⊢
            exact Jc2005
          · refine aw_aload_n hC 1 dX3_spreadAll_75 rfl rfl ?_
            refine aw_aload_n hC 2 dX3_spreadAll_76 rfl rfl ?_
            refine aw_iload hC 0 dX3_spreadAll_77 rfl ?_
            refine aw_iload_n hC 4 dX3_spreadAll_79 rfl rfl ?_
            refine aw_iload hC 5 dX3_spreadAll_80 rfl ?_
            refine aw_cV4v hC hSt (t_X3_spread G l hM _ _ _ _ hsc1 (h4 c2002 c2003 x2004 ex2004 c2005)) w_295 w_297 w_298 w_299 w_282 rfl rfl (by decide +kernel) ⟨Nat.le_of_ble_eq_true rfl, Nat.le_of_ble_eq_true rfl⟩ (rs_lt88 hM) (rs_k88 hM) rfl (Nat.le_of_ble_eq_true rfl) dX3_spreadAll_82 ⟨Nat.zero_le _, Nat.zero_le _⟩ ?_
            generalize er2006 : f_X3_spread S h nx 88 sc1 x2004 v3 v4 = r2006
            have hM : RS h nx r2006 := RS.of (by rw [← er2006]; exact q_X3_spread _ _ _ _ _ _ _ _) hM
            refine aw_aload_n hC 1 dX3_spreadAll_85 rfl rfl ?_
            refine aw_iload hC 0 dX3_spreadAll_86 rfl ?_
            refine aw_cV1v hC hSt (t_X3_emptyAt G l hM _ (h5 c2002 c2003 x2004 ex2004 c2005 r2006 er2006)) w_296 w_300 w_301 w_302 w_282 rfl rfl (by decide +kernel) ⟨Nat.le_of_ble_eq_true rfl, Nat.le_of_ble_eq_true rfl⟩ (rs_lt88 hM) (rs_k88 hM) rfl (Nat.le_of_ble_eq_true rfl) dX3_spreadAll_88 ⟨Nat.zero_le _, Nat.zero_le _⟩ ?_
            generalize er2007 : f_X3_emptyAt r2006 h nx 88 x2004 = r2007
            have hM : RS h nx r2007 := RS.of (by rw [← er2007]; exact q_X3_emptyAt _ _ _ _ _) hM
            subst er2007
            subst er2006
            simp only [bd_def, if_neg c2005] at Jc2005 ⊢
            exact Jc2005
noncomputable def L_X3_spreadAll_2 (h : Nat) (nx : Nat) (sc1 : Nat) : Nat → HSt → Int32 → Int32 → Int32 × Int32 × HSt
  | 0, S, v2, v3 => (v2, v3, S)
  | n + 1, S, v2, v3 =>
    if (16 : Int32) ≤ v3 then ((pr (v2) (pr (v3) (S)))) else (bd (L_X3_spreadAll_11 h nx sc1 1000 S v2 v3 (0 : Int32)) fun r1002 => L_X3_spreadAll_2 h nx sc1 n r1002.2.2.2 r1002.1 (r1002.2.1 + (1 : Int32)))
def T_X3_spreadAll_2 (h : Nat) (nx : Nat) (sc1 : Nat) : Nat → HSt → Int32 → Int32 → Prop
  | 0, _, _, _ => False
  | n + 1, S, v2, v3 => ((¬ (16 : Int32) ≤ v3) → T_X3_spreadAll_11 h nx sc1 1000 S v2 v3 (0 : Int32)) ∧ ((¬ (16 : Int32) ≤ v3) → ∀ r1002, L_X3_spreadAll_11 h nx sc1 1000 S v2 v3 (0 : Int32) = r1002 → T_X3_spreadAll_2 h nx sc1 n r1002.2.2.2 r1002.1 (r1002.2.1 + (1 : Int32)))
theorem qL_X3_spreadAll_2 (h : Nat) (nx : Nat) (sc1 : Nat) : ∀ (n : Nat) (S : HSt) (v2 : Int32) (v3 : Int32), shp (L_X3_spreadAll_2 h nx sc1 n S v2 v3).2.2 = shp S := by
  intro n
  induction n with
  | zero => intros; rfl
  | succ n ih =>
    intro S v2 v3
    unfold L_X3_spreadAll_2
    repeat' (first | with_reducible refine shpr2 ?_ | with_reducible rfl | with_reducible refine (ih _ _ _).trans ?_ | with_reducible refine (q_X3_emptyAt _ _ _ _ _).trans ?_ | with_reducible refine (q_X3_spread _ _ _ _ _ _ _ _).trans ?_ | with_reducible refine (qL_X3_spreadAll_11 h nx sc1 _ _ _ _ _).trans ?_ | with_reducible refine (shp_sI _ _ _ _).trans ?_ | with_reducible refine (shp_sJ _ _ _ _).trans ?_ | with_reducible refine (shp_rI _ _ _).trans ?_ | with_reducible refine shi ?_ ?_ | with_reducible refine shb (fun _ _ => ?_) | with_reducible refine shiP (fun q : Int32 × Int32 × HSt => q.2.2) ?_ ?_ | with_reducible refine shbP (fun q : Int32 × Int32 × HSt => q.2.2) (fun _ _ => ?_) | (subst_vars; with_reducible rfl) | (subst_vars; with_reducible refine (ih _ _ _).trans ?_) | (subst_vars; with_reducible refine (q_X3_emptyAt _ _ _ _ _).trans ?_) | (subst_vars; with_reducible refine (q_X3_spread _ _ _ _ _ _ _ _).trans ?_) | (subst_vars; with_reducible refine (qL_X3_spreadAll_11 h nx sc1 _ _ _ _ _).trans ?_) | (subst_vars; with_reducible refine (shp_sI _ _ _ _).trans ?_) | (subst_vars; with_reducible refine (shp_sJ _ _ _ _).trans ?_) | (subst_vars; with_reducible refine (shp_rI _ _ _).trans ?_) | (subst_vars; with_reducible refine shi ?_ ?_) | (subst_vars; with_reducible refine shb (fun _ _ => ?_)))
set_option maxRecDepth 100000 in
theorem l_X3_spreadAll_2 {p : Program} {l : Launch} {e : Env} {s : State} {m : MethodId} {args : Array Value} {below : List Frame} {meth : Method} {c : Code} {G : GG} {Q : State → Prop} (hC : ACx p s m args meth c cX3_spreadAll RX3 6 none) (hSt : St G s) {h nx : Nat} {sc1 : Nat} (hsc1 : (sc1, 7, 0) ∈ cKT) : ∀ (n : Nat) (S : HSt) (v2 : Int32) (v3 : Int32), RS h nx S → T_X3_spreadAll_2 h nx sc1 n S v2 v3 → AW p l e (rmD 4 0 0) s m args below meth c G 6 Q (L_X3_spreadAll_2 h nx sc1 n S v2 v3).2.2 0 0 103 [(0, .ref 88), (1, .ref sc1), (2, .int (L_X3_spreadAll_2 h nx sc1 n S v2 v3).1), (3, .int (L_X3_spreadAll_2 h nx sc1 n S v2 v3).2.1)] [] → AW p l e (rmD 4 0 0) s m args below meth c G 6 Q S 0 0 2 [(0, .ref 88), (1, .ref sc1), (2, .int v2), (3, .int v3)] [] := by
  intro n
  induction n with
  | zero => intro S v2 v3 _ hT; exact hT.elim
  | succ n ih =>
    intro S v2 v3 hM hT hk
    unfold T_X3_spreadAll_2 at hT
    obtain ⟨h0, h1⟩ := hT
    refine aw_iload_n hC 3 dX3_spreadAll_2 rfl rfl ?_
    refine aw_bipush (v := 16) hC dX3_spreadAll_3 (by decide) ?_
    refine aw_icmp_ge hC 103 dX3_spreadAll_5 (by decide) (fun c1001 => ?_) (fun c1001 => ?_)
    · refine aw_sub [0, 1, 2, 3] rfl ?_
      have E : L_X3_spreadAll_2 h nx sc1 (n + 1) S v2 v3 = _ := (if_pos c1001).trans (rfl)
      rw [E] at hk
      exact hk
    · refine aw_iconst (v := 0) hC dX3_spreadAll_8 (by decide) ?_
      refine aw_istore hC [(4, .int _), (0, .ref 88), (1, .ref sc1), (2, .int _), (3, .int _)] dX3_spreadAll_9 (by decide) rfl ?_
      refine aw_sub [1, 2, 3, 4, 0] rfl ?_
      refine l_X3_spreadAll_11 hC hSt hsc1 1000 _ _ _ _ hM (h0 c1001) ?_
      generalize er1002 : L_X3_spreadAll_11 h nx sc1 1000 S v2 v3 (0 : Int32) = r1002
      have hM : RS h nx r1002.2.2.2 := RS.of (by rw [← er1002]; exact qL_X3_spreadAll_11 h nx sc1 _ _ _ _ _) hM
      refine aw_iinc (v := (r1002.2.1 + (1 : Int32))) hC 3 [(3, .int _), (0, .ref 88), (1, .ref sc1), (2, .int _), (4, .int _)] dX3_spreadAll_97 rfl rfl (by decide) rfl ?_
      refine aw_goto hC 2 dX3_spreadAll_100 (by decide) ?_
      refine aw_sub [1, 2, 3, 0] rfl ?_
      have hTn := (h1 c1001 r1002 er1002)
      have hMn : RS h nx r1002.2.2.2 := hM
      have E : L_X3_spreadAll_2 h nx sc1 (n + 1) S v2 v3 = _ := (if_neg c1001).trans ((bd_eq er1002).trans (rfl))
      rw [E] at hk
      exact ih _ _ _ hMn hTn hk
noncomputable def f_X3_spreadAll (S : HSt) (h nx : Nat) (_o0 : Nat) (sc1 : Nat) (a2 : Int32) : HSt := bd (L_X3_spreadAll_2 h nx sc1 1000 S a2 (0 : Int32)) fun r1 => r1.2.2
def p_X3_spreadAll (S : HSt) (h nx : Nat) (_o0 : Nat) (sc1 : Nat) (a2 : Int32) : Prop := (T_X3_spreadAll_2 h nx sc1 1000 S a2 (0 : Int32))
set_option maxRecDepth 100000 in
theorem t_X3_spreadAll (G : GG) (l : Launch) {h nx : Nat} {S : HSt} (hM : RS h nx S) (sc1 : Nat) (a2 : Int32) (hsc1 : (sc1, 7, 0) ∈ cKT) (hp : p_X3_spreadAll S h nx 88 sc1 a2) : AM G l yX3_spreadAll cX3_spreadAll 6 none (rmD 4 0 0) 0 0 [.ref 88, .ref sc1, .int a2] S (FP none (f_X3_spreadAll S h nx 88 sc1 a2)) := by
  have h0 := hp
  unfold p_X3_spreadAll at h0
  refine AM.mk (by decide) (Nat.le_of_ble_eq_true rfl) ?_
  intro p e s m below meth c hC hSt _
  refine aw_iconst (v := 0) hC dX3_spreadAll_0 (by decide) ?_
  refine aw_istore_n hC [(3, .int _), (0, .ref 88), (1, .ref sc1), (2, .int _)] dX3_spreadAll_1 rfl (by decide) rfl ?_
  refine aw_sub [1, 2, 3, 0] rfl ?_
  refine l_X3_spreadAll_2 hC hSt hsc1 1000 _ _ _ hM (h0) ?_
  generalize er1 : L_X3_spreadAll_2 h nx sc1 1000 S a2 (0 : Int32) = r1
  have hM : RS h nx r1.2.2 := RS.of (by rw [← er1]; exact qL_X3_spreadAll_2 h nx sc1 _ _ _ _) hM
  refine aw_vret hC dX3_spreadAll_103 (Nat.le_refl _) (Nat.le_refl _) ?_
  exact FP.qV ((bd_eq er1).trans (rfl))
theorem q_X3_spreadAll (S : HSt) (h nx : Nat) (_o0 : Nat) (sc1 : Nat) (a2 : Int32) : shp (f_X3_spreadAll S h nx _o0 sc1 a2) = shp S := by
  unfold f_X3_spreadAll
  repeat' (first | with_reducible rfl | with_reducible refine (q_X3_emptyAt _ _ _ _ _).trans ?_ | with_reducible refine (q_X3_spread _ _ _ _ _ _ _ _).trans ?_ | with_reducible refine (qL_X3_spreadAll_2 h nx sc1 _ _ _ _).trans ?_ | with_reducible refine (qL_X3_spreadAll_11 h nx sc1 _ _ _ _ _).trans ?_ | with_reducible refine (shp_sI _ _ _ _).trans ?_ | with_reducible refine (shp_sJ _ _ _ _).trans ?_ | with_reducible refine (shp_rI _ _ _).trans ?_ | with_reducible refine shi ?_ ?_ | with_reducible refine shb (fun _ _ => ?_) | (subst_vars; with_reducible rfl) | (subst_vars; with_reducible refine (q_X3_emptyAt _ _ _ _ _).trans ?_) | (subst_vars; with_reducible refine (q_X3_spread _ _ _ _ _ _ _ _).trans ?_) | (subst_vars; with_reducible refine (qL_X3_spreadAll_2 h nx sc1 _ _ _ _).trans ?_) | (subst_vars; with_reducible refine (qL_X3_spreadAll_11 h nx sc1 _ _ _ _ _).trans ?_) | (subst_vars; with_reducible refine (shp_sI _ _ _ _).trans ?_) | (subst_vars; with_reducible refine (shp_sJ _ _ _ _).trans ?_) | (subst_vars; with_reducible refine (shp_rI _ _ _).trans ?_) | (subst_vars; with_reducible refine shi ?_ ?_) | (subst_vars; with_reducible refine shb (fun _ _ => ?_)))
noncomputable def L_X3_ticksTo_97 (sc1 : Nat) (w4q : Nat) : Nat → HSt → Nat → Nat → Int32 → Int32 → Int32 → Int32 × Int32 × Int32 × Int32 × Int32 × HSt
  | 0, S, h, nx, v2, v3, v5 => ((1 : Int32), 0, v2, v3, v5, S)
  | n + 1, S, h, nx, v2, v3, v5 =>
    if v3 < v5 then ((pr ((0 : Int32)) (pr (0) (pr (v2) (pr (v3) (pr (v5) (S))))))) else (if (12 : Int32) < v5 then ((pr ((0 : Int32)) (pr (0) (pr (v2) (pr (v3) (pr (v5) (S))))))) else (bd (f_X3_spreadAll S h nx 88 sc1 ((15 : Int32) * (v5 - (1 : Int32)))) fun r1012 => if (gI r1012 88 4) = 0 then (bd ((sP (sP r1012 88 0 (some nx)) 88 1 (some h))) fun S1014 => L_X3_ticksTo_97 sc1 w4q n S1014 nx h v2 v3 (v5 + (1 : Int32))) else ((pr ((1 : Int32)) (pr (v5) (pr (v2) (pr (v3) (pr (v5) (r1012)))))))))
def T_X3_ticksTo_97 (sc1 : Nat) (w4q : Nat) : Nat → HSt → Nat → Nat → Int32 → Int32 → Int32 → Prop
  | 0, _, _, _, _, _, _ => False
  | n + 1, S, h, nx, v2, v3, v5 => ((¬ v3 < v5) → (¬ (12 : Int32) < v5) → p_X3_spreadAll S h nx 88 sc1 ((15 : Int32) * (v5 - (1 : Int32)))) ∧ ((¬ v3 < v5) → (¬ (12 : Int32) < v5) → ∀ r1012, f_X3_spreadAll S h nx 88 sc1 ((15 : Int32) * (v5 - (1 : Int32))) = r1012 → ((gI r1012 88 4) = 0) → ∀ S1014 : HSt, (sP (sP r1012 88 0 (some nx)) 88 1 (some h)) = S1014 → T_X3_ticksTo_97 sc1 w4q n S1014 nx h v2 v3 (v5 + (1 : Int32)))
set_option maxRecDepth 100000 in
theorem l_X3_ticksTo_97 {p : Program} {l : Launch} {e : Env} {s : State} {m : MethodId} {args : Array Value} {below : List Frame} {meth : Method} {c : Code} {G : GG} {Post : Option Value → HSt → Prop} (hC : ACx p s m args meth c cX3_ticksTo RX3 7 (some .int)) (hSt : St G s) {sc1 : Nat} (hsc1 : (sc1, 7, 0) ∈ cKT) {w4q : Nat} (hw4q : (w4q, 1, 0) ∈ cKT) : ∀ (n : Nat) (S : HSt) (h nx : Nat) (v2 : Int32) (v3 : Int32) (v5 : Int32), RS h nx S → T_X3_ticksTo_97 sc1 w4q n S h nx v2 v3 v5 → ((L_X3_ticksTo_97 sc1 w4q n S h nx v2 v3 v5).1 = 1 → Post (some (.int (L_X3_ticksTo_97 sc1 w4q n S h nx v2 v3 v5).2.1)) (L_X3_ticksTo_97 sc1 w4q n S h nx v2 v3 v5).2.2.2.2.2) → ((L_X3_ticksTo_97 sc1 w4q n S h nx v2 v3 v5).1 ≠ 1 → AW p l e (rmD 5 0 0) s m args below meth c G 7 (AQ G below args s 0 0 Post) (L_X3_ticksTo_97 sc1 w4q n S h nx v2 v3 v5).2.2.2.2.2 0 0 158 [(0, .ref 88), (1, .ref sc1), (2, .int (L_X3_ticksTo_97 sc1 w4q n S h nx v2 v3 v5).2.2.1), (3, .int (L_X3_ticksTo_97 sc1 w4q n S h nx v2 v3 v5).2.2.2.1), (4, .ref w4q), (5, .int (L_X3_ticksTo_97 sc1 w4q n S h nx v2 v3 v5).2.2.2.2.1)] []) → AW p l e (rmD 5 0 0) s m args below meth c G 7 (AQ G below args s 0 0 Post) S 0 0 97 [(0, .ref 88), (1, .ref sc1), (2, .int v2), (3, .int v3), (4, .ref w4q), (5, .int v5)] [] := by
  intro n
  induction n with
  | zero => intro S h nx v2 v3 v5 _ hT; exact hT.elim
  | succ n ih =>
    intro S h nx v2 v3 v5 hM hT hr hk
    unfold T_X3_ticksTo_97 at hT
    obtain ⟨h0, h1⟩ := hT
    refine aw_iload hC 5 dX3_ticksTo_97 rfl ?_
    refine aw_iload_n hC 3 dX3_ticksTo_99 rfl rfl ?_
    refine aw_icmp_gt hC 158 dX3_ticksTo_100 (by decide) (fun c1010 => ?_) (fun c1010 => ?_)
    · refine aw_sub [0, 1, 2, 3, 4, 5] rfl ?_
      have E : L_X3_ticksTo_97 sc1 w4q (n + 1) S h nx v2 v3 v5 = _ := (if_pos c1010).trans (rfl)
      rw [E] at hk hr
      exact hk (by show ¬ (0 : Int32) = 1; decide)
    · refine aw_iload hC 5 dX3_ticksTo_103 rfl ?_
      refine aw_bipush (v := 12) hC dX3_ticksTo_105 (by decide) ?_
      refine aw_icmp_gt hC 158 dX3_ticksTo_107 (by decide) (fun c1011 => ?_) (fun c1011 => ?_)
      · refine aw_sub [0, 1, 2, 3, 4, 5] rfl ?_
        have E : L_X3_ticksTo_97 sc1 w4q (n + 1) S h nx v2 v3 v5 = _ := (if_neg c1010).trans ((if_pos c1011).trans (rfl))
        rw [E] at hk hr
        exact hk (by show ¬ (0 : Int32) = 1; decide)
      · refine aw_aload_n hC 0 dX3_ticksTo_110 rfl rfl ?_
        refine aw_aload_n hC 1 dX3_ticksTo_111 rfl rfl ?_
        refine aw_bipush (v := 15) hC dX3_ticksTo_112 (by decide) ?_
        refine aw_iload hC 5 dX3_ticksTo_114 rfl ?_
        refine aw_iconst (v := 1) hC dX3_ticksTo_116 (by decide) ?_
        refine aw_isub hC dX3_ticksTo_117 ?_
        refine aw_imul hC dX3_ticksTo_118 ?_
        refine aw_cV2v hC hSt (t_X3_spreadAll G l hM _ _ hsc1 (h0 c1010 c1011)) w_303 w_313 w_314 w_315 w_282 rfl rfl (by decide +kernel) ⟨Nat.le_of_ble_eq_true rfl, Nat.le_of_ble_eq_true rfl⟩ (rs_lt88 hM) (rs_k88 hM) rfl (Nat.le_of_ble_eq_true rfl) dX3_ticksTo_119 ⟨Nat.zero_le _, Nat.zero_le _⟩ ?_
        generalize er1012 : f_X3_spreadAll S h nx 88 sc1 ((15 : Int32) * (v5 - (1 : Int32))) = r1012
        have hM : RS h nx r1012 := RS.of (by rw [← er1012]; exact q_X3_spreadAll _ _ _ _ _ _) hM
        refine aw_aload_n hC 0 dX3_ticksTo_122 rfl rfl ?_
        refine aw_getI hC hSt 4 (rs_lt88 hM) (rs_k88 hM) rfl (by decide) w_276 rfl dX3_ticksTo_123 ?_
        refine aw_if_eq hC 132 dX3_ticksTo_126 (by decide) (fun c1013 => ?_) (fun c1013 => ?_)
        · refine aw_aload_n hC 0 dX3_ticksTo_132 rfl rfl ?_
          refine aw_getP (b := h) hC hSt 0 (rs_lt88 hM) (rs_k88 hM) rfl (by decide) w_268 rfl (rs_ph hM) dX3_ticksTo_133 ?_
          refine aw_astore hC [(6, .ref h), (0, .ref 88), (1, .ref sc1), (2, .int _), (3, .int _), (4, .ref w4q), (5, .int _)] dX3_ticksTo_136 (by decide) rfl ?_
          refine aw_aload_n hC 1 dX3_ticksTo_138 rfl rfl ?_
          refine aw_aload_n hC 1 dX3_ticksTo_139 rfl rfl ?_
          refine aw_getP (b := nx) hC hSt 1 (rs_lt88 hM) (rs_k88 hM) rfl (by decide) w_269 rfl (rs_pn hM) dX3_ticksTo_140 ?_
          refine aw_putP hC hSt 0 (rs_lt88 hM) (rs_k88 hM) rfl (by decide) w_268 rfl rfl (fun _ => rfl) (fun _ => rfl) dX3_ticksTo_143 ?_
          refine aw_aload_n hC 1 dX3_ticksTo_146 rfl rfl ?_
          refine aw_aload hC 0 dX3_ticksTo_147 rfl ?_
          refine aw_putP hC hSt 1 (@rs_lt88 h nx r1012 hM) (@rs_k88 h nx r1012 hM) rfl (by decide) w_269 rfl rfl (fun _ => rfl) (fun _ => rfl) dX3_ticksTo_149 ?_
          generalize eS1014 : (sP (sP r1012 88 0 (some nx)) 88 1 (some h)) = S1014
          have hM : RS nx h S1014 := by rw [← eS1014]; exact rs_swap hM
          refine aw_iinc (v := (v5 + (1 : Int32))) hC 6 [(5, .int _), (6, .ref h), (0, .ref 88), (1, .ref sc1), (2, .int _), (3, .int _), (4, .ref w4q)] dX3_ticksTo_152 rfl rfl (by decide) rfl ?_
          refine aw_goto hC 97 dX3_ticksTo_155 (by decide) ?_
          refine aw_sub [2, 3, 4, 5, 6, 0] rfl ?_
          have hTn := (h1 c1010 c1011 r1012 er1012 c1013 S1014 eS1014)
          have hMn : RS nx h  S1014 := hM
          have E : L_X3_ticksTo_97 sc1 w4q (n + 1) S h nx v2 v3 v5 = _ := (if_neg c1010).trans ((if_neg c1011).trans ((bd_eq er1012).trans ((if_pos c1013).trans ((bd_eq eS1014).trans (rfl)))))
          rw [E] at hk hr
          exact ih _ _ _ _ _ _ hMn hTn hr hk
        · refine aw_iload hC 5 dX3_ticksTo_129 rfl ?_
          refine aw_iret hC dX3_ticksTo_131 (Nat.le_refl _) (Nat.le_refl _) ?_
          have E : L_X3_ticksTo_97 sc1 w4q (n + 1) S h nx v2 v3 v5 = _ := (if_neg c1010).trans ((if_neg c1011).trans ((bd_eq er1012).trans ((if_neg c1013).trans (rfl))))
          rw [E] at hr
          exact hr rfl
noncomputable def f_X3_ticksTo (S : HSt) (h nx : Nat) (_o0 : Nat) (sc1 : Nat) (a2 : Int32) (a3 : Int32) : Int32 × HSt := if (gI S (sc1 + 4) 0) < a2 then (if (f_X1_hasFallen S (sc1 + 4)) = 0 then (if a2 ≤ (f_X7_room S sc1) then (bd (f_J7_fill_d0a16 S h nx h (0 : Int64)) fun r4 => bd (f_J7_fill_d0a16 r4 h nx nx (0 : Int64)) fun r5 => bd ((sI r5 88 2 (gI r5 (sc1 + 4) 3))) fun S6 => bd ((sI S6 88 3 a2)) fun S7 => bd ((sI S7 88 4 (0 : Int32))) fun S8 => bd (f_X3_add S8 h nx 88 h (f_X3_placeOf S8 (gI S8 (sc1 + 4) 1) (0 : Int32)) (gI S8 (sc1 + 4) 0) (1 : Int64)) fun r9 => bd (L_X3_ticksTo_97 sc1 (sc1 + 4) 1000 r9 h nx a2 a3 (1 : Int32)) fun r10 => if r10.1 = 1 then (pr (r10.2.1) (r10.2.2.2.2.2)) else (pr ((-1000000 : Int32)) (r10.2.2.2.2.2))) else (pr ((-1000000 : Int32)) (S))) else (pr ((-1000000 : Int32)) (S))) else (pr ((0 : Int32)) (S))
def p_X3_ticksTo (S : HSt) (h nx : Nat) (_o0 : Nat) (sc1 : Nat) (a2 : Int32) (a3 : Int32) : Prop := (((gI S (sc1 + 4) 0) < a2) → ((f_X1_hasFallen S (sc1 + 4)) = 0) → (a2 ≤ (f_X7_room S sc1)) → p_J7_fill_d0a16 S h nx h (0 : Int64)) ∧ (((gI S (sc1 + 4) 0) < a2) → ((f_X1_hasFallen S (sc1 + 4)) = 0) → (a2 ≤ (f_X7_room S sc1)) → ∀ r4, f_J7_fill_d0a16 S h nx h (0 : Int64) = r4 → p_J7_fill_d0a16 r4 h nx nx (0 : Int64)) ∧ (((gI S (sc1 + 4) 0) < a2) → ((f_X1_hasFallen S (sc1 + 4)) = 0) → (a2 ≤ (f_X7_room S sc1)) → ∀ r4, f_J7_fill_d0a16 S h nx h (0 : Int64) = r4 → ∀ r5, f_J7_fill_d0a16 r4 h nx nx (0 : Int64) = r5 → ∀ S6 : HSt, (sI r5 88 2 (gI r5 (sc1 + 4) 3)) = S6 → ∀ S7 : HSt, (sI S6 88 3 a2) = S7 → ∀ S8 : HSt, (sI S7 88 4 (0 : Int32)) = S8 → p_X3_add S8 h nx 88 h (f_X3_placeOf S8 (gI S8 (sc1 + 4) 1) (0 : Int32)) (gI S8 (sc1 + 4) 0) (1 : Int64)) ∧ (((gI S (sc1 + 4) 0) < a2) → ((f_X1_hasFallen S (sc1 + 4)) = 0) → (a2 ≤ (f_X7_room S sc1)) → ∀ r4, f_J7_fill_d0a16 S h nx h (0 : Int64) = r4 → ∀ r5, f_J7_fill_d0a16 r4 h nx nx (0 : Int64) = r5 → ∀ S6 : HSt, (sI r5 88 2 (gI r5 (sc1 + 4) 3)) = S6 → ∀ S7 : HSt, (sI S6 88 3 a2) = S7 → ∀ S8 : HSt, (sI S7 88 4 (0 : Int32)) = S8 → ∀ r9, f_X3_add S8 h nx 88 h (f_X3_placeOf S8 (gI S8 (sc1 + 4) 1) (0 : Int32)) (gI S8 (sc1 + 4) 0) (1 : Int64) = r9 → T_X3_ticksTo_97 sc1 (sc1 + 4) 1000 r9 h nx a2 a3 (1 : Int32))
set_option maxRecDepth 100000 in
theorem t_X3_ticksTo (G : GG) (l : Launch) {h nx : Nat} {S : HSt} (hM : RS h nx S) (sc1 : Nat) (a2 : Int32) (a3 : Int32) (hsc1 : (sc1, 7, 0) ∈ cKT) (hp : p_X3_ticksTo S h nx 88 sc1 a2 a3) : AM G l yX3_ticksTo cX3_ticksTo 7 (some .int) (rmD 5 0 0) 0 0 [.ref 88, .ref sc1, .int a2, .int a3] S (FP (some (.int (f_X3_ticksTo S h nx 88 sc1 a2 a3).1)) ((f_X3_ticksTo S h nx 88 sc1 a2 a3).2)) := by
  obtain ⟨h0, h1, h2, h3⟩ := hp
  refine AM.mk (by decide) (Nat.le_of_ble_eq_true rfl) ?_
  intro p e s m below meth c hC hSt _
  refine aw_aload_n hC 1 dX3_ticksTo_0 rfl rfl ?_
  refine aw_getP (b := (sc1 + 4)) hC hSt 1 (cs_lt sc1 7 0 hsc1 hM.1) (cs_k sc1 7 0 hsc1 hM.1) rfl (by decide) w_304 rfl (cs_p sc1 1 (sc1 + 4) (sc_ploop hsc1) hM.1) dX3_ticksTo_1 ?_
  refine aw_astore hC [(4, .ref (sc1 + 4)), (0, .ref 88), (1, .ref sc1), (2, .int _), (3, .int _)] dX3_ticksTo_4 (by decide) rfl ?_
  refine aw_aload hC 0 dX3_ticksTo_6 rfl ?_
  refine aw_getI hC hSt 0 (cs_lt (sc1 + 4) 1 0 (sc_loop hsc1) hM.1) (cs_k (sc1 + 4) 1 0 (sc_loop hsc1) hM.1) rfl (by decide) w_305 rfl dX3_ticksTo_8 ?_
  refine aw_iload_n hC 3 dX3_ticksTo_11 rfl rfl ?_
  refine aw_icmp_lt hC 17 dX3_ticksTo_12 (by decide) (fun c1 => ?_) (fun c1 => ?_)
  · refine aw_aload hC 0 dX3_ticksTo_17 rfl ?_
    refine aw_cV0r hC hSt (t_X1_hasFallen G l hM.1 _ (sc_loop hsc1)) w_88 w_309 w_204 w_205 w_84 rfl rfl (by decide +kernel) ⟨Nat.le_of_ble_eq_true rfl, Nat.le_of_ble_eq_true rfl⟩ (cs_lt (sc1 + 4) 1 0 (sc_loop hsc1) hM.1) (cs_k (sc1 + 4) 1 0 (sc_loop hsc1) hM.1) rfl (Nat.le_of_ble_eq_true rfl) dX3_ticksTo_19 ⟨Nat.zero_le _, Nat.zero_le _⟩ ?_
    refine aw_if_ne hC 33 dX3_ticksTo_22 (by decide) (fun c2 => ?_) (fun c2 => ?_)
    · refine aw_ldc (v := -1000000) hC w_306 dX3_ticksTo_33 ?_
      refine aw_iret hC dX3_ticksTo_35 (Nat.le_refl _) (Nat.le_refl _) ?_
      exact FP.qI ((if_pos c1).trans ((if_neg c2).trans (rfl)))
    · refine aw_iload_n hC 3 dX3_ticksTo_25 rfl rfl ?_
      refine aw_aload_n hC 2 dX3_ticksTo_26 rfl rfl ?_
      refine aw_cV0r hC hSt (t_X7_room G l hM.1 _ hsc1) w_104 w_310 w_116 w_117 w_114 rfl rfl (by decide +kernel) ⟨Nat.le_of_ble_eq_true rfl, Nat.le_of_ble_eq_true rfl⟩ (cs_lt sc1 7 0 hsc1 hM.1) (cs_k sc1 7 0 hsc1 hM.1) rfl (Nat.le_of_ble_eq_true rfl) dX3_ticksTo_27 ⟨Nat.zero_le _, Nat.zero_le _⟩ ?_
      refine aw_icmp_le hC 36 dX3_ticksTo_30 (by decide) (fun c3 => ?_) (fun c3 => ?_)
      · refine aw_aload_n hC 1 dX3_ticksTo_36 rfl rfl ?_
        refine aw_getP (b := h) hC hSt 0 (rs_lt88 hM) (rs_k88 hM) rfl (by decide) w_268 rfl (rs_ph hM) dX3_ticksTo_37 ?_
        refine aw_lconst (v := 0) hC dX3_ticksTo_40 (by decide) ?_
        refine aw_cS2v hC hSt (t_J7_fill_d0a16 G l hM _ _ (Or.inl rfl) (h0 c1 c2 c3)) w_270 w_311 w_312 w_261 rfl rfl (by decide +kernel) ⟨Nat.le_of_ble_eq_true rfl, Nat.le_of_ble_eq_true rfl⟩ (Nat.le_of_ble_eq_true rfl) dX3_ticksTo_41 ⟨Nat.zero_le _, Nat.zero_le _⟩ ?_
        generalize er4 : f_J7_fill_d0a16 S h nx h (0 : Int64) = r4
        have hM : RS h nx r4 := RS.of (by rw [← er4]; exact q_J7_fill_d0a16 _ _ _ _ _) hM
        refine aw_aload_n hC 1 dX3_ticksTo_44 rfl rfl ?_
        refine aw_getP (b := nx) hC hSt 1 (rs_lt88 hM) (rs_k88 hM) rfl (by decide) w_269 rfl (rs_pn hM) dX3_ticksTo_45 ?_
        refine aw_lconst (v := 0) hC dX3_ticksTo_48 (by decide) ?_
        refine aw_cS2v hC hSt (t_J7_fill_d0a16 G l hM _ _ (Or.inr rfl) (h1 c1 c2 c3 r4 er4)) w_270 w_311 w_312 w_261 rfl rfl (by decide +kernel) ⟨Nat.le_of_ble_eq_true rfl, Nat.le_of_ble_eq_true rfl⟩ (Nat.le_of_ble_eq_true rfl) dX3_ticksTo_49 ⟨Nat.zero_le _, Nat.zero_le _⟩ ?_
        generalize er5 : f_J7_fill_d0a16 r4 h nx nx (0 : Int64) = r5
        have hM : RS h nx r5 := RS.of (by rw [← er5]; exact q_J7_fill_d0a16 _ _ _ _ _) hM
        refine aw_aload_n hC 1 dX3_ticksTo_52 rfl rfl ?_
        refine aw_aload hC 0 dX3_ticksTo_53 rfl ?_
        refine aw_getI hC hSt 3 (cs_lt (sc1 + 4) 1 0 (sc_loop hsc1) hM.1) (cs_k (sc1 + 4) 1 0 (sc_loop hsc1) hM.1) rfl (by decide) w_307 rfl dX3_ticksTo_55 ?_
        refine aw_putI hC hSt 2 (rs_lt88 hM) (rs_k88 hM) rfl (by decide) w_288 rfl rfl rfl rfl dX3_ticksTo_58 ?_
        generalize eS6 : (sI r5 88 2 (gI r5 (sc1 + 4) 3)) = S6
        have hM : RS h nx S6 := RS.of (by rw [← eS6]; exact shp_sI _ _ _ _) hM
        refine aw_aload_n hC 1 dX3_ticksTo_61 rfl rfl ?_
        refine aw_iload_n hC 3 dX3_ticksTo_62 rfl rfl ?_
        refine aw_putI hC hSt 3 (rs_lt88 hM) (rs_k88 hM) rfl (by decide) w_275 rfl rfl rfl rfl dX3_ticksTo_63 ?_
        generalize eS7 : (sI S6 88 3 a2) = S7
        have hM : RS h nx S7 := RS.of (by rw [← eS7]; exact shp_sI _ _ _ _) hM
        refine aw_aload_n hC 1 dX3_ticksTo_66 rfl rfl ?_
        refine aw_iconst (v := 0) hC dX3_ticksTo_67 (by decide) ?_
        refine aw_putI hC hSt 4 (rs_lt88 hM) (rs_k88 hM) rfl (by decide) w_276 rfl rfl (by decide) (by decide) dX3_ticksTo_68 ?_
        generalize eS8 : (sI S7 88 4 (0 : Int32)) = S8
        have hM : RS h nx S8 := RS.of (by rw [← eS8]; exact shp_sI _ _ _ _) hM
        refine aw_aload_n hC 1 dX3_ticksTo_71 rfl rfl ?_
        refine aw_aload_n hC 1 dX3_ticksTo_72 rfl rfl ?_
        refine aw_getP (b := h) hC hSt 0 (rs_lt88 hM) (rs_k88 hM) rfl (by decide) w_268 rfl (rs_ph hM) dX3_ticksTo_73 ?_
        refine aw_aload hC 0 dX3_ticksTo_76 rfl ?_
        refine aw_getI hC hSt 1 (cs_lt (sc1 + 4) 1 0 (sc_loop hsc1) hM.1) (cs_k (sc1 + 4) 1 0 (sc_loop hsc1) hM.1) rfl (by decide) w_308 rfl dX3_ticksTo_78 ?_
        refine aw_iconst (v := 0) hC dX3_ticksTo_81 (by decide) ?_
        refine aw_cS2r hC hSt (t_X3_placeOf G l  _ _) w_271 w_290 w_291 w_282 rfl rfl (by decide +kernel) ⟨Nat.le_of_ble_eq_true rfl, Nat.le_of_ble_eq_true rfl⟩ (Nat.le_of_ble_eq_true rfl) dX3_ticksTo_82 ⟨Nat.zero_le _, Nat.zero_le _⟩ ?_
        refine aw_aload hC 0 dX3_ticksTo_85 rfl ?_
        refine aw_getI hC hSt 0 (cs_lt (sc1 + 4) 1 0 (sc_loop hsc1) hM.1) (cs_k (sc1 + 4) 1 0 (sc_loop hsc1) hM.1) rfl (by decide) w_305 rfl dX3_ticksTo_87 ?_
        refine aw_lconst (v := 1) hC dX3_ticksTo_90 (by decide) ?_
        refine aw_cV4v hC hSt (t_X3_add G l hM _ _ _ _ (Or.inl rfl) (h2 c1 c2 c3 r4 er4 r5 er5 S6 eS6 S7 eS7 S8 eS8)) w_272 w_284 w_285 w_286 w_282 rfl rfl (by decide +kernel) ⟨Nat.le_of_ble_eq_true rfl, Nat.le_of_ble_eq_true rfl⟩ (rs_lt88 hM) (rs_k88 hM) rfl (Nat.le_of_ble_eq_true rfl) dX3_ticksTo_91 ⟨Nat.zero_le _, Nat.zero_le _⟩ ?_
        generalize er9 : f_X3_add S8 h nx 88 h (f_X3_placeOf S8 (gI S8 (sc1 + 4) 1) (0 : Int32)) (gI S8 (sc1 + 4) 0) (1 : Int64) = r9
        have hM : RS h nx r9 := RS.of (by rw [← er9]; exact q_X3_add _ _ _ _ _ _ _ _) hM
        refine aw_iconst (v := 1) hC dX3_ticksTo_94 (by decide) ?_
        refine aw_istore hC [(5, .int _), (4, .ref (sc1 + 4)), (0, .ref 88), (1, .ref sc1), (2, .int _), (3, .int _)] dX3_ticksTo_95 (by decide) rfl ?_
        refine aw_sub [2, 3, 4, 5, 1, 0] rfl ?_
        refine l_X3_ticksTo_97 hC hSt hsc1 (sc_loop hsc1) 1000 _ _ _ _ _ _ hM (h3 c1 c2 c3 r4 er4 r5 er5 S6 eS6 S7 eS7 S8 eS8 r9 er9) (fun c11 => ?_) (fun c11 => ?_)
        · revert c11
          generalize er10 : L_X3_ticksTo_97 sc1 (sc1 + 4) 1000 r9 h nx a2 a3 (1 : Int32) = r10
          intro c11
          exact FP.qI ((if_pos c1).trans ((if_pos c2).trans ((if_pos c3).trans ((bd_eq er4).trans ((bd_eq er5).trans ((bd_eq eS6).trans ((bd_eq eS7).trans ((bd_eq eS8).trans ((bd_eq er9).trans ((bd_eq er10).trans ((if_pos c11).trans (rfl))))))))))))
        · revert c11
          generalize er10 : L_X3_ticksTo_97 sc1 (sc1 + 4) 1000 r9 h nx a2 a3 (1 : Int32) = r10
          intro c11
          refine aw_ldc (v := -1000000) hC w_306 dX3_ticksTo_158 ?_
          refine aw_iret hC dX3_ticksTo_160 (Nat.le_refl _) (Nat.le_refl _) ?_
          exact FP.qI ((if_pos c1).trans ((if_pos c2).trans ((if_pos c3).trans ((bd_eq er4).trans ((bd_eq er5).trans ((bd_eq eS6).trans ((bd_eq eS7).trans ((bd_eq eS8).trans ((bd_eq er9).trans ((bd_eq er10).trans ((if_neg c11).trans (rfl))))))))))))
      · refine aw_ldc (v := -1000000) hC w_306 dX3_ticksTo_33 ?_
        refine aw_iret hC dX3_ticksTo_35 (Nat.le_refl _) (Nat.le_refl _) ?_
        exact FP.qI ((if_pos c1).trans ((if_pos c2).trans ((if_neg c3).trans (rfl))))
  · refine aw_iconst (v := 0) hC dX3_ticksTo_15 (by decide) ?_
    refine aw_iret hC dX3_ticksTo_16 (Nat.le_refl _) (Nat.le_refl _) ?_
    exact FP.qI ((if_neg c1).trans (rfl))