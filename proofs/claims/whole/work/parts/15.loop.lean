/-- what is owed of the calls, all together -/
def KAll (Inv : Nat → HSt → Prop) : Prop := K_row Inv ∧ K_set Inv ∧ K_copy Inv ∧ K_drop Inv ∧ K_feed Inv ∧ K_way Inv ∧ K_fault Inv ∧ K_act Inv ∧ K_take Inv ∧ K_tick Inv ∧ K_hurl Inv ∧ K_close Inv ∧ K_now Inv ∧ K_piece Inv ∧ K_odds Inv ∧ K_need Inv ∧ K_greatest Inv ∧ K_out Inv ∧ K_wraps Inv ∧ K_told Inv ∧ K_all Inv ∧ K_score Inv ∧ K_best Inv ∧ K_moves Inv ∧ K_fewest Inv ∧ K_show Inv ∧ K_learn Inv ∧ K_film Inv ∧ K_image Inv ∧ K_restore Inv ∧ K_kind Inv ∧ K_as Inv ∧ K_ask Inv ∧ K_trace Inv ∧ K_count Inv ∧ K_status Inv
/-- what an invariant must tell of the shape -/
def ISh (Inv : Nat → HSt → Prop) : Prop := ∀ n S, Inv n S → CS S ∧ MS S ∧ ((gn S = 88 ∧ gP S 0 9 = none) ∨ ∃ h nx, RS h nx S ∧ gP S 0 9 = some 88)
/-- the room that is left: a Reach may still be made, if there is none -/
def Bud (S : HSt) (cells slots : Nat) : Prop := (cells ≤ room_1.cells ∧ slots ≤ room_1.slots) ∧ (gP S 0 9 = none → cells + 3 ≤ room_1.cells ∧ slots + 23173 ≤ room_1.slots)
theorem Bud.of {S T : HSt} {cells slots : Nat} (h : shp T = shp S) (hb : Bud S cells slots) : Bud T cells slots := by
  have h4 : gP T = gP S := congrArg (fun q => q.2.2.2) h
  unfold Bud
  rw [h4]
  exact hb
theorem MS.sx {S T : HSt} (h : SX S T) (hM : MS S) : MS T := by
  obtain ⟨h1, h2, h3, h4⟩ := h
  unfold MS
  rw [h1, h2, h3, h4 64 (by decide)]
  exact hM
theorem MS.mr {S : HSt} (hC : CS S) (hn : gn S = 88) (hM : MS S) : MS (mkReach S) := by
  obtain ⟨-, -, h, -⟩ := mr_cs hC hn
  have hm : ∀ q ∈ mKT, q.1 < 88 ∧ q.1 ≠ 0 := by decide
  refine ⟨Nat.le_trans hM.1 h.1, fun q hq => ?_, fun q hq => ?_⟩
  · rw [(h.2 q.1 (by rw [hn]; exact (hm q hq).1)).1, (h.2 q.1 (by rw [hn]; exact (hm q hq).1)).2.1]
    exact hM.2.1 q hq
  · rw [((h.2 64 (by rw [hn]; decide)).2.2 (by decide)).1]
    exact hM.2.2 q hq
theorem vin {n L i : Nat} (h : n + i < L) (hL : L < 2 ^ 31) (z : Int32) (hz : z = nI i) : vp_in (nI n + z) L := by
  rw [hz, nI_add]
  exact vp_in_nI h hL
theorem lw_head {n L : Nat} (hL : L ≤ 3072) (hn : n ≤ 4000) : ¬ (nI L - (6 : Int32) < nI n) → n + 6 ≤ L := by
  intro h
  rcases Nat.lt_or_ge L (n + 6) with q | q
  · refine absurd ?_ h
    rw [Int32.lt_iff_toInt_lt, show (6 : Int32) = nI 6 from rfl, pk_sub_toInt (by omega) (by omega), nI_toInt (by omega)]
    omega
  · exact q
set_option maxRecDepth 100000 in
theorem lw_loop {p : Program} {l : Launch} {e : Env} {s : State} {m : MethodId} {args : Array Value} {below : List Frame} {meth : Method} {c : Code} {G : GG} {Q : State → Prop} {L : Nat} {xs : Nat → Int32} (hC : ACx p s m args meth c cL_law RL 4 (some .boolean)) (hSt : St G s) (hX : SCR G s L xs) (hL : L ≤ 3072) {Inv : Nat → HSt → Prop} (hI0 : ISh Inv) (hK : KAll Inv) (hIm : ∀ n S, Inv n S → Inv (n + 1) S)
    (hend : ∀ (S : HSt) (cells slots : Nat) (v3 : Int32), cells ≤ room_1.cells ∧ slots ≤ room_1.slots → AW p l e room_1 s m args below meth c G 4 Q S cells slots 1329 [(3, .int v3), (0, .ref 5000), (1, .ref 0), (2, .ref 64)] []) :
    ∀ (j n : Nat) (S : HSt) (cells slots : Nat), n + j = 513 → Inv n S → Bud S cells slots → AW p l e room_1 s m args below meth c G 4 Q S cells slots 18 [(3, .int (nI (6 * n))), (0, .ref 5000), (1, .ref 0), (2, .ref 64)] [] := by
  intro j
  induction j with
  | zero =>
    intro n S cells slots hnj hI hb
    have hn : n = 513 := by omega
    subst hn
    refine aw_iload_n hC 0 dL_law_18 rfl rfl ?_
    refine aw_aload_n hC 1 dL_law_19 rfl rfl ?_
    refine aw_scl hC hX dL_law_20 ?_
    refine aw_bipush (v := 6) hC dL_law_21 (by decide) ?_
    refine aw_isub hC dL_law_23 ?_
    refine aw_icmp_gt hC 1329 dL_law_24 (by decide) (fun _ => ?_) (fun h => ?_)
    · exact hend S cells slots _ hb.1
    · exact absurd (lw_head hL (by omega) h) (by omega)
  | succ j ih =>
    intro n S cells slots hnj hI hb
    refine aw_iload_n hC 0 dL_law_18 rfl rfl ?_
    refine aw_aload_n hC 1 dL_law_19 rfl rfl ?_
    refine aw_scl hC hX dL_law_20 ?_
    refine aw_bipush (v := 6) hC dL_law_21 (by decide) ?_
    refine aw_isub hC dL_law_23 ?_
    refine aw_icmp_gt hC 1329 dL_law_24 (by decide) (fun _ => ?_) (fun h => ?_)
    · exact hend S cells slots _ hb.1
    have hle : 6 * n + 6 ≤ L := lw_head hL (by omega) h
    have hn : n < 512 := by omega
    obtain ⟨hCS, hMS, hR⟩ := hI0 n S hI
    have hnext : ∀ (S2 : HSt) (c2 s2 : Nat), Inv (n + 1) S2 → Bud S2 c2 s2 → AW p l e room_1 s m args below meth c G 4 Q S2 c2 s2 1323 [(3, .int (nI (6 * n))), (0, .ref 5000), (1, .ref 0), (2, .ref 64)] [] := by
      intro S2 c2 s2 hI2 hb2
      refine aw_iinc (v := nI (6 * (n + 1))) hC 0 [(3, .int (nI (6 * (n + 1)))), (0, .ref 5000), (1, .ref 0), (2, .ref 64)] dL_law_1323 rfl ?_ (by decide) rfl ?_
      · show nI (6 * n) + nI 6 = _
        rw [nI_add]
        rfl
      refine aw_goto hC 18 dL_law_1326 (by decide) ?_
      exact ih (n + 1) S2 c2 s2 (by omega) hI2 hb2
    obtain ⟨k0, k1, k2, k3, k4, k5, k6, k7, k8, k9, k10, k11, k12, k13, k14, k15, k16, k17, k18, k19, k20, k21, k22, k23, k24, k25, k26, k27, k28, k29, k30, k31, k32, k33, k34, k35⟩ := hK
    have hin1 : vp_in (nI (6 * n) + (1 : Int32)) L := vin (i := 1) (by omega) (by omega) 1 rfl
    have hin2 : vp_in (nI (6 * n) + (2 : Int32)) L := vin (i := 2) (by omega) (by omega) 2 rfl
    have hin3 : vp_in (nI (6 * n) + (3 : Int32)) L := vin (i := 3) (by omega) (by omega) 3 rfl
    have hin4 : vp_in (nI (6 * n) + (4 : Int32)) L := vin (i := 4) (by omega) (by omega) 4 rfl
    have hin5 : vp_in (nI (6 * n) + (5 : Int32)) L := vin (i := 5) (by omega) (by omega) 5 rfl
    refine aw_aload_n hC 1 dL_law_27 rfl rfl ?_
    refine aw_iload_n hC 0 dL_law_28 rfl rfl ?_
    refine aw_sld hC hX (vp_in_nI (by omega) (by omega)) dL_law_29 ?_
    refine aw_bipush (v := 63) hC dL_law_30 (by decide) ?_
    refine aw_iand hC dL_law_32 ?_
    refine aw_switchE hC dL_law_33 1323 (by decide) [192, 236, 280, 344, 368, 432, 446, 459, 493, 527, 581, 615, 629, 653, 677, 721, 745, 769, 803, 837, 871, 895, 909, 943, 977, 1011, 1035, 1079, 1123, 1147, 1171, 1195, 1229, 1263, 1286, 1310] rfl (by decide) (by decide) (fun _ => ?_) (fun kc hkc _ => ?_)
    · exact hnext S cells slots (hIm n S hI) hb
    · match kc, hkc with
      | 0, _ =>
        refine aw_at (pc' := 192) rfl ?_
        obtain ⟨hp1, hp2, hEq, hI2⟩ := k0 n S (xs (nI (6 * n) + (1 : Int32)).toNatClampNeg) (xs (nI (6 * n) + (2 : Int32)).toNatClampNeg) (xs (nI (6 * n) + (3 : Int32)).toNatClampNeg) hn hI
        exact lw_c0 hC hSt hX hCS hMS hb.1 _ hin1 hin2 hin3 hin4 hin5 hp1 hp2 hEq (hnext _ _ _ hI2 (Bud.of ((q_X12_row _ _ _ _ _).trans (q_X11_row _ _ _ _ _)) hb))
      | 1, _ =>
        refine aw_at (pc' := 236) rfl ?_
        obtain ⟨hp1, hp2, hEq, hI2⟩ := k1 n S (xs (nI (6 * n) + (1 : Int32)).toNatClampNeg) (xs (nI (6 * n) + (2 : Int32)).toNatClampNeg) (xs (nI (6 * n) + (3 : Int32)).toNatClampNeg) hn hI
        exact lw_c1 hC hSt hX hCS hMS hb.1 _ hin1 hin2 hin3 hin4 hin5 hp1 hp2 hEq (hnext _ _ _ hI2 (Bud.of ((q_X12_set _ _ _ _ _).trans (q_X11_set _ _ _ _ _)) hb))
      | 2, _ =>
        refine aw_at (pc' := 280) rfl ?_
        obtain ⟨hp1, hp2, hEq, hI2⟩ := k2 n S (xs (nI (6 * n) + (1 : Int32)).toNatClampNeg) (xs (nI (6 * n) + (2 : Int32)).toNatClampNeg) (xs (nI (6 * n) + (3 : Int32)).toNatClampNeg) (xs (nI (6 * n) + (4 : Int32)).toNatClampNeg) (xs (nI (6 * n) + (5 : Int32)).toNatClampNeg) hn hI
        exact lw_c2 hC hSt hX hCS hMS hb.1 _ hin1 hin2 hin3 hin4 hin5 hp1 hp2 hEq (hnext _ _ _ hI2 (Bud.of ((q_X12_copy _ _ _ _ _ _ _).trans (q_X11_copy _ _ _ _ _ _ _)) hb))
      | 3, _ =>
        refine aw_at (pc' := 344) rfl ?_
        obtain ⟨hp1, hp2, hEq, hI2⟩ := k3 n S (xs (nI (6 * n) + (1 : Int32)).toNatClampNeg) hn hI
        exact lw_c3 hC hSt hX hCS hMS hb.1 _ hin1 hin2 hin3 hin4 hin5 hp1 hp2 hEq (hnext _ _ _ hI2 (Bud.of ((q_X12_drop _ _ _).trans (q_X11_drop _ _ _)) hb))
      | 4, _ =>
        refine aw_at (pc' := 368) rfl ?_
        obtain ⟨hp1, hp2, hEq, hI2⟩ := k4 n S (((xs (nI (6 * n) + (1 : Int32)).toNatClampNeg).toInt64 <<< ((32 : Int32).toInt64 &&& 63)) ||| ((xs (nI (6 * n) + (2 : Int32)).toNatClampNeg).toInt64 &&& (4294967295 : Int64))) (xs (nI (6 * n) + (3 : Int32)).toNatClampNeg) hn hI
        exact lw_c4 hC hSt hX hCS hMS hb.1 _ hin1 hin2 hin3 hin4 hin5 hp1 hp2 hEq (hnext _ _ _ hI2 (Bud.of ((q_X12_feed _ _ _ _).trans (q_X11_feed _ _ _ _)) hb))
      | 5, _ =>
        refine aw_at (pc' := 432) rfl ?_
        obtain ⟨hp1, hp2, hEq, hI2⟩ := k5 n S hn hI
        exact lw_c5 hC hSt hX hCS hMS hb.1 _ hin1 hin2 hin3 hin4 hin5 hp1 hp2 hEq (hnext _ _ _ hI2 (Bud.of ((q_X12_way _ _).trans (q_X11_way _ _)) hb))
      | 6, _ =>
        refine aw_at (pc' := 446) rfl ?_
        obtain ⟨hEq, hI2⟩ := k6 n S hn hI
        exact lw_c6 hC hSt hX hCS hMS hb.1 _ hin1 hin2 hin3 hin4 hin5  hEq (hnext _ _ _ hI2 (Bud.of (q_X12_fault _ _) hb))
      | 7, _ =>
        refine aw_at (pc' := 459) rfl ?_
        obtain ⟨hp1, hp2, hEq, hI2⟩ := k7 n S (xs (nI (6 * n) + (1 : Int32)).toNatClampNeg) (xs (nI (6 * n) + (2 : Int32)).toNatClampNeg) hn hI
        exact lw_c7 hC hSt hX hCS hMS hb.1 _ hin1 hin2 hin3 hin4 hin5 hp1 hp2 hEq (hnext _ _ _ hI2 (Bud.of (q_X12_act _ _ _ _) hb))
      | 8, _ =>
        refine aw_at (pc' := 493) rfl ?_
        obtain ⟨hp1, hp2, hEq, hI2⟩ := k8 n S (xs (nI (6 * n) + (1 : Int32)).toNatClampNeg) (xs (nI (6 * n) + (2 : Int32)).toNatClampNeg) hn hI
        exact lw_c8 hC hSt hX hCS hMS hb.1 _ hin1 hin2 hin3 hin4 hin5 hp1 hp2 hEq (hnext _ _ _ hI2 (Bud.of ((q_X12_take _ _ _ _).trans (q_X11_take _ _ _ _)) hb))
      | 9, _ =>
        refine aw_at (pc' := 527) rfl ?_
        obtain ⟨hp2, hEq, hI2⟩ := k9 n S (xs (nI (6 * n) + (1 : Int32)).toNatClampNeg) (xs (nI (6 * n) + (2 : Int32)).toNatClampNeg) (xs (nI (6 * n) + (3 : Int32)).toNatClampNeg) (xs (nI (6 * n) + (4 : Int32)).toNatClampNeg) hn hI
        exact lw_c9 hC hSt hX hCS hMS hb.1 _ hin1 hin2 hin3 hin4 hin5 hp2 hEq (hnext _ _ _ hI2 (Bud.of ((q_X12_tick _ _ _ _ _ _).trans (q_X11_tick _ _ _ _ _ _)) hb))
      | 10, _ =>
        refine aw_at (pc' := 581) rfl ?_
        obtain ⟨hp1, hp2, hEq, hI2⟩ := k10 n S (xs (nI (6 * n) + (1 : Int32)).toNatClampNeg) (xs (nI (6 * n) + (2 : Int32)).toNatClampNeg) hn hI
        exact lw_c10 hC hSt hX hCS hMS hb.1 _ hin1 hin2 hin3 hin4 hin5 hp1 hp2 hEq (hnext _ _ _ hI2 (Bud.of ((q_X12_hurl _ _ _ _).trans (q_X11_hurl _ _ _ _)) hb))
      | 11, _ =>
        refine aw_at (pc' := 615) rfl ?_
        obtain ⟨hp2, hEq, hI2⟩ := k11 n S hn hI
        exact lw_c11 hC hSt hX hCS hMS hb.1 _ hin1 hin2 hin3 hin4 hin5 hp2 hEq (hnext _ _ _ hI2 (Bud.of ((q_X12_close _ _).trans (q_X11_close _ _)) hb))
      | 12, _ =>
        refine aw_at (pc' := 629) rfl ?_
        obtain ⟨hp2, hEq, hI2⟩ := k12 n S (xs (nI (6 * n) + (1 : Int32)).toNatClampNeg) hn hI
        exact lw_c12 hC hSt hX hCS hMS hb.1 _ hin1 hin2 hin3 hin4 hin5 hp2 hEq (hnext _ _ _ hI2 (Bud.of (q_X12_now _ _ _) hb))
      | 13, _ =>
        refine aw_at (pc' := 653) rfl ?_
        obtain ⟨hp2, hEq, hI2⟩ := k13 n S (xs (nI (6 * n) + (1 : Int32)).toNatClampNeg) hn hI
        exact lw_c13 hC hSt hX hCS hMS hb.1 _ hin1 hin2 hin3 hin4 hin5 hp2 hEq (hnext _ _ _ hI2 (Bud.of (q_X12_piece _ _ _) hb))
      | 14, _ =>
        refine aw_at (pc' := 677) rfl ?_
        obtain ⟨hp1, hp2, hEq, hI2⟩ := k14 n S (xs (nI (6 * n) + (1 : Int32)).toNatClampNeg) (xs (nI (6 * n) + (2 : Int32)).toNatClampNeg) (xs (nI (6 * n) + (3 : Int32)).toNatClampNeg) hn hI
        exact lw_c14 hC hSt hX hCS hMS hb.1 _ hin1 hin2 hin3 hin4 hin5 hp1 hp2 hEq (hnext _ _ _ hI2 (Bud.of ((q_X12_odds _ _ _ _ _).trans (q_X11_odds _ _ _ _ _)) hb))
      | 15, _ =>
        refine aw_at (pc' := 721) rfl ?_
        obtain ⟨hp2, hEq, hI2⟩ := k15 n S (xs (nI (6 * n) + (1 : Int32)).toNatClampNeg) hn hI
        exact lw_c15 hC hSt hX hCS hMS hb.1 _ hin1 hin2 hin3 hin4 hin5 hp2 hEq (hnext _ _ _ hI2 (Bud.of (q_X12_need _ _ _) hb))
      | 16, _ =>
        refine aw_at (pc' := 745) rfl ?_
        obtain ⟨hp1, hp2, hEq, hI2⟩ := k16 n S (xs (nI (6 * n) + (1 : Int32)).toNatClampNeg) hn hI
        exact lw_c16 hC hSt hX hCS hMS hb.1 _ hin1 hin2 hin3 hin4 hin5 hp1 hp2 hEq (hnext _ _ _ hI2 (Bud.of (q_X12_greatest _ _ _) hb))
      | 17, _ =>
        refine aw_at (pc' := 769) rfl ?_
        obtain ⟨hp1, hp2, hEq, hI2⟩ := k17 n S (xs (nI (6 * n) + (1 : Int32)).toNatClampNeg) (xs (nI (6 * n) + (2 : Int32)).toNatClampNeg) hn hI
        exact lw_c17 hC hSt hX hCS hMS hb.1 _ hin1 hin2 hin3 hin4 hin5 hp1 hp2 hEq (hnext _ _ _ hI2 (Bud.of (q_X12_out _ _ _ _) hb))
      | 18, _ =>
        refine aw_at (pc' := 803) rfl ?_
        obtain ⟨hp1, hp2, hEq, hI2⟩ := k18 n S (xs (nI (6 * n) + (1 : Int32)).toNatClampNeg) (xs (nI (6 * n) + (2 : Int32)).toNatClampNeg) hn hI
        exact lw_c18 hC hSt hX hCS hMS hb.1 _ hin1 hin2 hin3 hin4 hin5 hp1 hp2 hEq (hnext _ _ _ hI2 (Bud.of (q_X12_wraps _ _ _ _) hb))
      | 19, _ =>
        refine aw_at (pc' := 837) rfl ?_
        obtain ⟨hp1, hp2, hEq, hI2⟩ := k19 n S (xs (nI (6 * n) + (1 : Int32)).toNatClampNeg) (xs (nI (6 * n) + (2 : Int32)).toNatClampNeg) hn hI
        exact lw_c19 hC hSt hX hCS hMS hb.1 _ hin1 hin2 hin3 hin4 hin5 hp1 hp2 hEq (hnext _ _ _ hI2 (Bud.of ((q_X12_told _ _ _ _).trans (q_X11_told _ _ _ _)) hb))
      | 20, _ =>
        refine aw_at (pc' := 871) rfl ?_
        obtain ⟨hp1, hp2, hEq, hI2⟩ := k20 n S (xs (nI (6 * n) + (1 : Int32)).toNatClampNeg) hn hI
        exact lw_c20 hC hSt hX hCS hMS hb.1 _ hin1 hin2 hin3 hin4 hin5 hp1 hp2 hEq (hnext _ _ _ hI2 (Bud.of ((q_X12_all _ _ _).trans (q_X11_all _ _ _)) hb))
      | 21, _ =>
        refine aw_at (pc' := 895) rfl ?_
        obtain ⟨hp1, hp2, hEq, hI2⟩ := k21 n S hn hI
        exact lw_c21 hC hSt hX hCS hMS hb.1 _ hin1 hin2 hin3 hin4 hin5 hp1 hp2 hEq (hnext _ _ _ hI2 (Bud.of ((q_X12_score _ _).trans (q_X11_score _ _)) hb))
      | 22, _ =>
        refine aw_at (pc' := 909) rfl ?_
        obtain ⟨hp1, hp2, hEq, hI2⟩ := k22 n S (xs (nI (6 * n) + (1 : Int32)).toNatClampNeg) (xs (nI (6 * n) + (2 : Int32)).toNatClampNeg) hn hI
        exact lw_c22 hC hSt hX hCS hMS hb.1 _ hin1 hin2 hin3 hin4 hin5 hp1 hp2 hEq (hnext _ _ _ hI2 (Bud.of ((q_X12_best _ _ _ _).trans (q_X11_best _ _ _ _)) hb))
      | 23, _ =>
        refine aw_at (pc' := 943) rfl ?_
        obtain ⟨hp1, hp2, hEq, hI2⟩ := k23 n S (xs (nI (6 * n) + (1 : Int32)).toNatClampNeg) (xs (nI (6 * n) + (2 : Int32)).toNatClampNeg) hn hI
        exact lw_c23 hC hSt hX hCS hMS hb.1 _ hin1 hin2 hin3 hin4 hin5 hp1 hp2 hEq (hnext _ _ _ hI2 (Bud.of ((q_X12_moves _ _ _ _).trans (q_X11_moves _ _ _ _)) hb))
      | 24, _ =>
        refine aw_at (pc' := 977) rfl ?_
        obtain ⟨kE, kN, kR⟩ := k24 n S (xs (nI (6 * n) + (1 : Int32)).toNatClampNeg) (xs (nI (6 * n) + (2 : Int32)).toNatClampNeg) hn hI
        by_cases hE : fewGo S (xs (nI (6 * n) + (1 : Int32)).toNatClampNeg) (xs (nI (6 * n) + (2 : Int32)).toNatClampNeg)
        · rcases hR with ⟨hg, h9⟩ | ⟨h, nx, hRS, h9⟩
          · obtain ⟨hp1, hp2, hEq, hI2⟩ := kN hE h9 hg
            obtain ⟨hRS', h9', -⟩ := mr_cs hCS hg
            have hsx := (rs_ticks hRS' 88 18 (xs (nI (6 * n) + (1 : Int32)).toNatClampNeg) (xs (nI (6 * n) + (2 : Int32)).toNatClampNeg)).2
            have h10 := (congrFun (hsx.2.2.2 0 (by decide)) 9).trans h9'
            refine lw_c24N hC hSt hX hCS (hb.2 h9) _ hin1 hin2 hin3 hin4 hin5 h9 hg hE hp1 (MS.sx hsx (MS.mr hCS hg hMS)) hp2 hEq (hnext _ _ _ hI2 (Bud.of (q_X12_fewest _ _ _ _) ⟨hb.2 h9, fun hz => ?_⟩))
            rw [h10] at hz
            cases hz
          · obtain ⟨hp1, hp2, hEq, hI2⟩ := kR hE h nx hRS h9
            have hsx := (rs_ticks hRS 88 18 (xs (nI (6 * n) + (1 : Int32)).toNatClampNeg) (xs (nI (6 * n) + (2 : Int32)).toNatClampNeg)).2
            have h10 := (congrFun (hsx.2.2.2 0 (by decide)) 9).trans h9
            refine lw_c24R hC hSt hX hCS hb.1 _ hin1 hin2 hin3 hin4 hin5 hRS h9 hE hp1 (MS.sx hsx hMS) hp2 hEq (hnext _ _ _ hI2 (Bud.of (q_X12_fewest _ _ _ _) ⟨hb.1, fun hz => ?_⟩))
            rw [h10] at hz
            cases hz
        · obtain ⟨hp2, hEq, hI2⟩ := kE hE
          exact lw_c24E hC hSt hX hCS hb.1 _ hin1 hin2 hin3 hin4 hin5 hE hMS hp2 hEq (hnext _ _ _ hI2 (Bud.of (q_X12_fewest _ _ _ _) hb))
      | 25, _ =>
        refine aw_at (pc' := 1011) rfl ?_
        obtain ⟨hp1, hp2, hEq, hI2⟩ := k25 n S (xs (nI (6 * n) + (1 : Int32)).toNatClampNeg) hn hI
        exact lw_c25 hC hSt hX hCS hMS hb.1 _ hin1 hin2 hin3 hin4 hin5 hp1 hp2 hEq (hnext _ _ _ hI2 (Bud.of ((q_X12_show _ _ _).trans (q_X11_show _ _ _)) hb))
      | 26, _ =>
        refine aw_at (pc' := 1035) rfl ?_
        obtain ⟨hp1, hp2, hEq, hI2⟩ := k26 n S (xs (nI (6 * n) + (1 : Int32)).toNatClampNeg) (xs (nI (6 * n) + (2 : Int32)).toNatClampNeg) (xs (nI (6 * n) + (3 : Int32)).toNatClampNeg) hn hI
        exact lw_c26 hC hSt hX hCS hMS hb.1 _ hin1 hin2 hin3 hin4 hin5 hp1 hp2 hEq (hnext _ _ _ hI2 (Bud.of ((q_X12_learn _ _ _ _ _).trans (q_X11_learn _ _ _ _ _)) hb))
      | 27, _ =>
        refine aw_at (pc' := 1079) rfl ?_
        obtain ⟨hp1, hp2, hEq, hI2⟩ := k27 n S (xs (nI (6 * n) + (1 : Int32)).toNatClampNeg) (xs (nI (6 * n) + (2 : Int32)).toNatClampNeg) (xs (nI (6 * n) + (3 : Int32)).toNatClampNeg) hn hI
        exact lw_c27 hC hSt hX hCS hMS hb.1 _ hin1 hin2 hin3 hin4 hin5 hp1 hp2 hEq (hnext _ _ _ hI2 (Bud.of ((q_X12_film _ _ _ _ _).trans (q_X11_film _ _ _ _ _)) hb))
      | 28, _ =>
        refine aw_at (pc' := 1123) rfl ?_
        obtain ⟨hp1, hp2, hEq, hI2⟩ := k28 n S (xs (nI (6 * n) + (1 : Int32)).toNatClampNeg) hn hI
        exact lw_c28 hC hSt hX hCS hMS hb.1 _ hin1 hin2 hin3 hin4 hin5 hp1 hp2 hEq (hnext _ _ _ hI2 (Bud.of ((q_X12_image _ _ _).trans (q_X11_image _ _ _)) hb))
      | 29, _ =>
        refine aw_at (pc' := 1147) rfl ?_
        obtain ⟨hp1, hp2, hEq, hI2⟩ := k29 n S (xs (nI (6 * n) + (1 : Int32)).toNatClampNeg) hn hI
        exact lw_c29 hC hSt hX hCS hMS hb.1 _ hin1 hin2 hin3 hin4 hin5 hp1 hp2 hEq (hnext _ _ _ hI2 (Bud.of ((q_X12_restore _ _ _).trans (q_X11_restore _ _ _)) hb))
      | 30, _ =>
        refine aw_at (pc' := 1171) rfl ?_
        obtain ⟨hp1, hp2, hEq, hI2⟩ := k30 n S (xs (nI (6 * n) + (1 : Int32)).toNatClampNeg) hn hI
        exact lw_c30 hC hSt hX hCS hMS hb.1 _ hin1 hin2 hin3 hin4 hin5 hp1 hp2 hEq (hnext _ _ _ hI2 (Bud.of (q_X12_kind _ _ _) hb))
      | 31, _ =>
        refine aw_at (pc' := 1195) rfl ?_
        obtain ⟨hp1, hp2, hEq, hI2⟩ := k31 n S (xs (nI (6 * n) + (1 : Int32)).toNatClampNeg) (xs (nI (6 * n) + (2 : Int32)).toNatClampNeg) hn hI
        exact lw_c31 hC hSt hX hCS hMS hb.1 _ hin1 hin2 hin3 hin4 hin5 hp1 hp2 hEq (hnext _ _ _ hI2 (Bud.of ((q_X12_as _ _ _ _).trans (q_X11_as _ _ _ _)) hb))
      | 32, _ =>
        refine aw_at (pc' := 1229) rfl ?_
        obtain ⟨hp1, hp2, hEq, hI2⟩ := k32 n S (xs (nI (6 * n) + (1 : Int32)).toNatClampNeg) (xs (nI (6 * n) + (2 : Int32)).toNatClampNeg) hn hI
        exact lw_c32 hC hSt hX hCS hMS hb.1 _ hin1 hin2 hin3 hin4 hin5 hp1 hp2 hEq (hnext _ _ _ hI2 (Bud.of ((q_X12_ask _ _ _ _).trans (q_X11_ask _ _ _ _)) hb))
      | 33, _ =>
        refine aw_at (pc' := 1263) rfl ?_
        obtain ⟨hp1, hp2, hEq, hI2⟩ := k33 n S (xs (nI (6 * n) + (1 : Int32)).toNatClampNeg) hn hI
        exact lw_c33 hC hSt hX hCS hMS hb.1 _ hin1 hin2 hin3 hin4 hin5 hp1 hp2 hEq (hnext _ _ _ hI2 (Bud.of (q_X12_trace _ _ _) hb))
      | 34, _ =>
        refine aw_at (pc' := 1286) rfl ?_
        obtain ⟨hp1, hp2, hEq, hI2⟩ := k34 n S (xs (nI (6 * n) + (1 : Int32)).toNatClampNeg) hn hI
        exact lw_c34 hC hSt hX hCS hMS hb.1 _ hin1 hin2 hin3 hin4 hin5 hp1 hp2 hEq (hnext _ _ _ hI2 (Bud.of (q_X12_count _ _ _) hb))
      | 35, _ =>
        refine aw_at (pc' := 1310) rfl ?_
        obtain ⟨hEq, hI2⟩ := k35 n S hn hI
        exact lw_c35 hC hSt hX hCS hMS hb.1 _ hin1 hin2 hin3 hin4 hin5  hEq (hnext _ _ _ hI2 (Bud.of (q_X12_status _ _) hb))
      | kc + 36, hkc => exact absurd hkc (by simp)

