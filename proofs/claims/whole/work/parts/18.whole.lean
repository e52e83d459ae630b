/-- the heap before all -/
def E0 : HSt := (0, fun _ => 0, fun _ => 0, fun _ _ => 0, fun _ _ => 0, fun _ _ => none)
/-- the class's object is made -/
noncomputable def E1 : HSt := f_X11_init (nw E0 11 0) 0
/-- and the model's -/
noncomputable def S00 : HSt := f_X12_init (nw E1 12 0) 64
theorem gn_E1 : gn E1 = 64 := z_X11_init_n (nw E0 11 0) 0 (by decide)
set_option maxRecDepth 100000 in
theorem whole_of {Inv : Nat → HSt → Prop} (hI0 : ISh Inv) (hK : KAll Inv) (hIm : ∀ n S, Inv n S → Inv (n + 1) S) (h0 : Inv 0 S00) {p : Program} {e : Env} {s : State} {m : MethodId} {below : List Frame} {meth : Method} {c : Code} (l : Launch) {b L : Nat} {xs : Nat → Int32} (hL : L ≤ 3072) (C0 : lw_At p s m meth c b L xs) : W p l e room_1 s m #[Value.ref b] below meth c s.heap [] 0 0 (lw_Z below #[Value.ref b] s) (entryFrame m ([Value.ref b] : List Value).toArray 4) := by
  obtain ⟨hx, hb, hr, hml, hown, hts, hX, hbl, hlocks, hgv⟩ := id C0
  obtain ⟨G, hG1, hG2, hSt⟩ := st_start C0
  have hC : ACx p s m #[Value.ref b] meth c cL_law RL 4 (some .boolean) := ⟨hx, hb, hml, hown, fun w h => hts w (tBIG w h), hr, hlocks⟩
  have hXs : SCR G s L xs := ⟨by rw [hG2]; exact hX, by rw [hG2]; exact hbl, by rw [hG1, hG2]; exact Nat.not_le.mpr hbl⟩
  have key : AW p l e room_1 s m #[Value.ref b] below meth c G 4 (lw_Z below #[Value.ref b] s) E0 0 0 0 [(0, .ref 5000)] [] := by
    refine aw_new (ci := 11) hC hSt rfl w_1298 w_1299 w_517 (by decide) (Nat.le_of_ble_eq_true rfl) (Nat.le_of_ble_eq_true rfl) dL_law_0 ?_
    refine aw_dup hC dL_law_3 rfl ?_
    refine aw_cI hC hSt (t_X11_init G l 0 (nw_k E0 11 0) (by decide)) w_705 w_1303 w_517 w_1304 rfl rfl rfl (by decide +kernel) ⟨(Nat.le_of_ble_eq_true rfl), (Nat.le_of_ble_eq_true rfl)⟩ (Nat.le_of_ble_eq_true rfl) dL_law_4 ⟨(Nat.le_of_ble_eq_true rfl), (Nat.le_of_ble_eq_true rfl)⟩ ?_
    refine aw_astore_n hC [(1, .ref 0), (0, .ref 5000)] dL_law_7 rfl (by decide) rfl ?_
    show AW p l e room_1 s m #[Value.ref b] below meth c G 4 (lw_Z below #[Value.ref b] s) E1 (0 + 1 + 63) (0 + 11 + 3098) _ [(1, .ref 0), (0, .ref 5000)] []
    refine aw_new (ci := 12) hC hSt rfl w_1300 w_1301 w_953 (by rw [gn_E1]; decide) (Nat.le_of_ble_eq_true rfl) (Nat.le_of_ble_eq_true rfl) dL_law_8 ?_
    have hk := nw_k E1 12 0
    rw [gn_E1] at hk ⊢
    refine aw_dup hC dL_law_11 rfl ?_
    refine aw_cI hC hSt (t_X12_init G l 64 hk (by rw [gn_nw, gn_E1]; decide)) w_944 w_1305 w_953 w_1306 rfl rfl rfl (by decide +kernel) ⟨(Nat.le_of_ble_eq_true rfl), (Nat.le_of_ble_eq_true rfl)⟩ (Nat.le_of_ble_eq_true rfl) dL_law_12 ⟨(Nat.le_of_ble_eq_true rfl), (Nat.le_of_ble_eq_true rfl)⟩ ?_
    refine aw_astore_n hC [(2, .ref 64), (1, .ref 0), (0, .ref 5000)] dL_law_15 rfl (by decide) rfl ?_
    refine aw_iconst (v := 0) hC dL_law_16 (by decide) ?_
    refine aw_istore_n hC [(3, .int 0), (2, .ref 64), (1, .ref 0), (0, .ref 5000)] dL_law_17 rfl (by decide) rfl ?_
    refine aw_sub [0, 3, 2, 1] rfl ?_
    have hl := lw_loop (p := p) (l := l) (e := e) (below := below) (Q := lw_Z below #[Value.ref b] s) hC hSt hXs hL hI0 hK hIm ?_ 513 0 S00 (0 + 1 + 63 + 1 + 23) (0 + 11 + 3098 + 52 + 1166038) (by decide) h0 ⟨⟨by decide, by decide⟩, fun _ => ⟨by decide, by decide⟩⟩
    · exact hl
    · intro S cells slots v3 hcs
      refine aw_iconst (v := 1) hC dL_law_1329 (by decide) ?_
      intro H locs ls hR hS hl
      refine va_forget (fun q hq => ?_) (W.widen hcs.1 hcs.2 (lw_ret hx hb hr hlocks dL_law_1330))
      have h1 := hS.2.2 q hq
      rw [← hG1]
      exact h1
  have hle := lv_entry ([Value.ref b]) (n := 4) (Nat.le_of_ble_eq_true rfl)
  rw [lg_entry_eq]
  refine key s.heap [] _ ⟨fun k q h => by simp [wl, E0, gn] at h, by rw [hG1]; rfl, by decide⟩ va_S.rf ?_
  rw [show lvm G [(0, Value.ref 5000)] = [(0, Value.ref b)] by show [(0, cv G (.ref 5000))] = _; rw [cv_scr, hG2]]
  exact hle
