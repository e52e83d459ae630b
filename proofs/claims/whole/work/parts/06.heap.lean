section AWH
variable {p : Program} {l : Launch} {e : Env} {R : Room} {s : State} {m : MethodId} {args : Array Value} {below : List Frame} {meth : Method} {c : Code} {G : GG} {nL : Nat} {Q : State → Prop} {S : HSt} {cells slots pc : Nat} {lv : List (Nat × Value)} {st : List Value}
variable {cc : ByteArray} {own : String} {ret : Option FieldType}
theorem ro_lt {G : GG} {S : HSt} {H : Heap} {a : Nat} (hR : Rp G S H) (ha : a < gn S) : ro G a = G.1 + a := by
  unfold ro
  rw [if_pos (Nat.lt_of_lt_of_le ha hR.2.2)]
/-- which words of the classes' fields are among wcl -/
theorem wcl_in {ci : Nat} {C : String} {T : u_T} {N : Nat} (hc : kcl[ci]? = some (C, T, N)) : ∀ w ∈ u_ws C T N, w ∈ wcl := by
  match ci, hc with
  | 0, hc => cases hc; intro w h; unfold wcl; exact List.mem_append_left _ h
  | 1, hc => cases hc; intro w h; unfold wcl; exact List.mem_append_right _ (List.mem_append_left _ h)
  | 2, hc => cases hc; intro w h; unfold wcl; exact List.mem_append_right _ (List.mem_append_right _ (List.mem_append_left _ h))
  | 3, hc => cases hc; intro w h; unfold wcl; exact List.mem_append_right _ (List.mem_append_right _ (List.mem_append_right _ (List.mem_append_left _ h)))
  | 4, hc => cases hc; intro w h; unfold wcl; exact List.mem_append_right _ (List.mem_append_right _ (List.mem_append_right _ (List.mem_append_right _ (List.mem_append_left _ h))))
  | 5, hc => cases hc; intro w h; unfold wcl; exact List.mem_append_right _ (List.mem_append_right _ (List.mem_append_right _ (List.mem_append_right _ (List.mem_append_right _ (List.mem_append_left _ h)))))
  | 6, hc => cases hc; intro w h; unfold wcl; exact List.mem_append_right _ (List.mem_append_right _ (List.mem_append_right _ (List.mem_append_right _ (List.mem_append_right _ (List.mem_append_right _ (List.mem_append_left _ h))))))
  | 7, hc => cases hc; intro w h; unfold wcl; exact List.mem_append_right _ (List.mem_append_right _ (List.mem_append_right _ (List.mem_append_right _ (List.mem_append_right _ (List.mem_append_right _ (List.mem_append_right _ (List.mem_append_left _ h)))))))
  | 8, hc => cases hc; intro w h; unfold wcl; exact List.mem_append_right _ (List.mem_append_right _ (List.mem_append_right _ (List.mem_append_right _ (List.mem_append_right _ (List.mem_append_right _ (List.mem_append_right _ (List.mem_append_right _ (List.mem_append_left _ h))))))))
  | 9, hc => cases hc; intro w h; unfold wcl; exact List.mem_append_right _ (List.mem_append_right _ (List.mem_append_right _ (List.mem_append_right _ (List.mem_append_right _ (List.mem_append_right _ (List.mem_append_right _ (List.mem_append_right _ (List.mem_append_right _ (List.mem_append_left _ h)))))))))
  | 10, hc => cases hc; intro w h; unfold wcl; exact List.mem_append_right _ (List.mem_append_right _ (List.mem_append_right _ (List.mem_append_right _ (List.mem_append_right _ (List.mem_append_right _ (List.mem_append_right _ (List.mem_append_right _ (List.mem_append_right _ (List.mem_append_right _ (List.mem_append_left _ h))))))))))
  | 11, hc => cases hc; intro w h; unfold wcl; exact List.mem_append_right _ (List.mem_append_right _ (List.mem_append_right _ (List.mem_append_right _ (List.mem_append_right _ (List.mem_append_right _ (List.mem_append_right _ (List.mem_append_right _ (List.mem_append_right _ (List.mem_append_right _ (List.mem_append_right _ (List.mem_append_left _ h)))))))))))
  | 12, hc => cases hc; intro w h; unfold wcl; exact List.mem_append_right _ (List.mem_append_right _ (List.mem_append_right _ (List.mem_append_right _ (List.mem_append_right _ (List.mem_append_right _ (List.mem_append_right _ (List.mem_append_right _ (List.mem_append_right _ (List.mem_append_right _ (List.mem_append_right _ (List.mem_append_right _ h)))))))))))
  | k + 13, hc => simp [kcl] at hc
theorem kcl_lt {ci : Nat} {q : vw_C} (hc : kcl[ci]? = some q) : ci < 13 := (List.getElem?_eq_some_iff.mp hc).1
theorem kcl_ty {ci : Nat} {C : String} {T : u_T} {N : Nat} (hc : kcl[ci]? = some (C, T, N)) : (∀ k, k < N → parseFieldDescriptor (T k).2.2.1 = some (tyK ci k)) ∧ (∀ a, a < N → ∀ b, b < N → a ≠ b → (T a).2.1 ≠ (T b).2.1) ∧ nfK ci = N := by
  match ci, hc with
  | 0, hc => cases hc; exact ⟨tyX0_ok, nmX0, rfl⟩
  | 1, hc => cases hc; exact ⟨tyX1_ok, nmX1, rfl⟩
  | 2, hc => cases hc; exact ⟨tyX2_ok, nmX2, rfl⟩
  | 3, hc => cases hc; exact ⟨tyX3_ok, nmX3, rfl⟩
  | 4, hc => cases hc; exact ⟨tyX4_ok, nmX4, rfl⟩
  | 5, hc => cases hc; exact ⟨tyX5_ok, nmX5, rfl⟩
  | 6, hc => cases hc; exact ⟨tyX6_ok, nmX6, rfl⟩
  | 7, hc => cases hc; exact ⟨tyX7_ok, nmX7, rfl⟩
  | 8, hc => cases hc; exact ⟨tyX8_ok, nmX8, rfl⟩
  | 9, hc => cases hc; exact ⟨tyX9_ok, nmX9, rfl⟩
  | 10, hc => cases hc; exact ⟨tyX10_ok, nmX10, rfl⟩
  | 11, hc => cases hc; exact ⟨tyX11_ok, nmX11, rfl⟩
  | 12, hc => cases hc; exact ⟨tyX12_ok, nmX12, rfl⟩
  | k + 13, hc => simp [kcl] at hc
theorem obj_at {G : GG} {S : HSt} {a ci : Nat} {C : String} {T : u_T} {N : Nat} (ha : a < gn S) (hK : gK S a = ci) (hc : kcl[ci]? = some (C, T, N)) : (wl G S)[a]? = some (G.1 + a, .inr (ci, (List.range N).map (fun j => fvt (ro G) S a j (ftc (tyK ci j))))) := by
  rw [wl_get G ha, cellE_obj hK (kcl_lt hc) (kcl_ty hc).2.2]
theorem fld_at {f : Nat → Value} {N j : Nat} (hj : j < N) : ((List.range N).map f)[j]? = some (f j) := by
  rw [List.getElem?_map, List.getElem?_range hj]
  rfl
/-- a field: any type; 'link' says that it is a nest mate's (host) or one's own -/
theorem aw_getV (hC : ACx p s m args meth c cc own nL ret) (hSt : St G s) {a ci j index N : Nat} {C : String} {T : u_T} {v : Value} (ha : a < gn S) (hK : gK S a = ci) (hc : kcl[ci]? = some (C, T, N)) (hj : j < N) (hw : Cond.fieldLink own index (T j).1 (T j).2.1 (T j).2.2.1 ∈ BIG) (hv : fvt (ro G) S a j (ftc (tyK ci j)) = cv G v) (hd : decode cc pc = .ok (.getfield index, 3)) (k : AW p l e R s m args below meth c G nL Q S cells slots (pc + 3) lv (v :: st)) : AW p l e R s m args below meth c G nL Q S cells slots pc lv (.ref a :: st) := by
  intro H locs ls hR hS hl
  show W p l e R s m args below meth c H locs cells slots Q (F0 m pc ls (.ref (ro G a) :: st.map (cv G)))
  rw [ro_lt hR ha]
  exact va_get (Ts := wcl) hC.1 hC.2.1 (fun w h => hSt.2.2.1 w h _) (wcl_in hc) hC.2.2.2.1 hSt.2.2.2.1 hR.1 a (obj_at ha hK hc) hc j hj (hC.2.2.2.2.1 _ hw) (fun _ h => h) ((fld_at hj).trans (congrArg some hv)) hd (k H locs ls hR hS hl)
theorem aw_getI (hC : ACx p s m args meth c cc own nL ret) (hSt : St G s) {a ci index N : Nat} (j : Nat) {C : String} {T : u_T} (ha : a < gn S) (hK : gK S a = ci) (hc : kcl[ci]? = some (C, T, N)) (hj : j < N) (hw : Cond.fieldLink own index (T j).1 (T j).2.1 (T j).2.2.1 ∈ BIG) (ht : ftc (tyK ci j) = 0) (hd : decode cc pc = .ok (.getfield index, 3)) (k : AW p l e R s m args below meth c G nL Q S cells slots (pc + 3) lv (.int (gI S a j) :: st)) : AW p l e R s m args below meth c G nL Q S cells slots pc lv (.ref a :: st) := aw_getV hC hSt ha hK hc hj hw (by rw [ht]; rfl) hd k
theorem aw_getJ (hC : ACx p s m args meth c cc own nL ret) (hSt : St G s) {a ci index N : Nat} (j : Nat) {C : String} {T : u_T} (ha : a < gn S) (hK : gK S a = ci) (hc : kcl[ci]? = some (C, T, N)) (hj : j < N) (hw : Cond.fieldLink own index (T j).1 (T j).2.1 (T j).2.2.1 ∈ BIG) (ht : ftc (tyK ci j) = 1) (hd : decode cc pc = .ok (.getfield index, 3)) (k : AW p l e R s m args below meth c G nL Q S cells slots (pc + 3) lv (.long (gJ S a j) :: st)) : AW p l e R s m args below meth c G nL Q S cells slots pc lv (.ref a :: st) := aw_getV hC hSt ha hK hc hj hw (by rw [ht]; rfl) hd k
theorem aw_getP (hC : ACx p s m args meth c cc own nL ret) (hSt : St G s) {a ci index N : Nat} (j : Nat) {b : Nat} {C : String} {T : u_T} (ha : a < gn S) (hK : gK S a = ci) (hc : kcl[ci]? = some (C, T, N)) (hj : j < N) (hw : Cond.fieldLink own index (T j).1 (T j).2.1 (T j).2.2.1 ∈ BIG) (ht : ftc (tyK ci j) = 2) (hb : gP S a j = some b) (hd : decode cc pc = .ok (.getfield index, 3)) (k : AW p l e R s m args below meth c G nL Q S cells slots (pc + 3) lv (.ref b :: st)) : AW p l e R s m args below meth c G nL Q S cells slots pc lv (.ref a :: st) := aw_getV hC hSt ha hK hc hj hw (by rw [ht]; show va_rf ((gP S a j).map (ro G)) = _; rw [hb]; rfl) hd k
theorem cellE_oI {G : GG} {S : HSt} {a b : Nat} {g : Nat → Int32} (h : b ≠ a) : cellE G (rI S a g) b = cellE G S b := by
  unfold cellE rowE fvt
  simp only [gK_rI, gL_rI, gJ_rI, gP_rI, gI_rI, if_neg h]
theorem cellE_oJ {G : GG} {S : HSt} {a b : Nat} {g : Nat → Int64} (h : b ≠ a) : cellE G (rJ S a g) b = cellE G S b := by
  unfold cellE rowE fvt
  simp only [gK_rJ, gL_rJ, gI_rJ, gP_rJ, gJ_rJ, if_neg h]
  rfl
theorem cellE_oP {G : GG} {S : HSt} {a b : Nat} {g : Nat → Option Nat} (h : b ≠ a) : cellE G (rP S a g) b = cellE G S b := by
  unfold cellE rowE fvt
  simp only [gK_rP, gL_rP, gI_rP, gJ_rP, gP_rP, if_neg h]
/-- a field is written: whatever its type, by what the cells become -/
theorem aw_putV (hC : ACx p s m args meth c cc own nL ret) (hSt : St G s) {S' : HSt} {a ci j index N : Nat} {C : String} {T : u_T} {v : Value} (ha : a < gn S) (hK : gK S a = ci) (hc : kcl[ci]? = some (C, T, N)) (hj : j < N) (hw : Cond.fieldLink own index (T j).1 (T j).2.1 (T j).2.2.1 ∈ BIG) (hfin : (T j).2.2.2 = false) (hn : narrow (tyK ci j) (cv G v) = cv G v) (hf : fits (tyK ci j) (cv G v) = true)
    (hn' : gn S' = gn S) (hK' : gK S' a = ci) (he : ∀ i, i ≠ j → fvt (ro G) S' a i (ftc (tyK ci i)) = fvt (ro G) S a i (ftc (tyK ci i))) (hv : fvt (ro G) S' a j (ftc (tyK ci j)) = cv G v) (ho : ∀ b, b ≠ a → cellE G S' b = cellE G S b)
    (hd : decode cc pc = .ok (.putfield index, 3)) (k : AW p l e R s m args below meth c G nL Q S' cells slots (pc + 3) lv st) : AW p l e R s m args below meth c G nL Q S cells slots pc lv (v :: .ref a :: st) := by
  intro H locs ls hR hS hl
  show W p l e R s m args below meth c H locs cells slots Q (F0 m pc ls (cv G v :: .ref (ro G a) :: st.map (cv G)))
  rw [ro_lt hR ha]
  obtain ⟨hts, hin, hcty⟩ : (∀ w ∈ wcl, w.before args s = true) ∧ (∀ w ∈ u_ws C T N, w ∈ wcl) ∧ _ := ⟨fun w h => hSt.2.2.1 w h _, wcl_in hc, kcl_ty hc⟩
  have hap := va_apart (own := own) hts hin (tyK ci) hcty.1 hcty.2.1 hSt.2.2.2.1 hc
  have heo := obj_at (G := G) ha hK hc
  obtain ⟨r, h1, cell, q1, q2, q3, q4⟩ := hR.1 a _ heo
  have hr : r = (C, T, N) := Option.some.inj (h1.symm.trans hc)
  subst hr
  obtain ⟨hS2, hfc, kC, hkC, hkind⟩ := hSt.2.2.2.1.1 ci _ hc
  obtain ⟨cf, kf, fi, f, hi, hsl⟩ := hS2 j hj
  have hlay := hts _ (hin _ (u_in_lay hj))
  unfold u_lay at hlay
  rw [if_neg (by rw [hfin]; decide)] at hlay
  have hst := (u_facts hfc hkC (u_lays hts hin hj) hi).1
  have h6 := u_store hfc hkC hkind hlay hi (hcty.1 j hj) hn hf
  refine W.putK hC.1 hC.2.1 (f := f) ⟨hC.2.2.2.1, hC.2.2.2.2.1 _ hw, ⟨_, _, _, hi⟩, hst⟩ (by rw [q2]; exact h6) q1 q3 (by rw [hsl]; exact k2_hasslot (q4 j hj)) rfl rfl hd fun H1 e1 e2 e3 => ?_
  rw [hsl] at e1 ⊢
  have hP1 := hR.1.set (wl_D G S) heo (e := .inr (ci, ((List.range N).map (fun j => fvt (ro G) S a j (ftc (tyK ci j)))).set j (cv G v))) ⟨_, hc, t_OB.to (V := updV (vp_V _) j (cv G v)) ⟨_, e1, q2, q3, t_set q4 hap hj (cv G v)⟩ (fun i _ => vp_updV_set (by simpa using hj) (cv G v) i)⟩ e3
  refine k H1 _ ls ⟨?_, by rw [e2, hn']; exact hR.2.1, by rw [hn']; exact hR.2.2⟩ (hS.put e2 e3 ((wl_D G S).2 a _ heo)) hl
  have hset := wl_set (G := G) (S := S) (S' := S') (a := a) hn' (cellE_obj hK' (kcl_lt hc) (kcl_ty hc).2.2) ho
  rw [map_range_set he, hv] at hset
  rw [← hset]
  exact hP1
theorem aw_putI (hC : ACx p s m args meth c cc own nL ret) (hSt : St G s) {a ci index N : Nat} (j : Nat) {C : String} {T : u_T} {v : Int32} (ha : a < gn S) (hK : gK S a = ci) (hc : kcl[ci]? = some (C, T, N)) (hj : j < N) (hw : Cond.fieldLink own index (T j).1 (T j).2.1 (T j).2.2.1 ∈ BIG) (hfin : (T j).2.2.2 = false) (ht : ftc (tyK ci j) = 0) (hn : narrow (tyK ci j) (.int v) = .int v) (hf : fits (tyK ci j) (.int v) = true) (hd : decode cc pc = .ok (.putfield index, 3)) (k : AW p l e R s m args below meth c G nL Q (sI S a j v) cells slots (pc + 3) lv st) : AW p l e R s m args below meth c G nL Q S cells slots pc lv (.int v :: .ref a :: st) := by
  refine aw_putV hC hSt ha hK hc hj hw hfin hn hf (S' := sI S a j v) rfl hK (fun i hi => ?_) ?_ (fun b hb => cellE_oI hb) hd k
  · unfold fvt
    rw [gJ_sI, gP_sI, gI_sI, if_pos rfl, if_neg hi]
  · rw [ht]
    unfold fvt
    rw [if_neg (by decide), if_neg (by decide), gI_sI, if_pos rfl, if_pos rfl]
    rfl
theorem aw_putJ (hC : ACx p s m args meth c cc own nL ret) (hSt : St G s) {a ci index N : Nat} (j : Nat) {C : String} {T : u_T} {v : Int64} (ha : a < gn S) (hK : gK S a = ci) (hc : kcl[ci]? = some (C, T, N)) (hj : j < N) (hw : Cond.fieldLink own index (T j).1 (T j).2.1 (T j).2.2.1 ∈ BIG) (hfin : (T j).2.2.2 = false) (ht : ftc (tyK ci j) = 1) (hn : narrow (tyK ci j) (.long v) = .long v) (hf : fits (tyK ci j) (.long v) = true) (hd : decode cc pc = .ok (.putfield index, 3)) (k : AW p l e R s m args below meth c G nL Q (sJ S a j v) cells slots (pc + 3) lv st) : AW p l e R s m args below meth c G nL Q S cells slots pc lv (.long v :: .ref a :: st) := by
  refine aw_putV hC hSt ha hK hc hj hw hfin hn hf (S' := sJ S a j v) rfl hK (fun i hi => ?_) ?_ (fun b hb => cellE_oJ hb) hd k
  · unfold fvt
    rw [gI_sJ, gP_sJ, gJ_sJ, if_pos rfl, if_neg hi]
  · rw [ht]
    unfold fvt
    rw [if_pos rfl, gJ_sJ, if_pos rfl, if_pos rfl]
    rfl
theorem aw_putP (hC : ACx p s m args meth c cc own nL ret) (hSt : St G s) {a ci index N : Nat} (j : Nat) {b : Nat} {C : String} {T : u_T} (ha : a < gn S) (hK : gK S a = ci) (hc : kcl[ci]? = some (C, T, N)) (hj : j < N) (hw : Cond.fieldLink own index (T j).1 (T j).2.1 (T j).2.2.1 ∈ BIG) (hfin : (T j).2.2.2 = false) (ht : ftc (tyK ci j) = 2) (hn : ∀ q : Nat, narrow (tyK ci j) (.ref q) = .ref q) (hf : ∀ q : Nat, fits (tyK ci j) (.ref q) = true) (hd : decode cc pc = .ok (.putfield index, 3)) (k : AW p l e R s m args below meth c G nL Q (sP S a j (some b)) cells slots (pc + 3) lv st) : AW p l e R s m args below meth c G nL Q S cells slots pc lv (.ref b :: .ref a :: st) := by
  refine aw_putV hC hSt ha hK hc hj hw hfin (hn _) (hf _) (S' := sP S a j (some b)) rfl hK (fun i hi => ?_) ?_ (fun b hb => cellE_oP hb) hd k
  · unfold fvt
    rw [gI_sP, gJ_sP, gP_sP, if_pos rfl, if_neg hi]
  · rw [ht]
    unfold fvt
    rw [if_neg (by decide), if_pos rfl, gP_sP, if_pos rfl, if_pos rfl]
    rfl
end AWH
