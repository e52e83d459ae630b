section AWA
variable {p : Program} {l : Launch} {e : Env} {R : Room} {s : State} {m : MethodId} {args : Array Value} {below : List Frame} {meth : Method} {c : Code} {G : GG} {nL : Nat} {Q : State → Prop} {S : HSt} {cells slots pc : Nat} {lv : List (Nat × Value)} {st : List Value}
variable {cc : ByteArray} {own : String} {ret : Option FieldType}
theorem row_i {G : GG} {S : HSt} {a k : Nat} (ha : a < gn S) (hK : gK S a = k) (h1 : 13 ≤ k) (h2 : k ≠ 15) (h3 : k < 17) : (wl G S)[a]? = some (G.1 + a, .inl (G.2.2.1 k, gL S a, .inl (gI S a))) := by
  rw [wl_get G ha, cellE_row hK h1, rowE_i hK h2 h3]
theorem row_j {G : GG} {S : HSt} {a : Nat} (ha : a < gn S) (hK : gK S a = 15) : (wl G S)[a]? = some (G.1 + a, .inl (G.2.2.1 15, gL S a, .inr (.inl (gJ S a)))) := by
  rw [wl_get G ha, cellE_row hK (by decide), rowE_j hK]
theorem row_p {G : GG} {S : HSt} {a k : Nat} (ha : a < gn S) (hK : gK S a = k) (h1 : 17 ≤ k) : (wl G S)[a]? = some (G.1 + a, .inl (G.2.2.1 k, gL S a, .inr (.inr (.inr (.inr (fun j => (gP S a j).map (ro G))))))) := by
  rw [wl_get G ha, cellE_row hK (by omega), rowE_p hK h1]
theorem aw_iald (hC : ACx p s m args meth c cc own nL ret) (hSt : St G s) {a : Nat} {i : Int32} (ha : a < gn S) (hK : gK S a = 14) (hin : vp_in i (gL S a)) (hd : decode cc pc = .ok (.iaload, 1)) (kk : AW p l e R s m args below meth c G nL Q S cells slots (pc + 1) lv (.int (gI S a i.toNatClampNeg) :: st)) : AW p l e R s m args below meth c G nL Q S cells slots pc lv (.int i :: .ref a :: st) := by
  intro H locs ls hR hS hl
  show W p l e R s m args below meth c H locs cells slots Q (F0 m pc ls (.int i :: .ref (ro G a) :: st.map (cv G)))
  rw [ro_lt hR ha]
  exact va_iald hC.1 hC.2.1 hSt.2.2.2.1 hR.1 a 1 (row_i ha hK (by decide) (by decide) (by decide)) rfl hin hd (kk H locs ls hR hS hl)
theorem aw_bald (hC : ACx p s m args meth c cc own nL ret) (hSt : St G s) {a : Nat} {i : Int32} (ha : a < gn S) (hK : gK S a = 13) (hin : vp_in i (gL S a)) (hd : decode cc pc = .ok (.baload, 1)) (kk : AW p l e R s m args below meth c G nL Q S cells slots (pc + 1) lv (.int (gI S a i.toNatClampNeg) :: st)) : AW p l e R s m args below meth c G nL Q S cells slots pc lv (.int i :: .ref a :: st) := by
  intro H locs ls hR hS hl
  show W p l e R s m args below meth c H locs cells slots Q (F0 m pc ls (.int i :: .ref (ro G a) :: st.map (cv G)))
  rw [ro_lt hR ha]
  exact va_bald hC.1 hC.2.1 hSt.2.2.2.1 hR.1 a 0 (row_i ha hK (by decide) (by decide) (by decide)) rfl hin hd (kk H locs ls hR hS hl)
theorem aw_zald (hC : ACx p s m args meth c cc own nL ret) (hSt : St G s) {a : Nat} {i : Int32} (ha : a < gn S) (hK : gK S a = 16) (hin : vp_in i (gL S a)) (hd : decode cc pc = .ok (.baload, 1)) (kk : AW p l e R s m args below meth c G nL Q S cells slots (pc + 1) lv (.int (gI S a i.toNatClampNeg) :: st)) : AW p l e R s m args below meth c G nL Q S cells slots pc lv (.int i :: .ref a :: st) := by
  intro H locs ls hR hS hl
  show W p l e R s m args below meth c H locs cells slots Q (F0 m pc ls (.int i :: .ref (ro G a) :: st.map (cv G)))
  rw [ro_lt hR ha]
  exact va_zald hC.1 hC.2.1 hSt.2.2.2.1 hR.1 a 3 (row_i ha hK (by decide) (by decide) (by decide)) rfl hin hd (kk H locs ls hR hS hl)
theorem aw_lald (hC : ACx p s m args meth c cc own nL ret) (hSt : St G s) {a : Nat} {i : Int32} (ha : a < gn S) (hK : gK S a = 15) (hin : vp_in i (gL S a)) (hd : decode cc pc = .ok (.laload, 1)) (kk : AW p l e R s m args below meth c G nL Q S cells slots (pc + 1) lv (.long (gJ S a i.toNatClampNeg) :: st)) : AW p l e R s m args below meth c G nL Q S cells slots pc lv (.int i :: .ref a :: st) := by
  intro H locs ls hR hS hl
  show W p l e R s m args below meth c H locs cells slots Q (F0 m pc ls (.int i :: .ref (ro G a) :: st.map (cv G)))
  rw [ro_lt hR ha]
  exact va_lald hC.1 hC.2.1 hSt.2.2.2.1 hR.1 a 2 (row_j ha hK) rfl hin hd (kk H locs ls hR hS hl)
theorem aw_aaldL (hC : ACx p s m args meth c cc own nL ret) (hSt : St G s) {a b : Nat} {i : Int32} (ha : a < gn S) (hK : gK S a = 17) (hin : vp_in i (gL S a)) (hb : gP S a i.toNatClampNeg = some b) (hd : decode cc pc = .ok (.aaload, 1)) (kk : AW p l e R s m args below meth c G nL Q S cells slots (pc + 1) lv (.ref b :: st)) : AW p l e R s m args below meth c G nL Q S cells slots pc lv (.int i :: .ref a :: st) := by
  intro H locs ls hR hS hl
  show W p l e R s m args below meth c H locs cells slots Q (F0 m pc ls (.int i :: .ref (ro G a) :: st.map (cv G)))
  rw [ro_lt hR ha]
  refine va_aldq (C := RX1) hC.1 hC.2.1 hSt.2.2.2.1 hR.1 a 4 (row_p ha hK (by decide)) rfl hin hd ?_
  rw [show ((gP S a i.toNatClampNeg).map (ro G)) = some (ro G b) by rw [hb]; rfl]
  exact kk H locs ls hR hS hl
theorem aw_aaldS (hC : ACx p s m args meth c cc own nL ret) (hSt : St G s) {a b : Nat} {i : Int32} (ha : a < gn S) (hK : gK S a = 18) (hin : vp_in i (gL S a)) (hb : gP S a i.toNatClampNeg = some b) (hd : decode cc pc = .ok (.aaload, 1)) (kk : AW p l e R s m args below meth c G nL Q S cells slots (pc + 1) lv (.ref b :: st)) : AW p l e R s m args below meth c G nL Q S cells slots pc lv (.int i :: .ref a :: st) := by
  intro H locs ls hR hS hl
  show W p l e R s m args below meth c H locs cells slots Q (F0 m pc ls (.int i :: .ref (ro G a) :: st.map (cv G)))
  rw [ro_lt hR ha]
  refine va_aldq (C := RX7) hC.1 hC.2.1 hSt.2.2.2.1 hR.1 a 5 (row_p ha hK (by decide)) rfl hin hd ?_
  rw [show ((gP S a i.toNatClampNeg).map (ro G)) = some (ro G b) by rw [hb]; rfl]
  exact kk H locs ls hR hS hl
theorem aw_aaldI (hC : ACx p s m args meth c cc own nL ret) (hSt : St G s) {a b : Nat} {i : Int32} (ha : a < gn S) (hK : gK S a = 19) (hin : vp_in i (gL S a)) (hb : gP S a i.toNatClampNeg = some b) (hd : decode cc pc = .ok (.aaload, 1)) (kk : AW p l e R s m args below meth c G nL Q S cells slots (pc + 1) lv (.ref b :: st)) : AW p l e R s m args below meth c G nL Q S cells slots pc lv (.int i :: .ref a :: st) := by
  intro H locs ls hR hS hl
  show W p l e R s m args below meth c H locs cells slots Q (F0 m pc ls (.int i :: .ref (ro G a) :: st.map (cv G)))
  rw [ro_lt hR ha]
  have hlt : i.toNatClampNeg < gL S a := Nat.not_le.mp fun q => hin (Or.inr q)
  refine W.aald (v := .ref (ro G b)) (ty := .array .int) hC.1 hC.2.1 (hR.1 a _ (row_p ha hK (by decide))) ((hSt.2.2.2.1.2 6 _ rfl).1 (gL S a) (fun j => va_rf ((gP S a j).map (ro G)))) rfl (fun q => by cases q) (by show ¬ (i < 0 ∨ (arrV _ _ _).slots.size ≤ _); rw [arrV_size]; exact hin) (by show (arrV _ _ _).slots[_]? = _; rw [arrV_read _ _ hlt]; show some (va_rf ((gP S a i.toNatClampNeg).map (ro G))) = _; rw [hb]; rfl) rfl rfl hd (kk H locs ls hR hS hl)
theorem rp_row {G : GG} {S S' : HSt} {H H1 : Heap} {a : Nat} (hR : Rp G S H) (ha : a < gn S) (hn : gn S' = gn S) (he : va_at G.2.2.2 kcl (G.1 + a, cellE G S' a) H1) (ho : ∀ b, b ≠ a → cellE G S' b = cellE G S b) (z : H1.size = H.size) (oq : ∀ q : Nat, q ≠ G.1 + a → H1[q]? = H[q]?) : Rp G S' H1 := by
  have h := hR.1.set (wl_D G S) (wl_get G ha) he oq
  rw [wl_set hn rfl ho] at h
  exact ⟨h, by rw [z, hn]; exact hR.2.1, by rw [hn]; exact hR.2.2⟩
theorem aw_iast (hC : ACx p s m args meth c cc own nL ret) (hSt : St G s) {a : Nat} {i x : Int32} (ha : a < gn S) (hK : gK S a = 14) (hin : vp_in i (gL S a)) (hd : decode cc pc = .ok (.iastore, 1)) (kk : AW p l e R s m args below meth c G nL Q (sI S a i.toNatClampNeg x) cells slots (pc + 1) lv st) : AW p l e R s m args below meth c G nL Q S cells slots pc lv (.int x :: .int i :: .ref a :: st) := by
  intro H locs ls hR hS hl
  show W p l e R s m args below meth c H locs cells slots Q (F0 m pc ls (.int x :: .int i :: .ref (ro G a) :: st.map (cv G)))
  rw [ro_lt hR ha]
  have hrow := row_i (G := G) ha hK (by decide) (by decide) (by decide)
  refine W.iast hC.1 hC.2.1 (hR.1 a _ hrow) ((hSt.2.2.2.1.2 1 _ rfl).1 (gL S a) (fun j => .int (gI S a j))) (fun q => by cases q) (by show ¬ (i < 0 ∨ (arrV _ _ _).slots.size ≤ _); rw [arrV_size]; exact hin) rfl rfl hd fun H1 e1 z oq => ?_
  refine kk H1 _ ls (rp_row hR ha rfl ?_ (fun b hb => cellE_oI hb) z oq) (hS.put z oq ((wl_D G S).2 a _ hrow)) hl
  rw [cellE_row (S := sI S a i.toNatClampNeg x) (k := 14) hK (by decide), rowE_i (S := sI S a i.toNatClampNeg x) (k := 14) hK (by decide) (by decide)]
  show H1[G.1 + a]? = some (vp_cell _ (gL S a, _))
  rw [e1, vp_cell_i, vp_cell_i, arrV_store]
  congr 2
  funext q
  rw [gI_sI, if_pos rfl]
  by_cases hq : q = i.toNatClampNeg
  · subst hq
    simp [updV, vp_nar]
    try rfl
  · simp [updV, hq]
theorem aw_bast (hC : ACx p s m args meth c cc own nL ret) (hSt : St G s) {a : Nat} {i x : Int32} (ha : a < gn S) (hK : gK S a = 13) (hin : vp_in i (gL S a)) (hd : decode cc pc = .ok (.bastore, 1)) (kk : AW p l e R s m args below meth c G nL Q (sI S a i.toNatClampNeg (vp_nar .byte x)) cells slots (pc + 1) lv st) : AW p l e R s m args below meth c G nL Q S cells slots pc lv (.int x :: .int i :: .ref a :: st) := by
  intro H locs ls hR hS hl
  show W p l e R s m args below meth c H locs cells slots Q (F0 m pc ls (.int x :: .int i :: .ref (ro G a) :: st.map (cv G)))
  rw [ro_lt hR ha]
  have hrow := row_i (G := G) ha hK (by decide) (by decide) (by decide)
  refine W.bast hC.1 hC.2.1 (hR.1 a _ hrow) ((hSt.2.2.2.1.2 0 _ rfl).1 (gL S a) (fun j => .int (gI S a j))) (fun q => by cases q) (by show ¬ (i < 0 ∨ (arrV _ _ _).slots.size ≤ _); rw [arrV_size]; exact hin) rfl rfl hd fun H1 e1 z oq => ?_
  refine kk H1 _ ls (rp_row hR ha rfl ?_ (fun b hb => cellE_oI hb) z oq) (hS.put z oq ((wl_D G S).2 a _ hrow)) hl
  rw [cellE_row (S := sI S a i.toNatClampNeg (vp_nar .byte x)) (k := 13) hK (by decide), rowE_i (S := sI S a i.toNatClampNeg (vp_nar .byte x)) (k := 13) hK (by decide) (by decide)]
  show H1[G.1 + a]? = some (vp_cell _ (gL S a, _))
  rw [e1, vp_cell_i, vp_cell_i, arrV_store]
  congr 2
  funext q
  rw [gI_sI, if_pos rfl]
  by_cases hq : q = i.toNatClampNeg
  · subst hq
    simp [updV, vp_nar]
    try rfl
  · simp [updV, hq]
theorem aw_zast (hC : ACx p s m args meth c cc own nL ret) (hSt : St G s) {a : Nat} {i x : Int32} (ha : a < gn S) (hK : gK S a = 16) (hin : vp_in i (gL S a)) (hd : decode cc pc = .ok (.bastore, 1)) (kk : AW p l e R s m args below meth c G nL Q (sI S a i.toNatClampNeg (vp_nar .boolean x)) cells slots (pc + 1) lv st) : AW p l e R s m args below meth c G nL Q S cells slots pc lv (.int x :: .int i :: .ref a :: st) := by
  intro H locs ls hR hS hl
  show W p l e R s m args below meth c H locs cells slots Q (F0 m pc ls (.int x :: .int i :: .ref (ro G a) :: st.map (cv G)))
  rw [ro_lt hR ha]
  have hrow := row_i (G := G) ha hK (by decide) (by decide) (by decide)
  refine W.zast hC.1 hC.2.1 (hR.1 a _ hrow) ((hSt.2.2.2.1.2 3 _ rfl).1 (gL S a) (fun j => .int (gI S a j))) (fun q => by cases q) (by show ¬ (i < 0 ∨ (arrV _ _ _).slots.size ≤ _); rw [arrV_size]; exact hin) rfl rfl hd fun H1 e1 z oq => ?_
  refine kk H1 _ ls (rp_row hR ha rfl ?_ (fun b hb => cellE_oI hb) z oq) (hS.put z oq ((wl_D G S).2 a _ hrow)) hl
  rw [cellE_row (S := sI S a i.toNatClampNeg (vp_nar .boolean x)) (k := 16) hK (by decide), rowE_i (S := sI S a i.toNatClampNeg (vp_nar .boolean x)) (k := 16) hK (by decide) (by decide)]
  show H1[G.1 + a]? = some (vp_cell _ (gL S a, _))
  rw [e1, vp_cell_i, vp_cell_i, arrV_store]
  congr 2
  funext q
  rw [gI_sI, if_pos rfl]
  by_cases hq : q = i.toNatClampNeg
  · subst hq
    simp [updV, vp_nar]
    try rfl
  · simp [updV, hq]
theorem aw_last (hC : ACx p s m args meth c cc own nL ret) (hSt : St G s) {a : Nat} {i : Int32} {x : Int64} (ha : a < gn S) (hK : gK S a = 15) (hin : vp_in i (gL S a)) (hd : decode cc pc = .ok (.lastore, 1)) (kk : AW p l e R s m args below meth c G nL Q (sJ S a i.toNatClampNeg x) cells slots (pc + 1) lv st) : AW p l e R s m args below meth c G nL Q S cells slots pc lv (.long x :: .int i :: .ref a :: st) := by
  intro H locs ls hR hS hl
  show W p l e R s m args below meth c H locs cells slots Q (F0 m pc ls (.long x :: .int i :: .ref (ro G a) :: st.map (cv G)))
  rw [ro_lt hR ha]
  have hrow := row_j (G := G) ha hK
  refine W.last hC.1 hC.2.1 (hR.1 a _ hrow) ((hSt.2.2.2.1.2 2 _ rfl).1 (gL S a) (fun j => .long (gJ S a j))) (fun q => by cases q) (by show ¬ (i < 0 ∨ (arrV _ _ _).slots.size ≤ _); rw [arrV_size]; exact hin) rfl rfl hd fun H1 e1 z oq => ?_
  refine kk H1 _ ls (rp_row hR ha rfl ?_ (fun b hb => cellE_oJ hb) z oq) (hS.put z oq ((wl_D G S).2 a _ hrow)) hl
  rw [cellE_row (S := sJ S a i.toNatClampNeg x) (k := 15) hK (by decide), rowE_j (S := sJ S a i.toNatClampNeg x) hK]
  show H1[G.1 + a]? = some (vp_cell _ (gL S a, _))
  rw [e1, vp_cell_l, vp_cell_l, arrV_store]
  congr 2
  funext q
  rw [gJ_sJ, if_pos rfl]
  by_cases hq : q = i.toNatClampNeg
  · subst hq
    simp [updV]
  · simp [updV, hq]
theorem aw_alen (hC : ACx p s m args meth c cc own nL ret) (hSt : St G s) {a k : Nat} (ha : a < gn S) (hK : gK S a = k) (h1 : 13 ≤ k) (h2 : k < 20) (hd : decode cc pc = .ok (.arraylength, 1)) (kk : AW p l e R s m args below meth c G nL Q S cells slots (pc + 1) lv (.int (nI (gL S a)) :: st)) : AW p l e R s m args below meth c G nL Q S cells slots pc lv (.ref a :: st) := by
  intro H locs ls hR hS hl
  show W p l e R s m args below meth c H locs cells slots Q (F0 m pc ls (.ref (ro G a) :: st.map (cv G)))
  rw [ro_lt hR ha]
  have hrow : (wl G S)[a]? = some (G.1 + a, .inl (G.2.2.1 k, rowE G S a)) := by rw [wl_get G ha, cellE_row hK h1]
  have hty : ∃ (t0 : Nat) (ty : FieldType), (tysG G)[t0]? = some (G.2.2.1 k, ty) := by
    match k, h1, h2 with
    | 13, _, _ => exact ⟨0, _, rfl⟩
    | 14, _, _ => exact ⟨1, _, rfl⟩
    | 15, _, _ => exact ⟨2, _, rfl⟩
    | 16, _, _ => exact ⟨3, _, rfl⟩
    | 17, _, _ => exact ⟨4, _, rfl⟩
    | 18, _, _ => exact ⟨5, _, rfl⟩
    | 19, _, _ => exact ⟨6, _, rfl⟩
    | n + 20, _, h => exact absurd h (by omega)
  obtain ⟨t0, ty, ht⟩ := hty
  exact va_alen hC.1 hC.2.1 hSt.2.2.2.1 hR.1 a t0 hrow ht (v := nI (gL S a)) rfl hd (kk H locs ls hR hS hl)
theorem aw_gets (hC : ACx p s m args meth c cc own nL ret) (hSt : St G s) {index : Nat} (t : Nat) (ht : t < 6) (hw : Cond.fieldLink own index (tbC t) (tbN t) "[I" ∈ BIG) (hd : decode cc pc = .ok (.getstatic index, 3)) (kk : AW p l e R s m args below meth c G nL Q S cells slots (pc + 3) lv (.ref (1000 + t) :: st)) : AW p l e R s m args below meth c G nL Q S cells slots pc lv st := by
  intro H locs ls hR hS hl
  refine va_gets hC.1 hC.2.1 (hSt.2.1 t ht).1 hS hC.2.2.2.1 (hC.2.2.2.2.1 _ hw) (fun _ h => h) hd ?_
  have h := kk H locs ls hR hS hl
  rw [List.map_cons, show cv G (.ref (1000 + t)) = .ref (G.2.1 t) by show Value.ref (ro G (1000 + t)) = _; unfold ro; rw [if_neg (by omega), Nat.add_sub_cancel_left]] at h
  exact h
theorem aw_tld (hC : ACx p s m args meth c cc own nL ret) (hSt : St G s) (t : Nat) (ht : t < 6) {i : Int32} (hin : vp_in i (tbF t).length) (hd : decode cc pc = .ok (.iaload, 1)) (kk : AW p l e R s m args below meth c G nL Q S cells slots (pc + 1) lv (.int ((tbF t).getD i.toNatClampNeg 0) :: st)) : AW p l e R s m args below meth c G nL Q S cells slots pc lv (.int i :: .ref (1000 + t) :: st) := by
  intro H locs ls hR hS hl
  rw [List.map_cons, List.map_cons, show cv G (.ref (1000 + t)) = .ref (G.2.1 t) by show Value.ref (ro G (1000 + t)) = _; unfold ro; rw [if_neg (by omega), Nat.add_sub_cancel_left]]
  exact va_ti hC.1 hC.2.1 (hSt.2.1 t ht).2 hS hin rfl hd (kk H locs ls hR hS hl)
theorem aw_tlen (hC : ACx p s m args meth c cc own nL ret) (hSt : St G s) (t : Nat) (ht : t < 6) (hd : decode cc pc = .ok (.arraylength, 1)) (kk : AW p l e R s m args below meth c G nL Q S cells slots (pc + 1) lv (.int (nI (tbF t).length) :: st)) : AW p l e R s m args below meth c G nL Q S cells slots pc lv (.ref (1000 + t) :: st) := by
  intro H locs ls hR hS hl
  rw [List.map_cons, show cv G (.ref (1000 + t)) = .ref (G.2.1 t) by show Value.ref (ro G (1000 + t)) = _; unfold ro; rw [if_neg (by omega), Nat.add_sub_cancel_left]]
  exact va_tlen hC.1 hC.2.1 (hSt.2.1 t ht).2 hS rfl hd (kk H locs ls hR hS hl)
end AWA
