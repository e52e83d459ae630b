section AWS
variable {p : Program} {l : Launch} {e : Env} {R : Room} {s : State} {m : MethodId} {args : Array Value} {below : List Frame} {meth : Method} {c : Code} {G : GG} {nL : Nat} {Q : State → Prop} {S : HSt} {cells slots pc : Nat} {lv : List (Nat × Value)} {st : List Value}
variable {cc : ByteArray} {own : String} {ret : Option FieldType}
/-- a text constant -/
def sK (a : Nat) : Prop := ∃ i, i < 10 ∧ a = 2000 + i
theorem ro_s (G : GG) (i : Nat) : ro G (2000 + i) = G.2.1 (1000 + i) := by
  unfold ro
  rw [if_neg (by omega), show 2000 + i - 1000 = 1000 + i by omega]
theorem ro_b (G : GG) (i : Nat) : ro G (3000 + i) = G.2.1 (2000 + i) := by
  unfold ro
  rw [if_neg (by omega), show 3000 + i - 1000 = 2000 + i by omega]
theorem aw_ldcS (hC : ACx p s m args meth c cc RX4 nL ret) (hSt : St G s) (i : Nat) (hi : i < 10) (hd : decode cc pc = .ok (.ldc (130 + 2 * i), 2)) (kk : AW p l e R s m args below meth c G nL Q S cells slots (pc + 2) lv (.ref (2000 + i) :: st)) : AW p l e R s m args below meth c G nL Q S cells slots pc lv st := by
  intro H locs ls hR hS hl
  have h := kk H locs ls hR hS hl
  rw [List.map_cons, show cv G (.ref (2000 + i)) = .ref (G.2.1 (1000 + i)) by show Value.ref (ro G (2000 + i)) = _; rw [ro_s]] at h
  exact va_ldcS hC.1 hC.2.1 hC.2.2.2.1 (hSt.2.2.2.2.2.1 i hi) hd h
theorem aw_sval (hC : ACx p s m args meth c cc own nL ret) (hSt : St G s) {index i : Nat} (hi : i < 10) (hw : Cond.fieldLink own index "java/lang/String" "value" "[B" ∈ BIG) (hd : decode cc pc = .ok (.getfield index, 3)) (kk : AW p l e R s m args below meth c G nL Q S cells slots (pc + 3) lv (.ref (3000 + i) :: st)) : AW p l e R s m args below meth c G nL Q S cells slots pc lv (.ref (2000 + i) :: st) := by
  intro H locs ls hR hS hl
  have h := kk H locs ls hR hS hl
  rw [List.map_cons, show cv G (.ref (3000 + i)) = .ref (G.2.1 (2000 + i)) by show Value.ref (ro G (3000 + i)) = _; rw [ro_b]] at h
  rw [List.map_cons, show cv G (.ref (2000 + i)) = .ref (G.2.1 (1000 + i)) by show Value.ref (ro G (2000 + i)) = _; rw [ro_s]]
  exact vk_getf hC.1 hC.2.1 (hSt.2.2.2.2.2.2.1.1 i hi).2.2.1 hS hC.2.2.2.1 (hC.2.2.2.2.1 _ hw) (fun _ h => h) hd h
theorem aw_scod (hC : ACx p s m args meth c cc own nL ret) (hSt : St G s) {index i : Nat} (hi : i < 10) (hw : Cond.fieldLink own index "java/lang/String" "coder" "B" ∈ BIG) (hd : decode cc pc = .ok (.getfield index, 3)) (kk : AW p l e R s m args below meth c G nL Q S cells slots (pc + 3) lv (.int 0 :: st)) : AW p l e R s m args below meth c G nL Q S cells slots pc lv (.ref (2000 + i) :: st) := by
  intro H locs ls hR hS hl
  have h := kk H locs ls hR hS hl
  rw [List.map_cons] at h
  rw [List.map_cons, show cv G (.ref (2000 + i)) = .ref (G.2.1 (1000 + i)) by show Value.ref (ro G (2000 + i)) = _; rw [ro_s]]
  exact vk_getf hC.1 hC.2.1 (hSt.2.2.2.2.2.2.1.1 i hi).2.1 hS hC.2.2.2.1 (hC.2.2.2.2.1 _ hw) (fun _ h => h) hd h
theorem aw_slen (hC : ACx p s m args meth c cc own nL ret) (hSt : St G s) {i : Nat} (hi : i < 10) (hd : decode cc pc = .ok (.arraylength, 1)) (kk : AW p l e R s m args below meth c G nL Q S cells slots (pc + 1) lv (.int (nI (skL.getD i 0)) :: st)) : AW p l e R s m args below meth c G nL Q S cells slots pc lv (.ref (3000 + i) :: st) := by
  intro H locs ls hR hS hl
  rw [List.map_cons, show cv G (.ref (3000 + i)) = .ref (G.2.1 (2000 + i)) by show Value.ref (ro G (3000 + i)) = _; rw [ro_b]]
  exact va_tlen hC.1 hC.2.1 (hSt.2.2.2.2.2.2.1.1 i hi).2.2.2 hS rfl hd (kk H locs ls hR hS hl)
theorem aw_sby (hC : ACx p s m args meth c cc own nL ret) (hSt : St G s) {i : Nat} (hi : i < 10) {k : Int32} (hk : vp_in k (skL.getD i 0)) (hd : decode cc pc = .ok (.baload, 1)) (kk : AW p l e R s m args below meth c G nL Q S cells slots (pc + 1) lv (.int ((skB.getD i []).getD k.toNatClampNeg 0) :: st)) : AW p l e R s m args below meth c G nL Q S cells slots pc lv (.int k :: .ref (3000 + i) :: st) := by
  intro H locs ls hR hS hl
  rw [List.map_cons, List.map_cons, show cv G (.ref (3000 + i)) = .ref (G.2.1 (2000 + i)) by show Value.ref (ro G (3000 + i)) = _; rw [ro_b]]
  exact va_tb hC.1 hC.2.1 (hSt.2.2.2.2.2.2.1.1 i hi).2.2.2 hS hk rfl hd (kk H locs ls hR hS hl)
theorem aw_compact (hC : ACx p s m args meth c cc own nL ret) (hSt : St G s) {index : Nat} (hw : Cond.fieldLink own index "java/lang/String" "COMPACT_STRINGS" "Z" ∈ BIG) (hd : decode cc pc = .ok (.getstatic index, 3)) (kk : AW p l e R s m args below meth c G nL Q S cells slots (pc + 3) lv (.int 1 :: st)) : AW p l e R s m args below meth c G nL Q S cells slots pc lv st := by
  intro H locs ls hR hS hl
  exact va_gets hC.1 hC.2.1 hSt.2.2.2.2.2.2.2.1 hS hC.2.2.2.1 (hC.2.2.2.2.1 _ hw) (fun _ h => h) hd (kk H locs ls hR hS hl)
theorem aw_sioobe (hC : ACx p s m args meth c cc own nL ret) (hSt : St G s) {index : Nat} (hw : Cond.fieldLink own index "jdk/internal/util/Preconditions" "SIOOBE_FORMATTER" "Ljava/util/function/BiFunction;" ∈ BIG) (hd : decode cc pc = .ok (.getstatic index, 3)) (k1 : AW p l e R s m args below meth c G nL Q S cells slots (pc + 3) lv (.null :: st)) (k2 : AW p l e R s m args below meth c G nL Q S cells slots (pc + 3) lv (.ref 4000 :: st)) : AW p l e R s m args below meth c G nL Q S cells slots pc lv st := by
  intro H locs ls hR hS hl
  rcases hSt.2.2.2.2.2.2.2.2.1 with z | z
  · exact va_gets hC.1 hC.2.1 z hS hC.2.2.2.1 (hC.2.2.2.2.1 _ hw) (fun _ h => h) hd (k1 H locs ls hR hS hl)
  · have h := k2 H locs ls hR hS hl
    rw [List.map_cons, show cv G (.ref 4000) = .ref (G.2.1 3000) by show Value.ref (ro G 4000) = _; unfold ro; rw [if_neg (by omega)]] at h
    exact va_gets hC.1 hC.2.1 z hS hC.2.2.2.1 (hC.2.2.2.2.1 _ hw) (fun _ h => h) hd h
theorem aw_i2c (hC : ACx p s m args meth c cc own nL ret) {x : Int32} (hd : decode cc pc = .ok (.i2c, 1)) (k : AW p l e R s m args below meth c G nL Q S cells slots (pc + 1) lv (.int (x.toUInt32 % 65536).toInt32 :: st)) : AW p l e R s m args below meth c G nL Q S cells slots pc lv (.int x :: st) := fun H locs ls hR hS hl => lv_i2c hC.1 hC.2.1 hd rfl (k H locs ls hR hS hl)
theorem aw_nret {ty : FieldType} (hC : ACx p s m args meth c cc own nL (some ty)) {mc ms : Nat} {Post : Option Value → HSt → Prop} {v : Int32} (hd : decode cc pc = .ok (.ireturn, 1)) (hc : cells ≤ mc) (hs : slots ≤ ms) (hn : narrow ty (.int v) = .int v) (hp : Post (some (.int v)) S) : AW p l e R s m args below meth c G nL (AQ G below args s mc ms Post) S cells slots pc lv [.int v] := fun H locs ls hR hS hl => W.widen hc hs (W.zret hC.1 hC.2.1 hC.2.2.2.2.2.1 hn (fun t ht hW => ⟨⟨some (.int v), S, rfl, hp, by rw [ht]; exact hR⟩, hS.F ht⟩) hS.2.2 hd (hlocks := hC.2.2.2.2.2.2))
theorem aw_callT (hC : ACx p s m args meth c cc own nL ret) (hSt : St G s) (As : List Value) (n : Nat) {Post : Option Value → HSt → Prop} {y : MethodName} {rm : Room} {bytes : ByteArray} {maxL mc ms index : Nat} {rt : Option FieldType} {i : Nat} {rest : List Value} (hi : i < 10) (hy : y.cls = "java/lang/String")
    (hM : AM G l y bytes maxL rt rm mc ms (.ref (2000 + i) :: As) S Post) (hk : Cond.code y bytes maxL rt ∈ BIG) (hlk : Cond.methodLink own index y ∈ BIG) (hins : Cond.instanceMethod y ∈ BIG) (hsel : Cond.selects y.cls y y ∈ BIG) (hini : Cond.initialized y.cls ∈ BIG) (hrc : rm.cells = mc) (hrs : rm.slots = ms) (hd : y.cls ≠ "java/lang/invoke/MethodHandle" ∧ y.cls ≠ "java/lang/invoke/VarHandle" ∧ (parseMethodDescriptor y.desc).map (fun d => d.parameters.length) = some n) (hrm : rm.frames + 1 ≤ R.frames ∧ 8 + (maxL + 11) + rm.locals ≤ R.locals)
    (hn : As.length = n) (hst : st = As.reverse ++ .ref (2000 + i) :: rest) (hcat : (rest.map fun v => v.category).sum ≤ 8) (hdg : decode cc pc = .ok (.invokevirtual index, 3)) (hf : cells + mc ≤ R.cells ∧ slots + ms ≤ R.slots)
    (kk : ∀ (r : Option Value) (S1 : HSt), Post r S1 → AW p l e R s m args below meth c G nL Q S1 (cells + mc) (slots + ms) (pc + 3) lv (r.toList ++ rest)) : AW p l e R s m args below meth c G nL Q S cells slots pc lv st := by
  intro H locs ls hR hS hl
  subst hst
  have hrecv := vk_recv hSt.2.2.2.2.2.2.1 hi hS
  have hT : GoodIn BIG (wsV own index y.cls y (Cond.code y bytes maxL rt :: BIG)) := by
    intro w hw
    unfold wsV at hw
    rcases List.mem_append.mp hw with h | h
    · simp only [List.mem_cons, List.not_mem_nil, or_false] at h
      rcases h with rfl | rfl | rfl | rfl
      · exact gB hlk
      · exact gB hins
      · exact gB hsel
      · exact gB hini
    · exact gBc hk w h
  have hrun := va_runV (As := As.map (cv G)) (rest := rest.map (cv G)) (b := ro G (2000 + i)) (e := e) (below := below) (meth := meth) (H := H) (locs := locs) (cells := cells) (slots := slots) (g := F0 m pc ls ((As.reverse ++ .ref (2000 + i) :: rest).map (cv G))) ⟨hC.1, hC.2.1, hC.2.2.1, hC.2.2.2.1, hC.2.2.2.2.1⟩ hM (cwV n hC.2.2.2.2.1 hT rfl hrc hrs ⟨rfl, hd⟩ hrm) ⟨am_blind, by rw [ro_s, hy]; exact hrecv, am_pre (av := .ref (2000 + i) :: As) hSt hR hS⟩ rfl (by rw [List.length_map]; exact hn) hl.1 (by simp [cv]) (by rw [cats]; exact lv_room hcat) hdg hf
  exact aw_back hrun hS hl kk
theorem aw_cT0r (hC : ACx p s m args meth c cc own nL ret) (hSt : St G s) {y : MethodName} {rm : Room} {bytes : ByteArray} {maxL index : Nat} {rt : Option FieldType} {i : Nat} {S1 : HSt} {w : Value} (hi : i < 10) (hy : y.cls = "java/lang/String")
    (hM : AM G l y bytes maxL rt rm 0 0 (.ref (2000 + i) :: []) S (FP (some w) S1)) (hk : Cond.code y bytes maxL rt ∈ BIG) (hlk : Cond.methodLink own index y ∈ BIG) (hins : Cond.instanceMethod y ∈ BIG) (hsel : Cond.selects y.cls y y ∈ BIG) (hini : Cond.initialized y.cls ∈ BIG) (hrc : rm.cells = 0) (hrs : rm.slots = 0) (hd : y.cls ≠ "java/lang/invoke/MethodHandle" ∧ y.cls ≠ "java/lang/invoke/VarHandle" ∧ (parseMethodDescriptor y.desc).map (fun d => d.parameters.length) = some 0) (hrm : rm.frames + 1 ≤ R.frames ∧ 8 + (maxL + 11) + rm.locals ≤ R.locals)
    (hcat : (st.map fun v => v.category).sum ≤ 8) (hdg : decode cc pc = .ok (.invokevirtual index, 3)) (hf : cells ≤ R.cells ∧ slots ≤ R.slots)
    (kk : AW p l e R s m args below meth c G nL Q S1 cells slots (pc + 3) lv (w :: st)) : AW p l e R s m args below meth c G nL Q S cells slots pc lv (.ref (2000 + i) :: st) :=
  aw_callT hC hSt [] 0 hi hy hM hk hlk hins hsel hini hrc hrs hd hrm rfl rfl hcat hdg hf (fun r S2 h => by obtain ⟨rfl, rfl⟩ := h; exact kk)
theorem aw_cT1r (hC : ACx p s m args meth c cc own nL ret) (hSt : St G s) {y : MethodName} {rm : Room} {bytes : ByteArray} {maxL index : Nat} {rt : Option FieldType} {i : Nat} {S1 : HSt} {a1 w : Value} (hi : i < 10) (hy : y.cls = "java/lang/String")
    (hM : AM G l y bytes maxL rt rm 0 0 (.ref (2000 + i) :: [a1]) S (FP (some w) S1)) (hk : Cond.code y bytes maxL rt ∈ BIG) (hlk : Cond.methodLink own index y ∈ BIG) (hins : Cond.instanceMethod y ∈ BIG) (hsel : Cond.selects y.cls y y ∈ BIG) (hini : Cond.initialized y.cls ∈ BIG) (hrc : rm.cells = 0) (hrs : rm.slots = 0) (hd : y.cls ≠ "java/lang/invoke/MethodHandle" ∧ y.cls ≠ "java/lang/invoke/VarHandle" ∧ (parseMethodDescriptor y.desc).map (fun d => d.parameters.length) = some 1) (hrm : rm.frames + 1 ≤ R.frames ∧ 8 + (maxL + 11) + rm.locals ≤ R.locals)
    (hcat : (st.map fun v => v.category).sum ≤ 8) (hdg : decode cc pc = .ok (.invokevirtual index, 3)) (hf : cells ≤ R.cells ∧ slots ≤ R.slots)
    (kk : AW p l e R s m args below meth c G nL Q S1 cells slots (pc + 3) lv (w :: st)) : AW p l e R s m args below meth c G nL Q S cells slots pc lv (a1 :: .ref (2000 + i) :: st) :=
  aw_callT hC hSt [a1] 1 hi hy hM hk hlk hins hsel hini hrc hrs hd hrm rfl rfl hcat hdg hf (fun r S2 h => by obtain ⟨rfl, rfl⟩ := h; exact kk)
end AWS
theorem skL_all : ∀ i, i < 10 → skL.getD i 0 < 100 ∧ nI (skL.getD i 0) >>> ((0 : Int32) &&& 31) = nI (skL.getD i 0) := by decide +kernel
set_option maxRecDepth 100000 in
theorem t_J0_coder_7d493 (G : GG) (l : Launch) (S : HSt) {i : Nat} (hi : i < 10) : AM G l yJ0_coder_7d493 cJ0_coder_7d493 1 (some .byte) (rmD 0 0 0) 0 0 [.ref (2000 + i)] S (FP (some (.int 0)) S) := by
  refine AM.mk (by decide) (Nat.le_of_ble_eq_true rfl) ?_
  intro p e s m below meth c hC hSt _
  refine aw_compact hC hSt w_361 dJ0_coder_7d493_0 ?_
  refine aw_if_eq hC 13 dJ0_coder_7d493_3 (by decide) (fun h => absurd h (by decide)) (fun h => ?_)
  refine aw_aload_n hC 0 dJ0_coder_7d493_6 rfl rfl ?_
  refine aw_scod hC hSt hi w_362 dJ0_coder_7d493_7 ?_
  refine aw_goto hC 14 dJ0_coder_7d493_10 (by decide) ?_
  exact aw_nret hC dJ0_coder_7d493_14 (Nat.le_refl _) (Nat.le_refl _) (by decide) ⟨rfl, rfl⟩
set_option maxRecDepth 100000 in
theorem u_J0_length_8abf5 (G : GG) (l : Launch) (S : HSt) {i : Nat} (hi : i < 10) : AM G l yJ0_length_8abf5 cJ0_length_8abf5 1 (some .int) (rmD 1 0 0) 0 0 [.ref (2000 + i)] S (FP (some (.int (nI (skL.getD i 0)))) S) := by
  refine AM.mk (by decide) (Nat.le_of_ble_eq_true rfl) ?_
  intro p e s m below meth c hC hSt _
  refine aw_aload_n hC 0 dJ0_length_8abf5_0 rfl rfl ?_
  refine aw_sval hC hSt hi w_364 dJ0_length_8abf5_1 ?_
  refine aw_slen hC hSt hi dJ0_length_8abf5_4 ?_
  refine aw_aload_n hC 0 dJ0_length_8abf5_5 rfl rfl ?_
  refine aw_cT0r hC hSt hi rfl (t_J0_coder_7d493 G l S hi) w_360 w_365 w_366 w_367 w_368 rfl rfl (by decide +kernel) ⟨Nat.le_of_ble_eq_true rfl, Nat.le_of_ble_eq_true rfl⟩ (Nat.le_of_ble_eq_true rfl) dJ0_length_8abf5_6 ⟨Nat.zero_le _, Nat.zero_le _⟩ ?_
  refine aw_ishr hC dJ0_length_8abf5_9 ?_
  rw [(skL_all i hi).2]
  exact aw_iret hC dJ0_length_8abf5_10 (Nat.le_refl _) (Nat.le_refl _) ⟨rfl, rfl⟩
set_option maxRecDepth 100000 in
theorem t_J0_isLatin1_aae02 (G : GG) (l : Launch) (S : HSt) {i : Nat} (hi : i < 10) : AM G l yJ0_isLatin1_aae02 cJ0_isLatin1_aae02 1 (some .boolean) (rmD 0 0 0) 0 0 [.ref (2000 + i)] S (FP (some (.int 1)) S) := by
  refine AM.mk (by decide) (Nat.le_of_ble_eq_true rfl) ?_
  intro p e s m below meth c hC hSt _
  refine aw_compact hC hSt w_361 dJ0_isLatin1_aae02_0 ?_
  refine aw_if_eq hC 17 dJ0_isLatin1_aae02_3 (by decide) (fun h => absurd h (by decide)) (fun h => ?_)
  refine aw_aload_n hC 0 dJ0_isLatin1_aae02_6 rfl rfl ?_
  refine aw_scod hC hSt hi w_362 dJ0_isLatin1_aae02_7 ?_
  refine aw_if_ne hC 17 dJ0_isLatin1_aae02_10 (by decide) (fun h => absurd h (by decide)) (fun h => ?_)
  refine aw_iconst (v := 1) hC dJ0_isLatin1_aae02_13 (by decide) ?_
  refine aw_goto hC 18 dJ0_isLatin1_aae02_14 (by decide) ?_
  exact aw_nret hC dJ0_isLatin1_aae02_18 (Nat.le_refl _) (Nat.le_refl _) (by decide) ⟨rfl, rfl⟩
set_option maxRecDepth 100000 in
theorem t_J3_checkIndex_8e157_N (G : GG) (l : Launch) (S : HSt) (k n : Int32) (h1 : ¬ k < 0) (h2 : k < n) : AM G l yJ3_checkIndex_8e157 cJ3_checkIndex_8e157 3 (some .int) (rmD 0 0 0) 0 0 [.int k, .int n, .null] S (FP (some (.int k)) S) := by
  refine AM.mk (by decide) (Nat.le_of_ble_eq_true rfl) ?_
  intro p e s m below meth c hC hSt _
  refine aw_iload_n hC 0 dJ3_checkIndex_8e157_0 rfl rfl ?_
  refine aw_if_lt hC 9 dJ3_checkIndex_8e157_1 (by decide) (fun h => absurd h h1) (fun h => ?_)
  refine aw_iload_n hC 0 dJ3_checkIndex_8e157_4 rfl rfl ?_
  refine aw_iload_n hC 1 dJ3_checkIndex_8e157_5 rfl rfl ?_
  refine aw_icmp_lt hC 16 dJ3_checkIndex_8e157_6 (by decide) (fun h => ?_) (fun h => absurd h2 h)
  refine aw_iload_n hC 0 dJ3_checkIndex_8e157_16 rfl rfl ?_
  exact aw_iret hC dJ3_checkIndex_8e157_17 (Nat.le_refl _) (Nat.le_refl _) ⟨rfl, rfl⟩
set_option maxRecDepth 100000 in
theorem t_J3_checkIndex_8e157_R (G : GG) (l : Launch) (S : HSt) (k n : Int32) (h1 : ¬ k < 0) (h2 : k < n) : AM G l yJ3_checkIndex_8e157 cJ3_checkIndex_8e157 3 (some .int) (rmD 0 0 0) 0 0 [.int k, .int n, .ref 4000] S (FP (some (.int k)) S) := by
  refine AM.mk (by decide) (Nat.le_of_ble_eq_true rfl) ?_
  intro p e s m below meth c hC hSt _
  refine aw_iload_n hC 0 dJ3_checkIndex_8e157_0 rfl rfl ?_
  refine aw_if_lt hC 9 dJ3_checkIndex_8e157_1 (by decide) (fun h => absurd h h1) (fun h => ?_)
  refine aw_iload_n hC 0 dJ3_checkIndex_8e157_4 rfl rfl ?_
  refine aw_iload_n hC 1 dJ3_checkIndex_8e157_5 rfl rfl ?_
  refine aw_icmp_lt hC 16 dJ3_checkIndex_8e157_6 (by decide) (fun h => ?_) (fun h => absurd h2 h)
  refine aw_iload_n hC 0 dJ3_checkIndex_8e157_16 rfl rfl ?_
  exact aw_iret hC dJ3_checkIndex_8e157_17 (Nat.le_refl _) (Nat.le_refl _) ⟨rfl, rfl⟩
set_option maxRecDepth 100000 in
theorem t_J0_checkIndex_df160 (G : GG) (l : Launch) (S : HSt) (k n : Int32) (h1 : ¬ k < 0) (h2 : k < n) : AM G l yJ0_checkIndex_df160 cJ0_checkIndex_df160 2 none (rmD 1 0 0) 0 0 [.int k, .int n] S (FP none S) := by
  refine AM.mk (by decide) (Nat.le_of_ble_eq_true rfl) ?_
  intro p e s m below meth c hC hSt _
  refine aw_iload_n hC 0 dJ0_checkIndex_df160_0 rfl rfl ?_
  refine aw_iload_n hC 1 dJ0_checkIndex_df160_1 rfl rfl ?_
  refine aw_sioobe hC hSt w_372 dJ0_checkIndex_df160_2 ?_ ?_
  · refine aw_cS3r hC hSt (t_J3_checkIndex_8e157_N G l S k n h1 h2) w_370 w_373 w_374 w_375 rfl rfl (by decide +kernel) ⟨Nat.le_of_ble_eq_true rfl, Nat.le_of_ble_eq_true rfl⟩ (Nat.le_of_ble_eq_true rfl) dJ0_checkIndex_df160_5 ⟨Nat.zero_le _, Nat.zero_le _⟩ ?_
    refine aw_pop hC dJ0_checkIndex_df160_8 rfl ?_
    exact aw_vret hC dJ0_checkIndex_df160_9 (Nat.le_refl _) (Nat.le_refl _) ⟨rfl, rfl⟩
  · refine aw_cS3r hC hSt (t_J3_checkIndex_8e157_R G l S k n h1 h2) w_370 w_373 w_374 w_375 rfl rfl (by decide +kernel) ⟨Nat.le_of_ble_eq_true rfl, Nat.le_of_ble_eq_true rfl⟩ (Nat.le_of_ble_eq_true rfl) dJ0_checkIndex_df160_5 ⟨Nat.zero_le _, Nat.zero_le _⟩ ?_
    refine aw_pop hC dJ0_checkIndex_df160_8 rfl ?_
    exact aw_vret hC dJ0_checkIndex_df160_9 (Nat.le_refl _) (Nat.le_refl _) ⟨rfl, rfl⟩
def skC (i : Nat) (k : Int32) : Int32 := (skB.getD i []).getD k.toNatClampNeg 0 &&& 255
set_option maxRecDepth 100000 in
theorem t_J1_charAt_3b067 (G : GG) (l : Launch) (S : HSt) {i : Nat} (k : Int32) (hi : i < 10) (hk : vp_in k (skL.getD i 0)) : AM G l yJ1_charAt_3b067 cJ1_charAt_3b067 2 (some .char) (rmD 2 0 0) 0 0 [.ref (3000 + i), .int k] S (FP (some (.int (skC i k))) S) := by
  refine AM.mk (by decide) (Nat.le_of_ble_eq_true rfl) ?_
  intro p e s m below meth c hC hSt _
  refine aw_iload_n hC 1 dJ1_charAt_3b067_0 rfl rfl ?_
  refine aw_aload_n hC 0 dJ1_charAt_3b067_1 rfl rfl ?_
  refine aw_slen hC hSt hi dJ1_charAt_3b067_2 ?_
  have hlt : k < nI (skL.getD i 0) := by
    obtain ⟨j, hj, rfl⟩ := vp_in_of hk (by have := (skL_all i hi).1; omega)
    exact nI_lt hj (by have := (skL_all i hi).1; omega)
  refine aw_cS2v hC hSt (t_J0_checkIndex_df160 G l S k _ (fun h => hk (Or.inl h)) hlt) w_371 w_377 w_378 w_368 rfl rfl (by decide +kernel) ⟨Nat.le_of_ble_eq_true rfl, Nat.le_of_ble_eq_true rfl⟩ (Nat.le_of_ble_eq_true rfl) dJ1_charAt_3b067_3 ⟨Nat.zero_le _, Nat.zero_le _⟩ ?_
  refine aw_aload_n hC 0 dJ1_charAt_3b067_6 rfl rfl ?_
  refine aw_iload_n hC 1 dJ1_charAt_3b067_7 rfl rfl ?_
  refine aw_sby hC hSt hi hk dJ1_charAt_3b067_8 ?_
  refine aw_sipush (v := 255) hC dJ1_charAt_3b067_9 (by decide) ?_
  refine aw_iand hC dJ1_charAt_3b067_12 ?_
  refine aw_i2c hC dJ1_charAt_3b067_13 ?_
  rw [sc_c2]
  exact aw_nret hC dJ1_charAt_3b067_14 (Nat.le_refl _) (Nat.le_refl _) (sc_nar _) ⟨rfl, rfl⟩
set_option maxRecDepth 100000 in
theorem u_J0_charAt_5068e (G : GG) (l : Launch) (S : HSt) {i : Nat} (k : Int32) (hi : i < 10) (hk : vp_in k (skL.getD i 0)) : AM G l yJ0_charAt_5068e cJ0_charAt_5068e 2 (some .char) (rmD 3 0 0) 0 0 [.ref (2000 + i), .int k] S (FP (some (.int (skC i k))) S) := by
  refine AM.mk (by decide) (Nat.le_of_ble_eq_true rfl) ?_
  intro p e s m below meth c hC hSt _
  refine aw_aload_n hC 0 dJ0_charAt_5068e_0 rfl rfl ?_
  refine aw_cT0r hC hSt hi rfl (t_J0_isLatin1_aae02 G l S hi) w_369 w_394 w_395 w_396 w_368 rfl rfl (by decide +kernel) ⟨Nat.le_of_ble_eq_true rfl, Nat.le_of_ble_eq_true rfl⟩ (Nat.le_of_ble_eq_true rfl) dJ0_charAt_5068e_1 ⟨Nat.zero_le _, Nat.zero_le _⟩ ?_
  refine aw_if_eq hC 16 dJ0_charAt_5068e_4 (by decide) (fun h => absurd h (by decide)) (fun h => ?_)
  refine aw_aload_n hC 0 dJ0_charAt_5068e_7 rfl rfl ?_
  refine aw_sval hC hSt hi w_364 dJ0_charAt_5068e_8 ?_
  refine aw_iload_n hC 1 dJ0_charAt_5068e_11 rfl rfl ?_
  refine aw_cS2r hC hSt (t_J1_charAt_3b067 G l S k hi hk) w_376 w_397 w_398 w_399 rfl rfl (by decide +kernel) ⟨Nat.le_of_ble_eq_true rfl, Nat.le_of_ble_eq_true rfl⟩ (Nat.le_of_ble_eq_true rfl) dJ0_charAt_5068e_12 ⟨Nat.zero_le _, Nat.zero_le _⟩ ?_
  exact aw_nret hC dJ0_charAt_5068e_15 (Nat.le_refl _) (Nat.le_refl _) (sc_nar _) ⟨rfl, rfl⟩
def f_J0_length_8abf5 (S : HSt) (b : Nat) : Int32 := nI (skL.getD (b - 2000) 0)
def p_J0_charAt_5068e (S : HSt) (b : Nat) (k : Int32) : Prop := vp_in k (skL.getD (b - 2000) 0)
def f_J0_charAt_5068e (S : HSt) (b : Nat) (k : Int32) : Int32 := skC (b - 2000) k
theorem t_J0_length_8abf5 (G : GG) (l : Launch) {S : HSt} (b : Nat) (hs : sK b) : AM G l yJ0_length_8abf5 cJ0_length_8abf5 1 (some .int) (rmD 1 0 0) 0 0 [.ref b] S (FP (some (.int (f_J0_length_8abf5 S b))) S) := by
  obtain ⟨i, hi, rfl⟩ := hs
  unfold f_J0_length_8abf5
  rw [Nat.add_sub_cancel_left]
  exact u_J0_length_8abf5 G l S hi
theorem t_J0_charAt_5068e (G : GG) (l : Launch) {S : HSt} (b : Nat) (k : Int32) (hs : sK b) (hp : p_J0_charAt_5068e S b k) : AM G l yJ0_charAt_5068e cJ0_charAt_5068e 2 (some .char) (rmD 3 0 0) 0 0 [.ref b, .int k] S (FP (some (.int (f_J0_charAt_5068e S b k))) S) := by
  obtain ⟨i, hi, rfl⟩ := hs
  unfold f_J0_charAt_5068e
  unfold p_J0_charAt_5068e at hp
  rw [Nat.add_sub_cancel_left] at hp ⊢
  exact u_J0_charAt_5068e G l S k hi hp
section AWSS
variable {p : Program} {l : Launch} {e : Env} {R : Room} {s : State} {m : MethodId} {args : Array Value} {below : List Frame} {meth : Method} {c : Code} {G : GG} {nL : Nat} {Q : State → Prop} {S : HSt} {cells slots pc : Nat} {lv : List (Nat × Value)} {st : List Value}
variable {cc : ByteArray} {own : String} {ret : Option FieldType}
theorem aw_cU0r (hC : ACx p s m args meth c cc own nL ret) (hSt : St G s) {y : MethodName} {rm : Room} {bytes : ByteArray} {maxL index : Nat} {rt : Option FieldType} {b : Nat} {S1 : HSt} {w : Value} (hs : sK b) (hy : y.cls = "java/lang/String")
    (hM : AM G l y bytes maxL rt rm 0 0 (.ref b :: []) S (FP (some w) S1)) (hk : Cond.code y bytes maxL rt ∈ BIG) (hlk : Cond.methodLink own index y ∈ BIG) (hins : Cond.instanceMethod y ∈ BIG) (hsel : Cond.selects y.cls y y ∈ BIG) (hini : Cond.initialized y.cls ∈ BIG) (hrc : rm.cells = 0) (hrs : rm.slots = 0) (hd : y.cls ≠ "java/lang/invoke/MethodHandle" ∧ y.cls ≠ "java/lang/invoke/VarHandle" ∧ (parseMethodDescriptor y.desc).map (fun d => d.parameters.length) = some 0) (hrm : rm.frames + 1 ≤ R.frames ∧ 8 + (maxL + 11) + rm.locals ≤ R.locals)
    (hcat : (st.map fun v => v.category).sum ≤ 8) (hdg : decode cc pc = .ok (.invokevirtual index, 3)) (hf : cells ≤ R.cells ∧ slots ≤ R.slots)
    (kk : AW p l e R s m args below meth c G nL Q S1 cells slots (pc + 3) lv (w :: st)) : AW p l e R s m args below meth c G nL Q S cells slots pc lv (.ref b :: st) := by
  obtain ⟨i, hi, rfl⟩ := hs
  exact aw_cT0r hC hSt hi hy hM hk hlk hins hsel hini hrc hrs hd hrm hcat hdg hf kk
end AWSS
section AWSS
variable {p : Program} {l : Launch} {e : Env} {R : Room} {s : State} {m : MethodId} {args : Array Value} {below : List Frame} {meth : Method} {c : Code} {G : GG} {nL : Nat} {Q : State → Prop} {S : HSt} {cells slots pc : Nat} {lv : List (Nat × Value)} {st : List Value}
variable {cc : ByteArray} {own : String} {ret : Option FieldType}
theorem aw_cU1r (hC : ACx p s m args meth c cc own nL ret) (hSt : St G s) {y : MethodName} {rm : Room} {bytes : ByteArray} {maxL index : Nat} {rt : Option FieldType} {b : Nat} {S1 : HSt} {a1 : Value} {w : Value} (hs : sK b) (hy : y.cls = "java/lang/String")
    (hM : AM G l y bytes maxL rt rm 0 0 (.ref b :: [a1]) S (FP (some w) S1)) (hk : Cond.code y bytes maxL rt ∈ BIG) (hlk : Cond.methodLink own index y ∈ BIG) (hins : Cond.instanceMethod y ∈ BIG) (hsel : Cond.selects y.cls y y ∈ BIG) (hini : Cond.initialized y.cls ∈ BIG) (hrc : rm.cells = 0) (hrs : rm.slots = 0) (hd : y.cls ≠ "java/lang/invoke/MethodHandle" ∧ y.cls ≠ "java/lang/invoke/VarHandle" ∧ (parseMethodDescriptor y.desc).map (fun d => d.parameters.length) = some 1) (hrm : rm.frames + 1 ≤ R.frames ∧ 8 + (maxL + 11) + rm.locals ≤ R.locals)
    (hcat : (st.map fun v => v.category).sum ≤ 8) (hdg : decode cc pc = .ok (.invokevirtual index, 3)) (hf : cells ≤ R.cells ∧ slots ≤ R.slots)
    (kk : AW p l e R s m args below meth c G nL Q S1 cells slots (pc + 3) lv (w :: st)) : AW p l e R s m args below meth c G nL Q S cells slots pc lv (a1 :: .ref b :: st) := by
  obtain ⟨i, hi, rfl⟩ := hs
  exact aw_cT1r hC hSt hi hy hM hk hlk hins hsel hini hrc hrs hd hrm hcat hdg hf kk
end AWSS
