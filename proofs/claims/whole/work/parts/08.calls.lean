section AWC
variable {p : Program} {l : Launch} {e : Env} {R : Room} {s : State} {m : MethodId} {args : Array Value} {below : List Frame} {meth : Method} {c : Code} {G : GG} {nL : Nat} {Q : State → Prop} {S : HSt} {cells slots pc : Nat} {lv : List (Nat × Value)} {st : List Value}
variable {cc : ByteArray} {own : String} {ret : Option FieldType}
theorem wcl_tab : wcl.all (fun w => w.onTables) = true := by decide +kernel
theorem St.same {G : GG} {u U : State} (hv : u.vm = U.vm) (hh : U.heap = u.heap) (h : St G u) : St G U := by
  obtain ⟨h1, h2, h3, h4, h5, h6, h7, h8, h9, h10, h11, h12⟩ := h
  have ha : u.vm.Alike U.vm := by rw [hv]; exact Vm.Alike.refl U.vm
  refine ⟨by rw [hh]; exact h1, fun t ht => ⟨?_, ?_⟩, fun w hw a => ?_, h4.moved ha, fun q hq => (h5 q hq).same rfl hv, fun i hi => (h6 i hi).same hv.symm, ?_, ?_, ?_, h10.moved ha, h11.moved ha, h12.moved ha⟩
  · rw [hh]; exact (h2 t ht).1.moved ha
  · rw [hh]; exact (h2 t ht).2.moved ha
  · exact va_tabs (List.all_eq_true.mp wcl_tab w hw) hv (h3 w hw a)
  · rw [hh]; exact h7.moved ha
  · rw [hh]; exact h8.moved ha
  · rw [hh]; exact h9.elim (fun q => Or.inl (q.moved ha)) (fun q => Or.inr (q.moved ha))
theorem am_blind {av : List Value} : FrameBlind (va_Pc av (fun U => Rp G S U.heap ∧ St G U)) := by
  intro a U g mk h
  obtain ⟨h1, h2, h3⟩ := h
  exact ⟨h1, h2, St.same (u := U) (U := U.calling g mk a) rfl rfl h3⟩
theorem aw_back {Post : Option Value → HSt → Prop} {H : Heap} {locs : List Loc} {mc ms : Nat} {ls : Array Slot} {st0 rest : List Value}
    (hr : va_Run p l e R s m args below meth c H locs cells slots mc ms (F0 m pc ls st0) (rest.map (cv G)) (fun st oc t => (∃ (r : Option Value) (S1 : HSt), oc = .returned (r.map (cv G)) ∧ Post r S1 ∧ Rp G S1 t.heap) ∧ va_F (fun q => G.1 ≤ q) st t) (fun q => G.1 ≤ q)) (hS : SA G s H locs) (hl : lv_has ls nL (lvm G lv))
    (kk : ∀ (r : Option Value) (S1 : HSt), Post r S1 → AW p l e R s m args below meth c G nL Q S1 (cells + mc) (slots + ms) (pc + 3) lv (r.toList ++ rest)) : W p l e R s m args below meth c H locs cells slots Q (F0 m pc ls st0) := by
  intro T hT X
  obtain ⟨v, st₀, t, T', L, h0, X', hL, e1, e2, ⟨⟨r, S1, hv, hp, hR1⟩, hz, hk⟩, stp⟩ := hr T hT X
  cases hv
  rw [h0] at hz hk
  have h := kk r S1 hp T'.heap (locs ++ L) ls (by rw [e1]; exact hR1) ⟨Nat.le_trans hS.1 (by rw [e1]; exact hz), fun q h1 h2 => by rw [e1, hk q (Nat.lt_of_lt_of_le h1 hS.1) h2]; exact hS.2.1 q h1 h2, fun q hq => by
      rcases List.mem_append.mp hq with h | h
      · exact hS.2.2 q h
      · exact hL q h⟩ hl
  have hm : (r.toList ++ rest).map (cv G) = (r.map (cv G)).toList ++ rest.map (cv G) := by
    cases r <;> simp
  rw [hm] at h
  obtain ⟨t2, a1, b1⟩ := h T' rfl X'
  exact ⟨t2, stp t2 a1, b1⟩
theorem am_pre {H : Heap} {locs : List Loc} {av : List Value} (hSt : St G s) (hR : Rp G S H) (hS : SA G s H locs) : ∀ U : State, U.heap = H → s.WarmedH U.vm → va_Pc (av.map (cv G)) (fun U => Rp G S U.heap ∧ St G U) (av.map (cv G)).toArray U := fun U hU hW => ⟨rfl, by rw [hU]; exact hR, hSt.call hS hU hW⟩
theorem gB {w : Cond} (h : w ∈ BIG) : w ∈ BIG ∧ ((w.onTables && w.keeps) = true ∨ ∃ ty, w = .arrayClass ty) := ⟨h, good_of_word (BIG_good w h)⟩
theorem gBc {w : Cond} (h : w ∈ BIG) : GoodIn BIG (w :: BIG) := fun _ hx => (List.mem_cons.mp hx).elim (fun e => e ▸ gB h) gB
theorem aw_callV (hC : ACx p s m args meth c cc own nL ret) (hSt : St G s) (As : List Value) (n : Nat) {Post : Option Value → HSt → Prop} {y : MethodName} {rm : Room} {bytes : ByteArray} {maxL mc ms index : Nat} {rt : Option FieldType} {b ci N : Nat} {T : u_T} {rest : List Value}
    (hM : AM G l y bytes maxL rt rm mc ms (.ref b :: As) S Post) (hk : Cond.code y bytes maxL rt ∈ BIG) (hlk : Cond.methodLink own index y ∈ BIG) (hins : Cond.instanceMethod y ∈ BIG) (hsel : Cond.selects y.cls y y ∈ BIG) (hini : Cond.initialized y.cls ∈ BIG) (hrc : rm.cells = mc) (hrs : rm.slots = ms) (hd : y.cls ≠ "java/lang/invoke/MethodHandle" ∧ y.cls ≠ "java/lang/invoke/VarHandle" ∧ (parseMethodDescriptor y.desc).map (fun d => d.parameters.length) = some n) (hrm : rm.frames + 1 ≤ R.frames ∧ 8 + (maxL + 11) + rm.locals ≤ R.locals)
    (hb : b < gn S) (hK : gK S b = ci) (hc : kcl[ci]? = some (y.cls, T, N)) (hn : As.length = n) (hst : st = As.reverse ++ .ref b :: rest) (hcat : (rest.map fun v => v.category).sum ≤ 8) (hdg : decode cc pc = .ok (.invokevirtual index, 3)) (hf : cells + mc ≤ R.cells ∧ slots + ms ≤ R.slots)
    (kk : ∀ (r : Option Value) (S1 : HSt), Post r S1 → AW p l e R s m args below meth c G nL Q S1 (cells + mc) (slots + ms) (pc + 3) lv (r.toList ++ rest)) : AW p l e R s m args below meth c G nL Q S cells slots pc lv st := by
  intro H locs ls hR hS hl
  subst hst
  have hrecv := va_recv hSt.2.2.2.1 hR.1 hc (obj_at hb hK hc)
  have hro : ro G b = G.1 + b := ro_lt hR hb
  have hT : GoodIn BIG (wsV own index y.cls y (Cond.code y bytes maxL rt :: BIG)) := by
    intro w hw
    unfold wsV at hw
    rcases List.mem_append.mp hw with h | h
    · simp only [List.mem_cons, List.not_mem_nil, or_false] at h
      rcases h with rfl | rfl | rfl | rfl
      · exact gB hlk
      · exact gB hins
      · exact gB hsel
      · exact gB hini
    · exact gBc hk w h
  have hrun := va_runV (As := As.map (cv G)) (rest := rest.map (cv G)) (b := ro G b) (e := e) (below := below) (meth := meth) (H := H) (locs := locs) (cells := cells) (slots := slots) (g := F0 m pc ls ((As.reverse ++ .ref b :: rest).map (cv G))) ⟨hC.1, hC.2.1, hC.2.2.1, hC.2.2.2.1, hC.2.2.2.2.1⟩ hM (cwV n hC.2.2.2.2.1 hT rfl hrc hrs ⟨rfl, hd⟩ hrm) ⟨am_blind, by rw [hro]; exact hrecv, am_pre (av := .ref b :: As) hSt hR hS⟩ rfl (by rw [List.length_map]; exact hn) hl.1 (by simp [cv]) (by rw [cats]; exact lv_room hcat) hdg hf
  exact aw_back hrun hS hl kk
theorem aw_callS (hC : ACx p s m args meth c cc own nL ret) (hSt : St G s) (As : List Value) (n : Nat) {Post : Option Value → HSt → Prop} {y : MethodName} {rm : Room} {bytes : ByteArray} {maxL mc ms index : Nat} {rt : Option FieldType} {rest : List Value}
    (hM : AM G l y bytes maxL rt rm mc ms As S Post) (hk : Cond.code y bytes maxL rt ∈ BIG) (hlk : Cond.methodLink own index y ∈ BIG) (hsta : Cond.static y ∈ BIG) (hini : Cond.initialized y.cls ∈ BIG) (hrc : rm.cells = mc) (hrs : rm.slots = ms) (hd : y.cls ≠ "java/lang/invoke/MethodHandle" ∧ y.cls ≠ "java/lang/invoke/VarHandle" ∧ (parseMethodDescriptor y.desc).map (fun d => d.parameters.length) = some n) (hrm : rm.frames + 1 ≤ R.frames ∧ 8 + (maxL + 11) + rm.locals ≤ R.locals)
    (hn : As.length = n) (hst : st = As.reverse ++ rest) (hcat : (rest.map fun v => v.category).sum ≤ 8) (hdg : decode cc pc = .ok (.invokestatic index, 3)) (hf : cells + mc ≤ R.cells ∧ slots + ms ≤ R.slots)
    (kk : ∀ (r : Option Value) (S1 : HSt), Post r S1 → AW p l e R s m args below meth c G nL Q S1 (cells + mc) (slots + ms) (pc + 3) lv (r.toList ++ rest)) : AW p l e R s m args below meth c G nL Q S cells slots pc lv st := by
  intro H locs ls hR hS hl
  subst hst
  have hT : GoodIn BIG (va_wsS own index y (Cond.code y bytes maxL rt :: BIG)) := by
    intro w hw
    unfold va_wsS at hw
    rcases List.mem_append.mp hw with h | h
    · simp only [List.mem_cons, List.not_mem_nil, or_false] at h
      rcases h with rfl | rfl | rfl
      · exact gB hlk
      · exact gB hsta
      · exact gB hini
    · exact gBc hk w h
  have hrun := va_runS (As := As.map (cv G)) (rest := rest.map (cv G)) (e := e) (below := below) (meth := meth) (H := H) (locs := locs) (cells := cells) (slots := slots) (g := F0 m pc ls ((As.reverse ++ rest).map (cv G))) ⟨hC.1, hC.2.1, hC.2.2.1, hC.2.2.2.1, hC.2.2.2.2.1⟩ hM (va_cwS n hC.2.2.2.2.1 hT rfl hrc hrs hd hrm) ⟨am_blind, am_pre (av := As) hSt hR hS⟩ rfl (by rw [List.length_map]; exact hn) hl.1 (by simp) (by rw [cats]; exact lv_room hcat) hdg hf
  exact aw_back hrun hS hl kk
theorem aw_callSN (hC : ACx p s m args meth c cc own nL ret) (hSt : St G s) (As : List Value) (n : Nat) {Post : Option Value → HSt → Prop} {y : MethodName} {rm : Room} {bytes : ByteArray} {maxL mc ms index : Nat} {rt : Option FieldType} {rest : List Value}
    (hM : AM G l y bytes maxL rt rm mc ms As S Post) (hk : Cond.code y bytes maxL rt ∈ BIG) (hnl : (own, index, y) ∈ nwl) (hsta : Cond.static y ∈ BIG) (hini : Cond.initialized y.cls ∈ BIG) (hrc : rm.cells = mc) (hrs : rm.slots = ms) (hd : y.cls ≠ "java/lang/invoke/MethodHandle" ∧ y.cls ≠ "java/lang/invoke/VarHandle" ∧ (parseMethodDescriptor y.desc).map (fun d => d.parameters.length) = some n) (hrm : rm.frames + 1 ≤ R.frames ∧ 8 + (maxL + 11) + rm.locals ≤ R.locals)
    (hn : As.length = n) (hst : st = As.reverse ++ rest) (hcat : (rest.map fun v => v.category).sum ≤ 8) (hdg : decode cc pc = .ok (.invokestatic index, 3)) (hf : cells + mc ≤ R.cells ∧ slots + ms ≤ R.slots)
    (kk : ∀ (r : Option Value) (S1 : HSt), Post r S1 → AW p l e R s m args below meth c G nL Q S1 (cells + mc) (slots + ms) (pc + 3) lv (r.toList ++ rest)) : AW p l e R s m args below meth c G nL Q S cells slots pc lv st := by
  intro H locs ls hR hS hl
  subst hst
  have hrun := va_runSN (As := As.map (cv G)) (rest := rest.map (cv G)) (e := e) (below := below) (meth := meth) (H := H) (locs := locs) (cells := cells) (slots := slots) (g := F0 m pc ls ((As.reverse ++ rest).map (cv G))) ⟨hC.1, hC.2.1, hC.2.2.1, hC.2.2.2.1, hC.2.2.2.2.1⟩ hM ⟨va_cnB n hC.2.2.2.2.1 (gBc hk) rfl hrc hrs (hSt.2.2.2.2.1 _ hnl) (hC.2.2.2.2.1 _ hini) hd hrm, hC.2.2.2.2.1 _ hsta, trivial⟩ ⟨am_blind, am_pre (av := As) hSt hR hS⟩ rfl (by rw [List.length_map]; exact hn) hl.1 (by simp) (by rw [cats]; exact lv_room hcat) hdg hf
  exact aw_back hrun hS hl kk
theorem aw_callI (hC : ACx p s m args meth c cc own nL ret) (hSt : St G s) (As : List Value) (n : Nat) {Post : Option Value → HSt → Prop} {y : MethodName} {rm : Room} {bytes : ByteArray} {maxL mc ms index : Nat} {b : Nat} {rest : List Value}
    (hM : AM G l y bytes maxL none rm mc ms (.ref b :: As) S Post) (hk : Cond.code y bytes maxL none ∈ BIG) (hini : Cond.initialized y.cls ∈ BIG) (hlk : Cond.methodLink own index y ∈ BIG) (hins : Cond.instanceMethod y ∈ BIG) (hy1 : y.name = "<init>") (hrc : rm.cells = mc) (hrs : rm.slots = ms) (hd : y.cls ≠ "java/lang/invoke/MethodHandle" ∧ y.cls ≠ "java/lang/invoke/VarHandle" ∧ (parseMethodDescriptor y.desc).map (fun d => d.parameters.length) = some n) (hrm : rm.frames + 1 ≤ R.frames ∧ 8 + (maxL + 11) + rm.locals ≤ R.locals)
    (hn : As.length = n) (hst : st = As.reverse ++ .ref b :: rest) (hcat : (rest.map fun v => v.category).sum ≤ 8) (hdg : decode cc pc = .ok (.invokespecial index, 3)) (hf : cells + mc ≤ R.cells ∧ slots + ms ≤ R.slots)
    (kk : ∀ (r : Option Value) (S1 : HSt), Post r S1 → AW p l e R s m args below meth c G nL Q S1 (cells + mc) (slots + ms) (pc + 3) lv (r.toList ++ rest)) : AW p l e R s m args below meth c G nL Q S cells slots pc lv st := by
  intro H locs ls hR hS hl
  subst hst
  have hrun := va_runI (As := As.map (cv G)) (rest := rest.map (cv G)) (b := ro G b) (e := e) (below := below) (meth := meth) (H := H) (locs := locs) (cells := cells) (slots := slots) (g := F0 m pc ls ((As.reverse ++ .ref b :: rest).map (cv G))) ⟨hC.1, hC.2.1, hC.2.2.1, hC.2.2.2.1, hC.2.2.2.2.1⟩ hM (cwI n hC.2.2.2.2.1 (gBc hk) rfl hrc hrs (hC.2.2.2.2.1 _ hini) (hC.2.2.2.2.1 _ hlk) (hC.2.2.2.2.1 _ hins) hy1 hd hrm) ⟨am_blind, am_pre (av := .ref b :: As) hSt hR hS⟩ rfl (by rw [List.length_map]; exact hn) hl.1 (by simp [cv]) (by rw [cats]; exact lv_room hcat) hdg hf
  exact aw_back hrun hS hl kk
theorem aw_callIN (hC : ACx p s m args meth c cc own nL ret) (hSt : St G s) (As : List Value) (n : Nat) {Post : Option Value → HSt → Prop} {y : MethodName} {rm : Room} {bytes : ByteArray} {maxL mc ms index : Nat} {b : Nat} {rest : List Value}
    (hM : AM G l y bytes maxL none rm mc ms (.ref b :: As) S Post) (hk : Cond.code y bytes maxL none ∈ BIG) (hnl : (own, index, y) ∈ nwl) (hini : Cond.initialized y.cls ∈ BIG) (hins : Cond.instanceMethod y ∈ BIG) (hy1 : y.name = "<init>") (hrc : rm.cells = mc) (hrs : rm.slots = ms) (hd : y.cls ≠ "java/lang/invoke/MethodHandle" ∧ y.cls ≠ "java/lang/invoke/VarHandle" ∧ (parseMethodDescriptor y.desc).map (fun d => d.parameters.length) = some n) (hrm : rm.frames + 1 ≤ R.frames ∧ 8 + (maxL + 11) + rm.locals ≤ R.locals)
    (hn : As.length = n) (hst : st = As.reverse ++ .ref b :: rest) (hcat : (rest.map fun v => v.category).sum ≤ 8) (hdg : decode cc pc = .ok (.invokespecial index, 3)) (hf : cells + mc ≤ R.cells ∧ slots + ms ≤ R.slots)
    (kk : ∀ (r : Option Value) (S1 : HSt), Post r S1 → AW p l e R s m args below meth c G nL Q S1 (cells + mc) (slots + ms) (pc + 3) lv (r.toList ++ rest)) : AW p l e R s m args below meth c G nL Q S cells slots pc lv st := by
  intro H locs ls hR hS hl
  subst hst
  have hrun := va_runIN (As := As.map (cv G)) (rest := rest.map (cv G)) (b := ro G b) (e := e) (below := below) (meth := meth) (H := H) (locs := locs) (cells := cells) (slots := slots) (g := F0 m pc ls ((As.reverse ++ .ref b :: rest).map (cv G))) ⟨hC.1, hC.2.1, hC.2.2.1, hC.2.2.2.1, hC.2.2.2.2.1⟩ hM ⟨va_cnB n hC.2.2.2.2.1 (gBc hk) rfl hrc hrs (hSt.2.2.2.2.1 _ hnl) (hC.2.2.2.2.1 _ hini) hd hrm, hy1, hC.2.2.2.2.1 _ hins⟩ ⟨am_blind, am_pre (av := .ref b :: As) hSt hR hS⟩ rfl (by rw [List.length_map]; exact hn) hl.1 (by simp [cv]) (by rw [cats]; exact lv_room hcat) hdg hf
  exact aw_back hrun hS hl kk
-- a method's end
theorem aw_iret (hC : ACx p s m args meth c cc own nL (some .int)) {mc ms : Nat} {Post : Option Value → HSt → Prop} {v : Int32} (hd : decode cc pc = .ok (.ireturn, 1)) (hc : cells ≤ mc) (hs : slots ≤ ms) (hp : Post (some (.int v)) S) : AW p l e R s m args below meth c G nL (AQ G below args s mc ms Post) S cells slots pc lv [.int v] := fun H locs ls hR hS hl => W.widen hc hs (W.iret hC.1 hC.2.1 hC.2.2.2.2.2.1 (fun t ht hW => ⟨⟨some (.int v), S, rfl, hp, by rw [ht]; exact hR⟩, hS.F ht⟩) hS.2.2 hd (hlocks := hC.2.2.2.2.2.2))
theorem aw_zret (hC : ACx p s m args meth c cc own nL (some .boolean)) {mc ms : Nat} {Post : Option Value → HSt → Prop} {v : Int32} (hd : decode cc pc = .ok (.ireturn, 1)) (hc : cells ≤ mc) (hs : slots ≤ ms) (hn : narrow .boolean (.int v) = .int v) (hp : Post (some (.int v)) S) : AW p l e R s m args below meth c G nL (AQ G below args s mc ms Post) S cells slots pc lv [.int v] := fun H locs ls hR hS hl => W.widen hc hs (W.zret hC.1 hC.2.1 hC.2.2.2.2.2.1 hn (fun t ht hW => ⟨⟨some (.int v), S, rfl, hp, by rw [ht]; exact hR⟩, hS.F ht⟩) hS.2.2 hd (hlocks := hC.2.2.2.2.2.2))
theorem aw_lret (hC : ACx p s m args meth c cc own nL (some .long)) {mc ms : Nat} {Post : Option Value → HSt → Prop} {v : Int64} (hd : decode cc pc = .ok (.lreturn, 1)) (hc : cells ≤ mc) (hs : slots ≤ ms) (hp : Post (some (.long v)) S) : AW p l e R s m args below meth c G nL (AQ G below args s mc ms Post) S cells slots pc lv [.long v] := fun H locs ls hR hS hl => W.widen hc hs (W.lret hC.1 hC.2.1 hC.2.2.2.2.2.1 (fun t ht hW => ⟨⟨some (.long v), S, rfl, hp, by rw [ht]; exact hR⟩, hS.F ht⟩) hS.2.2 hd (hlocks := hC.2.2.2.2.2.2))
theorem aw_vret (hC : ACx p s m args meth c cc own nL none) {mc ms : Nat} {Post : Option Value → HSt → Prop} (hd : decode cc pc = .ok (.return_, 1)) (hc : cells ≤ mc) (hs : slots ≤ ms) (hp : Post none S) : AW p l e R s m args below meth c G nL (AQ G below args s mc ms Post) S cells slots pc lv [] := fun H locs ls hR hS hl => W.widen hc hs (W.vret hC.1 hC.2.1 hC.2.2.2.2.2.1 (fun t ht hW => ⟨⟨none, S, rfl, hp, by rw [ht]; exact hR⟩, hS.F ht⟩) hS.2.2 hd (hlocks := hC.2.2.2.2.2.2))
theorem AM.weaken {y : MethodName} {bytes : ByteArray} {maxL : Nat} {rt : Option FieldType} {rm : Room} {mc ms : Nat} {av : List Value} {Post Post' : Option Value → HSt → Prop} (h : AM G l y bytes maxL rt rm mc ms av S Post) (hp : ∀ r S1, Post r S1 → Post' r S1) : AM G l y bytes maxL rt rm mc ms av S Post' := by
  intro p e ha hc hk s m args below hf hfit hheap happ
  obtain ⟨k, o, h1, h2, h3, ⟨⟨⟨r, S1, e1, e2, e3⟩, e4⟩, e5⟩⟩ := h p e ha hc hk s m args below hf hfit hheap happ
  exact ⟨k, o, h1, h2, h3, ⟨⟨⟨r, S1, e1, hp r S1 e2, e3⟩, e4⟩, e5⟩⟩
-- Math
theorem aw_max (hC : ACx p s m args meth c cc own nL ret) {index : Nat} {x y : Int32} (h1 : Cond.methodLink own index Lib.Math.max.name ∈ BIG) (h2 : Cond.static Lib.Math.max.name ∈ BIG) (h3 : Cond.initialized "java/lang/Math" ∈ BIG) (h4 : Cond.code Lib.Math.max.name Lib.Math.max.code 2 (some .int) ∈ BIG) (hf : 1 ≤ R.frames) (hlo : (st.map fun v => v.category).sum + 13 ≤ R.locals) (hce : cells ≤ R.cells) (hsl : slots ≤ R.slots) (hd : decode cc pc = .ok (.invokestatic index, 3)) (k : AW p l e R s m args below meth c G nL Q S cells slots (pc + 3) lv (.int (if x < y then y else x) :: st)) : AW p l e R s m args below meth c G nL Q S cells slots pc lv (.int y :: .int x :: st) := fun H locs ls hR hS hl => va_mmax hC.1 hC.2.1 (hC.2.2.1.trans hl.1.symm) hC.2.2.2.1 (hC.2.2.2.2.1 _ h1) (hC.2.2.2.2.1 _ h2) (hC.2.2.2.2.1 _ h3) (hC.2.2.2.2.1 _ h4) hf (by rw [cats]; exact hlo) hce hsl hd (k H locs ls hR hS hl)
theorem aw_min (hC : ACx p s m args meth c cc own nL ret) {index : Nat} {x y : Int32} (h1 : Cond.methodLink own index Lib.Math.min.name ∈ BIG) (h2 : Cond.static Lib.Math.min.name ∈ BIG) (h3 : Cond.initialized "java/lang/Math" ∈ BIG) (h4 : Cond.code Lib.Math.min.name Lib.Math.min.code 2 (some .int) ∈ BIG) (hf : 1 ≤ R.frames) (hlo : (st.map fun v => v.category).sum + 13 ≤ R.locals) (hce : cells ≤ R.cells) (hsl : slots ≤ R.slots) (hd : decode cc pc = .ok (.invokestatic index, 3)) (k : AW p l e R s m args below meth c G nL Q S cells slots (pc + 3) lv (.int (if y < x then y else x) :: st)) : AW p l e R s m args below meth c G nL Q S cells slots pc lv (.int y :: .int x :: st) := fun H locs ls hR hS hl => va_mmin hC.1 hC.2.1 (hC.2.2.1.trans hl.1.symm) hC.2.2.2.1 (hC.2.2.2.2.1 _ h1) (hC.2.2.2.2.1 _ h2) (hC.2.2.2.2.1 _ h3) (hC.2.2.2.2.1 _ h4) hf (by rw [cats]; exact hlo) hce hsl hd (k H locs ls hR hS hl)
theorem aw_abs (hC : ACx p s m args meth c cc own nL ret) {index : Nat} {x : Int32} (h1 : Cond.methodLink own index Lib.Math.abs.name ∈ BIG) (h2 : Cond.static Lib.Math.abs.name ∈ BIG) (h3 : Cond.initialized "java/lang/Math" ∈ BIG) (h4 : Cond.code Lib.Math.abs.name Lib.Math.abs.code 1 (some .int) ∈ BIG) (hf : 1 ≤ R.frames) (hlo : (st.map fun v => v.category).sum + 13 ≤ R.locals) (hce : cells ≤ R.cells) (hsl : slots ≤ R.slots) (hd : decode cc pc = .ok (.invokestatic index, 3)) (k : AW p l e R s m args below meth c G nL Q S cells slots (pc + 3) lv (.int (if 0 ≤ x then x else 0 - x) :: st)) : AW p l e R s m args below meth c G nL Q S cells slots pc lv (.int x :: st) := fun H locs ls hR hS hl => va_mabs hC.1 hC.2.1 (hC.2.2.1.trans hl.1.symm) hC.2.2.2.1 (hC.2.2.2.2.1 _ h1) (hC.2.2.2.2.1 _ h2) (hC.2.2.2.2.1 _ h3) (hC.2.2.2.2.1 _ h4) hf (by rw [cats]; exact hlo) hce hsl hd (k H locs ls hR hS hl)
end AWC
