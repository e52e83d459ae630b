section AWL
variable {p : Program} {l : Launch} {e : Env} {R : Room} {s : State} {m : MethodId} {args : Array Value} {below : List Frame} {meth : Method} {c : Code} {G : GG} {nL : Nat} {Q : State → Prop} {S : HSt} {cells slots pc : Nat} {lv : List (Nat × Value)} {st : List Value}
variable {cc : ByteArray} {own : String} {ret : Option FieldType}
/-- the law's script: L ints xs, at the place 5000 -/
def SCR (G : GG) (s : State) (L : Nat) (xs : Nat → Int32) : Prop := va_X (G.2.1 4000) L xs s s.heap ∧ G.2.1 4000 < s.heap.size ∧ ¬ G.1 ≤ G.2.1 4000
theorem cv_scr (G : GG) : cv G (.ref 5000) = .ref (G.2.1 4000) := by
  show Value.ref (ro G 5000) = _
  unfold ro
  rw [if_neg (by omega)]
theorem aw_sld (hC : ACx p s m args meth c cc own nL ret) {L : Nat} {xs : Nat → Int32} (hX : SCR G s L xs) {i : Int32} (hin : vp_in i L) (hd : decode cc pc = .ok (.iaload, 1)) (kk : AW p l e R s m args below meth c G nL Q S cells slots (pc + 1) lv (.int (xs i.toNatClampNeg) :: st)) : AW p l e R s m args below meth c G nL Q S cells slots pc lv (.int i :: .ref 5000 :: st) := by
  intro H locs ls hR hS hl
  rw [List.map_cons, List.map_cons, cv_scr]
  exact va_sld hC.1 hC.2.1 hX.1 hX.2.1 hX.2.2 hS hin hd (kk H locs ls hR hS hl)
theorem aw_scl (hC : ACx p s m args meth c cc own nL ret) {L : Nat} {xs : Nat → Int32} (hX : SCR G s L xs) (hd : decode cc pc = .ok (.arraylength, 1)) (kk : AW p l e R s m args below meth c G nL Q S cells slots (pc + 1) lv (.int (nI L) :: st)) : AW p l e R s m args below meth c G nL Q S cells slots pc lv (.ref 5000 :: st) := by
  intro H locs ls hR hS hl
  rw [List.map_cons, cv_scr]
  exact va_slen hC.1 hC.2.1 hX.1 hX.2.1 hX.2.2 hS hd (kk H locs ls hR hS hl)
end AWL
theorem lg_self (x : Int64) : lg_cmp x x = 0 := by
  unfold lg_cmp
  simp
/-- what is owed of row -/
def K_row (Inv : Nat → HSt → Prop) : Prop := ∀ (n : Nat) (S : HSt) (a1 : Int32) (a2 : Int32) (a3 : Int32), n < 512 → Inv n S → p_X11_row S 0 a1 a2 a3 ∧ p_X12_row (f_X11_row S 0 a1 a2 a3).2 64 a1 a2 a3 ∧ (f_X11_row S 0 a1 a2 a3).1 = (f_X12_row (f_X11_row S 0 a1 a2 a3).2 64 a1 a2 a3).1 ∧ Inv (n + 1) (f_X12_row (f_X11_row S 0 a1 a2 a3).2 64 a1 a2 a3).2
set_option maxRecDepth 100000 in
theorem lw_c0 {p : Program} {l : Launch} {e : Env} {s : State} {m : MethodId} {args : Array Value} {below : List Frame} {meth : Method} {c : Code} {G : GG} {Q : State → Prop} {S : HSt} {cells slots : Nat} {L : Nat} {xs : Nat → Int32} (hC : ACx p s m args meth c cL_law RL 4 (some .boolean)) (hSt : St G s) (hX : SCR G s L xs) (hCS : CS S) (hMS : MS S) (hf : cells ≤ room_1.cells ∧ slots ≤ room_1.slots) (v3 : Int32) (hin1 : vp_in (v3 + (1 : Int32)) L) (hin2 : vp_in (v3 + (2 : Int32)) L) (hin3 : vp_in (v3 + (3 : Int32)) L) (hin4 : vp_in (v3 + (4 : Int32)) L) (hin5 : vp_in (v3 + (5 : Int32)) L) (hp1 : p_X11_row S 0 (xs (v3 + (1 : Int32)).toNatClampNeg) (xs (v3 + (2 : Int32)).toNatClampNeg) (xs (v3 + (3 : Int32)).toNatClampNeg)) (hp2 : p_X12_row (f_X11_row S 0 (xs (v3 + (1 : Int32)).toNatClampNeg) (xs (v3 + (2 : Int32)).toNatClampNeg) (xs (v3 + (3 : Int32)).toNatClampNeg)).2 64 (xs (v3 + (1 : Int32)).toNatClampNeg) (xs (v3 + (2 : Int32)).toNatClampNeg) (xs (v3 + (3 : Int32)).toNatClampNeg)) (hEq : (f_X11_row S 0 (xs (v3 + (1 : Int32)).toNatClampNeg) (xs (v3 + (2 : Int32)).toNatClampNeg) (xs (v3 + (3 : Int32)).toNatClampNeg)).1 = (f_X12_row (f_X11_row S 0 (xs (v3 + (1 : Int32)).toNatClampNeg) (xs (v3 + (2 : Int32)).toNatClampNeg) (xs (v3 + (3 : Int32)).toNatClampNeg)).2 64 (xs (v3 + (1 : Int32)).toNatClampNeg) (xs (v3 + (2 : Int32)).toNatClampNeg) (xs (v3 + (3 : Int32)).toNatClampNeg)).1) (hnx : AW p l e room_1 s m args below meth c G 4 Q (f_X12_row (f_X11_row S 0 (xs (v3 + (1 : Int32)).toNatClampNeg) (xs (v3 + (2 : Int32)).toNatClampNeg) (xs (v3 + (3 : Int32)).toNatClampNeg)).2 64 (xs (v3 + (1 : Int32)).toNatClampNeg) (xs (v3 + (2 : Int32)).toNatClampNeg) (xs (v3 + (3 : Int32)).toNatClampNeg)).2 cells slots 1323 [(3, .int v3), (0, .ref 5000), (1, .ref 0), (2, .ref 64)] []) : AW p l e room_1 s m args below meth c G 4 Q S cells slots 192 [(3, .int v3), (0, .ref 5000), (1, .ref 0), (2, .ref 64)] [] := by
  refine aw_aload_n hC 2 dL_law_192 rfl rfl ?_
  refine aw_aload_n hC 1 dL_law_193 rfl rfl ?_
  refine aw_iload_n hC 0 dL_law_194 rfl rfl ?_
  refine aw_iconst (v := 1) hC dL_law_195 (by decide) ?_
  refine aw_iadd hC dL_law_196 ?_
  refine aw_sld hC hX hin1 dL_law_197 ?_
  refine aw_aload_n hC 1 dL_law_198 rfl rfl ?_
  refine aw_iload_n hC 0 dL_law_199 rfl rfl ?_
  refine aw_iconst (v := 2) hC dL_law_200 (by decide) ?_
  refine aw_iadd hC dL_law_201 ?_
  refine aw_sld hC hX hin2 dL_law_202 ?_
  refine aw_aload_n hC 1 dL_law_203 rfl rfl ?_
  refine aw_iload_n hC 0 dL_law_204 rfl rfl ?_
  refine aw_iconst (v := 3) hC dL_law_205 (by decide) ?_
  refine aw_iadd hC dL_law_206 ?_
  refine aw_sld hC hX hin3 dL_law_207 ?_
  refine aw_cV3r hC hSt (t_X11_row G l hCS _ _ _ hp1) w_723 w_1307 w_1308 w_1309 w_517 rfl rfl (by decide +kernel) ⟨(Nat.le_of_ble_eq_true rfl), (Nat.le_of_ble_eq_true rfl)⟩ (cs_lt 0 11 0 (by decide) hCS) (cs_k 0 11 0 (by decide) hCS) rfl (Nat.le_of_ble_eq_true rfl) dL_law_208 hf ?_
  have hMS1 : MS (f_X11_row S 0 (xs (v3 + (1 : Int32)).toNatClampNeg) (xs (v3 + (2 : Int32)).toNatClampNeg) (xs (v3 + (3 : Int32)).toNatClampNeg)).2 := MS.of (q_X11_row _ _ _ _ _) hMS
  refine aw_aload_n hC 3 dL_law_211 rfl rfl ?_
  refine aw_aload_n hC 1 dL_law_212 rfl rfl ?_
  refine aw_iload_n hC 0 dL_law_213 rfl rfl ?_
  refine aw_iconst (v := 1) hC dL_law_214 (by decide) ?_
  refine aw_iadd hC dL_law_215 ?_
  refine aw_sld hC hX hin1 dL_law_216 ?_
  refine aw_aload_n hC 1 dL_law_217 rfl rfl ?_
  refine aw_iload_n hC 0 dL_law_218 rfl rfl ?_
  refine aw_iconst (v := 2) hC dL_law_219 (by decide) ?_
  refine aw_iadd hC dL_law_220 ?_
  refine aw_sld hC hX hin2 dL_law_221 ?_
  refine aw_aload_n hC 1 dL_law_222 rfl rfl ?_
  refine aw_iload_n hC 0 dL_law_223 rfl rfl ?_
  refine aw_iconst (v := 3) hC dL_law_224 (by decide) ?_
  refine aw_iadd hC dL_law_225 ?_
  refine aw_sld hC hX hin3 dL_law_226 ?_
  refine aw_cV3r hC hSt (t_X12_row G l hMS1 _ _ _ hp2) w_954 w_1310 w_1311 w_1312 w_953 rfl rfl (by decide +kernel) ⟨(Nat.le_of_ble_eq_true rfl), (Nat.le_of_ble_eq_true rfl)⟩ (ms_lt 64 (by decide) hMS1) (ms_k 64 12 0 (by decide) hMS1) rfl (Nat.le_of_ble_eq_true rfl) dL_law_227 hf ?_
  refine aw_lcmp hC dL_law_230 ?_
  exact aw_if_eq hC 1323 dL_law_231 (by decide) (fun _ => hnx) (fun h => absurd (by rw [hEq]; exact lg_self _) h)
/-- what is owed of set -/
def K_set (Inv : Nat → HSt → Prop) : Prop := ∀ (n : Nat) (S : HSt) (a1 : Int32) (a2 : Int32) (a3 : Int32), n < 512 → Inv n S → p_X11_set S 0 a1 a2 a3 ∧ p_X12_set (f_X11_set S 0 a1 a2 a3).2 64 a1 a2 a3 ∧ (f_X11_set S 0 a1 a2 a3).1 = (f_X12_set (f_X11_set S 0 a1 a2 a3).2 64 a1 a2 a3).1 ∧ Inv (n + 1) (f_X12_set (f_X11_set S 0 a1 a2 a3).2 64 a1 a2 a3).2
set_option maxRecDepth 100000 in
theorem lw_c1 {p : Program} {l : Launch} {e : Env} {s : State} {m : MethodId} {args : Array Value} {below : List Frame} {meth : Method} {c : Code} {G : GG} {Q : State → Prop} {S : HSt} {cells slots : Nat} {L : Nat} {xs : Nat → Int32} (hC : ACx p s m args meth c cL_law RL 4 (some .boolean)) (hSt : St G s) (hX : SCR G s L xs) (hCS : CS S) (hMS : MS S) (hf : cells ≤ room_1.cells ∧ slots ≤ room_1.slots) (v3 : Int32) (hin1 : vp_in (v3 + (1 : Int32)) L) (hin2 : vp_in (v3 + (2 : Int32)) L) (hin3 : vp_in (v3 + (3 : Int32)) L) (hin4 : vp_in (v3 + (4 : Int32)) L) (hin5 : vp_in (v3 + (5 : Int32)) L) (hp1 : p_X11_set S 0 (xs (v3 + (1 : Int32)).toNatClampNeg) (xs (v3 + (2 : Int32)).toNatClampNeg) (xs (v3 + (3 : Int32)).toNatClampNeg)) (hp2 : p_X12_set (f_X11_set S 0 (xs (v3 + (1 : Int32)).toNatClampNeg) (xs (v3 + (2 : Int32)).toNatClampNeg) (xs (v3 + (3 : Int32)).toNatClampNeg)).2 64 (xs (v3 + (1 : Int32)).toNatClampNeg) (xs (v3 + (2 : Int32)).toNatClampNeg) (xs (v3 + (3 : Int32)).toNatClampNeg)) (hEq : (f_X11_set S 0 (xs (v3 + (1 : Int32)).toNatClampNeg) (xs (v3 + (2 : Int32)).toNatClampNeg) (xs (v3 + (3 : Int32)).toNatClampNeg)).1 = (f_X12_set (f_X11_set S 0 (xs (v3 + (1 : Int32)).toNatClampNeg) (xs (v3 + (2 : Int32)).toNatClampNeg) (xs (v3 + (3 : Int32)).toNatClampNeg)).2 64 (xs (v3 + (1 : Int32)).toNatClampNeg) (xs (v3 + (2 : Int32)).toNatClampNeg) (xs (v3 + (3 : Int32)).toNatClampNeg)).1) (hnx : AW p l e room_1 s m args below meth c G 4 Q (f_X12_set (f_X11_set S 0 (xs (v3 + (1 : Int32)).toNatClampNeg) (xs (v3 + (2 : Int32)).toNatClampNeg) (xs (v3 + (3 : Int32)).toNatClampNeg)).2 64 (xs (v3 + (1 : Int32)).toNatClampNeg) (xs (v3 + (2 : Int32)).toNatClampNeg) (xs (v3 + (3 : Int32)).toNatClampNeg)).2 cells slots 1323 [(3, .int v3), (0, .ref 5000), (1, .ref 0), (2, .ref 64)] []) : AW p l e room_1 s m args below meth c G 4 Q S cells slots 236 [(3, .int v3), (0, .ref 5000), (1, .ref 0), (2, .ref 64)] [] := by
  refine aw_aload_n hC 2 dL_law_236 rfl rfl ?_
  refine aw_aload_n hC 1 dL_law_237 rfl rfl ?_
  refine aw_iload_n hC 0 dL_law_238 rfl rfl ?_
  refine aw_iconst (v := 1) hC dL_law_239 (by decide) ?_
  refine aw_iadd hC dL_law_240 ?_
  refine aw_sld hC hX hin1 dL_law_241 ?_
  refine aw_aload_n hC 1 dL_law_242 rfl rfl ?_
  refine aw_iload_n hC 0 dL_law_243 rfl rfl ?_
  refine aw_iconst (v := 2) hC dL_law_244 (by decide) ?_
  refine aw_iadd hC dL_law_245 ?_
  refine aw_sld hC hX hin2 dL_law_246 ?_
  refine aw_aload_n hC 1 dL_law_247 rfl rfl ?_
  refine aw_iload_n hC 0 dL_law_248 rfl rfl ?_
  refine aw_iconst (v := 3) hC dL_law_249 (by decide) ?_
  refine aw_iadd hC dL_law_250 ?_
  refine aw_sld hC hX hin3 dL_law_251 ?_
  refine aw_cV3r hC hSt (t_X11_set G l hCS _ _ _ hp1) w_729 w_1313 w_1314 w_1315 w_517 rfl rfl (by decide +kernel) ⟨(Nat.le_of_ble_eq_true rfl), (Nat.le_of_ble_eq_true rfl)⟩ (cs_lt 0 11 0 (by decide) hCS) (cs_k 0 11 0 (by decide) hCS) rfl (Nat.le_of_ble_eq_true rfl) dL_law_252 hf ?_
  have hMS1 : MS (f_X11_set S 0 (xs (v3 + (1 : Int32)).toNatClampNeg) (xs (v3 + (2 : Int32)).toNatClampNeg) (xs (v3 + (3 : Int32)).toNatClampNeg)).2 := MS.of (q_X11_set _ _ _ _ _) hMS
  refine aw_aload_n hC 3 dL_law_255 rfl rfl ?_
  refine aw_aload_n hC 1 dL_law_256 rfl rfl ?_
  refine aw_iload_n hC 0 dL_law_257 rfl rfl ?_
  refine aw_iconst (v := 1) hC dL_law_258 (by decide) ?_
  refine aw_iadd hC dL_law_259 ?_
  refine aw_sld hC hX hin1 dL_law_260 ?_
  refine aw_aload_n hC 1 dL_law_261 rfl rfl ?_
  refine aw_iload_n hC 0 dL_law_262 rfl rfl ?_
  refine aw_iconst (v := 2) hC dL_law_263 (by decide) ?_
  refine aw_iadd hC dL_law_264 ?_
  refine aw_sld hC hX hin2 dL_law_265 ?_
  refine aw_aload_n hC 1 dL_law_266 rfl rfl ?_
  refine aw_iload_n hC 0 dL_law_267 rfl rfl ?_
  refine aw_iconst (v := 3) hC dL_law_268 (by decide) ?_
  refine aw_iadd hC dL_law_269 ?_
  refine aw_sld hC hX hin3 dL_law_270 ?_
  refine aw_cV3r hC hSt (t_X12_set G l hMS1 _ _ _ hp2) w_963 w_1316 w_1317 w_1318 w_953 rfl rfl (by decide +kernel) ⟨(Nat.le_of_ble_eq_true rfl), (Nat.le_of_ble_eq_true rfl)⟩ (ms_lt 64 (by decide) hMS1) (ms_k 64 12 0 (by decide) hMS1) rfl (Nat.le_of_ble_eq_true rfl) dL_law_271 hf ?_
  refine aw_lcmp hC dL_law_274 ?_
  exact aw_if_eq hC 1323 dL_law_275 (by decide) (fun _ => hnx) (fun h => absurd (by rw [hEq]; exact lg_self _) h)
/-- what is owed of copy -/
def K_copy (Inv : Nat → HSt → Prop) : Prop := ∀ (n : Nat) (S : HSt) (a1 : Int32) (a2 : Int32) (a3 : Int32) (a4 : Int32) (a5 : Int32), n < 512 → Inv n S → p_X11_copy S 0 a1 a2 a3 a4 a5 ∧ p_X12_copy (f_X11_copy S 0 a1 a2 a3 a4 a5).2 64 a1 a2 a3 a4 a5 ∧ (f_X11_copy S 0 a1 a2 a3 a4 a5).1 = (f_X12_copy (f_X11_copy S 0 a1 a2 a3 a4 a5).2 64 a1 a2 a3 a4 a5).1 ∧ Inv (n + 1) (f_X12_copy (f_X11_copy S 0 a1 a2 a3 a4 a5).2 64 a1 a2 a3 a4 a5).2
set_option maxRecDepth 100000 in
theorem lw_c2 {p : Program} {l : Launch} {e : Env} {s : State} {m : MethodId} {args : Array Value} {below : List Frame} {meth : Method} {c : Code} {G : GG} {Q : State → Prop} {S : HSt} {cells slots : Nat} {L : Nat} {xs : Nat → Int32} (hC : ACx p s m args meth c cL_law RL 4 (some .boolean)) (hSt : St G s) (hX : SCR G s L xs) (hCS : CS S) (hMS : MS S) (hf : cells ≤ room_1.cells ∧ slots ≤ room_1.slots) (v3 : Int32) (hin1 : vp_in (v3 + (1 : Int32)) L) (hin2 : vp_in (v3 + (2 : Int32)) L) (hin3 : vp_in (v3 + (3 : Int32)) L) (hin4 : vp_in (v3 + (4 : Int32)) L) (hin5 : vp_in (v3 + (5 : Int32)) L) (hp1 : p_X11_copy S 0 (xs (v3 + (1 : Int32)).toNatClampNeg) (xs (v3 + (2 : Int32)).toNatClampNeg) (xs (v3 + (3 : Int32)).toNatClampNeg) (xs (v3 + (4 : Int32)).toNatClampNeg) (xs (v3 + (5 : Int32)).toNatClampNeg)) (hp2 : p_X12_copy (f_X11_copy S 0 (xs (v3 + (1 : Int32)).toNatClampNeg) (xs (v3 + (2 : Int32)).toNatClampNeg) (xs (v3 + (3 : Int32)).toNatClampNeg) (xs (v3 + (4 : Int32)).toNatClampNeg) (xs (v3 + (5 : Int32)).toNatClampNeg)).2 64 (xs (v3 + (1 : Int32)).toNatClampNeg) (xs (v3 + (2 : Int32)).toNatClampNeg) (xs (v3 + (3 : Int32)).toNatClampNeg) (xs (v3 + (4 : Int32)).toNatClampNeg) (xs (v3 + (5 : Int32)).toNatClampNeg)) (hEq : (f_X11_copy S 0 (xs (v3 + (1 : Int32)).toNatClampNeg) (xs (v3 + (2 : Int32)).toNatClampNeg) (xs (v3 + (3 : Int32)).toNatClampNeg) (xs (v3 + (4 : Int32)).toNatClampNeg) (xs (v3 + (5 : Int32)).toNatClampNeg)).1 = (f_X12_copy (f_X11_copy S 0 (xs (v3 + (1 : Int32)).toNatClampNeg) (xs (v3 + (2 : Int32)).toNatClampNeg) (xs (v3 + (3 : Int32)).toNatClampNeg) (xs (v3 + (4 : Int32)).toNatClampNeg) (xs (v3 + (5 : Int32)).toNatClampNeg)).2 64 (xs (v3 + (1 : Int32)).toNatClampNeg) (xs (v3 + (2 : Int32)).toNatClampNeg) (xs (v3 + (3 : Int32)).toNatClampNeg) (xs (v3 + (4 : Int32)).toNatClampNeg) (xs (v3 + (5 : Int32)).toNatClampNeg)).1) (hnx : AW p l e room_1 s m args below meth c G 4 Q (f_X12_copy (f_X11_copy S 0 (xs (v3 + (1 : Int32)).toNatClampNeg) (xs (v3 + (2 : Int32)).toNatClampNeg) (xs (v3 + (3 : Int32)).toNatClampNeg) (xs (v3 + (4 : Int32)).toNatClampNeg) (xs (v3 + (5 : Int32)).toNatClampNeg)).2 64 (xs (v3 + (1 : Int32)).toNatClampNeg) (xs (v3 + (2 : Int32)).toNatClampNeg) (xs (v3 + (3 : Int32)).toNatClampNeg) (xs (v3 + (4 : Int32)).toNatClampNeg) (xs (v3 + (5 : Int32)).toNatClampNeg)).2 cells slots 1323 [(3, .int v3), (0, .ref 5000), (1, .ref 0), (2, .ref 64)] []) : AW p l e room_1 s m args below meth c G 4 Q S cells slots 280 [(3, .int v3), (0, .ref 5000), (1, .ref 0), (2, .ref 64)] [] := by
  refine aw_aload_n hC 2 dL_law_280 rfl rfl ?_
  refine aw_aload_n hC 1 dL_law_281 rfl rfl ?_
  refine aw_iload_n hC 0 dL_law_282 rfl rfl ?_
  refine aw_iconst (v := 1) hC dL_law_283 (by decide) ?_
  refine aw_iadd hC dL_law_284 ?_
  refine aw_sld hC hX hin1 dL_law_285 ?_
  refine aw_aload_n hC 1 dL_law_286 rfl rfl ?_
  refine aw_iload_n hC 0 dL_law_287 rfl rfl ?_
  refine aw_iconst (v := 2) hC dL_law_288 (by decide) ?_
  refine aw_iadd hC dL_law_289 ?_
  refine aw_sld hC hX hin2 dL_law_290 ?_
  refine aw_aload_n hC 1 dL_law_291 rfl rfl ?_
  refine aw_iload_n hC 0 dL_law_292 rfl rfl ?_
  refine aw_iconst (v := 3) hC dL_law_293 (by decide) ?_
  refine aw_iadd hC dL_law_294 ?_
  refine aw_sld hC hX hin3 dL_law_295 ?_
  refine aw_aload_n hC 1 dL_law_296 rfl rfl ?_
  refine aw_iload_n hC 0 dL_law_297 rfl rfl ?_
  refine aw_iconst (v := 4) hC dL_law_298 (by decide) ?_
  refine aw_iadd hC dL_law_299 ?_
  refine aw_sld hC hX hin4 dL_law_300 ?_
  refine aw_aload_n hC 1 dL_law_301 rfl rfl ?_
  refine aw_iload_n hC 0 dL_law_302 rfl rfl ?_
  refine aw_iconst (v := 5) hC dL_law_303 (by decide) ?_
  refine aw_iadd hC dL_law_304 ?_
  refine aw_sld hC hX hin5 dL_law_305 ?_
  refine aw_cV5r hC hSt (t_X11_copy G l hCS _ _ _ _ _ hp1) w_736 w_1319 w_1320 w_1321 w_517 rfl rfl (by decide +kernel) ⟨(Nat.le_of_ble_eq_true rfl), (Nat.le_of_ble_eq_true rfl)⟩ (cs_lt 0 11 0 (by decide) hCS) (cs_k 0 11 0 (by decide) hCS) rfl (Nat.le_of_ble_eq_true rfl) dL_law_306 hf ?_
  have hMS1 : MS (f_X11_copy S 0 (xs (v3 + (1 : Int32)).toNatClampNeg) (xs (v3 + (2 : Int32)).toNatClampNeg) (xs (v3 + (3 : Int32)).toNatClampNeg) (xs (v3 + (4 : Int32)).toNatClampNeg) (xs (v3 + (5 : Int32)).toNatClampNeg)).2 := MS.of (q_X11_copy _ _ _ _ _ _ _) hMS
  refine aw_aload_n hC 3 dL_law_309 rfl rfl ?_
  refine aw_aload_n hC 1 dL_law_310 rfl rfl ?_
  refine aw_iload_n hC 0 dL_law_311 rfl rfl ?_
  refine aw_iconst (v := 1) hC dL_law_312 (by decide) ?_
  refine aw_iadd hC dL_law_313 ?_
  refine aw_sld hC hX hin1 dL_law_314 ?_
  refine aw_aload_n hC 1 dL_law_315 rfl rfl ?_
  refine aw_iload_n hC 0 dL_law_316 rfl rfl ?_
  refine aw_iconst (v := 2) hC dL_law_317 (by decide) ?_
  refine aw_iadd hC dL_law_318 ?_
  refine aw_sld hC hX hin2 dL_law_319 ?_
  refine aw_aload_n hC 1 dL_law_320 rfl rfl ?_
  refine aw_iload_n hC 0 dL_law_321 rfl rfl ?_
  refine aw_iconst (v := 3) hC dL_law_322 (by decide) ?_
  refine aw_iadd hC dL_law_323 ?_
  refine aw_sld hC hX hin3 dL_law_324 ?_
  refine aw_aload_n hC 1 dL_law_325 rfl rfl ?_
  refine aw_iload_n hC 0 dL_law_326 rfl rfl ?_
  refine aw_iconst (v := 4) hC dL_law_327 (by decide) ?_
  refine aw_iadd hC dL_law_328 ?_
  refine aw_sld hC hX hin4 dL_law_329 ?_
  refine aw_aload_n hC 1 dL_law_330 rfl rfl ?_
  refine aw_iload_n hC 0 dL_law_331 rfl rfl ?_
  refine aw_iconst (v := 5) hC dL_law_332 (by decide) ?_
  refine aw_iadd hC dL_law_333 ?_
  refine aw_sld hC hX hin5 dL_law_334 ?_
  refine aw_cV5r hC hSt (t_X12_copy G l hMS1 _ _ _ _ _ hp2) w_964 w_1322 w_1323 w_1324 w_953 rfl rfl (by decide +kernel) ⟨(Nat.le_of_ble_eq_true rfl), (Nat.le_of_ble_eq_true rfl)⟩ (ms_lt 64 (by decide) hMS1) (ms_k 64 12 0 (by decide) hMS1) rfl (Nat.le_of_ble_eq_true rfl) dL_law_335 hf ?_
  refine aw_lcmp hC dL_law_338 ?_
  exact aw_if_eq hC 1323 dL_law_339 (by decide) (fun _ => hnx) (fun h => absurd (by rw [hEq]; exact lg_self _) h)
/-- what is owed of drop -/
def K_drop (Inv : Nat → HSt → Prop) : Prop := ∀ (n : Nat) (S : HSt) (a1 : Int32), n < 512 → Inv n S → p_X11_drop S 0 a1 ∧ p_X12_drop (f_X11_drop S 0 a1).2 64 a1 ∧ (f_X11_drop S 0 a1).1 = (f_X12_drop (f_X11_drop S 0 a1).2 64 a1).1 ∧ Inv (n + 1) (f_X12_drop (f_X11_drop S 0 a1).2 64 a1).2
set_option maxRecDepth 100000 in
theorem lw_c3 {p : Program} {l : Launch} {e : Env} {s : State} {m : MethodId} {args : Array Value} {below : List Frame} {meth : Method} {c : Code} {G : GG} {Q : State → Prop} {S : HSt} {cells slots : Nat} {L : Nat} {xs : Nat → Int32} (hC : ACx p s m args meth c cL_law RL 4 (some .boolean)) (hSt : St G s) (hX : SCR G s L xs) (hCS : CS S) (hMS : MS S) (hf : cells ≤ room_1.cells ∧ slots ≤ room_1.slots) (v3 : Int32) (hin1 : vp_in (v3 + (1 : Int32)) L) (hin2 : vp_in (v3 + (2 : Int32)) L) (hin3 : vp_in (v3 + (3 : Int32)) L) (hin4 : vp_in (v3 + (4 : Int32)) L) (hin5 : vp_in (v3 + (5 : Int32)) L) (hp1 : p_X11_drop S 0 (xs (v3 + (1 : Int32)).toNatClampNeg)) (hp2 : p_X12_drop (f_X11_drop S 0 (xs (v3 + (1 : Int32)).toNatClampNeg)).2 64 (xs (v3 + (1 : Int32)).toNatClampNeg)) (hEq : (f_X11_drop S 0 (xs (v3 + (1 : Int32)).toNatClampNeg)).1 = (f_X12_drop (f_X11_drop S 0 (xs (v3 + (1 : Int32)).toNatClampNeg)).2 64 (xs (v3 + (1 : Int32)).toNatClampNeg)).1) (hnx : AW p l e room_1 s m args below meth c G 4 Q (f_X12_drop (f_X11_drop S 0 (xs (v3 + (1 : Int32)).toNatClampNeg)).2 64 (xs (v3 + (1 : Int32)).toNatClampNeg)).2 cells slots 1323 [(3, .int v3), (0, .ref 5000), (1, .ref 0), (2, .ref 64)] []) : AW p l e room_1 s m args below meth c G 4 Q S cells slots 344 [(3, .int v3), (0, .ref 5000), (1, .ref 0), (2, .ref 64)] [] := by
  refine aw_aload_n hC 2 dL_law_344 rfl rfl ?_
  refine aw_aload_n hC 1 dL_law_345 rfl rfl ?_
  refine aw_iload_n hC 0 dL_law_346 rfl rfl ?_
  refine aw_iconst (v := 1) hC dL_law_347 (by decide) ?_
  refine aw_iadd hC dL_law_348 ?_
  refine aw_sld hC hX hin1 dL_law_349 ?_
  refine aw_cV1r hC hSt (t_X11_drop G l hCS _ hp1) w_740 w_1325 w_1326 w_1327 w_517 rfl rfl (by decide +kernel) ⟨(Nat.le_of_ble_eq_true rfl), (Nat.le_of_ble_eq_true rfl)⟩ (cs_lt 0 11 0 (by decide) hCS) (cs_k 0 11 0 (by decide) hCS) rfl (Nat.le_of_ble_eq_true rfl) dL_law_350 hf ?_
  have hMS1 : MS (f_X11_drop S 0 (xs (v3 + (1 : Int32)).toNatClampNeg)).2 := MS.of (q_X11_drop _ _ _) hMS
  refine aw_aload_n hC 3 dL_law_353 rfl rfl ?_
  refine aw_aload_n hC 1 dL_law_354 rfl rfl ?_
  refine aw_iload_n hC 0 dL_law_355 rfl rfl ?_
  refine aw_iconst (v := 1) hC dL_law_356 (by decide) ?_
  refine aw_iadd hC dL_law_357 ?_
  refine aw_sld hC hX hin1 dL_law_358 ?_
  refine aw_cV1r hC hSt (t_X12_drop G l hMS1 _ hp2) w_965 w_1328 w_1329 w_1330 w_953 rfl rfl (by decide +kernel) ⟨(Nat.le_of_ble_eq_true rfl), (Nat.le_of_ble_eq_true rfl)⟩ (ms_lt 64 (by decide) hMS1) (ms_k 64 12 0 (by decide) hMS1) rfl (Nat.le_of_ble_eq_true rfl) dL_law_359 hf ?_
  refine aw_lcmp hC dL_law_362 ?_
  exact aw_if_eq hC 1323 dL_law_363 (by decide) (fun _ => hnx) (fun h => absurd (by rw [hEq]; exact lg_self _) h)
/-- what is owed of feed -/
def K_feed (Inv : Nat → HSt → Prop) : Prop := ∀ (n : Nat) (S : HSt) (a1 : Int64) (a2 : Int32), n < 512 → Inv n S → p_X11_feed S 0 a1 a2 ∧ p_X12_feed (f_X11_feed S 0 a1 a2).2 64 a1 a2 ∧ (f_X11_feed S 0 a1 a2).1 = (f_X12_feed (f_X11_feed S 0 a1 a2).2 64 a1 a2).1 ∧ Inv (n + 1) (f_X12_feed (f_X11_feed S 0 a1 a2).2 64 a1 a2).2
set_option maxRecDepth 100000 in
theorem lw_c4 {p : Program} {l : Launch} {e : Env} {s : State} {m : MethodId} {args : Array Value} {below : List Frame} {meth : Method} {c : Code} {G : GG} {Q : State → Prop} {S : HSt} {cells slots : Nat} {L : Nat} {xs : Nat → Int32} (hC : ACx p s m args meth c cL_law RL 4 (some .boolean)) (hSt : St G s) (hX : SCR G s L xs) (hCS : CS S) (hMS : MS S) (hf : cells ≤ room_1.cells ∧ slots ≤ room_1.slots) (v3 : Int32) (hin1 : vp_in (v3 + (1 : Int32)) L) (hin2 : vp_in (v3 + (2 : Int32)) L) (hin3 : vp_in (v3 + (3 : Int32)) L) (hin4 : vp_in (v3 + (4 : Int32)) L) (hin5 : vp_in (v3 + (5 : Int32)) L) (hp1 : p_X11_feed S 0 (((xs (v3 + (1 : Int32)).toNatClampNeg).toInt64 <<< ((32 : Int32).toInt64 &&& 63)) ||| ((xs (v3 + (2 : Int32)).toNatClampNeg).toInt64 &&& (4294967295 : Int64))) (xs (v3 + (3 : Int32)).toNatClampNeg)) (hp2 : p_X12_feed (f_X11_feed S 0 (((xs (v3 + (1 : Int32)).toNatClampNeg).toInt64 <<< ((32 : Int32).toInt64 &&& 63)) ||| ((xs (v3 + (2 : Int32)).toNatClampNeg).toInt64 &&& (4294967295 : Int64))) (xs (v3 + (3 : Int32)).toNatClampNeg)).2 64 (((xs (v3 + (1 : Int32)).toNatClampNeg).toInt64 <<< ((32 : Int32).toInt64 &&& 63)) ||| ((xs (v3 + (2 : Int32)).toNatClampNeg).toInt64 &&& (4294967295 : Int64))) (xs (v3 + (3 : Int32)).toNatClampNeg)) (hEq : (f_X11_feed S 0 (((xs (v3 + (1 : Int32)).toNatClampNeg).toInt64 <<< ((32 : Int32).toInt64 &&& 63)) ||| ((xs (v3 + (2 : Int32)).toNatClampNeg).toInt64 &&& (4294967295 : Int64))) (xs (v3 + (3 : Int32)).toNatClampNeg)).1 = (f_X12_feed (f_X11_feed S 0 (((xs (v3 + (1 : Int32)).toNatClampNeg).toInt64 <<< ((32 : Int32).toInt64 &&& 63)) ||| ((xs (v3 + (2 : Int32)).toNatClampNeg).toInt64 &&& (4294967295 : Int64))) (xs (v3 + (3 : Int32)).toNatClampNeg)).2 64 (((xs (v3 + (1 : Int32)).toNatClampNeg).toInt64 <<< ((32 : Int32).toInt64 &&& 63)) ||| ((xs (v3 + (2 : Int32)).toNatClampNeg).toInt64 &&& (4294967295 : Int64))) (xs (v3 + (3 : Int32)).toNatClampNeg)).1) (hnx : AW p l e room_1 s m args below meth c G 4 Q (f_X12_feed (f_X11_feed S 0 (((xs (v3 + (1 : Int32)).toNatClampNeg).toInt64 <<< ((32 : Int32).toInt64 &&& 63)) ||| ((xs (v3 + (2 : Int32)).toNatClampNeg).toInt64 &&& (4294967295 : Int64))) (xs (v3 + (3 : Int32)).toNatClampNeg)).2 64 (((xs (v3 + (1 : Int32)).toNatClampNeg).toInt64 <<< ((32 : Int32).toInt64 &&& 63)) ||| ((xs (v3 + (2 : Int32)).toNatClampNeg).toInt64 &&& (4294967295 : Int64))) (xs (v3 + (3 : Int32)).toNatClampNeg)).2 cells slots 1323 [(3, .int v3), (0, .ref 5000), (1, .ref 0), (2, .ref 64)] []) : AW p l e room_1 s m args below meth c G 4 Q S cells slots 368 [(3, .int v3), (0, .ref 5000), (1, .ref 0), (2, .ref 64)] [] := by
  refine aw_aload_n hC 2 dL_law_368 rfl rfl ?_
  refine aw_aload_n hC 1 dL_law_369 rfl rfl ?_
  refine aw_iload_n hC 0 dL_law_370 rfl rfl ?_
  refine aw_iconst (v := 1) hC dL_law_371 (by decide) ?_
  refine aw_iadd hC dL_law_372 ?_
  refine aw_sld hC hX hin1 dL_law_373 ?_
  refine aw_i2l hC dL_law_374 ?_
  refine aw_bipush (v := 32) hC dL_law_375 (by decide) ?_
  refine aw_lshl hC dL_law_377 ?_
  refine aw_aload_n hC 1 dL_law_378 rfl rfl ?_
  refine aw_iload_n hC 0 dL_law_379 rfl rfl ?_
  refine aw_iconst (v := 2) hC dL_law_380 (by decide) ?_
  refine aw_iadd hC dL_law_381 ?_
  refine aw_sld hC hX hin2 dL_law_382 ?_
  refine aw_i2l hC dL_law_383 ?_
  refine aw_ldc2 (v := 4294967295) hC w_1302 dL_law_384 ?_
  refine aw_land hC dL_law_387 ?_
  refine aw_lor hC dL_law_388 ?_
  refine aw_aload_n hC 1 dL_law_389 rfl rfl ?_
  refine aw_iload_n hC 0 dL_law_390 rfl rfl ?_
  refine aw_iconst (v := 3) hC dL_law_391 (by decide) ?_
  refine aw_iadd hC dL_law_392 ?_
  refine aw_sld hC hX hin3 dL_law_393 ?_
  refine aw_cV2r hC hSt (t_X11_feed G l hCS _ _ hp1) w_741 w_1331 w_1332 w_1333 w_517 rfl rfl (by decide +kernel) ⟨(Nat.le_of_ble_eq_true rfl), (Nat.le_of_ble_eq_true rfl)⟩ (cs_lt 0 11 0 (by decide) hCS) (cs_k 0 11 0 (by decide) hCS) rfl (Nat.le_of_ble_eq_true rfl) dL_law_394 hf ?_
  have hMS1 : MS (f_X11_feed S 0 (((xs (v3 + (1 : Int32)).toNatClampNeg).toInt64 <<< ((32 : Int32).toInt64 &&& 63)) ||| ((xs (v3 + (2 : Int32)).toNatClampNeg).toInt64 &&& (4294967295 : Int64))) (xs (v3 + (3 : Int32)).toNatClampNeg)).2 := MS.of (q_X11_feed _ _ _ _) hMS
  refine aw_aload_n hC 3 dL_law_397 rfl rfl ?_
  refine aw_aload_n hC 1 dL_law_398 rfl rfl ?_
  refine aw_iload_n hC 0 dL_law_399 rfl rfl ?_
  refine aw_iconst (v := 1) hC dL_law_400 (by decide) ?_
  refine aw_iadd hC dL_law_401 ?_
  refine aw_sld hC hX hin1 dL_law_402 ?_
  refine aw_i2l hC dL_law_403 ?_
  refine aw_bipush (v := 32) hC dL_law_404 (by decide) ?_
  refine aw_lshl hC dL_law_406 ?_
  refine aw_aload_n hC 1 dL_law_407 rfl rfl ?_
  refine aw_iload_n hC 0 dL_law_408 rfl rfl ?_
  refine aw_iconst (v := 2) hC dL_law_409 (by decide) ?_
  refine aw_iadd hC dL_law_410 ?_
  refine aw_sld hC hX hin2 dL_law_411 ?_
  refine aw_i2l hC dL_law_412 ?_
  refine aw_ldc2 (v := 4294967295) hC w_1302 dL_law_413 ?_
  refine aw_land hC dL_law_416 ?_
  refine aw_lor hC dL_law_417 ?_
  refine aw_aload_n hC 1 dL_law_418 rfl rfl ?_
  refine aw_iload_n hC 0 dL_law_419 rfl rfl ?_
  refine aw_iconst (v := 3) hC dL_law_420 (by decide) ?_
  refine aw_iadd hC dL_law_421 ?_
  refine aw_sld hC hX hin3 dL_law_422 ?_
  refine aw_cV2r hC hSt (t_X12_feed G l hMS1 _ _ hp2) w_966 w_1334 w_1335 w_1336 w_953 rfl rfl (by decide +kernel) ⟨(Nat.le_of_ble_eq_true rfl), (Nat.le_of_ble_eq_true rfl)⟩ (ms_lt 64 (by decide) hMS1) (ms_k 64 12 0 (by decide) hMS1) rfl (Nat.le_of_ble_eq_true rfl) dL_law_423 hf ?_
  refine aw_lcmp hC dL_law_426 ?_
  exact aw_if_eq hC 1323 dL_law_427 (by decide) (fun _ => hnx) (fun h => absurd (by rw [hEq]; exact lg_self _) h)
/-- what is owed of way -/
def K_way (Inv : Nat → HSt → Prop) : Prop := ∀ (n : Nat) (S : HSt), n < 512 → Inv n S → p_X11_way S 0 ∧ p_X12_way (f_X11_way S 0).2 64 ∧ (f_X11_way S 0).1 = (f_X12_way (f_X11_way S 0).2 64).1 ∧ Inv (n + 1) (f_X12_way (f_X11_way S 0).2 64).2
set_option maxRecDepth 100000 in
theorem lw_c5 {p : Program} {l : Launch} {e : Env} {s : State} {m : MethodId} {args : Array Value} {below : List Frame} {meth : Method} {c : Code} {G : GG} {Q : State → Prop} {S : HSt} {cells slots : Nat} {L : Nat} {xs : Nat → Int32} (hC : ACx p s m args meth c cL_law RL 4 (some .boolean)) (hSt : St G s) (hX : SCR G s L xs) (hCS : CS S) (hMS : MS S) (hf : cells ≤ room_1.cells ∧ slots ≤ room_1.slots) (v3 : Int32) (hin1 : vp_in (v3 + (1 : Int32)) L) (hin2 : vp_in (v3 + (2 : Int32)) L) (hin3 : vp_in (v3 + (3 : Int32)) L) (hin4 : vp_in (v3 + (4 : Int32)) L) (hin5 : vp_in (v3 + (5 : Int32)) L) (hp1 : p_X11_way S 0) (hp2 : p_X12_way (f_X11_way S 0).2 64) (hEq : (f_X11_way S 0).1 = (f_X12_way (f_X11_way S 0).2 64).1) (hnx : AW p l e room_1 s m args below meth c G 4 Q (f_X12_way (f_X11_way S 0 ).2 64 ).2 cells slots 1323 [(3, .int v3), (0, .ref 5000), (1, .ref 0), (2, .ref 64)] []) : AW p l e room_1 s m args below meth c G 4 Q S cells slots 432 [(3, .int v3), (0, .ref 5000), (1, .ref 0), (2, .ref 64)] [] := by
  refine aw_aload_n hC 2 dL_law_432 rfl rfl ?_
  refine aw_cV0r hC hSt (t_X11_way G l hCS hp1) w_764 w_1337 w_1338 w_1339 w_517 rfl rfl (by decide +kernel) ⟨(Nat.le_of_ble_eq_true rfl), (Nat.le_of_ble_eq_true rfl)⟩ (cs_lt 0 11 0 (by decide) hCS) (cs_k 0 11 0 (by decide) hCS) rfl (Nat.le_of_ble_eq_true rfl) dL_law_433 hf ?_
  have hMS1 : MS (f_X11_way S 0 ).2 := MS.of (q_X11_way _ _) hMS
  refine aw_aload_n hC 3 dL_law_436 rfl rfl ?_
  refine aw_cV0r hC hSt (t_X12_way G l hMS1 hp2) w_1077 w_1340 w_1341 w_1342 w_953 rfl rfl (by decide +kernel) ⟨(Nat.le_of_ble_eq_true rfl), (Nat.le_of_ble_eq_true rfl)⟩ (ms_lt 64 (by decide) hMS1) (ms_k 64 12 0 (by decide) hMS1) rfl (Nat.le_of_ble_eq_true rfl) dL_law_437 hf ?_
  refine aw_lcmp hC dL_law_440 ?_
  exact aw_if_eq hC 1323 dL_law_441 (by decide) (fun _ => hnx) (fun h => absurd (by rw [hEq]; exact lg_self _) h)
/-- what is owed of fault -/
def K_fault (Inv : Nat → HSt → Prop) : Prop := ∀ (n : Nat) (S : HSt), n < 512 → Inv n S → f_X11_fault S 0 = (f_X12_fault S 64).1 ∧ Inv (n + 1) (f_X12_fault S 64).2
set_option maxRecDepth 100000 in
theorem lw_c6 {p : Program} {l : Launch} {e : Env} {s : State} {m : MethodId} {args : Array Value} {below : List Frame} {meth : Method} {c : Code} {G : GG} {Q : State → Prop} {S : HSt} {cells slots : Nat} {L : Nat} {xs : Nat → Int32} (hC : ACx p s m args meth c cL_law RL 4 (some .boolean)) (hSt : St G s) (hX : SCR G s L xs) (hCS : CS S) (hMS : MS S) (hf : cells ≤ room_1.cells ∧ slots ≤ room_1.slots) (v3 : Int32) (hin1 : vp_in (v3 + (1 : Int32)) L) (hin2 : vp_in (v3 + (2 : Int32)) L) (hin3 : vp_in (v3 + (3 : Int32)) L) (hin4 : vp_in (v3 + (4 : Int32)) L) (hin5 : vp_in (v3 + (5 : Int32)) L) (hEq : f_X11_fault S 0 = (f_X12_fault S 64).1) (hnx : AW p l e room_1 s m args below meth c G 4 Q (f_X12_fault S 64 ).2 cells slots 1323 [(3, .int v3), (0, .ref 5000), (1, .ref 0), (2, .ref 64)] []) : AW p l e room_1 s m args below meth c G 4 Q S cells slots 446 [(3, .int v3), (0, .ref 5000), (1, .ref 0), (2, .ref 64)] [] := by
  refine aw_aload_n hC 2 dL_law_446 rfl rfl ?_
  refine aw_cV0r hC hSt (t_X11_fault G l hCS) w_765 w_1343 w_1344 w_1345 w_517 rfl rfl (by decide +kernel) ⟨(Nat.le_of_ble_eq_true rfl), (Nat.le_of_ble_eq_true rfl)⟩ (cs_lt 0 11 0 (by decide) hCS) (cs_k 0 11 0 (by decide) hCS) rfl (Nat.le_of_ble_eq_true rfl) dL_law_447 hf ?_
  have hMS1 : MS S := hMS
  refine aw_aload_n hC 3 dL_law_450 rfl rfl ?_
  refine aw_cV0r hC hSt (t_X12_fault G l hMS1) w_1078 w_1346 w_1347 w_1348 w_953 rfl rfl (by decide +kernel) ⟨(Nat.le_of_ble_eq_true rfl), (Nat.le_of_ble_eq_true rfl)⟩ (ms_lt 64 (by decide) hMS1) (ms_k 64 12 0 (by decide) hMS1) rfl (Nat.le_of_ble_eq_true rfl) dL_law_451 hf ?_
  exact aw_icmp_eq hC 1323 dL_law_454 (by decide) (fun _ => hnx) (fun h => absurd hEq h)
/-- what is owed of act -/
def K_act (Inv : Nat → HSt → Prop) : Prop := ∀ (n : Nat) (S : HSt) (a1 : Int32) (a2 : Int32), n < 512 → Inv n S → p_X11_act S 0 a1 a2 ∧ p_X12_act S 64 a1 a2 ∧ f_X11_act S 0 a1 a2 = (f_X12_act S 64 a1 a2).1 ∧ Inv (n + 1) (f_X12_act S 64 a1 a2).2
set_option maxRecDepth 100000 in
theorem lw_c7 {p : Program} {l : Launch} {e : Env} {s : State} {m : MethodId} {args : Array Value} {below : List Frame} {meth : Method} {c : Code} {G : GG} {Q : State → Prop} {S : HSt} {cells slots : Nat} {L : Nat} {xs : Nat → Int32} (hC : ACx p s m args meth c cL_law RL 4 (some .boolean)) (hSt : St G s) (hX : SCR G s L xs) (hCS : CS S) (hMS : MS S) (hf : cells ≤ room_1.cells ∧ slots ≤ room_1.slots) (v3 : Int32) (hin1 : vp_in (v3 + (1 : Int32)) L) (hin2 : vp_in (v3 + (2 : Int32)) L) (hin3 : vp_in (v3 + (3 : Int32)) L) (hin4 : vp_in (v3 + (4 : Int32)) L) (hin5 : vp_in (v3 + (5 : Int32)) L) (hp1 : p_X11_act S 0 (xs (v3 + (1 : Int32)).toNatClampNeg) (xs (v3 + (2 : Int32)).toNatClampNeg)) (hp2 : p_X12_act S 64 (xs (v3 + (1 : Int32)).toNatClampNeg) (xs (v3 + (2 : Int32)).toNatClampNeg)) (hEq : f_X11_act S 0 (xs (v3 + (1 : Int32)).toNatClampNeg) (xs (v3 + (2 : Int32)).toNatClampNeg) = (f_X12_act S 64 (xs (v3 + (1 : Int32)).toNatClampNeg) (xs (v3 + (2 : Int32)).toNatClampNeg)).1) (hnx : AW p l e room_1 s m args below meth c G 4 Q (f_X12_act S 64 (xs (v3 + (1 : Int32)).toNatClampNeg) (xs (v3 + (2 : Int32)).toNatClampNeg)).2 cells slots 1323 [(3, .int v3), (0, .ref 5000), (1, .ref 0), (2, .ref 64)] []) : AW p l e room_1 s m args below meth c G 4 Q S cells slots 459 [(3, .int v3), (0, .ref 5000), (1, .ref 0), (2, .ref 64)] [] := by
  refine aw_aload_n hC 2 dL_law_459 rfl rfl ?_
  refine aw_aload_n hC 1 dL_law_460 rfl rfl ?_
  refine aw_iload_n hC 0 dL_law_461 rfl rfl ?_
  refine aw_iconst (v := 1) hC dL_law_462 (by decide) ?_
  refine aw_iadd hC dL_law_463 ?_
  refine aw_sld hC hX hin1 dL_law_464 ?_
  refine aw_aload_n hC 1 dL_law_465 rfl rfl ?_
  refine aw_iload_n hC 0 dL_law_466 rfl rfl ?_
  refine aw_iconst (v := 2) hC dL_law_467 (by decide) ?_
  refine aw_iadd hC dL_law_468 ?_
  refine aw_sld hC hX hin2 dL_law_469 ?_
  refine aw_cV2r hC hSt (t_X11_act G l hCS _ _ hp1) w_779 w_1349 w_1350 w_1351 w_517 rfl rfl (by decide +kernel) ⟨(Nat.le_of_ble_eq_true rfl), (Nat.le_of_ble_eq_true rfl)⟩ (cs_lt 0 11 0 (by decide) hCS) (cs_k 0 11 0 (by decide) hCS) rfl (Nat.le_of_ble_eq_true rfl) dL_law_470 hf ?_
  have hMS1 : MS S := hMS
  refine aw_aload_n hC 3 dL_law_473 rfl rfl ?_
  refine aw_aload_n hC 1 dL_law_474 rfl rfl ?_
  refine aw_iload_n hC 0 dL_law_475 rfl rfl ?_
  refine aw_iconst (v := 1) hC dL_law_476 (by decide) ?_
  refine aw_iadd hC dL_law_477 ?_
  refine aw_sld hC hX hin1 dL_law_478 ?_
  refine aw_aload_n hC 1 dL_law_479 rfl rfl ?_
  refine aw_iload_n hC 0 dL_law_480 rfl rfl ?_
  refine aw_iconst (v := 2) hC dL_law_481 (by decide) ?_
  refine aw_iadd hC dL_law_482 ?_
  refine aw_sld hC hX hin2 dL_law_483 ?_
  refine aw_cV2r hC hSt (t_X12_act G l hMS1 _ _ hp2) w_1083 w_1352 w_1353 w_1354 w_953 rfl rfl (by decide +kernel) ⟨(Nat.le_of_ble_eq_true rfl), (Nat.le_of_ble_eq_true rfl)⟩ (ms_lt 64 (by decide) hMS1) (ms_k 64 12 0 (by decide) hMS1) rfl (Nat.le_of_ble_eq_true rfl) dL_law_484 hf ?_
  refine aw_lcmp hC dL_law_487 ?_
  exact aw_if_eq hC 1323 dL_law_488 (by decide) (fun _ => hnx) (fun h => absurd (by rw [hEq]; exact lg_self _) h)
/-- what is owed of take -/
def K_take (Inv : Nat → HSt → Prop) : Prop := ∀ (n : Nat) (S : HSt) (a1 : Int32) (a2 : Int32), n < 512 → Inv n S → p_X11_take S 0 a1 a2 ∧ p_X12_take (f_X11_take S 0 a1 a2).2 64 a1 a2 ∧ (f_X11_take S 0 a1 a2).1 = (f_X12_take (f_X11_take S 0 a1 a2).2 64 a1 a2).1 ∧ Inv (n + 1) (f_X12_take (f_X11_take S 0 a1 a2).2 64 a1 a2).2
set_option maxRecDepth 100000 in
theorem lw_c8 {p : Program} {l : Launch} {e : Env} {s : State} {m : MethodId} {args : Array Value} {below : List Frame} {meth : Method} {c : Code} {G : GG} {Q : State → Prop} {S : HSt} {cells slots : Nat} {L : Nat} {xs : Nat → Int32} (hC : ACx p s m args meth c cL_law RL 4 (some .boolean)) (hSt : St G s) (hX : SCR G s L xs) (hCS : CS S) (hMS : MS S) (hf : cells ≤ room_1.cells ∧ slots ≤ room_1.slots) (v3 : Int32) (hin1 : vp_in (v3 + (1 : Int32)) L) (hin2 : vp_in (v3 + (2 : Int32)) L) (hin3 : vp_in (v3 + (3 : Int32)) L) (hin4 : vp_in (v3 + (4 : Int32)) L) (hin5 : vp_in (v3 + (5 : Int32)) L) (hp1 : p_X11_take S 0 (xs (v3 + (1 : Int32)).toNatClampNeg) (xs (v3 + (2 : Int32)).toNatClampNeg)) (hp2 : p_X12_take (f_X11_take S 0 (xs (v3 + (1 : Int32)).toNatClampNeg) (xs (v3 + (2 : Int32)).toNatClampNeg)).2 64 (xs (v3 + (1 : Int32)).toNatClampNeg) (xs (v3 + (2 : Int32)).toNatClampNeg)) (hEq : (f_X11_take S 0 (xs (v3 + (1 : Int32)).toNatClampNeg) (xs (v3 + (2 : Int32)).toNatClampNeg)).1 = (f_X12_take (f_X11_take S 0 (xs (v3 + (1 : Int32)).toNatClampNeg) (xs (v3 + (2 : Int32)).toNatClampNeg)).2 64 (xs (v3 + (1 : Int32)).toNatClampNeg) (xs (v3 + (2 : Int32)).toNatClampNeg)).1) (hnx : AW p l e room_1 s m args below meth c G 4 Q (f_X12_take (f_X11_take S 0 (xs (v3 + (1 : Int32)).toNatClampNeg) (xs (v3 + (2 : Int32)).toNatClampNeg)).2 64 (xs (v3 + (1 : Int32)).toNatClampNeg) (xs (v3 + (2 : Int32)).toNatClampNeg)).2 cells slots 1323 [(3, .int v3), (0, .ref 5000), (1, .ref 0), (2, .ref 64)] []) : AW p l e room_1 s m args below meth c G 4 Q S cells slots 493 [(3, .int v3), (0, .ref 5000), (1, .ref 0), (2, .ref 64)] [] := by
  refine aw_aload_n hC 2 dL_law_493 rfl rfl ?_
  refine aw_aload_n hC 1 dL_law_494 rfl rfl ?_
  refine aw_iload_n hC 0 dL_law_495 rfl rfl ?_
  refine aw_iconst (v := 1) hC dL_law_496 (by decide) ?_
  refine aw_iadd hC dL_law_497 ?_
  refine aw_sld hC hX hin1 dL_law_498 ?_
  refine aw_aload_n hC 1 dL_law_499 rfl rfl ?_
  refine aw_iload_n hC 0 dL_law_500 rfl rfl ?_
  refine aw_iconst (v := 2) hC dL_law_501 (by decide) ?_
  refine aw_iadd hC dL_law_502 ?_
  refine aw_sld hC hX hin2 dL_law_503 ?_
  refine aw_cV2r hC hSt (t_X11_take G l hCS _ _ hp1) w_782 w_1355 w_1356 w_1357 w_517 rfl rfl (by decide +kernel) ⟨(Nat.le_of_ble_eq_true rfl), (Nat.le_of_ble_eq_true rfl)⟩ (cs_lt 0 11 0 (by decide) hCS) (cs_k 0 11 0 (by decide) hCS) rfl (Nat.le_of_ble_eq_true rfl) dL_law_504 hf ?_
  have hMS1 : MS (f_X11_take S 0 (xs (v3 + (1 : Int32)).toNatClampNeg) (xs (v3 + (2 : Int32)).toNatClampNeg)).2 := MS.of (q_X11_take _ _ _ _) hMS
  refine aw_aload_n hC 3 dL_law_507 rfl rfl ?_
  refine aw_aload_n hC 1 dL_law_508 rfl rfl ?_
  refine aw_iload_n hC 0 dL_law_509 rfl rfl ?_
  refine aw_iconst (v := 1) hC dL_law_510 (by decide) ?_
  refine aw_iadd hC dL_law_511 ?_
  refine aw_sld hC hX hin1 dL_law_512 ?_
  refine aw_aload_n hC 1 dL_law_513 rfl rfl ?_
  refine aw_iload_n hC 0 dL_law_514 rfl rfl ?_
  refine aw_iconst (v := 2) hC dL_law_515 (by decide) ?_
  refine aw_iadd hC dL_law_516 ?_
  refine aw_sld hC hX hin2 dL_law_517 ?_
  refine aw_cV2r hC hSt (t_X12_take G l hMS1 _ _ hp2) w_1147 w_1358 w_1359 w_1360 w_953 rfl rfl (by decide +kernel) ⟨(Nat.le_of_ble_eq_true rfl), (Nat.le_of_ble_eq_true rfl)⟩ (ms_lt 64 (by decide) hMS1) (ms_k 64 12 0 (by decide) hMS1) rfl (Nat.le_of_ble_eq_true rfl) dL_law_518 hf ?_
  refine aw_lcmp hC dL_law_521 ?_
  exact aw_if_eq hC 1323 dL_law_522 (by decide) (fun _ => hnx) (fun h => absurd (by rw [hEq]; exact lg_self _) h)
/-- what is owed of tick -/
def K_tick (Inv : Nat → HSt → Prop) : Prop := ∀ (n : Nat) (S : HSt) (a1 : Int32) (a2 : Int32) (a3 : Int32) (a4 : Int32), n < 512 → Inv n S → p_X12_tick (f_X11_tick S 0 a1 a2 a3 a4).2 64 a1 a2 a3 a4 ∧ (f_X11_tick S 0 a1 a2 a3 a4).1 = (f_X12_tick (f_X11_tick S 0 a1 a2 a3 a4).2 64 a1 a2 a3 a4).1 ∧ Inv (n + 1) (f_X12_tick (f_X11_tick S 0 a1 a2 a3 a4).2 64 a1 a2 a3 a4).2
set_option maxRecDepth 100000 in
theorem lw_c9 {p : Program} {l : Launch} {e : Env} {s : State} {m : MethodId} {args : Array Value} {below : List Frame} {meth : Method} {c : Code} {G : GG} {Q : State → Prop} {S : HSt} {cells slots : Nat} {L : Nat} {xs : Nat → Int32} (hC : ACx p s m args meth c cL_law RL 4 (some .boolean)) (hSt : St G s) (hX : SCR G s L xs) (hCS : CS S) (hMS : MS S) (hf : cells ≤ room_1.cells ∧ slots ≤ room_1.slots) (v3 : Int32) (hin1 : vp_in (v3 + (1 : Int32)) L) (hin2 : vp_in (v3 + (2 : Int32)) L) (hin3 : vp_in (v3 + (3 : Int32)) L) (hin4 : vp_in (v3 + (4 : Int32)) L) (hin5 : vp_in (v3 + (5 : Int32)) L) (hp2 : p_X12_tick (f_X11_tick S 0 (xs (v3 + (1 : Int32)).toNatClampNeg) (xs (v3 + (2 : Int32)).toNatClampNeg) (xs (v3 + (3 : Int32)).toNatClampNeg) (xs (v3 + (4 : Int32)).toNatClampNeg)).2 64 (xs (v3 + (1 : Int32)).toNatClampNeg) (xs (v3 + (2 : Int32)).toNatClampNeg) (xs (v3 + (3 : Int32)).toNatClampNeg) (xs (v3 + (4 : Int32)).toNatClampNeg)) (hEq : (f_X11_tick S 0 (xs (v3 + (1 : Int32)).toNatClampNeg) (xs (v3 + (2 : Int32)).toNatClampNeg) (xs (v3 + (3 : Int32)).toNatClampNeg) (xs (v3 + (4 : Int32)).toNatClampNeg)).1 = (f_X12_tick (f_X11_tick S 0 (xs (v3 + (1 : Int32)).toNatClampNeg) (xs (v3 + (2 : Int32)).toNatClampNeg) (xs (v3 + (3 : Int32)).toNatClampNeg) (xs (v3 + (4 : Int32)).toNatClampNeg)).2 64 (xs (v3 + (1 : Int32)).toNatClampNeg) (xs (v3 + (2 : Int32)).toNatClampNeg) (xs (v3 + (3 : Int32)).toNatClampNeg) (xs (v3 + (4 : Int32)).toNatClampNeg)).1) (hnx : AW p l e room_1 s m args below meth c G 4 Q (f_X12_tick (f_X11_tick S 0 (xs (v3 + (1 : Int32)).toNatClampNeg) (xs (v3 + (2 : Int32)).toNatClampNeg) (xs (v3 + (3 : Int32)).toNatClampNeg) (xs (v3 + (4 : Int32)).toNatClampNeg)).2 64 (xs (v3 + (1 : Int32)).toNatClampNeg) (xs (v3 + (2 : Int32)).toNatClampNeg) (xs (v3 + (3 : Int32)).toNatClampNeg) (xs (v3 + (4 : Int32)).toNatClampNeg)).2 cells slots 1323 [(3, .int v3), (0, .ref 5000), (1, .ref 0), (2, .ref 64)] []) : AW p l e room_1 s m args below meth c G 4 Q S cells slots 527 [(3, .int v3), (0, .ref 5000), (1, .ref 0), (2, .ref 64)] [] := by
  refine aw_aload_n hC 2 dL_law_527 rfl rfl ?_
  refine aw_aload_n hC 1 dL_law_528 rfl rfl ?_
  refine aw_iload_n hC 0 dL_law_529 rfl rfl ?_
  refine aw_iconst (v := 1) hC dL_law_530 (by decide) ?_
  refine aw_iadd hC dL_law_531 ?_
  refine aw_sld hC hX hin1 dL_law_532 ?_
  refine aw_aload_n hC 1 dL_law_533 rfl rfl ?_
  refine aw_iload_n hC 0 dL_law_534 rfl rfl ?_
  refine aw_iconst (v := 2) hC dL_law_535 (by decide) ?_
  refine aw_iadd hC dL_law_536 ?_
  refine aw_sld hC hX hin2 dL_law_537 ?_
  refine aw_aload_n hC 1 dL_law_538 rfl rfl ?_
  refine aw_iload_n hC 0 dL_law_539 rfl rfl ?_
  refine aw_iconst (v := 3) hC dL_law_540 (by decide) ?_
  refine aw_iadd hC dL_law_541 ?_
  refine aw_sld hC hX hin3 dL_law_542 ?_
  refine aw_aload_n hC 1 dL_law_543 rfl rfl ?_
  refine aw_iload_n hC 0 dL_law_544 rfl rfl ?_
  refine aw_iconst (v := 4) hC dL_law_545 (by decide) ?_
  refine aw_iadd hC dL_law_546 ?_
  refine aw_sld hC hX hin4 dL_law_547 ?_
  refine aw_cV4r hC hSt (t_X11_tick G l hCS _ _ _ _) w_789 w_1361 w_1362 w_1363 w_517 rfl rfl (by decide +kernel) ⟨(Nat.le_of_ble_eq_true rfl), (Nat.le_of_ble_eq_true rfl)⟩ (cs_lt 0 11 0 (by decide) hCS) (cs_k 0 11 0 (by decide) hCS) rfl (Nat.le_of_ble_eq_true rfl) dL_law_548 hf ?_
  have hMS1 : MS (f_X11_tick S 0 (xs (v3 + (1 : Int32)).toNatClampNeg) (xs (v3 + (2 : Int32)).toNatClampNeg) (xs (v3 + (3 : Int32)).toNatClampNeg) (xs (v3 + (4 : Int32)).toNatClampNeg)).2 := MS.of (q_X11_tick _ _ _ _ _ _) hMS
  refine aw_aload_n hC 3 dL_law_551 rfl rfl ?_
  refine aw_aload_n hC 1 dL_law_552 rfl rfl ?_
  refine aw_iload_n hC 0 dL_law_553 rfl rfl ?_
  refine aw_iconst (v := 1) hC dL_law_554 (by decide) ?_
  refine aw_iadd hC dL_law_555 ?_
  refine aw_sld hC hX hin1 dL_law_556 ?_
  refine aw_aload_n hC 1 dL_law_557 rfl rfl ?_
  refine aw_iload_n hC 0 dL_law_558 rfl rfl ?_
  refine aw_iconst (v := 2) hC dL_law_559 (by decide) ?_
  refine aw_iadd hC dL_law_560 ?_
  refine aw_sld hC hX hin2 dL_law_561 ?_
  refine aw_aload_n hC 1 dL_law_562 rfl rfl ?_
  refine aw_iload_n hC 0 dL_law_563 rfl rfl ?_
  refine aw_iconst (v := 3) hC dL_law_564 (by decide) ?_
  refine aw_iadd hC dL_law_565 ?_
  refine aw_sld hC hX hin3 dL_law_566 ?_
  refine aw_aload_n hC 1 dL_law_567 rfl rfl ?_
  refine aw_iload_n hC 0 dL_law_568 rfl rfl ?_
  refine aw_iconst (v := 4) hC dL_law_569 (by decide) ?_
  refine aw_iadd hC dL_law_570 ?_
  refine aw_sld hC hX hin4 dL_law_571 ?_
  refine aw_cV4r hC hSt (t_X12_tick G l hMS1 _ _ _ _ hp2) w_1158 w_1364 w_1365 w_1366 w_953 rfl rfl (by decide +kernel) ⟨(Nat.le_of_ble_eq_true rfl), (Nat.le_of_ble_eq_true rfl)⟩ (ms_lt 64 (by decide) hMS1) (ms_k 64 12 0 (by decide) hMS1) rfl (Nat.le_of_ble_eq_true rfl) dL_law_572 hf ?_
  refine aw_lcmp hC dL_law_575 ?_
  exact aw_if_eq hC 1323 dL_law_576 (by decide) (fun _ => hnx) (fun h => absurd (by rw [hEq]; exact lg_self _) h)
/-- what is owed of hurl -/
def K_hurl (Inv : Nat → HSt → Prop) : Prop := ∀ (n : Nat) (S : HSt) (a1 : Int32) (a2 : Int32), n < 512 → Inv n S → p_X11_hurl S 0 a1 a2 ∧ p_X12_hurl (f_X11_hurl S 0 a1 a2).2 64 a1 a2 ∧ (f_X11_hurl S 0 a1 a2).1 = (f_X12_hurl (f_X11_hurl S 0 a1 a2).2 64 a1 a2).1 ∧ Inv (n + 1) (f_X12_hurl (f_X11_hurl S 0 a1 a2).2 64 a1 a2).2
set_option maxRecDepth 100000 in
theorem lw_c10 {p : Program} {l : Launch} {e : Env} {s : State} {m : MethodId} {args : Array Value} {below : List Frame} {meth : Method} {c : Code} {G : GG} {Q : State → Prop} {S : HSt} {cells slots : Nat} {L : Nat} {xs : Nat → Int32} (hC : ACx p s m args meth c cL_law RL 4 (some .boolean)) (hSt : St G s) (hX : SCR G s L xs) (hCS : CS S) (hMS : MS S) (hf : cells ≤ room_1.cells ∧ slots ≤ room_1.slots) (v3 : Int32) (hin1 : vp_in (v3 + (1 : Int32)) L) (hin2 : vp_in (v3 + (2 : Int32)) L) (hin3 : vp_in (v3 + (3 : Int32)) L) (hin4 : vp_in (v3 + (4 : Int32)) L) (hin5 : vp_in (v3 + (5 : Int32)) L) (hp1 : p_X11_hurl S 0 (xs (v3 + (1 : Int32)).toNatClampNeg) (xs (v3 + (2 : Int32)).toNatClampNeg)) (hp2 : p_X12_hurl (f_X11_hurl S 0 (xs (v3 + (1 : Int32)).toNatClampNeg) (xs (v3 + (2 : Int32)).toNatClampNeg)).2 64 (xs (v3 + (1 : Int32)).toNatClampNeg) (xs (v3 + (2 : Int32)).toNatClampNeg)) (hEq : (f_X11_hurl S 0 (xs (v3 + (1 : Int32)).toNatClampNeg) (xs (v3 + (2 : Int32)).toNatClampNeg)).1 = (f_X12_hurl (f_X11_hurl S 0 (xs (v3 + (1 : Int32)).toNatClampNeg) (xs (v3 + (2 : Int32)).toNatClampNeg)).2 64 (xs (v3 + (1 : Int32)).toNatClampNeg) (xs (v3 + (2 : Int32)).toNatClampNeg)).1) (hnx : AW p l e room_1 s m args below meth c G 4 Q (f_X12_hurl (f_X11_hurl S 0 (xs (v3 + (1 : Int32)).toNatClampNeg) (xs (v3 + (2 : Int32)).toNatClampNeg)).2 64 (xs (v3 + (1 : Int32)).toNatClampNeg) (xs (v3 + (2 : Int32)).toNatClampNeg)).2 cells slots 1323 [(3, .int v3), (0, .ref 5000), (1, .ref 0), (2, .ref 64)] []) : AW p l e room_1 s m args below meth c G 4 Q S cells slots 581 [(3, .int v3), (0, .ref 5000), (1, .ref 0), (2, .ref 64)] [] := by
  refine aw_aload_n hC 2 dL_law_581 rfl rfl ?_
  refine aw_aload_n hC 1 dL_law_582 rfl rfl ?_
  refine aw_iload_n hC 0 dL_law_583 rfl rfl ?_
  refine aw_iconst (v := 1) hC dL_law_584 (by decide) ?_
  refine aw_iadd hC dL_law_585 ?_
  refine aw_sld hC hX hin1 dL_law_586 ?_
  refine aw_aload_n hC 1 dL_law_587 rfl rfl ?_
  refine aw_iload_n hC 0 dL_law_588 rfl rfl ?_
  refine aw_iconst (v := 2) hC dL_law_589 (by decide) ?_
  refine aw_iadd hC dL_law_590 ?_
  refine aw_sld hC hX hin2 dL_law_591 ?_
  refine aw_cV2r hC hSt (t_X11_hurl G l hCS _ _ hp1) w_798 w_1367 w_1368 w_1369 w_517 rfl rfl (by decide +kernel) ⟨(Nat.le_of_ble_eq_true rfl), (Nat.le_of_ble_eq_true rfl)⟩ (cs_lt 0 11 0 (by decide) hCS) (cs_k 0 11 0 (by decide) hCS) rfl (Nat.le_of_ble_eq_true rfl) dL_law_592 hf ?_
  have hMS1 : MS (f_X11_hurl S 0 (xs (v3 + (1 : Int32)).toNatClampNeg) (xs (v3 + (2 : Int32)).toNatClampNeg)).2 := MS.of (q_X11_hurl _ _ _ _) hMS
  refine aw_aload_n hC 3 dL_law_595 rfl rfl ?_
  refine aw_aload_n hC 1 dL_law_596 rfl rfl ?_
  refine aw_iload_n hC 0 dL_law_597 rfl rfl ?_
  refine aw_iconst (v := 1) hC dL_law_598 (by decide) ?_
  refine aw_iadd hC dL_law_599 ?_
  refine aw_sld hC hX hin1 dL_law_600 ?_
  refine aw_aload_n hC 1 dL_law_601 rfl rfl ?_
  refine aw_iload_n hC 0 dL_law_602 rfl rfl ?_
  refine aw_iconst (v := 2) hC dL_law_603 (by decide) ?_
  refine aw_iadd hC dL_law_604 ?_
  refine aw_sld hC hX hin2 dL_law_605 ?_
  refine aw_cV2r hC hSt (t_X12_hurl G l hMS1 _ _ hp2) w_1162 w_1370 w_1371 w_1372 w_953 rfl rfl (by decide +kernel) ⟨(Nat.le_of_ble_eq_true rfl), (Nat.le_of_ble_eq_true rfl)⟩ (ms_lt 64 (by decide) hMS1) (ms_k 64 12 0 (by decide) hMS1) rfl (Nat.le_of_ble_eq_true rfl) dL_law_606 hf ?_
  refine aw_lcmp hC dL_law_609 ?_
  exact aw_if_eq hC 1323 dL_law_610 (by decide) (fun _ => hnx) (fun h => absurd (by rw [hEq]; exact lg_self _) h)
/-- what is owed of close -/
def K_close (Inv : Nat → HSt → Prop) : Prop := ∀ (n : Nat) (S : HSt), n < 512 → Inv n S → p_X12_close (f_X11_close S 0).2 64 ∧ (f_X11_close S 0).1 = (f_X12_close (f_X11_close S 0).2 64).1 ∧ Inv (n + 1) (f_X12_close (f_X11_close S 0).2 64).2
set_option maxRecDepth 100000 in
theorem lw_c11 {p : Program} {l : Launch} {e : Env} {s : State} {m : MethodId} {args : Array Value} {below : List Frame} {meth : Method} {c : Code} {G : GG} {Q : State → Prop} {S : HSt} {cells slots : Nat} {L : Nat} {xs : Nat → Int32} (hC : ACx p s m args meth c cL_law RL 4 (some .boolean)) (hSt : St G s) (hX : SCR G s L xs) (hCS : CS S) (hMS : MS S) (hf : cells ≤ room_1.cells ∧ slots ≤ room_1.slots) (v3 : Int32) (hin1 : vp_in (v3 + (1 : Int32)) L) (hin2 : vp_in (v3 + (2 : Int32)) L) (hin3 : vp_in (v3 + (3 : Int32)) L) (hin4 : vp_in (v3 + (4 : Int32)) L) (hin5 : vp_in (v3 + (5 : Int32)) L) (hp2 : p_X12_close (f_X11_close S 0).2 64) (hEq : (f_X11_close S 0).1 = (f_X12_close (f_X11_close S 0).2 64).1) (hnx : AW p l e room_1 s m args below meth c G 4 Q (f_X12_close (f_X11_close S 0 ).2 64 ).2 cells slots 1323 [(3, .int v3), (0, .ref 5000), (1, .ref 0), (2, .ref 64)] []) : AW p l e room_1 s m args below meth c G 4 Q S cells slots 615 [(3, .int v3), (0, .ref 5000), (1, .ref 0), (2, .ref 64)] [] := by
  refine aw_aload_n hC 2 dL_law_615 rfl rfl ?_
  refine aw_cV0r hC hSt (t_X11_close G l hCS) w_799 w_1373 w_1374 w_1375 w_517 rfl rfl (by decide +kernel) ⟨(Nat.le_of_ble_eq_true rfl), (Nat.le_of_ble_eq_true rfl)⟩ (cs_lt 0 11 0 (by decide) hCS) (cs_k 0 11 0 (by decide) hCS) rfl (Nat.le_of_ble_eq_true rfl) dL_law_616 hf ?_
  have hMS1 : MS (f_X11_close S 0 ).2 := MS.of (q_X11_close _ _) hMS
  refine aw_aload_n hC 3 dL_law_619 rfl rfl ?_
  refine aw_cV0r hC hSt (t_X12_close G l hMS1 hp2) w_1166 w_1376 w_1377 w_1378 w_953 rfl rfl (by decide +kernel) ⟨(Nat.le_of_ble_eq_true rfl), (Nat.le_of_ble_eq_true rfl)⟩ (ms_lt 64 (by decide) hMS1) (ms_k 64 12 0 (by decide) hMS1) rfl (Nat.le_of_ble_eq_true rfl) dL_law_620 hf ?_
  refine aw_lcmp hC dL_law_623 ?_
  exact aw_if_eq hC 1323 dL_law_624 (by decide) (fun _ => hnx) (fun h => absurd (by rw [hEq]; exact lg_self _) h)
/-- what is owed of now -/
def K_now (Inv : Nat → HSt → Prop) : Prop := ∀ (n : Nat) (S : HSt) (a1 : Int32), n < 512 → Inv n S → p_X12_now S 64 a1 ∧ f_X11_now S 0 a1 = (f_X12_now S 64 a1).1 ∧ Inv (n + 1) (f_X12_now S 64 a1).2
set_option maxRecDepth 100000 in
theorem lw_c12 {p : Program} {l : Launch} {e : Env} {s : State} {m : MethodId} {args : Array Value} {below : List Frame} {meth : Method} {c : Code} {G : GG} {Q : State → Prop} {S : HSt} {cells slots : Nat} {L : Nat} {xs : Nat → Int32} (hC : ACx p s m args meth c cL_law RL 4 (some .boolean)) (hSt : St G s) (hX : SCR G s L xs) (hCS : CS S) (hMS : MS S) (hf : cells ≤ room_1.cells ∧ slots ≤ room_1.slots) (v3 : Int32) (hin1 : vp_in (v3 + (1 : Int32)) L) (hin2 : vp_in (v3 + (2 : Int32)) L) (hin3 : vp_in (v3 + (3 : Int32)) L) (hin4 : vp_in (v3 + (4 : Int32)) L) (hin5 : vp_in (v3 + (5 : Int32)) L) (hp2 : p_X12_now S 64 (xs (v3 + (1 : Int32)).toNatClampNeg)) (hEq : f_X11_now S 0 (xs (v3 + (1 : Int32)).toNatClampNeg) = (f_X12_now S 64 (xs (v3 + (1 : Int32)).toNatClampNeg)).1) (hnx : AW p l e room_1 s m args below meth c G 4 Q (f_X12_now S 64 (xs (v3 + (1 : Int32)).toNatClampNeg)).2 cells slots 1323 [(3, .int v3), (0, .ref 5000), (1, .ref 0), (2, .ref 64)] []) : AW p l e room_1 s m args below meth c G 4 Q S cells slots 629 [(3, .int v3), (0, .ref 5000), (1, .ref 0), (2, .ref 64)] [] := by
  refine aw_aload_n hC 2 dL_law_629 rfl rfl ?_
  refine aw_aload_n hC 1 dL_law_630 rfl rfl ?_
  refine aw_iload_n hC 0 dL_law_631 rfl rfl ?_
  refine aw_iconst (v := 1) hC dL_law_632 (by decide) ?_
  refine aw_iadd hC dL_law_633 ?_
  refine aw_sld hC hX hin1 dL_law_634 ?_
  refine aw_cV1r hC hSt (t_X11_now G l hCS _) w_802 w_1379 w_1380 w_1381 w_517 rfl rfl (by decide +kernel) ⟨(Nat.le_of_ble_eq_true rfl), (Nat.le_of_ble_eq_true rfl)⟩ (cs_lt 0 11 0 (by decide) hCS) (cs_k 0 11 0 (by decide) hCS) rfl (Nat.le_of_ble_eq_true rfl) dL_law_635 hf ?_
  have hMS1 : MS S := hMS
  refine aw_aload_n hC 3 dL_law_638 rfl rfl ?_
  refine aw_aload_n hC 1 dL_law_639 rfl rfl ?_
  refine aw_iload_n hC 0 dL_law_640 rfl rfl ?_
  refine aw_iconst (v := 1) hC dL_law_641 (by decide) ?_
  refine aw_iadd hC dL_law_642 ?_
  refine aw_sld hC hX hin1 dL_law_643 ?_
  refine aw_cV1r hC hSt (t_X12_now G l hMS1 _ hp2) w_1167 w_1382 w_1383 w_1384 w_953 rfl rfl (by decide +kernel) ⟨(Nat.le_of_ble_eq_true rfl), (Nat.le_of_ble_eq_true rfl)⟩ (ms_lt 64 (by decide) hMS1) (ms_k 64 12 0 (by decide) hMS1) rfl (Nat.le_of_ble_eq_true rfl) dL_law_644 hf ?_
  refine aw_lcmp hC dL_law_647 ?_
  exact aw_if_eq hC 1323 dL_law_648 (by decide) (fun _ => hnx) (fun h => absurd (by rw [hEq]; exact lg_self _) h)
/-- what is owed of piece -/
def K_piece (Inv : Nat → HSt → Prop) : Prop := ∀ (n : Nat) (S : HSt) (a1 : Int32), n < 512 → Inv n S → p_X12_piece S 64 a1 ∧ f_X11_piece S 0 a1 = (f_X12_piece S 64 a1).1 ∧ Inv (n + 1) (f_X12_piece S 64 a1).2
set_option maxRecDepth 100000 in
theorem lw_c13 {p : Program} {l : Launch} {e : Env} {s : State} {m : MethodId} {args : Array Value} {below : List Frame} {meth : Method} {c : Code} {G : GG} {Q : State → Prop} {S : HSt} {cells slots : Nat} {L : Nat} {xs : Nat → Int32} (hC : ACx p s m args meth c cL_law RL 4 (some .boolean)) (hSt : St G s) (hX : SCR G s L xs) (hCS : CS S) (hMS : MS S) (hf : cells ≤ room_1.cells ∧ slots ≤ room_1.slots) (v3 : Int32) (hin1 : vp_in (v3 + (1 : Int32)) L) (hin2 : vp_in (v3 + (2 : Int32)) L) (hin3 : vp_in (v3 + (3 : Int32)) L) (hin4 : vp_in (v3 + (4 : Int32)) L) (hin5 : vp_in (v3 + (5 : Int32)) L) (hp2 : p_X12_piece S 64 (xs (v3 + (1 : Int32)).toNatClampNeg)) (hEq : f_X11_piece S 0 (xs (v3 + (1 : Int32)).toNatClampNeg) = (f_X12_piece S 64 (xs (v3 + (1 : Int32)).toNatClampNeg)).1) (hnx : AW p l e room_1 s m args below meth c G 4 Q (f_X12_piece S 64 (xs (v3 + (1 : Int32)).toNatClampNeg)).2 cells slots 1323 [(3, .int v3), (0, .ref 5000), (1, .ref 0), (2, .ref 64)] []) : AW p l e room_1 s m args below meth c G 4 Q S cells slots 653 [(3, .int v3), (0, .ref 5000), (1, .ref 0), (2, .ref 64)] [] := by
  refine aw_aload_n hC 2 dL_law_653 rfl rfl ?_
  refine aw_aload_n hC 1 dL_law_654 rfl rfl ?_
  refine aw_iload_n hC 0 dL_law_655 rfl rfl ?_
  refine aw_iconst (v := 1) hC dL_law_656 (by decide) ?_
  refine aw_iadd hC dL_law_657 ?_
  refine aw_sld hC hX hin1 dL_law_658 ?_
  refine aw_cV1r hC hSt (t_X11_piece G l hCS _) w_806 w_1385 w_1386 w_1387 w_517 rfl rfl (by decide +kernel) ⟨(Nat.le_of_ble_eq_true rfl), (Nat.le_of_ble_eq_true rfl)⟩ (cs_lt 0 11 0 (by decide) hCS) (cs_k 0 11 0 (by decide) hCS) rfl (Nat.le_of_ble_eq_true rfl) dL_law_659 hf ?_
  have hMS1 : MS S := hMS
  refine aw_aload_n hC 3 dL_law_662 rfl rfl ?_
  refine aw_aload_n hC 1 dL_law_663 rfl rfl ?_
  refine aw_iload_n hC 0 dL_law_664 rfl rfl ?_
  refine aw_iconst (v := 1) hC dL_law_665 (by decide) ?_
  refine aw_iadd hC dL_law_666 ?_
  refine aw_sld hC hX hin1 dL_law_667 ?_
  refine aw_cV1r hC hSt (t_X12_piece G l hMS1 _ hp2) w_1169 w_1388 w_1389 w_1390 w_953 rfl rfl (by decide +kernel) ⟨(Nat.le_of_ble_eq_true rfl), (Nat.le_of_ble_eq_true rfl)⟩ (ms_lt 64 (by decide) hMS1) (ms_k 64 12 0 (by decide) hMS1) rfl (Nat.le_of_ble_eq_true rfl) dL_law_668 hf ?_
  refine aw_lcmp hC dL_law_671 ?_
  exact aw_if_eq hC 1323 dL_law_672 (by decide) (fun _ => hnx) (fun h => absurd (by rw [hEq]; exact lg_self _) h)
/-- what is owed of odds -/
def K_odds (Inv : Nat → HSt → Prop) : Prop := ∀ (n : Nat) (S : HSt) (a1 : Int32) (a2 : Int32) (a3 : Int32), n < 512 → Inv n S → p_X11_odds S 0 a1 a2 a3 ∧ p_X12_odds (f_X11_odds S 0 a1 a2 a3).2 64 a1 a2 a3 ∧ (f_X11_odds S 0 a1 a2 a3).1 = (f_X12_odds (f_X11_odds S 0 a1 a2 a3).2 64 a1 a2 a3).1 ∧ Inv (n + 1) (f_X12_odds (f_X11_odds S 0 a1 a2 a3).2 64 a1 a2 a3).2
set_option maxRecDepth 100000 in
theorem lw_c14 {p : Program} {l : Launch} {e : Env} {s : State} {m : MethodId} {args : Array Value} {below : List Frame} {meth : Method} {c : Code} {G : GG} {Q : State → Prop} {S : HSt} {cells slots : Nat} {L : Nat} {xs : Nat → Int32} (hC : ACx p s m args meth c cL_law RL 4 (some .boolean)) (hSt : St G s) (hX : SCR G s L xs) (hCS : CS S) (hMS : MS S) (hf : cells ≤ room_1.cells ∧ slots ≤ room_1.slots) (v3 : Int32) (hin1 : vp_in (v3 + (1 : Int32)) L) (hin2 : vp_in (v3 + (2 : Int32)) L) (hin3 : vp_in (v3 + (3 : Int32)) L) (hin4 : vp_in (v3 + (4 : Int32)) L) (hin5 : vp_in (v3 + (5 : Int32)) L) (hp1 : p_X11_odds S 0 (xs (v3 + (1 : Int32)).toNatClampNeg) (xs (v3 + (2 : Int32)).toNatClampNeg) (xs (v3 + (3 : Int32)).toNatClampNeg)) (hp2 : p_X12_odds (f_X11_odds S 0 (xs (v3 + (1 : Int32)).toNatClampNeg) (xs (v3 + (2 : Int32)).toNatClampNeg) (xs (v3 + (3 : Int32)).toNatClampNeg)).2 64 (xs (v3 + (1 : Int32)).toNatClampNeg) (xs (v3 + (2 : Int32)).toNatClampNeg) (xs (v3 + (3 : Int32)).toNatClampNeg)) (hEq : (f_X11_odds S 0 (xs (v3 + (1 : Int32)).toNatClampNeg) (xs (v3 + (2 : Int32)).toNatClampNeg) (xs (v3 + (3 : Int32)).toNatClampNeg)).1 = (f_X12_odds (f_X11_odds S 0 (xs (v3 + (1 : Int32)).toNatClampNeg) (xs (v3 + (2 : Int32)).toNatClampNeg) (xs (v3 + (3 : Int32)).toNatClampNeg)).2 64 (xs (v3 + (1 : Int32)).toNatClampNeg) (xs (v3 + (2 : Int32)).toNatClampNeg) (xs (v3 + (3 : Int32)).toNatClampNeg)).1) (hnx : AW p l e room_1 s m args below meth c G 4 Q (f_X12_odds (f_X11_odds S 0 (xs (v3 + (1 : Int32)).toNatClampNeg) (xs (v3 + (2 : Int32)).toNatClampNeg) (xs (v3 + (3 : Int32)).toNatClampNeg)).2 64 (xs (v3 + (1 : Int32)).toNatClampNeg) (xs (v3 + (2 : Int32)).toNatClampNeg) (xs (v3 + (3 : Int32)).toNatClampNeg)).2 cells slots 1323 [(3, .int v3), (0, .ref 5000), (1, .ref 0), (2, .ref 64)] []) : AW p l e room_1 s m args below meth c G 4 Q S cells slots 677 [(3, .int v3), (0, .ref 5000), (1, .ref 0), (2, .ref 64)] [] := by
  refine aw_aload_n hC 2 dL_law_677 rfl rfl ?_
  refine aw_aload_n hC 1 dL_law_678 rfl rfl ?_
  refine aw_iload_n hC 0 dL_law_679 rfl rfl ?_
  refine aw_iconst (v := 1) hC dL_law_680 (by decide) ?_
  refine aw_iadd hC dL_law_681 ?_
  refine aw_sld hC hX hin1 dL_law_682 ?_
  refine aw_aload_n hC 1 dL_law_683 rfl rfl ?_
  refine aw_iload_n hC 0 dL_law_684 rfl rfl ?_
  refine aw_iconst (v := 2) hC dL_law_685 (by decide) ?_
  refine aw_iadd hC dL_law_686 ?_
  refine aw_sld hC hX hin2 dL_law_687 ?_
  refine aw_aload_n hC 1 dL_law_688 rfl rfl ?_
  refine aw_iload_n hC 0 dL_law_689 rfl rfl ?_
  refine aw_iconst (v := 3) hC dL_law_690 (by decide) ?_
  refine aw_iadd hC dL_law_691 ?_
  refine aw_sld hC hX hin3 dL_law_692 ?_
  refine aw_cV3r hC hSt (t_X11_odds G l hCS _ _ _ hp1) w_816 w_1391 w_1392 w_1393 w_517 rfl rfl (by decide +kernel) ⟨(Nat.le_of_ble_eq_true rfl), (Nat.le_of_ble_eq_true rfl)⟩ (cs_lt 0 11 0 (by decide) hCS) (cs_k 0 11 0 (by decide) hCS) rfl (Nat.le_of_ble_eq_true rfl) dL_law_693 hf ?_
  have hMS1 : MS (f_X11_odds S 0 (xs (v3 + (1 : Int32)).toNatClampNeg) (xs (v3 + (2 : Int32)).toNatClampNeg) (xs (v3 + (3 : Int32)).toNatClampNeg)).2 := MS.of (q_X11_odds _ _ _ _ _) hMS
  refine aw_aload_n hC 3 dL_law_696 rfl rfl ?_
  refine aw_aload_n hC 1 dL_law_697 rfl rfl ?_
  refine aw_iload_n hC 0 dL_law_698 rfl rfl ?_
  refine aw_iconst (v := 1) hC dL_law_699 (by decide) ?_
  refine aw_iadd hC dL_law_700 ?_
  refine aw_sld hC hX hin1 dL_law_701 ?_
  refine aw_aload_n hC 1 dL_law_702 rfl rfl ?_
  refine aw_iload_n hC 0 dL_law_703 rfl rfl ?_
  refine aw_iconst (v := 2) hC dL_law_704 (by decide) ?_
  refine aw_iadd hC dL_law_705 ?_
  refine aw_sld hC hX hin2 dL_law_706 ?_
  refine aw_aload_n hC 1 dL_law_707 rfl rfl ?_
  refine aw_iload_n hC 0 dL_law_708 rfl rfl ?_
  refine aw_iconst (v := 3) hC dL_law_709 (by decide) ?_
  refine aw_iadd hC dL_law_710 ?_
  refine aw_sld hC hX hin3 dL_law_711 ?_
  refine aw_cV3r hC hSt (t_X12_odds G l hMS1 _ _ _ hp2) w_1172 w_1394 w_1395 w_1396 w_953 rfl rfl (by decide +kernel) ⟨(Nat.le_of_ble_eq_true rfl), (Nat.le_of_ble_eq_true rfl)⟩ (ms_lt 64 (by decide) hMS1) (ms_k 64 12 0 (by decide) hMS1) rfl (Nat.le_of_ble_eq_true rfl) dL_law_712 hf ?_
  refine aw_lcmp hC dL_law_715 ?_
  exact aw_if_eq hC 1323 dL_law_716 (by decide) (fun _ => hnx) (fun h => absurd (by rw [hEq]; exact lg_self _) h)
/-- what is owed of need -/
def K_need (Inv : Nat → HSt → Prop) : Prop := ∀ (n : Nat) (S : HSt) (a1 : Int32), n < 512 → Inv n S → p_X12_need S 64 a1 ∧ f_X11_need S 0 a1 = (f_X12_need S 64 a1).1 ∧ Inv (n + 1) (f_X12_need S 64 a1).2
set_option maxRecDepth 100000 in
theorem lw_c15 {p : Program} {l : Launch} {e : Env} {s : State} {m : MethodId} {args : Array Value} {below : List Frame} {meth : Method} {c : Code} {G : GG} {Q : State → Prop} {S : HSt} {cells slots : Nat} {L : Nat} {xs : Nat → Int32} (hC : ACx p s m args meth c cL_law RL 4 (some .boolean)) (hSt : St G s) (hX : SCR G s L xs) (hCS : CS S) (hMS : MS S) (hf : cells ≤ room_1.cells ∧ slots ≤ room_1.slots) (v3 : Int32) (hin1 : vp_in (v3 + (1 : Int32)) L) (hin2 : vp_in (v3 + (2 : Int32)) L) (hin3 : vp_in (v3 + (3 : Int32)) L) (hin4 : vp_in (v3 + (4 : Int32)) L) (hin5 : vp_in (v3 + (5 : Int32)) L) (hp2 : p_X12_need S 64 (xs (v3 + (1 : Int32)).toNatClampNeg)) (hEq : f_X11_need S 0 (xs (v3 + (1 : Int32)).toNatClampNeg) = (f_X12_need S 64 (xs (v3 + (1 : Int32)).toNatClampNeg)).1) (hnx : AW p l e room_1 s m args below meth c G 4 Q (f_X12_need S 64 (xs (v3 + (1 : Int32)).toNatClampNeg)).2 cells slots 1323 [(3, .int v3), (0, .ref 5000), (1, .ref 0), (2, .ref 64)] []) : AW p l e room_1 s m args below meth c G 4 Q S cells slots 721 [(3, .int v3), (0, .ref 5000), (1, .ref 0), (2, .ref 64)] [] := by
  refine aw_aload_n hC 2 dL_law_721 rfl rfl ?_
  refine aw_aload_n hC 1 dL_law_722 rfl rfl ?_
  refine aw_iload_n hC 0 dL_law_723 rfl rfl ?_
  refine aw_iconst (v := 1) hC dL_law_724 (by decide) ?_
  refine aw_iadd hC dL_law_725 ?_
  refine aw_sld hC hX hin1 dL_law_726 ?_
  refine aw_cV1r hC hSt (t_X11_need G l hCS _) w_817 w_1397 w_1398 w_1399 w_517 rfl rfl (by decide +kernel) ⟨(Nat.le_of_ble_eq_true rfl), (Nat.le_of_ble_eq_true rfl)⟩ (cs_lt 0 11 0 (by decide) hCS) (cs_k 0 11 0 (by decide) hCS) rfl (Nat.le_of_ble_eq_true rfl) dL_law_727 hf ?_
  have hMS1 : MS S := hMS
  refine aw_aload_n hC 3 dL_law_730 rfl rfl ?_
  refine aw_aload_n hC 1 dL_law_731 rfl rfl ?_
  refine aw_iload_n hC 0 dL_law_732 rfl rfl ?_
  refine aw_iconst (v := 1) hC dL_law_733 (by decide) ?_
  refine aw_iadd hC dL_law_734 ?_
  refine aw_sld hC hX hin1 dL_law_735 ?_
  refine aw_cV1r hC hSt (t_X12_need G l hMS1 _ hp2) w_1173 w_1400 w_1401 w_1402 w_953 rfl rfl (by decide +kernel) ⟨(Nat.le_of_ble_eq_true rfl), (Nat.le_of_ble_eq_true rfl)⟩ (ms_lt 64 (by decide) hMS1) (ms_k 64 12 0 (by decide) hMS1) rfl (Nat.le_of_ble_eq_true rfl) dL_law_736 hf ?_
  refine aw_lcmp hC dL_law_739 ?_
  exact aw_if_eq hC 1323 dL_law_740 (by decide) (fun _ => hnx) (fun h => absurd (by rw [hEq]; exact lg_self _) h)
/-- what is owed of greatest -/
def K_greatest (Inv : Nat → HSt → Prop) : Prop := ∀ (n : Nat) (S : HSt) (a1 : Int32), n < 512 → Inv n S → p_X11_greatest S 0 a1 ∧ p_X12_greatest S 64 a1 ∧ f_X11_greatest S 0 a1 = (f_X12_greatest S 64 a1).1 ∧ Inv (n + 1) (f_X12_greatest S 64 a1).2
set_option maxRecDepth 100000 in
theorem lw_c16 {p : Program} {l : Launch} {e : Env} {s : State} {m : MethodId} {args : Array Value} {below : List Frame} {meth : Method} {c : Code} {G : GG} {Q : State → Prop} {S : HSt} {cells slots : Nat} {L : Nat} {xs : Nat → Int32} (hC : ACx p s m args meth c cL_law RL 4 (some .boolean)) (hSt : St G s) (hX : SCR G s L xs) (hCS : CS S) (hMS : MS S) (hf : cells ≤ room_1.cells ∧ slots ≤ room_1.slots) (v3 : Int32) (hin1 : vp_in (v3 + (1 : Int32)) L) (hin2 : vp_in (v3 + (2 : Int32)) L) (hin3 : vp_in (v3 + (3 : Int32)) L) (hin4 : vp_in (v3 + (4 : Int32)) L) (hin5 : vp_in (v3 + (5 : Int32)) L) (hp1 : p_X11_greatest S 0 (xs (v3 + (1 : Int32)).toNatClampNeg)) (hp2 : p_X12_greatest S 64 (xs (v3 + (1 : Int32)).toNatClampNeg)) (hEq : f_X11_greatest S 0 (xs (v3 + (1 : Int32)).toNatClampNeg) = (f_X12_greatest S 64 (xs (v3 + (1 : Int32)).toNatClampNeg)).1) (hnx : AW p l e room_1 s m args below meth c G 4 Q (f_X12_greatest S 64 (xs (v3 + (1 : Int32)).toNatClampNeg)).2 cells slots 1323 [(3, .int v3), (0, .ref 5000), (1, .ref 0), (2, .ref 64)] []) : AW p l e room_1 s m args below meth c G 4 Q S cells slots 745 [(3, .int v3), (0, .ref 5000), (1, .ref 0), (2, .ref 64)] [] := by
  refine aw_aload_n hC 2 dL_law_745 rfl rfl ?_
  refine aw_aload_n hC 1 dL_law_746 rfl rfl ?_
  refine aw_iload_n hC 0 dL_law_747 rfl rfl ?_
  refine aw_iconst (v := 1) hC dL_law_748 (by decide) ?_
  refine aw_iadd hC dL_law_749 ?_
  refine aw_sld hC hX hin1 dL_law_750 ?_
  refine aw_cV1r hC hSt (t_X11_greatest G l hCS _ hp1) w_819 w_1403 w_1404 w_1405 w_517 rfl rfl (by decide +kernel) ⟨(Nat.le_of_ble_eq_true rfl), (Nat.le_of_ble_eq_true rfl)⟩ (cs_lt 0 11 0 (by decide) hCS) (cs_k 0 11 0 (by decide) hCS) rfl (Nat.le_of_ble_eq_true rfl) dL_law_751 hf ?_
  have hMS1 : MS S := hMS
  refine aw_aload_n hC 3 dL_law_754 rfl rfl ?_
  refine aw_aload_n hC 1 dL_law_755 rfl rfl ?_
  refine aw_iload_n hC 0 dL_law_756 rfl rfl ?_
  refine aw_iconst (v := 1) hC dL_law_757 (by decide) ?_
  refine aw_iadd hC dL_law_758 ?_
  refine aw_sld hC hX hin1 dL_law_759 ?_
  refine aw_cV1r hC hSt (t_X12_greatest G l hMS1 _ hp2) w_1175 w_1406 w_1407 w_1408 w_953 rfl rfl (by decide +kernel) ⟨(Nat.le_of_ble_eq_true rfl), (Nat.le_of_ble_eq_true rfl)⟩ (ms_lt 64 (by decide) hMS1) (ms_k 64 12 0 (by decide) hMS1) rfl (Nat.le_of_ble_eq_true rfl) dL_law_760 hf ?_
  refine aw_lcmp hC dL_law_763 ?_
  exact aw_if_eq hC 1323 dL_law_764 (by decide) (fun _ => hnx) (fun h => absurd (by rw [hEq]; exact lg_self _) h)
/-- what is owed of out -/
def K_out (Inv : Nat → HSt → Prop) : Prop := ∀ (n : Nat) (S : HSt) (a1 : Int32) (a2 : Int32), n < 512 → Inv n S → p_X11_out S 0 a1 a2 ∧ p_X12_out S 64 a1 a2 ∧ f_X11_out S 0 a1 a2 = (f_X12_out S 64 a1 a2).1 ∧ Inv (n + 1) (f_X12_out S 64 a1 a2).2
set_option maxRecDepth 100000 in
theorem lw_c17 {p : Program} {l : Launch} {e : Env} {s : State} {m : MethodId} {args : Array Value} {below : List Frame} {meth : Method} {c : Code} {G : GG} {Q : State → Prop} {S : HSt} {cells slots : Nat} {L : Nat} {xs : Nat → Int32} (hC : ACx p s m args meth c cL_law RL 4 (some .boolean)) (hSt : St G s) (hX : SCR G s L xs) (hCS : CS S) (hMS : MS S) (hf : cells ≤ room_1.cells ∧ slots ≤ room_1.slots) (v3 : Int32) (hin1 : vp_in (v3 + (1 : Int32)) L) (hin2 : vp_in (v3 + (2 : Int32)) L) (hin3 : vp_in (v3 + (3 : Int32)) L) (hin4 : vp_in (v3 + (4 : Int32)) L) (hin5 : vp_in (v3 + (5 : Int32)) L) (hp1 : p_X11_out S 0 (xs (v3 + (1 : Int32)).toNatClampNeg) (xs (v3 + (2 : Int32)).toNatClampNeg)) (hp2 : p_X12_out S 64 (xs (v3 + (1 : Int32)).toNatClampNeg) (xs (v3 + (2 : Int32)).toNatClampNeg)) (hEq : f_X11_out S 0 (xs (v3 + (1 : Int32)).toNatClampNeg) (xs (v3 + (2 : Int32)).toNatClampNeg) = (f_X12_out S 64 (xs (v3 + (1 : Int32)).toNatClampNeg) (xs (v3 + (2 : Int32)).toNatClampNeg)).1) (hnx : AW p l e room_1 s m args below meth c G 4 Q (f_X12_out S 64 (xs (v3 + (1 : Int32)).toNatClampNeg) (xs (v3 + (2 : Int32)).toNatClampNeg)).2 cells slots 1323 [(3, .int v3), (0, .ref 5000), (1, .ref 0), (2, .ref 64)] []) : AW p l e room_1 s m args below meth c G 4 Q S cells slots 769 [(3, .int v3), (0, .ref 5000), (1, .ref 0), (2, .ref 64)] [] := by
  refine aw_aload_n hC 2 dL_law_769 rfl rfl ?_
  refine aw_aload_n hC 1 dL_law_770 rfl rfl ?_
  refine aw_iload_n hC 0 dL_law_771 rfl rfl ?_
  refine aw_iconst (v := 1) hC dL_law_772 (by decide) ?_
  refine aw_iadd hC dL_law_773 ?_
  refine aw_sld hC hX hin1 dL_law_774 ?_
  refine aw_aload_n hC 1 dL_law_775 rfl rfl ?_
  refine aw_iload_n hC 0 dL_law_776 rfl rfl ?_
  refine aw_iconst (v := 2) hC dL_law_777 (by decide) ?_
  refine aw_iadd hC dL_law_778 ?_
  refine aw_sld hC hX hin2 dL_law_779 ?_
  refine aw_cV2r hC hSt (t_X11_out G l hCS _ _ hp1) w_826 w_1409 w_1410 w_1411 w_517 rfl rfl (by decide +kernel) ⟨(Nat.le_of_ble_eq_true rfl), (Nat.le_of_ble_eq_true rfl)⟩ (cs_lt 0 11 0 (by decide) hCS) (cs_k 0 11 0 (by decide) hCS) rfl (Nat.le_of_ble_eq_true rfl) dL_law_780 hf ?_
  have hMS1 : MS S := hMS
  refine aw_aload_n hC 3 dL_law_783 rfl rfl ?_
  refine aw_aload_n hC 1 dL_law_784 rfl rfl ?_
  refine aw_iload_n hC 0 dL_law_785 rfl rfl ?_
  refine aw_iconst (v := 1) hC dL_law_786 (by decide) ?_
  refine aw_iadd hC dL_law_787 ?_
  refine aw_sld hC hX hin1 dL_law_788 ?_
  refine aw_aload_n hC 1 dL_law_789 rfl rfl ?_
  refine aw_iload_n hC 0 dL_law_790 rfl rfl ?_
  refine aw_iconst (v := 2) hC dL_law_791 (by decide) ?_
  refine aw_iadd hC dL_law_792 ?_
  refine aw_sld hC hX hin2 dL_law_793 ?_
  refine aw_cV2r hC hSt (t_X12_out G l hMS1 _ _ hp2) w_1177 w_1412 w_1413 w_1414 w_953 rfl rfl (by decide +kernel) ⟨(Nat.le_of_ble_eq_true rfl), (Nat.le_of_ble_eq_true rfl)⟩ (ms_lt 64 (by decide) hMS1) (ms_k 64 12 0 (by decide) hMS1) rfl (Nat.le_of_ble_eq_true rfl) dL_law_794 hf ?_
  refine aw_lcmp hC dL_law_797 ?_
  exact aw_if_eq hC 1323 dL_law_798 (by decide) (fun _ => hnx) (fun h => absurd (by rw [hEq]; exact lg_self _) h)
/-- what is owed of wraps -/
def K_wraps (Inv : Nat → HSt → Prop) : Prop := ∀ (n : Nat) (S : HSt) (a1 : Int32) (a2 : Int32), n < 512 → Inv n S → p_X11_wraps S 0 a1 a2 ∧ p_X12_wraps S 64 a1 a2 ∧ f_X11_wraps S 0 a1 a2 = (f_X12_wraps S 64 a1 a2).1 ∧ Inv (n + 1) (f_X12_wraps S 64 a1 a2).2
set_option maxRecDepth 100000 in
theorem lw_c18 {p : Program} {l : Launch} {e : Env} {s : State} {m : MethodId} {args : Array Value} {below : List Frame} {meth : Method} {c : Code} {G : GG} {Q : State → Prop} {S : HSt} {cells slots : Nat} {L : Nat} {xs : Nat → Int32} (hC : ACx p s m args meth c cL_law RL 4 (some .boolean)) (hSt : St G s) (hX : SCR G s L xs) (hCS : CS S) (hMS : MS S) (hf : cells ≤ room_1.cells ∧ slots ≤ room_1.slots) (v3 : Int32) (hin1 : vp_in (v3 + (1 : Int32)) L) (hin2 : vp_in (v3 + (2 : Int32)) L) (hin3 : vp_in (v3 + (3 : Int32)) L) (hin4 : vp_in (v3 + (4 : Int32)) L) (hin5 : vp_in (v3 + (5 : Int32)) L) (hp1 : p_X11_wraps S 0 (xs (v3 + (1 : Int32)).toNatClampNeg) (xs (v3 + (2 : Int32)).toNatClampNeg)) (hp2 : p_X12_wraps S 64 (xs (v3 + (1 : Int32)).toNatClampNeg) (xs (v3 + (2 : Int32)).toNatClampNeg)) (hEq : f_X11_wraps S 0 (xs (v3 + (1 : Int32)).toNatClampNeg) (xs (v3 + (2 : Int32)).toNatClampNeg) = (f_X12_wraps S 64 (xs (v3 + (1 : Int32)).toNatClampNeg) (xs (v3 + (2 : Int32)).toNatClampNeg)).1) (hnx : AW p l e room_1 s m args below meth c G 4 Q (f_X12_wraps S 64 (xs (v3 + (1 : Int32)).toNatClampNeg) (xs (v3 + (2 : Int32)).toNatClampNeg)).2 cells slots 1323 [(3, .int v3), (0, .ref 5000), (1, .ref 0), (2, .ref 64)] []) : AW p l e room_1 s m args below meth c G 4 Q S cells slots 803 [(3, .int v3), (0, .ref 5000), (1, .ref 0), (2, .ref 64)] [] := by
  refine aw_aload_n hC 2 dL_law_803 rfl rfl ?_
  refine aw_aload_n hC 1 dL_law_804 rfl rfl ?_
  refine aw_iload_n hC 0 dL_law_805 rfl rfl ?_
  refine aw_iconst (v := 1) hC dL_law_806 (by decide) ?_
  refine aw_iadd hC dL_law_807 ?_
  refine aw_sld hC hX hin1 dL_law_808 ?_
  refine aw_aload_n hC 1 dL_law_809 rfl rfl ?_
  refine aw_iload_n hC 0 dL_law_810 rfl rfl ?_
  refine aw_iconst (v := 2) hC dL_law_811 (by decide) ?_
  refine aw_iadd hC dL_law_812 ?_
  refine aw_sld hC hX hin2 dL_law_813 ?_
  refine aw_cV2r hC hSt (t_X11_wraps G l hCS _ _ hp1) w_827 w_1415 w_1416 w_1417 w_517 rfl rfl (by decide +kernel) ⟨(Nat.le_of_ble_eq_true rfl), (Nat.le_of_ble_eq_true rfl)⟩ (cs_lt 0 11 0 (by decide) hCS) (cs_k 0 11 0 (by decide) hCS) rfl (Nat.le_of_ble_eq_true rfl) dL_law_814 hf ?_
  have hMS1 : MS S := hMS
  refine aw_aload_n hC 3 dL_law_817 rfl rfl ?_
  refine aw_aload_n hC 1 dL_law_818 rfl rfl ?_
  refine aw_iload_n hC 0 dL_law_819 rfl rfl ?_
  refine aw_iconst (v := 1) hC dL_law_820 (by decide) ?_
  refine aw_iadd hC dL_law_821 ?_
  refine aw_sld hC hX hin1 dL_law_822 ?_
  refine aw_aload_n hC 1 dL_law_823 rfl rfl ?_
  refine aw_iload_n hC 0 dL_law_824 rfl rfl ?_
  refine aw_iconst (v := 2) hC dL_law_825 (by decide) ?_
  refine aw_iadd hC dL_law_826 ?_
  refine aw_sld hC hX hin2 dL_law_827 ?_
  refine aw_cV2r hC hSt (t_X12_wraps G l hMS1 _ _ hp2) w_1179 w_1418 w_1419 w_1420 w_953 rfl rfl (by decide +kernel) ⟨(Nat.le_of_ble_eq_true rfl), (Nat.le_of_ble_eq_true rfl)⟩ (ms_lt 64 (by decide) hMS1) (ms_k 64 12 0 (by decide) hMS1) rfl (Nat.le_of_ble_eq_true rfl) dL_law_828 hf ?_
  refine aw_lcmp hC dL_law_831 ?_
  exact aw_if_eq hC 1323 dL_law_832 (by decide) (fun _ => hnx) (fun h => absurd (by rw [hEq]; exact lg_self _) h)
/-- what is owed of told -/
def K_told (Inv : Nat → HSt → Prop) : Prop := ∀ (n : Nat) (S : HSt) (a1 : Int32) (a2 : Int32), n < 512 → Inv n S → p_X11_told S 0 a1 a2 ∧ p_X12_told (f_X11_told S 0 a1 a2).2 64 a1 a2 ∧ (f_X11_told S 0 a1 a2).1 = (f_X12_told (f_X11_told S 0 a1 a2).2 64 a1 a2).1 ∧ Inv (n + 1) (f_X12_told (f_X11_told S 0 a1 a2).2 64 a1 a2).2
set_option maxRecDepth 100000 in
theorem lw_c19 {p : Program} {l : Launch} {e : Env} {s : State} {m : MethodId} {args : Array Value} {below : List Frame} {meth : Method} {c : Code} {G : GG} {Q : State → Prop} {S : HSt} {cells slots : Nat} {L : Nat} {xs : Nat → Int32} (hC : ACx p s m args meth c cL_law RL 4 (some .boolean)) (hSt : St G s) (hX : SCR G s L xs) (hCS : CS S) (hMS : MS S) (hf : cells ≤ room_1.cells ∧ slots ≤ room_1.slots) (v3 : Int32) (hin1 : vp_in (v3 + (1 : Int32)) L) (hin2 : vp_in (v3 + (2 : Int32)) L) (hin3 : vp_in (v3 + (3 : Int32)) L) (hin4 : vp_in (v3 + (4 : Int32)) L) (hin5 : vp_in (v3 + (5 : Int32)) L) (hp1 : p_X11_told S 0 (xs (v3 + (1 : Int32)).toNatClampNeg) (xs (v3 + (2 : Int32)).toNatClampNeg)) (hp2 : p_X12_told (f_X11_told S 0 (xs (v3 + (1 : Int32)).toNatClampNeg) (xs (v3 + (2 : Int32)).toNatClampNeg)).2 64 (xs (v3 + (1 : Int32)).toNatClampNeg) (xs (v3 + (2 : Int32)).toNatClampNeg)) (hEq : (f_X11_told S 0 (xs (v3 + (1 : Int32)).toNatClampNeg) (xs (v3 + (2 : Int32)).toNatClampNeg)).1 = (f_X12_told (f_X11_told S 0 (xs (v3 + (1 : Int32)).toNatClampNeg) (xs (v3 + (2 : Int32)).toNatClampNeg)).2 64 (xs (v3 + (1 : Int32)).toNatClampNeg) (xs (v3 + (2 : Int32)).toNatClampNeg)).1) (hnx : AW p l e room_1 s m args below meth c G 4 Q (f_X12_told (f_X11_told S 0 (xs (v3 + (1 : Int32)).toNatClampNeg) (xs (v3 + (2 : Int32)).toNatClampNeg)).2 64 (xs (v3 + (1 : Int32)).toNatClampNeg) (xs (v3 + (2 : Int32)).toNatClampNeg)).2 cells slots 1323 [(3, .int v3), (0, .ref 5000), (1, .ref 0), (2, .ref 64)] []) : AW p l e room_1 s m args below meth c G 4 Q S cells slots 837 [(3, .int v3), (0, .ref 5000), (1, .ref 0), (2, .ref 64)] [] := by
  refine aw_aload_n hC 2 dL_law_837 rfl rfl ?_
  refine aw_aload_n hC 1 dL_law_838 rfl rfl ?_
  refine aw_iload_n hC 0 dL_law_839 rfl rfl ?_
  refine aw_iconst (v := 1) hC dL_law_840 (by decide) ?_
  refine aw_iadd hC dL_law_841 ?_
  refine aw_sld hC hX hin1 dL_law_842 ?_
  refine aw_aload_n hC 1 dL_law_843 rfl rfl ?_
  refine aw_iload_n hC 0 dL_law_844 rfl rfl ?_
  refine aw_iconst (v := 2) hC dL_law_845 (by decide) ?_
  refine aw_iadd hC dL_law_846 ?_
  refine aw_sld hC hX hin2 dL_law_847 ?_
  refine aw_cV2r hC hSt (t_X11_told G l hCS _ _ hp1) w_835 w_1421 w_1422 w_1423 w_517 rfl rfl (by decide +kernel) ⟨(Nat.le_of_ble_eq_true rfl), (Nat.le_of_ble_eq_true rfl)⟩ (cs_lt 0 11 0 (by decide) hCS) (cs_k 0 11 0 (by decide) hCS) rfl (Nat.le_of_ble_eq_true rfl) dL_law_848 hf ?_
  have hMS1 : MS (f_X11_told S 0 (xs (v3 + (1 : Int32)).toNatClampNeg) (xs (v3 + (2 : Int32)).toNatClampNeg)).2 := MS.of (q_X11_told _ _ _ _) hMS
  refine aw_aload_n hC 3 dL_law_851 rfl rfl ?_
  refine aw_aload_n hC 1 dL_law_852 rfl rfl ?_
  refine aw_iload_n hC 0 dL_law_853 rfl rfl ?_
  refine aw_iconst (v := 1) hC dL_law_854 (by decide) ?_
  refine aw_iadd hC dL_law_855 ?_
  refine aw_sld hC hX hin1 dL_law_856 ?_
  refine aw_aload_n hC 1 dL_law_857 rfl rfl ?_
  refine aw_iload_n hC 0 dL_law_858 rfl rfl ?_
  refine aw_iconst (v := 2) hC dL_law_859 (by decide) ?_
  refine aw_iadd hC dL_law_860 ?_
  refine aw_sld hC hX hin2 dL_law_861 ?_
  refine aw_cV2r hC hSt (t_X12_told G l hMS1 _ _ hp2) w_1188 w_1424 w_1425 w_1426 w_953 rfl rfl (by decide +kernel) ⟨(Nat.le_of_ble_eq_true rfl), (Nat.le_of_ble_eq_true rfl)⟩ (ms_lt 64 (by decide) hMS1) (ms_k 64 12 0 (by decide) hMS1) rfl (Nat.le_of_ble_eq_true rfl) dL_law_862 hf ?_
  refine aw_lcmp hC dL_law_865 ?_
  exact aw_if_eq hC 1323 dL_law_866 (by decide) (fun _ => hnx) (fun h => absurd (by rw [hEq]; exact lg_self _) h)
/-- what is owed of all -/
def K_all (Inv : Nat → HSt → Prop) : Prop := ∀ (n : Nat) (S : HSt) (a1 : Int32), n < 512 → Inv n S → p_X11_all S 0 a1 ∧ p_X12_all (f_X11_all S 0 a1).2 64 a1 ∧ (f_X11_all S 0 a1).1 = (f_X12_all (f_X11_all S 0 a1).2 64 a1).1 ∧ Inv (n + 1) (f_X12_all (f_X11_all S 0 a1).2 64 a1).2
set_option maxRecDepth 100000 in
theorem lw_c20 {p : Program} {l : Launch} {e : Env} {s : State} {m : MethodId} {args : Array Value} {below : List Frame} {meth : Method} {c : Code} {G : GG} {Q : State → Prop} {S : HSt} {cells slots : Nat} {L : Nat} {xs : Nat → Int32} (hC : ACx p s m args meth c cL_law RL 4 (some .boolean)) (hSt : St G s) (hX : SCR G s L xs) (hCS : CS S) (hMS : MS S) (hf : cells ≤ room_1.cells ∧ slots ≤ room_1.slots) (v3 : Int32) (hin1 : vp_in (v3 + (1 : Int32)) L) (hin2 : vp_in (v3 + (2 : Int32)) L) (hin3 : vp_in (v3 + (3 : Int32)) L) (hin4 : vp_in (v3 + (4 : Int32)) L) (hin5 : vp_in (v3 + (5 : Int32)) L) (hp1 : p_X11_all S 0 (xs (v3 + (1 : Int32)).toNatClampNeg)) (hp2 : p_X12_all (f_X11_all S 0 (xs (v3 + (1 : Int32)).toNatClampNeg)).2 64 (xs (v3 + (1 : Int32)).toNatClampNeg)) (hEq : (f_X11_all S 0 (xs (v3 + (1 : Int32)).toNatClampNeg)).1 = (f_X12_all (f_X11_all S 0 (xs (v3 + (1 : Int32)).toNatClampNeg)).2 64 (xs (v3 + (1 : Int32)).toNatClampNeg)).1) (hnx : AW p l e room_1 s m args below meth c G 4 Q (f_X12_all (f_X11_all S 0 (xs (v3 + (1 : Int32)).toNatClampNeg)).2 64 (xs (v3 + (1 : Int32)).toNatClampNeg)).2 cells slots 1323 [(3, .int v3), (0, .ref 5000), (1, .ref 0), (2, .ref 64)] []) : AW p l e room_1 s m args below meth c G 4 Q S cells slots 871 [(3, .int v3), (0, .ref 5000), (1, .ref 0), (2, .ref 64)] [] := by
  refine aw_aload_n hC 2 dL_law_871 rfl rfl ?_
  refine aw_aload_n hC 1 dL_law_872 rfl rfl ?_
  refine aw_iload_n hC 0 dL_law_873 rfl rfl ?_
  refine aw_iconst (v := 1) hC dL_law_874 (by decide) ?_
  refine aw_iadd hC dL_law_875 ?_
  refine aw_sld hC hX hin1 dL_law_876 ?_
  refine aw_cV1r hC hSt (t_X11_all G l hCS _ hp1) w_839 w_1427 w_1428 w_1429 w_517 rfl rfl (by decide +kernel) ⟨(Nat.le_of_ble_eq_true rfl), (Nat.le_of_ble_eq_true rfl)⟩ (cs_lt 0 11 0 (by decide) hCS) (cs_k 0 11 0 (by decide) hCS) rfl (Nat.le_of_ble_eq_true rfl) dL_law_877 hf ?_
  have hMS1 : MS (f_X11_all S 0 (xs (v3 + (1 : Int32)).toNatClampNeg)).2 := MS.of (q_X11_all _ _ _) hMS
  refine aw_aload_n hC 3 dL_law_880 rfl rfl ?_
  refine aw_aload_n hC 1 dL_law_881 rfl rfl ?_
  refine aw_iload_n hC 0 dL_law_882 rfl rfl ?_
  refine aw_iconst (v := 1) hC dL_law_883 (by decide) ?_
  refine aw_iadd hC dL_law_884 ?_
  refine aw_sld hC hX hin1 dL_law_885 ?_
  refine aw_cV1r hC hSt (t_X12_all G l hMS1 _ hp2) w_1194 w_1430 w_1431 w_1432 w_953 rfl rfl (by decide +kernel) ⟨(Nat.le_of_ble_eq_true rfl), (Nat.le_of_ble_eq_true rfl)⟩ (ms_lt 64 (by decide) hMS1) (ms_k 64 12 0 (by decide) hMS1) rfl (Nat.le_of_ble_eq_true rfl) dL_law_886 hf ?_
  refine aw_lcmp hC dL_law_889 ?_
  exact aw_if_eq hC 1323 dL_law_890 (by decide) (fun _ => hnx) (fun h => absurd (by rw [hEq]; exact lg_self _) h)
/-- what is owed of score -/
def K_score (Inv : Nat → HSt → Prop) : Prop := ∀ (n : Nat) (S : HSt), n < 512 → Inv n S → p_X11_score S 0 ∧ p_X12_score (f_X11_score S 0).2 64 ∧ (f_X11_score S 0).1 = (f_X12_score (f_X11_score S 0).2 64).1 ∧ Inv (n + 1) (f_X12_score (f_X11_score S 0).2 64).2
set_option maxRecDepth 100000 in
theorem lw_c21 {p : Program} {l : Launch} {e : Env} {s : State} {m : MethodId} {args : Array Value} {below : List Frame} {meth : Method} {c : Code} {G : GG} {Q : State → Prop} {S : HSt} {cells slots : Nat} {L : Nat} {xs : Nat → Int32} (hC : ACx p s m args meth c cL_law RL 4 (some .boolean)) (hSt : St G s) (hX : SCR G s L xs) (hCS : CS S) (hMS : MS S) (hf : cells ≤ room_1.cells ∧ slots ≤ room_1.slots) (v3 : Int32) (hin1 : vp_in (v3 + (1 : Int32)) L) (hin2 : vp_in (v3 + (2 : Int32)) L) (hin3 : vp_in (v3 + (3 : Int32)) L) (hin4 : vp_in (v3 + (4 : Int32)) L) (hin5 : vp_in (v3 + (5 : Int32)) L) (hp1 : p_X11_score S 0) (hp2 : p_X12_score (f_X11_score S 0).2 64) (hEq : (f_X11_score S 0).1 = (f_X12_score (f_X11_score S 0).2 64).1) (hnx : AW p l e room_1 s m args below meth c G 4 Q (f_X12_score (f_X11_score S 0 ).2 64 ).2 cells slots 1323 [(3, .int v3), (0, .ref 5000), (1, .ref 0), (2, .ref 64)] []) : AW p l e room_1 s m args below meth c G 4 Q S cells slots 895 [(3, .int v3), (0, .ref 5000), (1, .ref 0), (2, .ref 64)] [] := by
  refine aw_aload_n hC 2 dL_law_895 rfl rfl ?_
  refine aw_cV0r hC hSt (t_X11_score G l hCS hp1) w_841 w_1433 w_1434 w_1435 w_517 rfl rfl (by decide +kernel) ⟨(Nat.le_of_ble_eq_true rfl), (Nat.le_of_ble_eq_true rfl)⟩ (cs_lt 0 11 0 (by decide) hCS) (cs_k 0 11 0 (by decide) hCS) rfl (Nat.le_of_ble_eq_true rfl) dL_law_896 hf ?_
  have hMS1 : MS (f_X11_score S 0 ).2 := MS.of (q_X11_score _ _) hMS
  refine aw_aload_n hC 3 dL_law_899 rfl rfl ?_
  refine aw_cV0r hC hSt (t_X12_score G l hMS1 hp2) w_1198 w_1436 w_1437 w_1438 w_953 rfl rfl (by decide +kernel) ⟨(Nat.le_of_ble_eq_true rfl), (Nat.le_of_ble_eq_true rfl)⟩ (ms_lt 64 (by decide) hMS1) (ms_k 64 12 0 (by decide) hMS1) rfl (Nat.le_of_ble_eq_true rfl) dL_law_900 hf ?_
  refine aw_lcmp hC dL_law_903 ?_
  exact aw_if_eq hC 1323 dL_law_904 (by decide) (fun _ => hnx) (fun h => absurd (by rw [hEq]; exact lg_self _) h)
/-- what is owed of best -/
def K_best (Inv : Nat → HSt → Prop) : Prop := ∀ (n : Nat) (S : HSt) (a1 : Int32) (a2 : Int32), n < 512 → Inv n S → p_X11_best S 0 a1 a2 ∧ p_X12_best (f_X11_best S 0 a1 a2).2 64 a1 a2 ∧ (f_X11_best S 0 a1 a2).1 = (f_X12_best (f_X11_best S 0 a1 a2).2 64 a1 a2).1 ∧ Inv (n + 1) (f_X12_best (f_X11_best S 0 a1 a2).2 64 a1 a2).2
set_option maxRecDepth 100000 in
theorem lw_c22 {p : Program} {l : Launch} {e : Env} {s : State} {m : MethodId} {args : Array Value} {below : List Frame} {meth : Method} {c : Code} {G : GG} {Q : State → Prop} {S : HSt} {cells slots : Nat} {L : Nat} {xs : Nat → Int32} (hC : ACx p s m args meth c cL_law RL 4 (some .boolean)) (hSt : St G s) (hX : SCR G s L xs) (hCS : CS S) (hMS : MS S) (hf : cells ≤ room_1.cells ∧ slots ≤ room_1.slots) (v3 : Int32) (hin1 : vp_in (v3 + (1 : Int32)) L) (hin2 : vp_in (v3 + (2 : Int32)) L) (hin3 : vp_in (v3 + (3 : Int32)) L) (hin4 : vp_in (v3 + (4 : Int32)) L) (hin5 : vp_in (v3 + (5 : Int32)) L) (hp1 : p_X11_best S 0 (xs (v3 + (1 : Int32)).toNatClampNeg) (xs (v3 + (2 : Int32)).toNatClampNeg)) (hp2 : p_X12_best (f_X11_best S 0 (xs (v3 + (1 : Int32)).toNatClampNeg) (xs (v3 + (2 : Int32)).toNatClampNeg)).2 64 (xs (v3 + (1 : Int32)).toNatClampNeg) (xs (v3 + (2 : Int32)).toNatClampNeg)) (hEq : (f_X11_best S 0 (xs (v3 + (1 : Int32)).toNatClampNeg) (xs (v3 + (2 : Int32)).toNatClampNeg)).1 = (f_X12_best (f_X11_best S 0 (xs (v3 + (1 : Int32)).toNatClampNeg) (xs (v3 + (2 : Int32)).toNatClampNeg)).2 64 (xs (v3 + (1 : Int32)).toNatClampNeg) (xs (v3 + (2 : Int32)).toNatClampNeg)).1) (hnx : AW p l e room_1 s m args below meth c G 4 Q (f_X12_best (f_X11_best S 0 (xs (v3 + (1 : Int32)).toNatClampNeg) (xs (v3 + (2 : Int32)).toNatClampNeg)).2 64 (xs (v3 + (1 : Int32)).toNatClampNeg) (xs (v3 + (2 : Int32)).toNatClampNeg)).2 cells slots 1323 [(3, .int v3), (0, .ref 5000), (1, .ref 0), (2, .ref 64)] []) : AW p l e room_1 s m args below meth c G 4 Q S cells slots 909 [(3, .int v3), (0, .ref 5000), (1, .ref 0), (2, .ref 64)] [] := by
  refine aw_aload_n hC 2 dL_law_909 rfl rfl ?_
  refine aw_aload_n hC 1 dL_law_910 rfl rfl ?_
  refine aw_iload_n hC 0 dL_law_911 rfl rfl ?_
  refine aw_iconst (v := 1) hC dL_law_912 (by decide) ?_
  refine aw_iadd hC dL_law_913 ?_
  refine aw_sld hC hX hin1 dL_law_914 ?_
  refine aw_aload_n hC 1 dL_law_915 rfl rfl ?_
  refine aw_iload_n hC 0 dL_law_916 rfl rfl ?_
  refine aw_iconst (v := 2) hC dL_law_917 (by decide) ?_
  refine aw_iadd hC dL_law_918 ?_
  refine aw_sld hC hX hin2 dL_law_919 ?_
  refine aw_cV2r hC hSt (t_X11_best G l hCS _ _ hp1) w_848 w_1439 w_1440 w_1441 w_517 rfl rfl (by decide +kernel) ⟨(Nat.le_of_ble_eq_true rfl), (Nat.le_of_ble_eq_true rfl)⟩ (cs_lt 0 11 0 (by decide) hCS) (cs_k 0 11 0 (by decide) hCS) rfl (Nat.le_of_ble_eq_true rfl) dL_law_920 hf ?_
  have hMS1 : MS (f_X11_best S 0 (xs (v3 + (1 : Int32)).toNatClampNeg) (xs (v3 + (2 : Int32)).toNatClampNeg)).2 := MS.of (q_X11_best _ _ _ _) hMS
  refine aw_aload_n hC 3 dL_law_923 rfl rfl ?_
  refine aw_aload_n hC 1 dL_law_924 rfl rfl ?_
  refine aw_iload_n hC 0 dL_law_925 rfl rfl ?_
  refine aw_iconst (v := 1) hC dL_law_926 (by decide) ?_
  refine aw_iadd hC dL_law_927 ?_
  refine aw_sld hC hX hin1 dL_law_928 ?_
  refine aw_aload_n hC 1 dL_law_929 rfl rfl ?_
  refine aw_iload_n hC 0 dL_law_930 rfl rfl ?_
  refine aw_iconst (v := 2) hC dL_law_931 (by decide) ?_
  refine aw_iadd hC dL_law_932 ?_
  refine aw_sld hC hX hin2 dL_law_933 ?_
  refine aw_cV2r hC hSt (t_X12_best G l hMS1 _ _ hp2) w_1205 w_1442 w_1443 w_1444 w_953 rfl rfl (by decide +kernel) ⟨(Nat.le_of_ble_eq_true rfl), (Nat.le_of_ble_eq_true rfl)⟩ (ms_lt 64 (by decide) hMS1) (ms_k 64 12 0 (by decide) hMS1) rfl (Nat.le_of_ble_eq_true rfl) dL_law_934 hf ?_
  refine aw_lcmp hC dL_law_937 ?_
  exact aw_if_eq hC 1323 dL_law_938 (by decide) (fun _ => hnx) (fun h => absurd (by rw [hEq]; exact lg_self _) h)
/-- what is owed of moves -/
def K_moves (Inv : Nat → HSt → Prop) : Prop := ∀ (n : Nat) (S : HSt) (a1 : Int32) (a2 : Int32), n < 512 → Inv n S → p_X11_moves S 0 a1 a2 ∧ p_X12_moves (f_X11_moves S 0 a1 a2).2 64 a1 a2 ∧ (f_X11_moves S 0 a1 a2).1 = (f_X12_moves (f_X11_moves S 0 a1 a2).2 64 a1 a2).1 ∧ Inv (n + 1) (f_X12_moves (f_X11_moves S 0 a1 a2).2 64 a1 a2).2
set_option maxRecDepth 100000 in
theorem lw_c23 {p : Program} {l : Launch} {e : Env} {s : State} {m : MethodId} {args : Array Value} {below : List Frame} {meth : Method} {c : Code} {G : GG} {Q : State → Prop} {S : HSt} {cells slots : Nat} {L : Nat} {xs : Nat → Int32} (hC : ACx p s m args meth c cL_law RL 4 (some .boolean)) (hSt : St G s) (hX : SCR G s L xs) (hCS : CS S) (hMS : MS S) (hf : cells ≤ room_1.cells ∧ slots ≤ room_1.slots) (v3 : Int32) (hin1 : vp_in (v3 + (1 : Int32)) L) (hin2 : vp_in (v3 + (2 : Int32)) L) (hin3 : vp_in (v3 + (3 : Int32)) L) (hin4 : vp_in (v3 + (4 : Int32)) L) (hin5 : vp_in (v3 + (5 : Int32)) L) (hp1 : p_X11_moves S 0 (xs (v3 + (1 : Int32)).toNatClampNeg) (xs (v3 + (2 : Int32)).toNatClampNeg)) (hp2 : p_X12_moves (f_X11_moves S 0 (xs (v3 + (1 : Int32)).toNatClampNeg) (xs (v3 + (2 : Int32)).toNatClampNeg)).2 64 (xs (v3 + (1 : Int32)).toNatClampNeg) (xs (v3 + (2 : Int32)).toNatClampNeg)) (hEq : (f_X11_moves S 0 (xs (v3 + (1 : Int32)).toNatClampNeg) (xs (v3 + (2 : Int32)).toNatClampNeg)).1 = (f_X12_moves (f_X11_moves S 0 (xs (v3 + (1 : Int32)).toNatClampNeg) (xs (v3 + (2 : Int32)).toNatClampNeg)).2 64 (xs (v3 + (1 : Int32)).toNatClampNeg) (xs (v3 + (2 : Int32)).toNatClampNeg)).1) (hnx : AW p l e room_1 s m args below meth c G 4 Q (f_X12_moves (f_X11_moves S 0 (xs (v3 + (1 : Int32)).toNatClampNeg) (xs (v3 + (2 : Int32)).toNatClampNeg)).2 64 (xs (v3 + (1 : Int32)).toNatClampNeg) (xs (v3 + (2 : Int32)).toNatClampNeg)).2 cells slots 1323 [(3, .int v3), (0, .ref 5000), (1, .ref 0), (2, .ref 64)] []) : AW p l e room_1 s m args below meth c G 4 Q S cells slots 943 [(3, .int v3), (0, .ref 5000), (1, .ref 0), (2, .ref 64)] [] := by
  refine aw_aload_n hC 2 dL_law_943 rfl rfl ?_
  refine aw_aload_n hC 1 dL_law_944 rfl rfl ?_
  refine aw_iload_n hC 0 dL_law_945 rfl rfl ?_
  refine aw_iconst (v := 1) hC dL_law_946 (by decide) ?_
  refine aw_iadd hC dL_law_947 ?_
  refine aw_sld hC hX hin1 dL_law_948 ?_
  refine aw_aload_n hC 1 dL_law_949 rfl rfl ?_
  refine aw_iload_n hC 0 dL_law_950 rfl rfl ?_
  refine aw_iconst (v := 2) hC dL_law_951 (by decide) ?_
  refine aw_iadd hC dL_law_952 ?_
  refine aw_sld hC hX hin2 dL_law_953 ?_
  refine aw_cV2r hC hSt (t_X11_moves G l hCS _ _ hp1) w_855 w_1445 w_1446 w_1447 w_517 rfl rfl (by decide +kernel) ⟨(Nat.le_of_ble_eq_true rfl), (Nat.le_of_ble_eq_true rfl)⟩ (cs_lt 0 11 0 (by decide) hCS) (cs_k 0 11 0 (by decide) hCS) rfl (Nat.le_of_ble_eq_true rfl) dL_law_954 hf ?_
  have hMS1 : MS (f_X11_moves S 0 (xs (v3 + (1 : Int32)).toNatClampNeg) (xs (v3 + (2 : Int32)).toNatClampNeg)).2 := MS.of (q_X11_moves _ _ _ _) hMS
  refine aw_aload_n hC 3 dL_law_957 rfl rfl ?_
  refine aw_aload_n hC 1 dL_law_958 rfl rfl ?_
  refine aw_iload_n hC 0 dL_law_959 rfl rfl ?_
  refine aw_iconst (v := 1) hC dL_law_960 (by decide) ?_
  refine aw_iadd hC dL_law_961 ?_
  refine aw_sld hC hX hin1 dL_law_962 ?_
  refine aw_aload_n hC 1 dL_law_963 rfl rfl ?_
  refine aw_iload_n hC 0 dL_law_964 rfl rfl ?_
  refine aw_iconst (v := 2) hC dL_law_965 (by decide) ?_
  refine aw_iadd hC dL_law_966 ?_
  refine aw_sld hC hX hin2 dL_law_967 ?_
  refine aw_cV2r hC hSt (t_X12_moves G l hMS1 _ _ hp2) w_1233 w_1448 w_1449 w_1450 w_953 rfl rfl (by decide +kernel) ⟨(Nat.le_of_ble_eq_true rfl), (Nat.le_of_ble_eq_true rfl)⟩ (ms_lt 64 (by decide) hMS1) (ms_k 64 12 0 (by decide) hMS1) rfl (Nat.le_of_ble_eq_true rfl) dL_law_968 hf ?_
  refine aw_lcmp hC dL_law_971 ?_
  exact aw_if_eq hC 1323 dL_law_972 (by decide) (fun _ => hnx) (fun h => absurd (by rw [hEq]; exact lg_self _) h)
/-- what is owed of show -/
def K_show (Inv : Nat → HSt → Prop) : Prop := ∀ (n : Nat) (S : HSt) (a1 : Int32), n < 512 → Inv n S → p_X11_show S 0 a1 ∧ p_X12_show (f_X11_show S 0 a1).2 64 a1 ∧ (f_X11_show S 0 a1).1 = (f_X12_show (f_X11_show S 0 a1).2 64 a1).1 ∧ Inv (n + 1) (f_X12_show (f_X11_show S 0 a1).2 64 a1).2
set_option maxRecDepth 100000 in
theorem lw_c25 {p : Program} {l : Launch} {e : Env} {s : State} {m : MethodId} {args : Array Value} {below : List Frame} {meth : Method} {c : Code} {G : GG} {Q : State → Prop} {S : HSt} {cells slots : Nat} {L : Nat} {xs : Nat → Int32} (hC : ACx p s m args meth c cL_law RL 4 (some .boolean)) (hSt : St G s) (hX : SCR G s L xs) (hCS : CS S) (hMS : MS S) (hf : cells ≤ room_1.cells ∧ slots ≤ room_1.slots) (v3 : Int32) (hin1 : vp_in (v3 + (1 : Int32)) L) (hin2 : vp_in (v3 + (2 : Int32)) L) (hin3 : vp_in (v3 + (3 : Int32)) L) (hin4 : vp_in (v3 + (4 : Int32)) L) (hin5 : vp_in (v3 + (5 : Int32)) L) (hp1 : p_X11_show S 0 (xs (v3 + (1 : Int32)).toNatClampNeg)) (hp2 : p_X12_show (f_X11_show S 0 (xs (v3 + (1 : Int32)).toNatClampNeg)).2 64 (xs (v3 + (1 : Int32)).toNatClampNeg)) (hEq : (f_X11_show S 0 (xs (v3 + (1 : Int32)).toNatClampNeg)).1 = (f_X12_show (f_X11_show S 0 (xs (v3 + (1 : Int32)).toNatClampNeg)).2 64 (xs (v3 + (1 : Int32)).toNatClampNeg)).1) (hnx : AW p l e room_1 s m args below meth c G 4 Q (f_X12_show (f_X11_show S 0 (xs (v3 + (1 : Int32)).toNatClampNeg)).2 64 (xs (v3 + (1 : Int32)).toNatClampNeg)).2 cells slots 1323 [(3, .int v3), (0, .ref 5000), (1, .ref 0), (2, .ref 64)] []) : AW p l e room_1 s m args below meth c G 4 Q S cells slots 1011 [(3, .int v3), (0, .ref 5000), (1, .ref 0), (2, .ref 64)] [] := by
  refine aw_aload_n hC 2 dL_law_1011 rfl rfl ?_
  refine aw_aload_n hC 1 dL_law_1012 rfl rfl ?_
  refine aw_iload_n hC 0 dL_law_1013 rfl rfl ?_
  refine aw_iconst (v := 1) hC dL_law_1014 (by decide) ?_
  refine aw_iadd hC dL_law_1015 ?_
  refine aw_sld hC hX hin1 dL_law_1016 ?_
  refine aw_cV1r hC hSt (t_X11_show G l hCS _ hp1) w_872 w_1457 w_1458 w_1459 w_517 rfl rfl (by decide +kernel) ⟨(Nat.le_of_ble_eq_true rfl), (Nat.le_of_ble_eq_true rfl)⟩ (cs_lt 0 11 0 (by decide) hCS) (cs_k 0 11 0 (by decide) hCS) rfl (Nat.le_of_ble_eq_true rfl) dL_law_1017 hf ?_
  have hMS1 : MS (f_X11_show S 0 (xs (v3 + (1 : Int32)).toNatClampNeg)).2 := MS.of (q_X11_show _ _ _) hMS
  refine aw_aload_n hC 3 dL_law_1020 rfl rfl ?_
  refine aw_aload_n hC 1 dL_law_1021 rfl rfl ?_
  refine aw_iload_n hC 0 dL_law_1022 rfl rfl ?_
  refine aw_iconst (v := 1) hC dL_law_1023 (by decide) ?_
  refine aw_iadd hC dL_law_1024 ?_
  refine aw_sld hC hX hin1 dL_law_1025 ?_
  refine aw_cV1r hC hSt (t_X12_show G l hMS1 _ hp2) w_1255 w_1460 w_1461 w_1462 w_953 rfl rfl (by decide +kernel) ⟨(Nat.le_of_ble_eq_true rfl), (Nat.le_of_ble_eq_true rfl)⟩ (ms_lt 64 (by decide) hMS1) (ms_k 64 12 0 (by decide) hMS1) rfl (Nat.le_of_ble_eq_true rfl) dL_law_1026 hf ?_
  refine aw_lcmp hC dL_law_1029 ?_
  exact aw_if_eq hC 1323 dL_law_1030 (by decide) (fun _ => hnx) (fun h => absurd (by rw [hEq]; exact lg_self _) h)
/-- what is owed of learn -/
def K_learn (Inv : Nat → HSt → Prop) : Prop := ∀ (n : Nat) (S : HSt) (a1 : Int32) (a2 : Int32) (a3 : Int32), n < 512 → Inv n S → p_X11_learn S 0 a1 a2 a3 ∧ p_X12_learn (f_X11_learn S 0 a1 a2 a3).2 64 a1 a2 a3 ∧ (f_X11_learn S 0 a1 a2 a3).1 = (f_X12_learn (f_X11_learn S 0 a1 a2 a3).2 64 a1 a2 a3).1 ∧ Inv (n + 1) (f_X12_learn (f_X11_learn S 0 a1 a2 a3).2 64 a1 a2 a3).2
set_option maxRecDepth 100000 in
theorem lw_c26 {p : Program} {l : Launch} {e : Env} {s : State} {m : MethodId} {args : Array Value} {below : List Frame} {meth : Method} {c : Code} {G : GG} {Q : State → Prop} {S : HSt} {cells slots : Nat} {L : Nat} {xs : Nat → Int32} (hC : ACx p s m args meth c cL_law RL 4 (some .boolean)) (hSt : St G s) (hX : SCR G s L xs) (hCS : CS S) (hMS : MS S) (hf : cells ≤ room_1.cells ∧ slots ≤ room_1.slots) (v3 : Int32) (hin1 : vp_in (v3 + (1 : Int32)) L) (hin2 : vp_in (v3 + (2 : Int32)) L) (hin3 : vp_in (v3 + (3 : Int32)) L) (hin4 : vp_in (v3 + (4 : Int32)) L) (hin5 : vp_in (v3 + (5 : Int32)) L) (hp1 : p_X11_learn S 0 (xs (v3 + (1 : Int32)).toNatClampNeg) (xs (v3 + (2 : Int32)).toNatClampNeg) (xs (v3 + (3 : Int32)).toNatClampNeg)) (hp2 : p_X12_learn (f_X11_learn S 0 (xs (v3 + (1 : Int32)).toNatClampNeg) (xs (v3 + (2 : Int32)).toNatClampNeg) (xs (v3 + (3 : Int32)).toNatClampNeg)).2 64 (xs (v3 + (1 : Int32)).toNatClampNeg) (xs (v3 + (2 : Int32)).toNatClampNeg) (xs (v3 + (3 : Int32)).toNatClampNeg)) (hEq : (f_X11_learn S 0 (xs (v3 + (1 : Int32)).toNatClampNeg) (xs (v3 + (2 : Int32)).toNatClampNeg) (xs (v3 + (3 : Int32)).toNatClampNeg)).1 = (f_X12_learn (f_X11_learn S 0 (xs (v3 + (1 : Int32)).toNatClampNeg) (xs (v3 + (2 : Int32)).toNatClampNeg) (xs (v3 + (3 : Int32)).toNatClampNeg)).2 64 (xs (v3 + (1 : Int32)).toNatClampNeg) (xs (v3 + (2 : Int32)).toNatClampNeg) (xs (v3 + (3 : Int32)).toNatClampNeg)).1) (hnx : AW p l e room_1 s m args below meth c G 4 Q (f_X12_learn (f_X11_learn S 0 (xs (v3 + (1 : Int32)).toNatClampNeg) (xs (v3 + (2 : Int32)).toNatClampNeg) (xs (v3 + (3 : Int32)).toNatClampNeg)).2 64 (xs (v3 + (1 : Int32)).toNatClampNeg) (xs (v3 + (2 : Int32)).toNatClampNeg) (xs (v3 + (3 : Int32)).toNatClampNeg)).2 cells slots 1323 [(3, .int v3), (0, .ref 5000), (1, .ref 0), (2, .ref 64)] []) : AW p l e room_1 s m args below meth c G 4 Q S cells slots 1035 [(3, .int v3), (0, .ref 5000), (1, .ref 0), (2, .ref 64)] [] := by
  refine aw_aload_n hC 2 dL_law_1035 rfl rfl ?_
  refine aw_aload_n hC 1 dL_law_1036 rfl rfl ?_
  refine aw_iload_n hC 0 dL_law_1037 rfl rfl ?_
  refine aw_iconst (v := 1) hC dL_law_1038 (by decide) ?_
  refine aw_iadd hC dL_law_1039 ?_
  refine aw_sld hC hX hin1 dL_law_1040 ?_
  refine aw_aload_n hC 1 dL_law_1041 rfl rfl ?_
  refine aw_iload_n hC 0 dL_law_1042 rfl rfl ?_
  refine aw_iconst (v := 2) hC dL_law_1043 (by decide) ?_
  refine aw_iadd hC dL_law_1044 ?_
  refine aw_sld hC hX hin2 dL_law_1045 ?_
  refine aw_aload_n hC 1 dL_law_1046 rfl rfl ?_
  refine aw_iload_n hC 0 dL_law_1047 rfl rfl ?_
  refine aw_iconst (v := 3) hC dL_law_1048 (by decide) ?_
  refine aw_iadd hC dL_law_1049 ?_
  refine aw_sld hC hX hin3 dL_law_1050 ?_
  refine aw_cV3r hC hSt (t_X11_learn G l hCS _ _ _ hp1) w_880 w_1463 w_1464 w_1465 w_517 rfl rfl (by decide +kernel) ⟨(Nat.le_of_ble_eq_true rfl), (Nat.le_of_ble_eq_true rfl)⟩ (cs_lt 0 11 0 (by decide) hCS) (cs_k 0 11 0 (by decide) hCS) rfl (Nat.le_of_ble_eq_true rfl) dL_law_1051 hf ?_
  have hMS1 : MS (f_X11_learn S 0 (xs (v3 + (1 : Int32)).toNatClampNeg) (xs (v3 + (2 : Int32)).toNatClampNeg) (xs (v3 + (3 : Int32)).toNatClampNeg)).2 := MS.of (q_X11_learn _ _ _ _ _) hMS
  refine aw_aload_n hC 3 dL_law_1054 rfl rfl ?_
  refine aw_aload_n hC 1 dL_law_1055 rfl rfl ?_
  refine aw_iload_n hC 0 dL_law_1056 rfl rfl ?_
  refine aw_iconst (v := 1) hC dL_law_1057 (by decide) ?_
  refine aw_iadd hC dL_law_1058 ?_
  refine aw_sld hC hX hin1 dL_law_1059 ?_
  refine aw_aload_n hC 1 dL_law_1060 rfl rfl ?_
  refine aw_iload_n hC 0 dL_law_1061 rfl rfl ?_
  refine aw_iconst (v := 2) hC dL_law_1062 (by decide) ?_
  refine aw_iadd hC dL_law_1063 ?_
  refine aw_sld hC hX hin2 dL_law_1064 ?_
  refine aw_aload_n hC 1 dL_law_1065 rfl rfl ?_
  refine aw_iload_n hC 0 dL_law_1066 rfl rfl ?_
  refine aw_iconst (v := 3) hC dL_law_1067 (by decide) ?_
  refine aw_iadd hC dL_law_1068 ?_
  refine aw_sld hC hX hin3 dL_law_1069 ?_
  refine aw_cV3r hC hSt (t_X12_learn G l hMS1 _ _ _ hp2) w_1260 w_1466 w_1467 w_1468 w_953 rfl rfl (by decide +kernel) ⟨(Nat.le_of_ble_eq_true rfl), (Nat.le_of_ble_eq_true rfl)⟩ (ms_lt 64 (by decide) hMS1) (ms_k 64 12 0 (by decide) hMS1) rfl (Nat.le_of_ble_eq_true rfl) dL_law_1070 hf ?_
  refine aw_lcmp hC dL_law_1073 ?_
  exact aw_if_eq hC 1323 dL_law_1074 (by decide) (fun _ => hnx) (fun h => absurd (by rw [hEq]; exact lg_self _) h)
/-- what is owed of film -/
def K_film (Inv : Nat → HSt → Prop) : Prop := ∀ (n : Nat) (S : HSt) (a1 : Int32) (a2 : Int32) (a3 : Int32), n < 512 → Inv n S → p_X11_film S 0 a1 a2 a3 ∧ p_X12_film (f_X11_film S 0 a1 a2 a3).2 64 a1 a2 a3 ∧ (f_X11_film S 0 a1 a2 a3).1 = (f_X12_film (f_X11_film S 0 a1 a2 a3).2 64 a1 a2 a3).1 ∧ Inv (n + 1) (f_X12_film (f_X11_film S 0 a1 a2 a3).2 64 a1 a2 a3).2
set_option maxRecDepth 100000 in
theorem lw_c27 {p : Program} {l : Launch} {e : Env} {s : State} {m : MethodId} {args : Array Value} {below : List Frame} {meth : Method} {c : Code} {G : GG} {Q : State → Prop} {S : HSt} {cells slots : Nat} {L : Nat} {xs : Nat → Int32} (hC : ACx p s m args meth c cL_law RL 4 (some .boolean)) (hSt : St G s) (hX : SCR G s L xs) (hCS : CS S) (hMS : MS S) (hf : cells ≤ room_1.cells ∧ slots ≤ room_1.slots) (v3 : Int32) (hin1 : vp_in (v3 + (1 : Int32)) L) (hin2 : vp_in (v3 + (2 : Int32)) L) (hin3 : vp_in (v3 + (3 : Int32)) L) (hin4 : vp_in (v3 + (4 : Int32)) L) (hin5 : vp_in (v3 + (5 : Int32)) L) (hp1 : p_X11_film S 0 (xs (v3 + (1 : Int32)).toNatClampNeg) (xs (v3 + (2 : Int32)).toNatClampNeg) (xs (v3 + (3 : Int32)).toNatClampNeg)) (hp2 : p_X12_film (f_X11_film S 0 (xs (v3 + (1 : Int32)).toNatClampNeg) (xs (v3 + (2 : Int32)).toNatClampNeg) (xs (v3 + (3 : Int32)).toNatClampNeg)).2 64 (xs (v3 + (1 : Int32)).toNatClampNeg) (xs (v3 + (2 : Int32)).toNatClampNeg) (xs (v3 + (3 : Int32)).toNatClampNeg)) (hEq : (f_X11_film S 0 (xs (v3 + (1 : Int32)).toNatClampNeg) (xs (v3 + (2 : Int32)).toNatClampNeg) (xs (v3 + (3 : Int32)).toNatClampNeg)).1 = (f_X12_film (f_X11_film S 0 (xs (v3 + (1 : Int32)).toNatClampNeg) (xs (v3 + (2 : Int32)).toNatClampNeg) (xs (v3 + (3 : Int32)).toNatClampNeg)).2 64 (xs (v3 + (1 : Int32)).toNatClampNeg) (xs (v3 + (2 : Int32)).toNatClampNeg) (xs (v3 + (3 : Int32)).toNatClampNeg)).1) (hnx : AW p l e room_1 s m args below meth c G 4 Q (f_X12_film (f_X11_film S 0 (xs (v3 + (1 : Int32)).toNatClampNeg) (xs (v3 + (2 : Int32)).toNatClampNeg) (xs (v3 + (3 : Int32)).toNatClampNeg)).2 64 (xs (v3 + (1 : Int32)).toNatClampNeg) (xs (v3 + (2 : Int32)).toNatClampNeg) (xs (v3 + (3 : Int32)).toNatClampNeg)).2 cells slots 1323 [(3, .int v3), (0, .ref 5000), (1, .ref 0), (2, .ref 64)] []) : AW p l e room_1 s m args below meth c G 4 Q S cells slots 1079 [(3, .int v3), (0, .ref 5000), (1, .ref 0), (2, .ref 64)] [] := by
  refine aw_aload_n hC 2 dL_law_1079 rfl rfl ?_
  refine aw_aload_n hC 1 dL_law_1080 rfl rfl ?_
  refine aw_iload_n hC 0 dL_law_1081 rfl rfl ?_
  refine aw_iconst (v := 1) hC dL_law_1082 (by decide) ?_
  refine aw_iadd hC dL_law_1083 ?_
  refine aw_sld hC hX hin1 dL_law_1084 ?_
  refine aw_aload_n hC 1 dL_law_1085 rfl rfl ?_
  refine aw_iload_n hC 0 dL_law_1086 rfl rfl ?_
  refine aw_iconst (v := 2) hC dL_law_1087 (by decide) ?_
  refine aw_iadd hC dL_law_1088 ?_
  refine aw_sld hC hX hin2 dL_law_1089 ?_
  refine aw_aload_n hC 1 dL_law_1090 rfl rfl ?_
  refine aw_iload_n hC 0 dL_law_1091 rfl rfl ?_
  refine aw_iconst (v := 3) hC dL_law_1092 (by decide) ?_
  refine aw_iadd hC dL_law_1093 ?_
  refine aw_sld hC hX hin3 dL_law_1094 ?_
  refine aw_cV3r hC hSt (t_X11_film G l hCS _ _ _ hp1) w_884 w_1469 w_1470 w_1471 w_517 rfl rfl (by decide +kernel) ⟨(Nat.le_of_ble_eq_true rfl), (Nat.le_of_ble_eq_true rfl)⟩ (cs_lt 0 11 0 (by decide) hCS) (cs_k 0 11 0 (by decide) hCS) rfl (Nat.le_of_ble_eq_true rfl) dL_law_1095 hf ?_
  have hMS1 : MS (f_X11_film S 0 (xs (v3 + (1 : Int32)).toNatClampNeg) (xs (v3 + (2 : Int32)).toNatClampNeg) (xs (v3 + (3 : Int32)).toNatClampNeg)).2 := MS.of (q_X11_film _ _ _ _ _) hMS
  refine aw_aload_n hC 3 dL_law_1098 rfl rfl ?_
  refine aw_aload_n hC 1 dL_law_1099 rfl rfl ?_
  refine aw_iload_n hC 0 dL_law_1100 rfl rfl ?_
  refine aw_iconst (v := 1) hC dL_law_1101 (by decide) ?_
  refine aw_iadd hC dL_law_1102 ?_
  refine aw_sld hC hX hin1 dL_law_1103 ?_
  refine aw_aload_n hC 1 dL_law_1104 rfl rfl ?_
  refine aw_iload_n hC 0 dL_law_1105 rfl rfl ?_
  refine aw_iconst (v := 2) hC dL_law_1106 (by decide) ?_
  refine aw_iadd hC dL_law_1107 ?_
  refine aw_sld hC hX hin2 dL_law_1108 ?_
  refine aw_aload_n hC 1 dL_law_1109 rfl rfl ?_
  refine aw_iload_n hC 0 dL_law_1110 rfl rfl ?_
  refine aw_iconst (v := 3) hC dL_law_1111 (by decide) ?_
  refine aw_iadd hC dL_law_1112 ?_
  refine aw_sld hC hX hin3 dL_law_1113 ?_
  refine aw_cV3r hC hSt (t_X12_film G l hMS1 _ _ _ hp2) w_1266 w_1472 w_1473 w_1474 w_953 rfl rfl (by decide +kernel) ⟨(Nat.le_of_ble_eq_true rfl), (Nat.le_of_ble_eq_true rfl)⟩ (ms_lt 64 (by decide) hMS1) (ms_k 64 12 0 (by decide) hMS1) rfl (Nat.le_of_ble_eq_true rfl) dL_law_1114 hf ?_
  refine aw_lcmp hC dL_law_1117 ?_
  exact aw_if_eq hC 1323 dL_law_1118 (by decide) (fun _ => hnx) (fun h => absurd (by rw [hEq]; exact lg_self _) h)
/-- what is owed of image -/
def K_image (Inv : Nat → HSt → Prop) : Prop := ∀ (n : Nat) (S : HSt) (a1 : Int32), n < 512 → Inv n S → p_X11_image S 0 a1 ∧ p_X12_image (f_X11_image S 0 a1).2 64 a1 ∧ (f_X11_image S 0 a1).1 = (f_X12_image (f_X11_image S 0 a1).2 64 a1).1 ∧ Inv (n + 1) (f_X12_image (f_X11_image S 0 a1).2 64 a1).2
set_option maxRecDepth 100000 in
theorem lw_c28 {p : Program} {l : Launch} {e : Env} {s : State} {m : MethodId} {args : Array Value} {below : List Frame} {meth : Method} {c : Code} {G : GG} {Q : State → Prop} {S : HSt} {cells slots : Nat} {L : Nat} {xs : Nat → Int32} (hC : ACx p s m args meth c cL_law RL 4 (some .boolean)) (hSt : St G s) (hX : SCR G s L xs) (hCS : CS S) (hMS : MS S) (hf : cells ≤ room_1.cells ∧ slots ≤ room_1.slots) (v3 : Int32) (hin1 : vp_in (v3 + (1 : Int32)) L) (hin2 : vp_in (v3 + (2 : Int32)) L) (hin3 : vp_in (v3 + (3 : Int32)) L) (hin4 : vp_in (v3 + (4 : Int32)) L) (hin5 : vp_in (v3 + (5 : Int32)) L) (hp1 : p_X11_image S 0 (xs (v3 + (1 : Int32)).toNatClampNeg)) (hp2 : p_X12_image (f_X11_image S 0 (xs (v3 + (1 : Int32)).toNatClampNeg)).2 64 (xs (v3 + (1 : Int32)).toNatClampNeg)) (hEq : (f_X11_image S 0 (xs (v3 + (1 : Int32)).toNatClampNeg)).1 = (f_X12_image (f_X11_image S 0 (xs (v3 + (1 : Int32)).toNatClampNeg)).2 64 (xs (v3 + (1 : Int32)).toNatClampNeg)).1) (hnx : AW p l e room_1 s m args below meth c G 4 Q (f_X12_image (f_X11_image S 0 (xs (v3 + (1 : Int32)).toNatClampNeg)).2 64 (xs (v3 + (1 : Int32)).toNatClampNeg)).2 cells slots 1323 [(3, .int v3), (0, .ref 5000), (1, .ref 0), (2, .ref 64)] []) : AW p l e room_1 s m args below meth c G 4 Q S cells slots 1123 [(3, .int v3), (0, .ref 5000), (1, .ref 0), (2, .ref 64)] [] := by
  refine aw_aload_n hC 2 dL_law_1123 rfl rfl ?_
  refine aw_aload_n hC 1 dL_law_1124 rfl rfl ?_
  refine aw_iload_n hC 0 dL_law_1125 rfl rfl ?_
  refine aw_iconst (v := 1) hC dL_law_1126 (by decide) ?_
  refine aw_iadd hC dL_law_1127 ?_
  refine aw_sld hC hX hin1 dL_law_1128 ?_
  refine aw_cV1r hC hSt (t_X11_image G l hCS _ hp1) w_888 w_1475 w_1476 w_1477 w_517 rfl rfl (by decide +kernel) ⟨(Nat.le_of_ble_eq_true rfl), (Nat.le_of_ble_eq_true rfl)⟩ (cs_lt 0 11 0 (by decide) hCS) (cs_k 0 11 0 (by decide) hCS) rfl (Nat.le_of_ble_eq_true rfl) dL_law_1129 hf ?_
  have hMS1 : MS (f_X11_image S 0 (xs (v3 + (1 : Int32)).toNatClampNeg)).2 := MS.of (q_X11_image _ _ _) hMS
  refine aw_aload_n hC 3 dL_law_1132 rfl rfl ?_
  refine aw_aload_n hC 1 dL_law_1133 rfl rfl ?_
  refine aw_iload_n hC 0 dL_law_1134 rfl rfl ?_
  refine aw_iconst (v := 1) hC dL_law_1135 (by decide) ?_
  refine aw_iadd hC dL_law_1136 ?_
  refine aw_sld hC hX hin1 dL_law_1137 ?_
  refine aw_cV1r hC hSt (t_X12_image G l hMS1 _ hp2) w_1267 w_1478 w_1479 w_1480 w_953 rfl rfl (by decide +kernel) ⟨(Nat.le_of_ble_eq_true rfl), (Nat.le_of_ble_eq_true rfl)⟩ (ms_lt 64 (by decide) hMS1) (ms_k 64 12 0 (by decide) hMS1) rfl (Nat.le_of_ble_eq_true rfl) dL_law_1138 hf ?_
  refine aw_lcmp hC dL_law_1141 ?_
  exact aw_if_eq hC 1323 dL_law_1142 (by decide) (fun _ => hnx) (fun h => absurd (by rw [hEq]; exact lg_self _) h)
/-- what is owed of restore -/
def K_restore (Inv : Nat → HSt → Prop) : Prop := ∀ (n : Nat) (S : HSt) (a1 : Int32), n < 512 → Inv n S → p_X11_restore S 0 a1 ∧ p_X12_restore (f_X11_restore S 0 a1).2 64 a1 ∧ (f_X11_restore S 0 a1).1 = (f_X12_restore (f_X11_restore S 0 a1).2 64 a1).1 ∧ Inv (n + 1) (f_X12_restore (f_X11_restore S 0 a1).2 64 a1).2
set_option maxRecDepth 100000 in
theorem lw_c29 {p : Program} {l : Launch} {e : Env} {s : State} {m : MethodId} {args : Array Value} {below : List Frame} {meth : Method} {c : Code} {G : GG} {Q : State → Prop} {S : HSt} {cells slots : Nat} {L : Nat} {xs : Nat → Int32} (hC : ACx p s m args meth c cL_law RL 4 (some .boolean)) (hSt : St G s) (hX : SCR G s L xs) (hCS : CS S) (hMS : MS S) (hf : cells ≤ room_1.cells ∧ slots ≤ room_1.slots) (v3 : Int32) (hin1 : vp_in (v3 + (1 : Int32)) L) (hin2 : vp_in (v3 + (2 : Int32)) L) (hin3 : vp_in (v3 + (3 : Int32)) L) (hin4 : vp_in (v3 + (4 : Int32)) L) (hin5 : vp_in (v3 + (5 : Int32)) L) (hp1 : p_X11_restore S 0 (xs (v3 + (1 : Int32)).toNatClampNeg)) (hp2 : p_X12_restore (f_X11_restore S 0 (xs (v3 + (1 : Int32)).toNatClampNeg)).2 64 (xs (v3 + (1 : Int32)).toNatClampNeg)) (hEq : (f_X11_restore S 0 (xs (v3 + (1 : Int32)).toNatClampNeg)).1 = (f_X12_restore (f_X11_restore S 0 (xs (v3 + (1 : Int32)).toNatClampNeg)).2 64 (xs (v3 + (1 : Int32)).toNatClampNeg)).1) (hnx : AW p l e room_1 s m args below meth c G 4 Q (f_X12_restore (f_X11_restore S 0 (xs (v3 + (1 : Int32)).toNatClampNeg)).2 64 (xs (v3 + (1 : Int32)).toNatClampNeg)).2 cells slots 1323 [(3, .int v3), (0, .ref 5000), (1, .ref 0), (2, .ref 64)] []) : AW p l e room_1 s m args below meth c G 4 Q S cells slots 1147 [(3, .int v3), (0, .ref 5000), (1, .ref 0), (2, .ref 64)] [] := by
  refine aw_aload_n hC 2 dL_law_1147 rfl rfl ?_
  refine aw_aload_n hC 1 dL_law_1148 rfl rfl ?_
  refine aw_iload_n hC 0 dL_law_1149 rfl rfl ?_
  refine aw_iconst (v := 1) hC dL_law_1150 (by decide) ?_
  refine aw_iadd hC dL_law_1151 ?_
  refine aw_sld hC hX hin1 dL_law_1152 ?_
  refine aw_cV1r hC hSt (t_X11_restore G l hCS _ hp1) w_889 w_1481 w_1482 w_1483 w_517 rfl rfl (by decide +kernel) ⟨(Nat.le_of_ble_eq_true rfl), (Nat.le_of_ble_eq_true rfl)⟩ (cs_lt 0 11 0 (by decide) hCS) (cs_k 0 11 0 (by decide) hCS) rfl (Nat.le_of_ble_eq_true rfl) dL_law_1153 hf ?_
  have hMS1 : MS (f_X11_restore S 0 (xs (v3 + (1 : Int32)).toNatClampNeg)).2 := MS.of (q_X11_restore _ _ _) hMS
  refine aw_aload_n hC 3 dL_law_1156 rfl rfl ?_
  refine aw_aload_n hC 1 dL_law_1157 rfl rfl ?_
  refine aw_iload_n hC 0 dL_law_1158 rfl rfl ?_
  refine aw_iconst (v := 1) hC dL_law_1159 (by decide) ?_
  refine aw_iadd hC dL_law_1160 ?_
  refine aw_sld hC hX hin1 dL_law_1161 ?_
  refine aw_cV1r hC hSt (t_X12_restore G l hMS1 _ hp2) w_1268 w_1484 w_1485 w_1486 w_953 rfl rfl (by decide +kernel) ⟨(Nat.le_of_ble_eq_true rfl), (Nat.le_of_ble_eq_true rfl)⟩ (ms_lt 64 (by decide) hMS1) (ms_k 64 12 0 (by decide) hMS1) rfl (Nat.le_of_ble_eq_true rfl) dL_law_1162 hf ?_
  refine aw_lcmp hC dL_law_1165 ?_
  exact aw_if_eq hC 1323 dL_law_1166 (by decide) (fun _ => hnx) (fun h => absurd (by rw [hEq]; exact lg_self _) h)
/-- what is owed of kind -/
def K_kind (Inv : Nat → HSt → Prop) : Prop := ∀ (n : Nat) (S : HSt) (a1 : Int32), n < 512 → Inv n S → p_X11_kind S 0 a1 ∧ p_X12_kind S 64 a1 ∧ f_X11_kind S 0 a1 = (f_X12_kind S 64 a1).1 ∧ Inv (n + 1) (f_X12_kind S 64 a1).2
set_option maxRecDepth 100000 in
theorem lw_c30 {p : Program} {l : Launch} {e : Env} {s : State} {m : MethodId} {args : Array Value} {below : List Frame} {meth : Method} {c : Code} {G : GG} {Q : State → Prop} {S : HSt} {cells slots : Nat} {L : Nat} {xs : Nat → Int32} (hC : ACx p s m args meth c cL_law RL 4 (some .boolean)) (hSt : St G s) (hX : SCR G s L xs) (hCS : CS S) (hMS : MS S) (hf : cells ≤ room_1.cells ∧ slots ≤ room_1.slots) (v3 : Int32) (hin1 : vp_in (v3 + (1 : Int32)) L) (hin2 : vp_in (v3 + (2 : Int32)) L) (hin3 : vp_in (v3 + (3 : Int32)) L) (hin4 : vp_in (v3 + (4 : Int32)) L) (hin5 : vp_in (v3 + (5 : Int32)) L) (hp1 : p_X11_kind S 0 (xs (v3 + (1 : Int32)).toNatClampNeg)) (hp2 : p_X12_kind S 64 (xs (v3 + (1 : Int32)).toNatClampNeg)) (hEq : f_X11_kind S 0 (xs (v3 + (1 : Int32)).toNatClampNeg) = (f_X12_kind S 64 (xs (v3 + (1 : Int32)).toNatClampNeg)).1) (hnx : AW p l e room_1 s m args below meth c G 4 Q (f_X12_kind S 64 (xs (v3 + (1 : Int32)).toNatClampNeg)).2 cells slots 1323 [(3, .int v3), (0, .ref 5000), (1, .ref 0), (2, .ref 64)] []) : AW p l e room_1 s m args below meth c G 4 Q S cells slots 1171 [(3, .int v3), (0, .ref 5000), (1, .ref 0), (2, .ref 64)] [] := by
  refine aw_aload_n hC 2 dL_law_1171 rfl rfl ?_
  refine aw_aload_n hC 1 dL_law_1172 rfl rfl ?_
  refine aw_iload_n hC 0 dL_law_1173 rfl rfl ?_
  refine aw_iconst (v := 1) hC dL_law_1174 (by decide) ?_
  refine aw_iadd hC dL_law_1175 ?_
  refine aw_sld hC hX hin1 dL_law_1176 ?_
  refine aw_cV1r hC hSt (t_X11_kind G l hCS _ hp1) w_891 w_1487 w_1488 w_1489 w_517 rfl rfl (by decide +kernel) ⟨(Nat.le_of_ble_eq_true rfl), (Nat.le_of_ble_eq_true rfl)⟩ (cs_lt 0 11 0 (by decide) hCS) (cs_k 0 11 0 (by decide) hCS) rfl (Nat.le_of_ble_eq_true rfl) dL_law_1177 hf ?_
  have hMS1 : MS S := hMS
  refine aw_aload_n hC 3 dL_law_1180 rfl rfl ?_
  refine aw_aload_n hC 1 dL_law_1181 rfl rfl ?_
  refine aw_iload_n hC 0 dL_law_1182 rfl rfl ?_
  refine aw_iconst (v := 1) hC dL_law_1183 (by decide) ?_
  refine aw_iadd hC dL_law_1184 ?_
  refine aw_sld hC hX hin1 dL_law_1185 ?_
  refine aw_cV1r hC hSt (t_X12_kind G l hMS1 _ hp2) w_1270 w_1490 w_1491 w_1492 w_953 rfl rfl (by decide +kernel) ⟨(Nat.le_of_ble_eq_true rfl), (Nat.le_of_ble_eq_true rfl)⟩ (ms_lt 64 (by decide) hMS1) (ms_k 64 12 0 (by decide) hMS1) rfl (Nat.le_of_ble_eq_true rfl) dL_law_1186 hf ?_
  refine aw_lcmp hC dL_law_1189 ?_
  exact aw_if_eq hC 1323 dL_law_1190 (by decide) (fun _ => hnx) (fun h => absurd (by rw [hEq]; exact lg_self _) h)
/-- what is owed of as -/
def K_as (Inv : Nat → HSt → Prop) : Prop := ∀ (n : Nat) (S : HSt) (a1 : Int32) (a2 : Int32), n < 512 → Inv n S → p_X11_as S 0 a1 a2 ∧ p_X12_as (f_X11_as S 0 a1 a2).2 64 a1 a2 ∧ (f_X11_as S 0 a1 a2).1 = (f_X12_as (f_X11_as S 0 a1 a2).2 64 a1 a2).1 ∧ Inv (n + 1) (f_X12_as (f_X11_as S 0 a1 a2).2 64 a1 a2).2
set_option maxRecDepth 100000 in
theorem lw_c31 {p : Program} {l : Launch} {e : Env} {s : State} {m : MethodId} {args : Array Value} {below : List Frame} {meth : Method} {c : Code} {G : GG} {Q : State → Prop} {S : HSt} {cells slots : Nat} {L : Nat} {xs : Nat → Int32} (hC : ACx p s m args meth c cL_law RL 4 (some .boolean)) (hSt : St G s) (hX : SCR G s L xs) (hCS : CS S) (hMS : MS S) (hf : cells ≤ room_1.cells ∧ slots ≤ room_1.slots) (v3 : Int32) (hin1 : vp_in (v3 + (1 : Int32)) L) (hin2 : vp_in (v3 + (2 : Int32)) L) (hin3 : vp_in (v3 + (3 : Int32)) L) (hin4 : vp_in (v3 + (4 : Int32)) L) (hin5 : vp_in (v3 + (5 : Int32)) L) (hp1 : p_X11_as S 0 (xs (v3 + (1 : Int32)).toNatClampNeg) (xs (v3 + (2 : Int32)).toNatClampNeg)) (hp2 : p_X12_as (f_X11_as S 0 (xs (v3 + (1 : Int32)).toNatClampNeg) (xs (v3 + (2 : Int32)).toNatClampNeg)).2 64 (xs (v3 + (1 : Int32)).toNatClampNeg) (xs (v3 + (2 : Int32)).toNatClampNeg)) (hEq : (f_X11_as S 0 (xs (v3 + (1 : Int32)).toNatClampNeg) (xs (v3 + (2 : Int32)).toNatClampNeg)).1 = (f_X12_as (f_X11_as S 0 (xs (v3 + (1 : Int32)).toNatClampNeg) (xs (v3 + (2 : Int32)).toNatClampNeg)).2 64 (xs (v3 + (1 : Int32)).toNatClampNeg) (xs (v3 + (2 : Int32)).toNatClampNeg)).1) (hnx : AW p l e room_1 s m args below meth c G 4 Q (f_X12_as (f_X11_as S 0 (xs (v3 + (1 : Int32)).toNatClampNeg) (xs (v3 + (2 : Int32)).toNatClampNeg)).2 64 (xs (v3 + (1 : Int32)).toNatClampNeg) (xs (v3 + (2 : Int32)).toNatClampNeg)).2 cells slots 1323 [(3, .int v3), (0, .ref 5000), (1, .ref 0), (2, .ref 64)] []) : AW p l e room_1 s m args below meth c G 4 Q S cells slots 1195 [(3, .int v3), (0, .ref 5000), (1, .ref 0), (2, .ref 64)] [] := by
  refine aw_aload_n hC 2 dL_law_1195 rfl rfl ?_
  refine aw_aload_n hC 1 dL_law_1196 rfl rfl ?_
  refine aw_iload_n hC 0 dL_law_1197 rfl rfl ?_
  refine aw_iconst (v := 1) hC dL_law_1198 (by decide) ?_
  refine aw_iadd hC dL_law_1199 ?_
  refine aw_sld hC hX hin1 dL_law_1200 ?_
  refine aw_aload_n hC 1 dL_law_1201 rfl rfl ?_
  refine aw_iload_n hC 0 dL_law_1202 rfl rfl ?_
  refine aw_iconst (v := 2) hC dL_law_1203 (by decide) ?_
  refine aw_iadd hC dL_law_1204 ?_
  refine aw_sld hC hX hin2 dL_law_1205 ?_
  refine aw_cV2r hC hSt (t_X11_as G l hCS _ _ hp1) w_892 w_1493 w_1494 w_1495 w_517 rfl rfl (by decide +kernel) ⟨(Nat.le_of_ble_eq_true rfl), (Nat.le_of_ble_eq_true rfl)⟩ (cs_lt 0 11 0 (by decide) hCS) (cs_k 0 11 0 (by decide) hCS) rfl (Nat.le_of_ble_eq_true rfl) dL_law_1206 hf ?_
  have hMS1 : MS (f_X11_as S 0 (xs (v3 + (1 : Int32)).toNatClampNeg) (xs (v3 + (2 : Int32)).toNatClampNeg)).2 := MS.of (q_X11_as _ _ _ _) hMS
  refine aw_aload_n hC 3 dL_law_1209 rfl rfl ?_
  refine aw_aload_n hC 1 dL_law_1210 rfl rfl ?_
  refine aw_iload_n hC 0 dL_law_1211 rfl rfl ?_
  refine aw_iconst (v := 1) hC dL_law_1212 (by decide) ?_
  refine aw_iadd hC dL_law_1213 ?_
  refine aw_sld hC hX hin1 dL_law_1214 ?_
  refine aw_aload_n hC 1 dL_law_1215 rfl rfl ?_
  refine aw_iload_n hC 0 dL_law_1216 rfl rfl ?_
  refine aw_iconst (v := 2) hC dL_law_1217 (by decide) ?_
  refine aw_iadd hC dL_law_1218 ?_
  refine aw_sld hC hX hin2 dL_law_1219 ?_
  refine aw_cV2r hC hSt (t_X12_as G l hMS1 _ _ hp2) w_1273 w_1496 w_1497 w_1498 w_953 rfl rfl (by decide +kernel) ⟨(Nat.le_of_ble_eq_true rfl), (Nat.le_of_ble_eq_true rfl)⟩ (ms_lt 64 (by decide) hMS1) (ms_k 64 12 0 (by decide) hMS1) rfl (Nat.le_of_ble_eq_true rfl) dL_law_1220 hf ?_
  refine aw_lcmp hC dL_law_1223 ?_
  exact aw_if_eq hC 1323 dL_law_1224 (by decide) (fun _ => hnx) (fun h => absurd (by rw [hEq]; exact lg_self _) h)
/-- what is owed of ask -/
def K_ask (Inv : Nat → HSt → Prop) : Prop := ∀ (n : Nat) (S : HSt) (a1 : Int32) (a2 : Int32), n < 512 → Inv n S → p_X11_ask S 0 a1 a2 ∧ p_X12_ask (f_X11_ask S 0 a1 a2).2 64 a1 a2 ∧ (f_X11_ask S 0 a1 a2).1 = (f_X12_ask (f_X11_ask S 0 a1 a2).2 64 a1 a2).1 ∧ Inv (n + 1) (f_X12_ask (f_X11_ask S 0 a1 a2).2 64 a1 a2).2
set_option maxRecDepth 100000 in
theorem lw_c32 {p : Program} {l : Launch} {e : Env} {s : State} {m : MethodId} {args : Array Value} {below : List Frame} {meth : Method} {c : Code} {G : GG} {Q : State → Prop} {S : HSt} {cells slots : Nat} {L : Nat} {xs : Nat → Int32} (hC : ACx p s m args meth c cL_law RL 4 (some .boolean)) (hSt : St G s) (hX : SCR G s L xs) (hCS : CS S) (hMS : MS S) (hf : cells ≤ room_1.cells ∧ slots ≤ room_1.slots) (v3 : Int32) (hin1 : vp_in (v3 + (1 : Int32)) L) (hin2 : vp_in (v3 + (2 : Int32)) L) (hin3 : vp_in (v3 + (3 : Int32)) L) (hin4 : vp_in (v3 + (4 : Int32)) L) (hin5 : vp_in (v3 + (5 : Int32)) L) (hp1 : p_X11_ask S 0 (xs (v3 + (1 : Int32)).toNatClampNeg) (xs (v3 + (2 : Int32)).toNatClampNeg)) (hp2 : p_X12_ask (f_X11_ask S 0 (xs (v3 + (1 : Int32)).toNatClampNeg) (xs (v3 + (2 : Int32)).toNatClampNeg)).2 64 (xs (v3 + (1 : Int32)).toNatClampNeg) (xs (v3 + (2 : Int32)).toNatClampNeg)) (hEq : (f_X11_ask S 0 (xs (v3 + (1 : Int32)).toNatClampNeg) (xs (v3 + (2 : Int32)).toNatClampNeg)).1 = (f_X12_ask (f_X11_ask S 0 (xs (v3 + (1 : Int32)).toNatClampNeg) (xs (v3 + (2 : Int32)).toNatClampNeg)).2 64 (xs (v3 + (1 : Int32)).toNatClampNeg) (xs (v3 + (2 : Int32)).toNatClampNeg)).1) (hnx : AW p l e room_1 s m args below meth c G 4 Q (f_X12_ask (f_X11_ask S 0 (xs (v3 + (1 : Int32)).toNatClampNeg) (xs (v3 + (2 : Int32)).toNatClampNeg)).2 64 (xs (v3 + (1 : Int32)).toNatClampNeg) (xs (v3 + (2 : Int32)).toNatClampNeg)).2 cells slots 1323 [(3, .int v3), (0, .ref 5000), (1, .ref 0), (2, .ref 64)] []) : AW p l e room_1 s m args below meth c G 4 Q S cells slots 1229 [(3, .int v3), (0, .ref 5000), (1, .ref 0), (2, .ref 64)] [] := by
  refine aw_aload_n hC 2 dL_law_1229 rfl rfl ?_
  refine aw_aload_n hC 1 dL_law_1230 rfl rfl ?_
  refine aw_iload_n hC 0 dL_law_1231 rfl rfl ?_
  refine aw_iconst (v := 1) hC dL_law_1232 (by decide) ?_
  refine aw_iadd hC dL_law_1233 ?_
  refine aw_sld hC hX hin1 dL_law_1234 ?_
  refine aw_aload_n hC 1 dL_law_1235 rfl rfl ?_
  refine aw_iload_n hC 0 dL_law_1236 rfl rfl ?_
  refine aw_iconst (v := 2) hC dL_law_1237 (by decide) ?_
  refine aw_iadd hC dL_law_1238 ?_
  refine aw_sld hC hX hin2 dL_law_1239 ?_
  refine aw_cV2r hC hSt (t_X11_ask G l hCS _ _ hp1) w_899 w_1499 w_1500 w_1501 w_517 rfl rfl (by decide +kernel) ⟨(Nat.le_of_ble_eq_true rfl), (Nat.le_of_ble_eq_true rfl)⟩ (cs_lt 0 11 0 (by decide) hCS) (cs_k 0 11 0 (by decide) hCS) rfl (Nat.le_of_ble_eq_true rfl) dL_law_1240 hf ?_
  have hMS1 : MS (f_X11_ask S 0 (xs (v3 + (1 : Int32)).toNatClampNeg) (xs (v3 + (2 : Int32)).toNatClampNeg)).2 := MS.of (q_X11_ask _ _ _ _) hMS
  refine aw_aload_n hC 3 dL_law_1243 rfl rfl ?_
  refine aw_aload_n hC 1 dL_law_1244 rfl rfl ?_
  refine aw_iload_n hC 0 dL_law_1245 rfl rfl ?_
  refine aw_iconst (v := 1) hC dL_law_1246 (by decide) ?_
  refine aw_iadd hC dL_law_1247 ?_
  refine aw_sld hC hX hin1 dL_law_1248 ?_
  refine aw_aload_n hC 1 dL_law_1249 rfl rfl ?_
  refine aw_iload_n hC 0 dL_law_1250 rfl rfl ?_
  refine aw_iconst (v := 2) hC dL_law_1251 (by decide) ?_
  refine aw_iadd hC dL_law_1252 ?_
  refine aw_sld hC hX hin2 dL_law_1253 ?_
  refine aw_cV2r hC hSt (t_X12_ask G l hMS1 _ _ hp2) w_1291 w_1502 w_1503 w_1504 w_953 rfl rfl (by decide +kernel) ⟨(Nat.le_of_ble_eq_true rfl), (Nat.le_of_ble_eq_true rfl)⟩ (ms_lt 64 (by decide) hMS1) (ms_k 64 12 0 (by decide) hMS1) rfl (Nat.le_of_ble_eq_true rfl) dL_law_1254 hf ?_
  refine aw_lcmp hC dL_law_1257 ?_
  exact aw_if_eq hC 1323 dL_law_1258 (by decide) (fun _ => hnx) (fun h => absurd (by rw [hEq]; exact lg_self _) h)
/-- what is owed of trace -/
def K_trace (Inv : Nat → HSt → Prop) : Prop := ∀ (n : Nat) (S : HSt) (a1 : Int32), n < 512 → Inv n S → p_X11_trace S 0 a1 ∧ p_X12_trace S 64 a1 ∧ f_X11_trace S 0 a1 = (f_X12_trace S 64 a1).1 ∧ Inv (n + 1) (f_X12_trace S 64 a1).2
set_option maxRecDepth 100000 in
theorem lw_c33 {p : Program} {l : Launch} {e : Env} {s : State} {m : MethodId} {args : Array Value} {below : List Frame} {meth : Method} {c : Code} {G : GG} {Q : State → Prop} {S : HSt} {cells slots : Nat} {L : Nat} {xs : Nat → Int32} (hC : ACx p s m args meth c cL_law RL 4 (some .boolean)) (hSt : St G s) (hX : SCR G s L xs) (hCS : CS S) (hMS : MS S) (hf : cells ≤ room_1.cells ∧ slots ≤ room_1.slots) (v3 : Int32) (hin1 : vp_in (v3 + (1 : Int32)) L) (hin2 : vp_in (v3 + (2 : Int32)) L) (hin3 : vp_in (v3 + (3 : Int32)) L) (hin4 : vp_in (v3 + (4 : Int32)) L) (hin5 : vp_in (v3 + (5 : Int32)) L) (hp1 : p_X11_trace S 0 (xs (v3 + (1 : Int32)).toNatClampNeg)) (hp2 : p_X12_trace S 64 (xs (v3 + (1 : Int32)).toNatClampNeg)) (hEq : f_X11_trace S 0 (xs (v3 + (1 : Int32)).toNatClampNeg) = (f_X12_trace S 64 (xs (v3 + (1 : Int32)).toNatClampNeg)).1) (hnx : AW p l e room_1 s m args below meth c G 4 Q (f_X12_trace S 64 (xs (v3 + (1 : Int32)).toNatClampNeg)).2 cells slots 1323 [(3, .int v3), (0, .ref 5000), (1, .ref 0), (2, .ref 64)] []) : AW p l e room_1 s m args below meth c G 4 Q S cells slots 1263 [(3, .int v3), (0, .ref 5000), (1, .ref 0), (2, .ref 64)] [] := by
  refine aw_aload_n hC 2 dL_law_1263 rfl rfl ?_
  refine aw_aload_n hC 1 dL_law_1264 rfl rfl ?_
  refine aw_iload_n hC 0 dL_law_1265 rfl rfl ?_
  refine aw_iconst (v := 1) hC dL_law_1266 (by decide) ?_
  refine aw_iadd hC dL_law_1267 ?_
  refine aw_sld hC hX hin1 dL_law_1268 ?_
  refine aw_cV1r hC hSt (t_X11_trace G l hCS _ hp1) w_900 w_1505 w_1506 w_1507 w_517 rfl rfl (by decide +kernel) ⟨(Nat.le_of_ble_eq_true rfl), (Nat.le_of_ble_eq_true rfl)⟩ (cs_lt 0 11 0 (by decide) hCS) (cs_k 0 11 0 (by decide) hCS) rfl (Nat.le_of_ble_eq_true rfl) dL_law_1269 hf ?_
  have hMS1 : MS S := hMS
  refine aw_aload_n hC 3 dL_law_1272 rfl rfl ?_
  refine aw_aload_n hC 1 dL_law_1273 rfl rfl ?_
  refine aw_iload_n hC 0 dL_law_1274 rfl rfl ?_
  refine aw_iconst (v := 1) hC dL_law_1275 (by decide) ?_
  refine aw_iadd hC dL_law_1276 ?_
  refine aw_sld hC hX hin1 dL_law_1277 ?_
  refine aw_cV1r hC hSt (t_X12_trace G l hMS1 _ hp2) w_1292 w_1508 w_1509 w_1510 w_953 rfl rfl (by decide +kernel) ⟨(Nat.le_of_ble_eq_true rfl), (Nat.le_of_ble_eq_true rfl)⟩ (ms_lt 64 (by decide) hMS1) (ms_k 64 12 0 (by decide) hMS1) rfl (Nat.le_of_ble_eq_true rfl) dL_law_1278 hf ?_
  exact aw_icmp_eq hC 1323 dL_law_1281 (by decide) (fun _ => hnx) (fun h => absurd hEq h)
/-- what is owed of count -/
def K_count (Inv : Nat → HSt → Prop) : Prop := ∀ (n : Nat) (S : HSt) (a1 : Int32), n < 512 → Inv n S → p_X11_count S 0 a1 ∧ p_X12_count S 64 a1 ∧ f_X11_count S 0 a1 = (f_X12_count S 64 a1).1 ∧ Inv (n + 1) (f_X12_count S 64 a1).2
set_option maxRecDepth 100000 in
theorem lw_c34 {p : Program} {l : Launch} {e : Env} {s : State} {m : MethodId} {args : Array Value} {below : List Frame} {meth : Method} {c : Code} {G : GG} {Q : State → Prop} {S : HSt} {cells slots : Nat} {L : Nat} {xs : Nat → Int32} (hC : ACx p s m args meth c cL_law RL 4 (some .boolean)) (hSt : St G s) (hX : SCR G s L xs) (hCS : CS S) (hMS : MS S) (hf : cells ≤ room_1.cells ∧ slots ≤ room_1.slots) (v3 : Int32) (hin1 : vp_in (v3 + (1 : Int32)) L) (hin2 : vp_in (v3 + (2 : Int32)) L) (hin3 : vp_in (v3 + (3 : Int32)) L) (hin4 : vp_in (v3 + (4 : Int32)) L) (hin5 : vp_in (v3 + (5 : Int32)) L) (hp1 : p_X11_count S 0 (xs (v3 + (1 : Int32)).toNatClampNeg)) (hp2 : p_X12_count S 64 (xs (v3 + (1 : Int32)).toNatClampNeg)) (hEq : f_X11_count S 0 (xs (v3 + (1 : Int32)).toNatClampNeg) = (f_X12_count S 64 (xs (v3 + (1 : Int32)).toNatClampNeg)).1) (hnx : AW p l e room_1 s m args below meth c G 4 Q (f_X12_count S 64 (xs (v3 + (1 : Int32)).toNatClampNeg)).2 cells slots 1323 [(3, .int v3), (0, .ref 5000), (1, .ref 0), (2, .ref 64)] []) : AW p l e room_1 s m args below meth c G 4 Q S cells slots 1286 [(3, .int v3), (0, .ref 5000), (1, .ref 0), (2, .ref 64)] [] := by
  refine aw_aload_n hC 2 dL_law_1286 rfl rfl ?_
  refine aw_aload_n hC 1 dL_law_1287 rfl rfl ?_
  refine aw_iload_n hC 0 dL_law_1288 rfl rfl ?_
  refine aw_iconst (v := 1) hC dL_law_1289 (by decide) ?_
  refine aw_iadd hC dL_law_1290 ?_
  refine aw_sld hC hX hin1 dL_law_1291 ?_
  refine aw_cV1r hC hSt (t_X11_count G l hCS _ hp1) w_914 w_1511 w_1512 w_1513 w_517 rfl rfl (by decide +kernel) ⟨(Nat.le_of_ble_eq_true rfl), (Nat.le_of_ble_eq_true rfl)⟩ (cs_lt 0 11 0 (by decide) hCS) (cs_k 0 11 0 (by decide) hCS) rfl (Nat.le_of_ble_eq_true rfl) dL_law_1292 hf ?_
  have hMS1 : MS S := hMS
  refine aw_aload_n hC 3 dL_law_1295 rfl rfl ?_
  refine aw_aload_n hC 1 dL_law_1296 rfl rfl ?_
  refine aw_iload_n hC 0 dL_law_1297 rfl rfl ?_
  refine aw_iconst (v := 1) hC dL_law_1298 (by decide) ?_
  refine aw_iadd hC dL_law_1299 ?_
  refine aw_sld hC hX hin1 dL_law_1300 ?_
  refine aw_cV1r hC hSt (t_X12_count G l hMS1 _ hp2) w_1293 w_1514 w_1515 w_1516 w_953 rfl rfl (by decide +kernel) ⟨(Nat.le_of_ble_eq_true rfl), (Nat.le_of_ble_eq_true rfl)⟩ (ms_lt 64 (by decide) hMS1) (ms_k 64 12 0 (by decide) hMS1) rfl (Nat.le_of_ble_eq_true rfl) dL_law_1301 hf ?_
  refine aw_lcmp hC dL_law_1304 ?_
  exact aw_if_eq hC 1323 dL_law_1305 (by decide) (fun _ => hnx) (fun h => absurd (by rw [hEq]; exact lg_self _) h)
/-- what is owed of status -/
def K_status (Inv : Nat → HSt → Prop) : Prop := ∀ (n : Nat) (S : HSt), n < 512 → Inv n S → f_X11_status S 0 = (f_X12_status S 64).1 ∧ Inv (n + 1) (f_X12_status S 64).2
set_option maxRecDepth 100000 in
theorem lw_c35 {p : Program} {l : Launch} {e : Env} {s : State} {m : MethodId} {args : Array Value} {below : List Frame} {meth : Method} {c : Code} {G : GG} {Q : State → Prop} {S : HSt} {cells slots : Nat} {L : Nat} {xs : Nat → Int32} (hC : ACx p s m args meth c cL_law RL 4 (some .boolean)) (hSt : St G s) (hX : SCR G s L xs) (hCS : CS S) (hMS : MS S) (hf : cells ≤ room_1.cells ∧ slots ≤ room_1.slots) (v3 : Int32) (hin1 : vp_in (v3 + (1 : Int32)) L) (hin2 : vp_in (v3 + (2 : Int32)) L) (hin3 : vp_in (v3 + (3 : Int32)) L) (hin4 : vp_in (v3 + (4 : Int32)) L) (hin5 : vp_in (v3 + (5 : Int32)) L) (hEq : f_X11_status S 0 = (f_X12_status S 64).1) (hnx : AW p l e room_1 s m args below meth c G 4 Q (f_X12_status S 64 ).2 cells slots 1323 [(3, .int v3), (0, .ref 5000), (1, .ref 0), (2, .ref 64)] []) : AW p l e room_1 s m args below meth c G 4 Q S cells slots 1310 [(3, .int v3), (0, .ref 5000), (1, .ref 0), (2, .ref 64)] [] := by
  refine aw_aload_n hC 2 dL_law_1310 rfl rfl ?_
  refine aw_cV0r hC hSt (t_X11_status G l hCS) w_915 w_1517 w_1518 w_1519 w_517 rfl rfl (by decide +kernel) ⟨(Nat.le_of_ble_eq_true rfl), (Nat.le_of_ble_eq_true rfl)⟩ (cs_lt 0 11 0 (by decide) hCS) (cs_k 0 11 0 (by decide) hCS) rfl (Nat.le_of_ble_eq_true rfl) dL_law_1311 hf ?_
  have hMS1 : MS S := hMS
  refine aw_aload_n hC 3 dL_law_1314 rfl rfl ?_
  refine aw_cV0r hC hSt (t_X12_status G l hMS1) w_1294 w_1520 w_1521 w_1522 w_953 rfl rfl (by decide +kernel) ⟨(Nat.le_of_ble_eq_true rfl), (Nat.le_of_ble_eq_true rfl)⟩ (ms_lt 64 (by decide) hMS1) (ms_k 64 12 0 (by decide) hMS1) rfl (Nat.le_of_ble_eq_true rfl) dL_law_1315 hf ?_
  exact aw_icmp_eq hC 1323 dL_law_1318 (by decide) (fun _ => hnx) (fun h => absurd hEq h)
set_option maxRecDepth 100000 in
theorem lw_c24E {p : Program} {l : Launch} {e : Env} {s : State} {m : MethodId} {args : Array Value} {below : List Frame} {meth : Method} {c : Code} {G : GG} {Q : State → Prop} {S : HSt} {cells slots : Nat} {L : Nat} {xs : Nat → Int32} (hC : ACx p s m args meth c cL_law RL 4 (some .boolean)) (hSt : St G s) (hX : SCR G s L xs) (hCS : CS S) (hf : cells + 0 ≤ room_1.cells ∧ slots + 0 ≤ room_1.slots) (v3 : Int32) (hin1 : vp_in (v3 + (1 : Int32)) L) (hin2 : vp_in (v3 + (2 : Int32)) L) (hin3 : vp_in (v3 + (3 : Int32)) L) (hin4 : vp_in (v3 + (4 : Int32)) L) (hin5 : vp_in (v3 + (5 : Int32)) L) (hE : ¬ fewGo S (xs (v3 + (1 : Int32)).toNatClampNeg) (xs (v3 + (2 : Int32)).toNatClampNeg)) (hMS1 : MS S) (hp2 : p_X12_fewest S 64 (xs (v3 + (1 : Int32)).toNatClampNeg) (xs (v3 + (2 : Int32)).toNatClampNeg)) (hEq : f_X11_fewestE S (xs (v3 + (1 : Int32)).toNatClampNeg) (xs (v3 + (2 : Int32)).toNatClampNeg) = (f_X12_fewest S 64 (xs (v3 + (1 : Int32)).toNatClampNeg) (xs (v3 + (2 : Int32)).toNatClampNeg)).1) (hnx : AW p l e room_1 s m args below meth c G 4 Q (f_X12_fewest S 64 (xs (v3 + (1 : Int32)).toNatClampNeg) (xs (v3 + (2 : Int32)).toNatClampNeg)).2 (cells + 0) (slots + 0) 1323 [(3, .int v3), (0, .ref 5000), (1, .ref 0), (2, .ref 64)] []) : AW p l e room_1 s m args below meth c G 4 Q S cells slots 977 [(3, .int v3), (0, .ref 5000), (1, .ref 0), (2, .ref 64)] [] := by
  refine aw_aload_n hC 2 dL_law_977 rfl rfl ?_
  refine aw_aload_n hC 1 dL_law_978 rfl rfl ?_
  refine aw_iload_n hC 0 dL_law_979 rfl rfl ?_
  refine aw_iconst (v := 1) hC dL_law_980 (by decide) ?_
  refine aw_iadd hC dL_law_981 ?_
  refine aw_sld hC hX hin1 dL_law_982 ?_
  refine aw_aload_n hC 1 dL_law_983 rfl rfl ?_
  refine aw_iload_n hC 0 dL_law_984 rfl rfl ?_
  refine aw_iconst (v := 2) hC dL_law_985 (by decide) ?_
  refine aw_iadd hC dL_law_986 ?_
  refine aw_sld hC hX hin2 dL_law_987 ?_
  refine aw_callV hC hSt [.int (xs (v3 + (1 : Int32)).toNatClampNeg), .int (xs (v3 + (2 : Int32)).toNatClampNeg)] 2 (t_X11_fewestE G l hCS _ _ hE) w_862 w_1451 w_1452 w_1453 w_517 rfl rfl (by decide +kernel) ⟨(Nat.le_of_ble_eq_true rfl), (Nat.le_of_ble_eq_true rfl)⟩ (cs_lt 0 11 0 (by decide) hCS) (cs_k 0 11 0 (by decide) hCS) rfl rfl rfl (Nat.le_of_ble_eq_true rfl) dL_law_988 hf (fun r S3 h => ?_)
  obtain ⟨rfl, rfl⟩ := h
  refine aw_aload_n hC 3 dL_law_991 rfl rfl ?_
  refine aw_aload_n hC 1 dL_law_992 rfl rfl ?_
  refine aw_iload_n hC 0 dL_law_993 rfl rfl ?_
  refine aw_iconst (v := 1) hC dL_law_994 (by decide) ?_
  refine aw_iadd hC dL_law_995 ?_
  refine aw_sld hC hX hin1 dL_law_996 ?_
  refine aw_aload_n hC 1 dL_law_997 rfl rfl ?_
  refine aw_iload_n hC 0 dL_law_998 rfl rfl ?_
  refine aw_iconst (v := 2) hC dL_law_999 (by decide) ?_
  refine aw_iadd hC dL_law_1000 ?_
  refine aw_sld hC hX hin2 dL_law_1001 ?_
  refine aw_cV2r hC hSt (t_X12_fewest G l hMS1 _ _ hp2) w_1242 w_1454 w_1455 w_1456 w_953 rfl rfl (by decide +kernel) ⟨(Nat.le_of_ble_eq_true rfl), (Nat.le_of_ble_eq_true rfl)⟩ (ms_lt 64 (by decide) hMS1) (ms_k 64 12 0 (by decide) hMS1) rfl (Nat.le_of_ble_eq_true rfl) dL_law_1002 hf ?_
  refine aw_lcmp hC dL_law_1005 ?_
  exact aw_if_eq hC 1323 dL_law_1006 (by decide) (fun _ => hnx) (fun h => absurd (by rw [hEq]; exact lg_self _) h)
set_option maxRecDepth 100000 in
theorem lw_c24R {p : Program} {l : Launch} {e : Env} {s : State} {m : MethodId} {args : Array Value} {below : List Frame} {meth : Method} {c : Code} {G : GG} {Q : State → Prop} {S : HSt} {cells slots : Nat} {L : Nat} {xs : Nat → Int32} (hC : ACx p s m args meth c cL_law RL 4 (some .boolean)) (hSt : St G s) (hX : SCR G s L xs) (hCS : CS S) (hf : cells + 0 ≤ room_1.cells ∧ slots + 0 ≤ room_1.slots) (v3 : Int32) (hin1 : vp_in (v3 + (1 : Int32)) L) (hin2 : vp_in (v3 + (2 : Int32)) L) (hin3 : vp_in (v3 + (3 : Int32)) L) (hin4 : vp_in (v3 + (4 : Int32)) L) (hin5 : vp_in (v3 + (5 : Int32)) L) {h nx : Nat} (hRS : RS h nx S) (h9 : gP S 0 9 = some 88) (hE : fewGo S (xs (v3 + (1 : Int32)).toNatClampNeg) (xs (v3 + (2 : Int32)).toNatClampNeg)) (hp1 : p_X3_ticksTo S h nx 88 18 (xs (v3 + (1 : Int32)).toNatClampNeg) (xs (v3 + (2 : Int32)).toNatClampNeg)) (hMS1 : MS (f_X3_ticksTo S h nx 88 18 (xs (v3 + (1 : Int32)).toNatClampNeg) (xs (v3 + (2 : Int32)).toNatClampNeg)).2) (hp2 : p_X12_fewest (f_X3_ticksTo S h nx 88 18 (xs (v3 + (1 : Int32)).toNatClampNeg) (xs (v3 + (2 : Int32)).toNatClampNeg)).2 64 (xs (v3 + (1 : Int32)).toNatClampNeg) (xs (v3 + (2 : Int32)).toNatClampNeg)) (hEq : (f_X3_ticksTo S h nx 88 18 (xs (v3 + (1 : Int32)).toNatClampNeg) (xs (v3 + (2 : Int32)).toNatClampNeg)).1.toInt64 = (f_X12_fewest (f_X3_ticksTo S h nx 88 18 (xs (v3 + (1 : Int32)).toNatClampNeg) (xs (v3 + (2 : Int32)).toNatClampNeg)).2 64 (xs (v3 + (1 : Int32)).toNatClampNeg) (xs (v3 + (2 : Int32)).toNatClampNeg)).1) (hnx : AW p l e room_1 s m args below meth c G 4 Q (f_X12_fewest (f_X3_ticksTo S h nx 88 18 (xs (v3 + (1 : Int32)).toNatClampNeg) (xs (v3 + (2 : Int32)).toNatClampNeg)).2 64 (xs (v3 + (1 : Int32)).toNatClampNeg) (xs (v3 + (2 : Int32)).toNatClampNeg)).2 (cells + 0) (slots + 0) 1323 [(3, .int v3), (0, .ref 5000), (1, .ref 0), (2, .ref 64)] []) : AW p l e room_1 s m args below meth c G 4 Q S cells slots 977 [(3, .int v3), (0, .ref 5000), (1, .ref 0), (2, .ref 64)] [] := by
  refine aw_aload_n hC 2 dL_law_977 rfl rfl ?_
  refine aw_aload_n hC 1 dL_law_978 rfl rfl ?_
  refine aw_iload_n hC 0 dL_law_979 rfl rfl ?_
  refine aw_iconst (v := 1) hC dL_law_980 (by decide) ?_
  refine aw_iadd hC dL_law_981 ?_
  refine aw_sld hC hX hin1 dL_law_982 ?_
  refine aw_aload_n hC 1 dL_law_983 rfl rfl ?_
  refine aw_iload_n hC 0 dL_law_984 rfl rfl ?_
  refine aw_iconst (v := 2) hC dL_law_985 (by decide) ?_
  refine aw_iadd hC dL_law_986 ?_
  refine aw_sld hC hX hin2 dL_law_987 ?_
  refine aw_callV hC hSt [.int (xs (v3 + (1 : Int32)).toNatClampNeg), .int (xs (v3 + (2 : Int32)).toNatClampNeg)] 2 (t_X11_fewestR G l hRS h9 _ _ hE hp1) w_862 w_1451 w_1452 w_1453 w_517 rfl rfl (by decide +kernel) ⟨(Nat.le_of_ble_eq_true rfl), (Nat.le_of_ble_eq_true rfl)⟩ (cs_lt 0 11 0 (by decide) hCS) (cs_k 0 11 0 (by decide) hCS) rfl rfl rfl (Nat.le_of_ble_eq_true rfl) dL_law_988 hf (fun r S3 h => ?_)
  obtain ⟨rfl, rfl⟩ := h
  refine aw_aload_n hC 3 dL_law_991 rfl rfl ?_
  refine aw_aload_n hC 1 dL_law_992 rfl rfl ?_
  refine aw_iload_n hC 0 dL_law_993 rfl rfl ?_
  refine aw_iconst (v := 1) hC dL_law_994 (by decide) ?_
  refine aw_iadd hC dL_law_995 ?_
  refine aw_sld hC hX hin1 dL_law_996 ?_
  refine aw_aload_n hC 1 dL_law_997 rfl rfl ?_
  refine aw_iload_n hC 0 dL_law_998 rfl rfl ?_
  refine aw_iconst (v := 2) hC dL_law_999 (by decide) ?_
  refine aw_iadd hC dL_law_1000 ?_
  refine aw_sld hC hX hin2 dL_law_1001 ?_
  refine aw_cV2r hC hSt (t_X12_fewest G l hMS1 _ _ hp2) w_1242 w_1454 w_1455 w_1456 w_953 rfl rfl (by decide +kernel) ⟨(Nat.le_of_ble_eq_true rfl), (Nat.le_of_ble_eq_true rfl)⟩ (ms_lt 64 (by decide) hMS1) (ms_k 64 12 0 (by decide) hMS1) rfl (Nat.le_of_ble_eq_true rfl) dL_law_1002 hf ?_
  refine aw_lcmp hC dL_law_1005 ?_
  exact aw_if_eq hC 1323 dL_law_1006 (by decide) (fun _ => hnx) (fun h => absurd (by rw [hEq]; exact lg_self _) h)
set_option maxRecDepth 100000 in
theorem lw_c24N {p : Program} {l : Launch} {e : Env} {s : State} {m : MethodId} {args : Array Value} {below : List Frame} {meth : Method} {c : Code} {G : GG} {Q : State → Prop} {S : HSt} {cells slots : Nat} {L : Nat} {xs : Nat → Int32} (hC : ACx p s m args meth c cL_law RL 4 (some .boolean)) (hSt : St G s) (hX : SCR G s L xs) (hCS : CS S) (hf : cells + 3 ≤ room_1.cells ∧ slots + 23173 ≤ room_1.slots) (v3 : Int32) (hin1 : vp_in (v3 + (1 : Int32)) L) (hin2 : vp_in (v3 + (2 : Int32)) L) (hin3 : vp_in (v3 + (3 : Int32)) L) (hin4 : vp_in (v3 + (4 : Int32)) L) (hin5 : vp_in (v3 + (5 : Int32)) L) (h9 : gP S 0 9 = none) (hn : gn S = 88) (hE : fewGo S (xs (v3 + (1 : Int32)).toNatClampNeg) (xs (v3 + (2 : Int32)).toNatClampNeg)) (hp1 : p_X3_ticksTo (mkReach S) 89 90 88 18 (xs (v3 + (1 : Int32)).toNatClampNeg) (xs (v3 + (2 : Int32)).toNatClampNeg)) (hMS1 : MS (f_X3_ticksTo (mkReach S) 89 90 88 18 (xs (v3 + (1 : Int32)).toNatClampNeg) (xs (v3 + (2 : Int32)).toNatClampNeg)).2) (hp2 : p_X12_fewest (f_X3_ticksTo (mkReach S) 89 90 88 18 (xs (v3 + (1 : Int32)).toNatClampNeg) (xs (v3 + (2 : Int32)).toNatClampNeg)).2 64 (xs (v3 + (1 : Int32)).toNatClampNeg) (xs (v3 + (2 : Int32)).toNatClampNeg)) (hEq : (f_X3_ticksTo (mkReach S) 89 90 88 18 (xs (v3 + (1 : Int32)).toNatClampNeg) (xs (v3 + (2 : Int32)).toNatClampNeg)).1.toInt64 = (f_X12_fewest (f_X3_ticksTo (mkReach S) 89 90 88 18 (xs (v3 + (1 : Int32)).toNatClampNeg) (xs (v3 + (2 : Int32)).toNatClampNeg)).2 64 (xs (v3 + (1 : Int32)).toNatClampNeg) (xs (v3 + (2 : Int32)).toNatClampNeg)).1) (hnx : AW p l e room_1 s m args below meth c G 4 Q (f_X12_fewest (f_X3_ticksTo (mkReach S) 89 90 88 18 (xs (v3 + (1 : Int32)).toNatClampNeg) (xs (v3 + (2 : Int32)).toNatClampNeg)).2 64 (xs (v3 + (1 : Int32)).toNatClampNeg) (xs (v3 + (2 : Int32)).toNatClampNeg)).2 (cells + 3) (slots + 23173) 1323 [(3, .int v3), (0, .ref 5000), (1, .ref 0), (2, .ref 64)] []) : AW p l e room_1 s m args below meth c G 4 Q S cells slots 977 [(3, .int v3), (0, .ref 5000), (1, .ref 0), (2, .ref 64)] [] := by
  refine aw_aload_n hC 2 dL_law_977 rfl rfl ?_
  refine aw_aload_n hC 1 dL_law_978 rfl rfl ?_
  refine aw_iload_n hC 0 dL_law_979 rfl rfl ?_
  refine aw_iconst (v := 1) hC dL_law_980 (by decide) ?_
  refine aw_iadd hC dL_law_981 ?_
  refine aw_sld hC hX hin1 dL_law_982 ?_
  refine aw_aload_n hC 1 dL_law_983 rfl rfl ?_
  refine aw_iload_n hC 0 dL_law_984 rfl rfl ?_
  refine aw_iconst (v := 2) hC dL_law_985 (by decide) ?_
  refine aw_iadd hC dL_law_986 ?_
  refine aw_sld hC hX hin2 dL_law_987 ?_
  refine aw_callV hC hSt [.int (xs (v3 + (1 : Int32)).toNatClampNeg), .int (xs (v3 + (2 : Int32)).toNatClampNeg)] 2 (t_X11_fewestN G l hCS h9 hn _ _ hE hp1) w_862 w_1451 w_1452 w_1453 w_517 rfl rfl (by decide +kernel) ⟨(Nat.le_of_ble_eq_true rfl), (Nat.le_of_ble_eq_true rfl)⟩ (cs_lt 0 11 0 (by decide) hCS) (cs_k 0 11 0 (by decide) hCS) rfl rfl rfl (Nat.le_of_ble_eq_true rfl) dL_law_988 hf (fun r S3 h => ?_)
  obtain ⟨rfl, rfl⟩ := h
  refine aw_aload_n hC 3 dL_law_991 rfl rfl ?_
  refine aw_aload_n hC 1 dL_law_992 rfl rfl ?_
  refine aw_iload_n hC 0 dL_law_993 rfl rfl ?_
  refine aw_iconst (v := 1) hC dL_law_994 (by decide) ?_
  refine aw_iadd hC dL_law_995 ?_
  refine aw_sld hC hX hin1 dL_law_996 ?_
  refine aw_aload_n hC 1 dL_law_997 rfl rfl ?_
  refine aw_iload_n hC 0 dL_law_998 rfl rfl ?_
  refine aw_iconst (v := 2) hC dL_law_999 (by decide) ?_
  refine aw_iadd hC dL_law_1000 ?_
  refine aw_sld hC hX hin2 dL_law_1001 ?_
  refine aw_cV2r hC hSt (t_X12_fewest G l hMS1 _ _ hp2) w_1242 w_1454 w_1455 w_1456 w_953 rfl rfl (by decide +kernel) ⟨(Nat.le_of_ble_eq_true rfl), (Nat.le_of_ble_eq_true rfl)⟩ (ms_lt 64 (by decide) hMS1) (ms_k 64 12 0 (by decide) hMS1) rfl (Nat.le_of_ble_eq_true rfl) dL_law_1002 hf ?_
  refine aw_lcmp hC dL_law_1005 ?_
  exact aw_if_eq hC 1323 dL_law_1006 (by decide) (fun _ => hnx) (fun h => absurd (by rw [hEq]; exact lg_self _) h)
/-- what is owed of fewest -/
def K_fewest (Inv : Nat → HSt → Prop) : Prop := ∀ (n : Nat) (S : HSt) (a1 a2 : Int32), n < 512 → Inv n S → (¬ fewGo S a1 a2 → p_X12_fewest S 64 a1 a2 ∧ f_X11_fewestE S a1 a2 = (f_X12_fewest S 64 a1 a2).1 ∧ Inv (n + 1) (f_X12_fewest S 64 a1 a2).2) ∧ (fewGo S a1 a2 → gP S 0 9 = none → gn S = 88 → p_X3_ticksTo (mkReach S) 89 90 88 18 a1 a2 ∧ p_X12_fewest (f_X3_ticksTo (mkReach S) 89 90 88 18 a1 a2).2 64 a1 a2 ∧ (f_X3_ticksTo (mkReach S) 89 90 88 18 a1 a2).1.toInt64 = (f_X12_fewest (f_X3_ticksTo (mkReach S) 89 90 88 18 a1 a2).2 64 a1 a2).1 ∧ Inv (n + 1) (f_X12_fewest (f_X3_ticksTo (mkReach S) 89 90 88 18 a1 a2).2 64 a1 a2).2) ∧ (fewGo S a1 a2 → ∀ h nx, RS h nx S → gP S 0 9 = some 88 → p_X3_ticksTo S h nx 88 18 a1 a2 ∧ p_X12_fewest (f_X3_ticksTo S h nx 88 18 a1 a2).2 64 a1 a2 ∧ (f_X3_ticksTo S h nx 88 18 a1 a2).1.toInt64 = (f_X12_fewest (f_X3_ticksTo S h nx 88 18 a1 a2).2 64 a1 a2).1 ∧ Inv (n + 1) (f_X12_fewest (f_X3_ticksTo S h nx 88 18 a1 a2).2 64 a1 a2).2)
