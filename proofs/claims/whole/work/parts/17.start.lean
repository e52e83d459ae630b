def R_law : String := "SpunLoopLaw"
def lw_P (b : Addr) (xs : List Int32) (args : Array Value) (s : State) : Prop := args = #[.ref b] ∧ s.IntsAt b xs ∧ xs.length ≤ 3072 ∧ (Jvm.Cond.and given_1 narrow_1).before args s = true
def lw_Q (_ : Array Value) (s : State) (o : Outcome) (t : State) : Prop := o = .returned (some (.int 1)) ∧ Framed s o t [] 600000 7302250
def lw_Z (below : List Frame) (a : Array Value) (s : State) : State → Prop := fun t => ∃ o, t.status = .running ∧ Ended t below o ∧ lw_Q a s o t
/-- the law's own end, with 1 on the stack, nothing written that was there before, its room as the claim has it -/
theorem lw_ret {p : Program} {l : Launch} {e : Env} {s : State} {m : MethodId} {below : List Frame} {meth : Method} {c : Code} {b : Nat} (hx : p.tables.exec = Jvm.exec) (hb : c.code = code) (hr : meth.sig.returnType = ret) (hlocks : meth.locks = false) {pc : Nat} {H : Heap} {ls : Array Slot} (hdg : decode code pc = .ok (.ireturn, 1)) : W p l e room_1 s m #[Value.ref b] below meth c H [] 600000 7302250 (lw_Z below #[Value.ref b] s) (F0 m pc ls [.int 1]) := by
  intro T hT X
  obtain ⟨fs, hret, hrun, hended, hW, hframe⟩ := X.leave (v := some (.int 1)) (hlocks := hlocks) (fun h => by rw [hr] at h; cases h)
  have hmeth' : T.vm.method? m = some meth := X.method'
  refine ⟨T.setFrames fs, ?_, .returned (some (.int 1)), hrun, hended, rfl, ⟨_, rfl⟩, hW, hframe⟩
  jvm_step X.here [X.here.top, hx, hb, hdg, hmeth', hr, ret, narrow_b1]
  (try refine ⟨rfl, ?_⟩); (try refine ⟨rfl, ?_⟩)
  first | (intro acts; rw [hret _ acts rfl rfl rfl]) | rw [hret _ _ rfl rfl rfl]
  exact Steps.refl _
/-- what holds at the law's entry: the machine, the code, the tables' words (any of lw_tbl by 'hts w (by decide +kernel)'), the script of L ints xs at the cell b, what the Statement gives of the start (any of its parts by flat_of_before) -/
def lw_At (p : Program) (s : State) (m : MethodId) (meth : Method) (c : Code) (b L : Nat) (xs : Nat → Int32) : Prop :=
  p.tables.exec = Jvm.exec ∧ c.code = code ∧ meth.sig.returnType = ret ∧ c.maxLocals = 4 ∧ s.vm.findClass R_law = some m.cls ∧ (∀ w ∈ lw_tbl, w.before #[Value.ref b] s = true) ∧ va_X b L xs s s.heap ∧ b < s.heap.size ∧ meth.locks = false ∧ (Jvm.Cond.and given_1 narrow_1).before #[Value.ref b] s = true
def tmT (t : Nat) : Term := .static (tbC t) (tbN t) "[I"
def nT (t : Nat) : List Cond := .arrayOf (tmT t) .int :: .eq (.length (tmT t)) (.int (Int32.ofNat (tbF t).length)) :: (List.range (tbF t).length).map (fun j => .eq (.elem (tmT t) (.int (Int32.ofNat j))) (.int ((tbF t).getD j 0)))
def tmS (i : Nat) : Term := .string RX4 (130 + 2 * i)
def tmV (i : Nat) : Term := .field (tmS i) "java/lang/String" "value" "[B"
def nS (i : Nat) : List Cond := .exactly (tmS i) "java/lang/String" :: .eq (.field (tmS i) "java/lang/String" "coder" "B") (.int 0) :: .arrayOf (tmV i) .byte :: .eq (.length (tmV i)) (.int (Int32.ofNat (skL.getD i 0))) :: (List.range (skL.getD i 0)).map (fun j => .eq (.elem (tmV i) (.int (Int32.ofNat j))) (.int ((skB.getD i []).getD j 0)))
def nN : List Cond := (List.range 10).flatMap (fun j => (List.range j).map (fun i => .not (.eq (tmS i) (tmS j))))
def nO : List Cond := [.eq (.static "java/lang/String" "COMPACT_STRINGS" "Z") (.int 1), .isRef (.static "jdk/internal/util/Preconditions" "SIOOBE_FORMATTER" "Ljava/util/function/BiFunction;")]
def nW : List Cond := (List.range 6).flatMap (fun t => [.laysStatic (tbC t) (tbN t) "[I", .initialized (tbC t)]) ++ [.laysStatic "java/lang/String" "COMPACT_STRINGS" "Z", .initialized "java/lang/String", .laysStatic "jdk/internal/util/Preconditions" "SIOOBE_FORMATTER" "Ljava/util/function/BiFunction;", .initialized "jdk/internal/util/Preconditions", .arrayOver (.object RX1), .arrayOver (.object RX7), .arrayOver (.array .int), .arrayClass .byte, .arrayClass .int, .arrayClass .long, .arrayClass .boolean] ++ (List.range 10).map (fun i => .stringRef RX4 (130 + 2 * i) (skT i)) ++ (List.range 13).map (fun k => .instantiable (kcl.getD k (RX0, TX0, 0)).1 (kcl.getD k (RX0, TX0, 0)).2.2)
theorem iT0 : ∀ w ∈ nT 0, w ∈ (flatC (Jvm.Cond.and given_1 narrow_1)) := fm_in [147, 148, 149, 150, 151, 152, 153, 154, 155] (by decide +kernel)
theorem iT1 : ∀ w ∈ nT 1, w ∈ (flatC (Jvm.Cond.and given_1 narrow_1)) := fm_in [14, 15, 16, 17, 18, 19, 20, 21] (by decide +kernel)
theorem iT2 : ∀ w ∈ nT 2, w ∈ (flatC (Jvm.Cond.and given_1 narrow_1)) := fm_in [5, 6, 7, 8, 9, 10, 11, 12] (by decide +kernel)
theorem iT3 : ∀ w ∈ nT 3, w ∈ (flatC (Jvm.Cond.and given_1 narrow_1)) := fm_in [28, 29, 30, 31, 32, 33, 34, 35, 36, 37, 38, 39] (by decide +kernel)
theorem iT4 : ∀ w ∈ nT 4, w ∈ (flatC (Jvm.Cond.and given_1 narrow_1)) := fm_in [41, 42, 43, 44, 45, 46, 47, 48, 49, 50, 51, 52, 53, 54, 55, 56, 57, 58, 59, 60, 61, 62, 63, 64, 65, 66, 67, 68, 69, 70, 71, 72, 73, 74, 75, 76, 77, 78, 79, 80, 81, 82, 83, 84, 85, 86, 87, 88, 89, 90, 91, 92] (by decide +kernel)
theorem iT5 : ∀ w ∈ nT 5, w ∈ (flatC (Jvm.Cond.and given_1 narrow_1)) := fm_in [94, 95, 96, 97, 98, 99, 100, 101, 102, 103, 104, 105, 106, 107, 108, 109, 110, 111, 112, 113, 114, 115, 116, 117, 118, 119, 120, 121, 122, 123, 124, 125, 126, 127, 128, 129, 130, 131, 132, 133, 134, 135, 136, 137, 138, 139, 140, 141, 142, 143, 144, 145] (by decide +kernel)
theorem iS0 : ∀ w ∈ nS 0, w ∈ (flatC (Jvm.Cond.and given_1 narrow_1)) := fm_in [156, 157, 158, 159, 160, 161, 162, 163] (by decide +kernel)
theorem iS1 : ∀ w ∈ nS 1, w ∈ (flatC (Jvm.Cond.and given_1 narrow_1)) := fm_in [164, 165, 166, 167, 168, 169, 170, 171, 172] (by decide +kernel)
theorem iS2 : ∀ w ∈ nS 2, w ∈ (flatC (Jvm.Cond.and given_1 narrow_1)) := fm_in [174, 175, 176, 177, 178, 179, 180, 181, 182] (by decide +kernel)
theorem iS3 : ∀ w ∈ nS 3, w ∈ (flatC (Jvm.Cond.and given_1 narrow_1)) := fm_in [185, 186, 187, 188, 189, 190, 191, 192] (by decide +kernel)
theorem iS4 : ∀ w ∈ nS 4, w ∈ (flatC (Jvm.Cond.and given_1 narrow_1)) := fm_in [196, 197, 198, 199, 200, 201, 202, 203] (by decide +kernel)
theorem iS5 : ∀ w ∈ nS 5, w ∈ (flatC (Jvm.Cond.and given_1 narrow_1)) := fm_in [208, 209, 210, 211, 212, 213, 214, 215] (by decide +kernel)
theorem iS6 : ∀ w ∈ nS 6, w ∈ (flatC (Jvm.Cond.and given_1 narrow_1)) := fm_in [221, 222, 223, 224, 225, 226, 227, 228, 229] (by decide +kernel)
theorem iS7 : ∀ w ∈ nS 7, w ∈ (flatC (Jvm.Cond.and given_1 narrow_1)) := fm_in [236, 237, 238, 239, 240, 241, 242, 243] (by decide +kernel)
theorem iS8 : ∀ w ∈ nS 8, w ∈ (flatC (Jvm.Cond.and given_1 narrow_1)) := fm_in [251, 252, 253, 254, 255, 256, 257, 258] (by decide +kernel)
theorem iS9 : ∀ w ∈ nS 9, w ∈ (flatC (Jvm.Cond.and given_1 narrow_1)) := fm_in [267, 268, 269, 270, 271, 272, 273, 274, 275] (by decide +kernel)
theorem iN : ∀ w ∈ nN, w ∈ (flatC (Jvm.Cond.and given_1 narrow_1)) := fm_in [173, 183, 184, 193, 194, 195, 204, 205, 206, 207, 216, 217, 218, 219, 220, 230, 231, 232, 233, 234, 235, 244, 245, 246, 247, 248, 249, 250, 259, 260, 261, 262, 263, 264, 265, 266, 276, 277, 278, 279, 280, 281, 282, 283, 284] (by decide +kernel)
theorem iO : ∀ w ∈ nO, w ∈ (flatC (Jvm.Cond.and given_1 narrow_1)) := fm_in [22, 23] (by decide +kernel)
theorem iW : ∀ w ∈ nW, w ∈ lw_tbl := fm_in [811, 115, 614, 115, 612, 115, 724, 114, 734, 114, 740, 114, 669, 125, 685, 127, 434, 301, 146, 180, 160, 1132, 1525, 646, 647, 648, 649, 650, 651, 652, 653, 654, 655, 468, 218, 428, 1111, 162, 140, 350, 210, 404, 303, 168, 132, 1361] (by decide +kernel)
theorem iT : ∀ t, t < 6 → ∀ w ∈ nT t, w ∈ (flatC (Jvm.Cond.and given_1 narrow_1)) := by
  intro t ht
  match t, ht with
  | 0, _ => exact iT0
  | 1, _ => exact iT1
  | 2, _ => exact iT2
  | 3, _ => exact iT3
  | 4, _ => exact iT4
  | 5, _ => exact iT5
  | k + 6, h => exact absurd h (by omega)
theorem iS : ∀ t, t < 10 → ∀ w ∈ nS t, w ∈ (flatC (Jvm.Cond.and given_1 narrow_1)) := by
  intro t ht
  match t, ht with
  | 0, _ => exact iS0
  | 1, _ => exact iS1
  | 2, _ => exact iS2
  | 3, _ => exact iS3
  | 4, _ => exact iS4
  | 5, _ => exact iS5
  | 6, _ => exact iS6
  | 7, _ => exact iS7
  | 8, _ => exact iS8
  | 9, _ => exact iS9
  | k + 10, h => exact absurd h (by omega)
theorem tb_lt : ∀ t, t < 6 → (tbF t).length < 2 ^ 31 := by decide
theorem sk_lt : ∀ t, t < 10 → skL.getD t 0 < 2 ^ 31 := by decide
theorem nW_t : ∀ t, t < 6 → Cond.laysStatic (tbC t) (tbN t) "[I" ∈ nW ∧ Cond.initialized (tbC t) ∈ nW := by decide +kernel
theorem nW_s : ∀ t, t < 10 → Cond.stringRef RX4 (130 + 2 * t) (skT t) ∈ nW := by decide +kernel
theorem nW_o : (Cond.laysStatic "java/lang/String" "COMPACT_STRINGS" "Z" ∈ nW ∧ Cond.initialized "java/lang/String" ∈ nW) ∧ (Cond.laysStatic "jdk/internal/util/Preconditions" "SIOOBE_FORMATTER" "Ljava/util/function/BiFunction;" ∈ nW ∧ Cond.initialized "jdk/internal/util/Preconditions" ∈ nW) ∧ Cond.arrayOver (.object RX1) ∈ nW ∧ Cond.arrayOver (.object RX7) ∈ nW ∧ Cond.arrayOver (.array .int) ∈ nW ∧ Cond.arrayClass .byte ∈ nW ∧ Cond.arrayClass .int ∈ nW ∧ Cond.arrayClass .long ∈ nW ∧ Cond.arrayClass .boolean ∈ nW := by decide +kernel
theorem nW_k : ∀ k, k < 13 → Cond.instantiable (kcl.getD k (RX0, TX0, 0)).1 (kcl.getD k (RX0, TX0, 0)).2.2 ∈ nW := by decide +kernel
theorem nN_in : ∀ j, j < 10 → ∀ i, i < j → Cond.not (.eq (tmS i) (tmS j)) ∈ nN := by decide +kernel
theorem arrOf_c {s : State} {c : ClassId} {k : Class} {comp : ClassId} {ty : FieldType} (h1 : s.vm.classes[c]? = some k) (h2 : k.kind = .array comp ty) : ArrOfT s c ty := fun n z => ⟨fun k h => (by cases h), k, h1, comp, h2⟩
set_option maxHeartbeats 4000000 in
/-- the place at the law's entry -/
theorem st_start {p : Program} {s : State} {m : MethodId} {meth : Method} {c : Code} {b Ln : Nat} {xs : Nat → Int32} (C0 : lw_At p s m meth c b Ln xs) : ∃ G : GG, G.1 = s.heap.size ∧ G.2.1 4000 = b ∧ St G s := by
  obtain ⟨hx, hb, hr, hml, hown, hts, hX, hbl, hlocks, hgv⟩ := id C0
  have hs := flat_of_before _ hgv
  have hw : ∀ w ∈ nW, w.before #[Value.ref b] s = true := fun w h => hts w (iW w h)
  have hA : ∀ a : Nat, a < s.heap.size → ¬ (fun q : Nat => s.heap.size ≤ q) a := fun a h => Nat.not_le.mpr h
  -- the tables
  have hT : ∀ t : Nat, ∃ q : Nat, t < 6 → (tmT t).eval #[Value.ref b] s none [] s = some (.ref q) ∧ va_T .int q (tbF t).length (fun j => .int ((tbF t).getD j 0)) (fun q : Nat => s.heap.size ≤ q) s s.heap := by
    intro t
    by_cases ht : t < 6
    · have h0 : ∀ w ∈ nT t, w.before #[Value.ref b] s = true := fun w h => hs w (iT t ht w h)
      obtain ⟨q, q1, q2⟩ := va_Tof (tm := tmT t) (ty := .int) (N := (tbF t).length) (f := fun j => .int ((tbF t).getD j 0)) (A := fun q : Nat => s.heap.size ≤ q) (tb_lt t ht) (h0 _ List.mem_cons_self) (va_eqt (h0 _ (List.mem_cons_of_mem _ List.mem_cons_self))) (fun j hj => va_eqt (h0 _ (List.mem_cons_of_mem _ (List.mem_cons_of_mem _ (List.mem_map.mpr ⟨j, List.mem_range.mpr hj, rfl⟩))))) hA
      exact ⟨q, fun _ => ⟨q1, q2⟩⟩
    · exact ⟨0, fun h => absurd h ht⟩
  obtain ⟨ad, had⟩ := Classical.axiomOfChoice hT
  -- the texts
  have hs4 : ∀ i, i < 10 → ∀ w ∈ nS i, w.before #[Value.ref b] s = true := fun i hi w h => hs w (iS i hi w h)
  obtain ⟨adK, adV, hV, hVe⟩ := vk_Sof (args := #[Value.ref b]) (s := s) (N := 10) (tm := tmS) (len := skL) (byt := skB) (A := fun q : Nat => s.heap.size ≤ q) sk_lt
    (fun i hi => hs4 i hi _ List.mem_cons_self) (fun i hi => hs4 i hi _ (List.mem_cons_of_mem _ List.mem_cons_self)) (fun i hi => hs4 i hi _ (List.mem_cons_of_mem _ (List.mem_cons_of_mem _ List.mem_cons_self))) (fun i hi => hs4 i hi _ (List.mem_cons_of_mem _ (List.mem_cons_of_mem _ (List.mem_cons_of_mem _ List.mem_cons_self))))
    (fun i hi j hj => hs4 i hi _ (List.mem_cons_of_mem _ (List.mem_cons_of_mem _ (List.mem_cons_of_mem _ (List.mem_cons_of_mem _ (List.mem_map.mpr ⟨j, List.mem_range.mpr hj, rfl⟩))))))
    (fun i j hi hj hne => by
      rcases Nat.lt_or_ge i j with h | h
      · exact Or.inl (hs _ (iN _ (nN_in j hj i h)))
      · exact Or.inr (hs _ (iN _ (nN_in i hi j (by omega))))) hA
  have hco := va_Zof (A := fun q : Nat => s.heap.size ≤ q) (hw _ nW_o.1.1) (hw _ nW_o.1.2) (va_eqt (hs _ (iO _ List.mem_cons_self))) hA
  have hsi := va_Zqof (A := fun q : Nat => s.heap.size ≤ q) (hw _ nW_o.2.1.1) (hw _ nW_o.2.1.2) (hs _ (iO _ (List.mem_cons_of_mem _ List.mem_cons_self))) hA
  obtain ⟨sf, hsf⟩ : ∃ sf : Nat, va_Z "jdk/internal/util/Preconditions" "SIOOBE_FORMATTER" "Ljava/util/function/BiFunction;" .null (fun q : Nat => s.heap.size ≤ q) s s.heap ∨ va_Z "jdk/internal/util/Preconditions" "SIOOBE_FORMATTER" "Ljava/util/function/BiFunction;" (.ref sf) (fun q : Nat => s.heap.size ≤ q) s s.heap := by
    rcases hsi with h | ⟨t, h⟩
    · exact ⟨0, Or.inl h⟩
    · exact ⟨t, Or.inr h⟩
  -- the array classes
  obtain ⟨hoL, hoS, hoA, hcB, hcI, hcJ, hcZ⟩ := nW_o.2.2
  obtain ⟨c13, k13, p13, f13, g13, e13⟩ := Cond.arrayClass_spec (hw _ hcB)
  obtain ⟨c14, k14, p14, f14, g14, e14⟩ := Cond.arrayClass_spec (hw _ hcI)
  obtain ⟨c15, k15, p15, f15, g15, e15⟩ := Cond.arrayClass_spec (hw _ hcJ)
  obtain ⟨c16, k16, p16, f16, g16, e16⟩ := Cond.arrayClass_spec (hw _ hcZ)
  obtain ⟨p17, c17, k17, a17, -, g17, e17, f17⟩ := Cond.arrayOver_spec (hw _ hoL)
  obtain ⟨p18, c18, k18, a18, -, g18, e18, f18⟩ := Cond.arrayOver_spec (hw _ hoS)
  obtain ⟨p19, c19, k19, a19, g19, e19, f19⟩ := Cond.arrayOver_specA (hw _ hoA)
  -- the classes
  have hwc : ∀ w ∈ wcl, w.before #[Value.ref b] s = true := fun w h => hts w (tWCL w h)
  have hKn : ∀ k : Nat, ∃ q : ClassId × (Nat → Nat), ∀ r : vw_C, kcl[k]? = some r → u_Kn s r.1 r.2.1 r.2.2 q.1 q.2 := by
    intro k
    by_cases hk : k < 13
    · have hk2 : k < kcl.length := hk
      obtain ⟨cC, iS, hh⟩ := u_known (C := (kcl.getD k (RX0, TX0, 0)).1) (T := (kcl.getD k (RX0, TX0, 0)).2.1) (N := (kcl.getD k (RX0, TX0, 0)).2.2) (n := (kcl.getD k (RX0, TX0, 0)).2.2) hwc (fun w h => wcl_in (ci := k) (by rw [List.getD_eq_getElem?_getD, List.getElem?_eq_getElem hk2]; rfl) w h) (hw _ (nW_k k hk))
      refine ⟨(cC, iS), fun r hr => ?_⟩
      rw [List.getD_eq_getElem?_getD, hr] at hh
      exact hh
    · exact ⟨(0, fun _ => 0), fun r hr => absurd (kcl_lt hr) hk⟩
  obtain ⟨D, hD⟩ := Classical.axiomOfChoice hKn
  refine ⟨(s.heap.size, fun i => if i < 6 then ad i else if i < 2000 then adK (i - 1000) else if i < 3000 then adV (i - 2000) else if i = 3000 then sf else b, fun k => if k = 13 then c13 else if k = 14 then c14 else if k = 15 then c15 else if k = 16 then c16 else if k = 17 then c17 else if k = 18 then c18 else c19, fun k => (D k).1, fun k => (D k).2), rfl, rfl, ?_⟩
  refine ⟨Nat.le_refl _, fun t ht => ?_, fun w h a => va_tabs (List.all_eq_true.mp wcl_tab w h) rfl (hwc w h), ⟨fun k q hq => hD k q hq, fun k q hq => ?_⟩, fun q hq => ?_, fun i hi => ?_, ?_, hco, hsf, hw _ hoL, hw _ hoS, hw _ hoA⟩
  · have h1 := had t ht
    simp only [if_pos ht]
    exact ⟨va_Zof (hw _ (nW_t t ht).1) (hw _ (nW_t t ht).2) h1.1 hA, h1.2⟩
  · match k, hq with
    | 0, hq => cases hq; exact ⟨arrOf_c g13 e13, f13⟩
    | 1, hq => cases hq; exact ⟨arrOf_c g14 e14, f14⟩
    | 2, hq => cases hq; exact ⟨arrOf_c g15 e15, f15⟩
    | 3, hq => cases hq; exact ⟨arrOf_c g16 e16, f16⟩
    | 4, hq => cases hq; exact ⟨arrOf_c g17 e17, ⟨k17, p17, g17, e17, a17, f17⟩⟩
    | 5, hq => cases hq; exact ⟨arrOf_c g18 e18, ⟨k18, p18, g18, e18, a18, f18⟩⟩
    | 6, hq => cases hq; exact ⟨arrOf_c g19 e19, f19⟩
    | k + 7, hq => simp [tysG] at hq
  · exact va_Nw.of rfl (hts _ (tNWL _ (List.mem_map.mpr ⟨q, hq, rfl⟩)))
  · simp only [if_neg (show ¬ 1000 + i < 6 by omega), if_pos (show 1000 + i < 2000 by omega), Nat.add_sub_cancel_left]
    exact vk_R.of (hw _ (nW_s i hi)) (hVe i hi)
  · have e1 : (fun i => (if 1000 + i < 6 then ad (1000 + i) else if 1000 + i < 2000 then adK (1000 + i - 1000) else if 1000 + i < 3000 then adV (1000 + i - 2000) else if 1000 + i = 3000 then sf else b)) = fun i => (if i < 1000 then adK i else if 1000 + i < 3000 then adV (1000 + i - 2000) else if 1000 + i = 3000 then sf else b) := by
      funext i
      by_cases h : i < 1000
      · rw [if_neg (by omega), if_pos (by omega), if_pos h, Nat.add_sub_cancel_left]
      · rw [if_neg (by omega), if_neg (by omega), if_neg h]
    refine ⟨fun i hi => ?_, fun i j hi hj hij => hV.2 i j hi hj ?_⟩
    · have h := hV.1 i hi
      simp only [if_neg (show ¬ 1000 + i < 6 by omega), if_pos (show 1000 + i < 2000 by omega), if_neg (show ¬ 2000 + i < 6 by omega), if_neg (show ¬ 2000 + i < 2000 by omega), if_pos (show 2000 + i < 3000 by omega), Nat.add_sub_cancel_left]
      exact h
    · simpa only [if_neg (show ¬ 1000 + i < 6 by omega), if_pos (show 1000 + i < 2000 by omega), if_neg (show ¬ 1000 + j < 6 by omega), if_pos (show 1000 + j < 2000 by omega), Nat.add_sub_cancel_left] using hij
