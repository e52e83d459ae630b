theorem dvX0 : ∀ j, j < 2 → defaultValue (tyK 0 j) = (if ftc (tyK 0 j) = 1 then .long 0 else if ftc (tyK 0 j) = 2 then .null else .int 0) := by
  intro j hj
  match j, hj with
  | 0, _ => rfl
  | 1, _ => rfl
  | j + 2, h => exact absurd h (by omega)
theorem dvX1 : ∀ j, j < 7 → defaultValue (tyK 1 j) = (if ftc (tyK 1 j) = 1 then .long 0 else if ftc (tyK 1 j) = 2 then .null else .int 0) := by
  intro j hj
  match j, hj with
  | 0, _ => rfl
  | 1, _ => rfl
  | 2, _ => rfl
  | 3, _ => rfl
  | 4, _ => rfl
  | 5, _ => rfl
  | 6, _ => rfl
  | j + 7, h => exact absurd h (by omega)
theorem dvX2 : ∀ j, j < 9 → defaultValue (tyK 2 j) = (if ftc (tyK 2 j) = 1 then .long 0 else if ftc (tyK 2 j) = 2 then .null else .int 0) := by
  intro j hj
  match j, hj with
  | 0, _ => rfl
  | 1, _ => rfl
  | 2, _ => rfl
  | 3, _ => rfl
  | 4, _ => rfl
  | 5, _ => rfl
  | 6, _ => rfl
  | 7, _ => rfl
  | 8, _ => rfl
  | j + 9, h => exact absurd h (by omega)
theorem dvX3 : ∀ j, j < 5 → defaultValue (tyK 3 j) = (if ftc (tyK 3 j) = 1 then .long 0 else if ftc (tyK 3 j) = 2 then .null else .int 0) := by
  intro j hj
  match j, hj with
  | 0, _ => rfl
  | 1, _ => rfl
  | 2, _ => rfl
  | 3, _ => rfl
  | 4, _ => rfl
  | j + 5, h => exact absurd h (by omega)
theorem dvX4 : ∀ j, j < 9 → defaultValue (tyK 4 j) = (if ftc (tyK 4 j) = 1 then .long 0 else if ftc (tyK 4 j) = 2 then .null else .int 0) := by
  intro j hj
  match j, hj with
  | 0, _ => rfl
  | 1, _ => rfl
  | 2, _ => rfl
  | 3, _ => rfl
  | 4, _ => rfl
  | 5, _ => rfl
  | 6, _ => rfl
  | 7, _ => rfl
  | 8, _ => rfl
  | j + 9, h => exact absurd h (by omega)
theorem dvX5 : ∀ j, j < 3 → defaultValue (tyK 5 j) = (if ftc (tyK 5 j) = 1 then .long 0 else if ftc (tyK 5 j) = 2 then .null else .int 0) := by
  intro j hj
  match j, hj with
  | 0, _ => rfl
  | 1, _ => rfl
  | 2, _ => rfl
  | j + 3, h => exact absurd h (by omega)
theorem dvX6 : ∀ j, j < 11 → defaultValue (tyK 6 j) = (if ftc (tyK 6 j) = 1 then .long 0 else if ftc (tyK 6 j) = 2 then .null else .int 0) := by
  intro j hj
  match j, hj with
  | 0, _ => rfl
  | 1, _ => rfl
  | 2, _ => rfl
  | 3, _ => rfl
  | 4, _ => rfl
  | 5, _ => rfl
  | 6, _ => rfl
  | 7, _ => rfl
  | 8, _ => rfl
  | 9, _ => rfl
  | 10, _ => rfl
  | j + 11, h => exact absurd h (by omega)
theorem dvX7 : ∀ j, j < 10 → defaultValue (tyK 7 j) = (if ftc (tyK 7 j) = 1 then .long 0 else if ftc (tyK 7 j) = 2 then .null else .int 0) := by
  intro j hj
  match j, hj with
  | 0, _ => rfl
  | 1, _ => rfl
  | 2, _ => rfl
  | 3, _ => rfl
  | 4, _ => rfl
  | 5, _ => rfl
  | 6, _ => rfl
  | 7, _ => rfl
  | 8, _ => rfl
  | 9, _ => rfl
  | j + 10, h => exact absurd h (by omega)
theorem dvX8 : ∀ j, j < 5 → defaultValue (tyK 8 j) = (if ftc (tyK 8 j) = 1 then .long 0 else if ftc (tyK 8 j) = 2 then .null else .int 0) := by
  intro j hj
  match j, hj with
  | 0, _ => rfl
  | 1, _ => rfl
  | 2, _ => rfl
  | 3, _ => rfl
  | 4, _ => rfl
  | j + 5, h => exact absurd h (by omega)
theorem dvX9 : ∀ j, j < 11 → defaultValue (tyK 9 j) = (if ftc (tyK 9 j) = 1 then .long 0 else if ftc (tyK 9 j) = 2 then .null else .int 0) := by
  intro j hj
  match j, hj with
  | 0, _ => rfl
  | 1, _ => rfl
  | 2, _ => rfl
  | 3, _ => rfl
  | 4, _ => rfl
  | 5, _ => rfl
  | 6, _ => rfl
  | 7, _ => rfl
  | 8, _ => rfl
  | 9, _ => rfl
  | 10, _ => rfl
  | j + 11, h => exact absurd h (by omega)
theorem dvX10 : ∀ j, j < 2 → defaultValue (tyK 10 j) = (if ftc (tyK 10 j) = 1 then .long 0 else if ftc (tyK 10 j) = 2 then .null else .int 0) := by
  intro j hj
  match j, hj with
  | 0, _ => rfl
  | 1, _ => rfl
  | j + 2, h => exact absurd h (by omega)
theorem dvX11 : ∀ j, j < 11 → defaultValue (tyK 11 j) = (if ftc (tyK 11 j) = 1 then .long 0 else if ftc (tyK 11 j) = 2 then .null else .int 0) := by
  intro j hj
  match j, hj with
  | 0, _ => rfl
  | 1, _ => rfl
  | 2, _ => rfl
  | 3, _ => rfl
  | 4, _ => rfl
  | 5, _ => rfl
  | 6, _ => rfl
  | 7, _ => rfl
  | 8, _ => rfl
  | 9, _ => rfl
  | 10, _ => rfl
  | j + 11, h => exact absurd h (by omega)
theorem dvX12 : ∀ j, j < 52 → defaultValue (tyK 12 j) = (if ftc (tyK 12 j) = 1 then .long 0 else if ftc (tyK 12 j) = 2 then .null else .int 0) := by
  intro j hj
  match j, hj with
  | 0, _ => rfl
  | 1, _ => rfl
  | 2, _ => rfl
  | 3, _ => rfl
  | 4, _ => rfl
  | 5, _ => rfl
  | 6, _ => rfl
  | 7, _ => rfl
  | 8, _ => rfl
  | 9, _ => rfl
  | 10, _ => rfl
  | 11, _ => rfl
  | 12, _ => rfl
  | 13, _ => rfl
  | 14, _ => rfl
  | 15, _ => rfl
  | 16, _ => rfl
  | 17, _ => rfl
  | 18, _ => rfl
  | 19, _ => rfl
  | 20, _ => rfl
  | 21, _ => rfl
  | 22, _ => rfl
  | 23, _ => rfl
  | 24, _ => rfl
  | 25, _ => rfl
  | 26, _ => rfl
  | 27, _ => rfl
  | 28, _ => rfl
  | 29, _ => rfl
  | 30, _ => rfl
  | 31, _ => rfl
  | 32, _ => rfl
  | 33, _ => rfl
  | 34, _ => rfl
  | 35, _ => rfl
  | 36, _ => rfl
  | 37, _ => rfl
  | 38, _ => rfl
  | 39, _ => rfl
  | 40, _ => rfl
  | 41, _ => rfl
  | 42, _ => rfl
  | 43, _ => rfl
  | 44, _ => rfl
  | 45, _ => rfl
  | 46, _ => rfl
  | 47, _ => rfl
  | 48, _ => rfl
  | 49, _ => rfl
  | 50, _ => rfl
  | 51, _ => rfl
  | j + 52, h => exact absurd h (by omega)
theorem dvK {ci : Nat} {C : String} {T : u_T} {N : Nat} (hc : kcl[ci]? = some (C, T, N)) : ∀ j, j < N → defaultValue (tyK ci j) = (if ftc (tyK ci j) = 1 then .long 0 else if ftc (tyK ci j) = 2 then .null else .int 0) := by
  match ci, hc with
  | 0, hc => cases hc; exact dvX0
  | 1, hc => cases hc; exact dvX1
  | 2, hc => cases hc; exact dvX2
  | 3, hc => cases hc; exact dvX3
  | 4, hc => cases hc; exact dvX4
  | 5, hc => cases hc; exact dvX5
  | 6, hc => cases hc; exact dvX6
  | 7, hc => cases hc; exact dvX7
  | 8, hc => cases hc; exact dvX8
  | 9, hc => cases hc; exact dvX9
  | 10, hc => cases hc; exact dvX10
  | 11, hc => cases hc; exact dvX11
  | 12, hc => cases hc; exact dvX12
  | k + 13, hc => simp [kcl] at hc
section AWN
variable {p : Program} {l : Launch} {e : Env} {R : Room} {s : State} {m : MethodId} {args : Array Value} {below : List Frame} {meth : Method} {c : Code} {G : GG} {nL : Nat} {Q : State → Prop} {S : HSt} {cells slots pc : Nat} {lv : List (Nat × Value)} {st : List Value}
variable {cc : ByteArray} {own : String} {ret : Option FieldType}
theorem gn_nw (S : HSt) (k n : Nat) : gn (nw S k n) = gn S + 1 := rfl
theorem gK_nw (S : HSt) (k n b : Nat) : gK (nw S k n) b = if b = gn S then k else gK S b := rfl
theorem gL_nw (S : HSt) (k n b : Nat) : gL (nw S k n) b = if b = gn S then n else gL S b := rfl
theorem gI_nw (S : HSt) (k n b : Nat) : gI (nw S k n) b = if b = gn S then (fun _ => 0) else gI S b := rfl
theorem gJ_nw (S : HSt) (k n b : Nat) : gJ (nw S k n) b = if b = gn S then (fun _ => 0) else gJ S b := rfl
theorem gP_nw (S : HSt) (k n b : Nat) : gP (nw S k n) b = if b = gn S then (fun _ => none) else gP S b := rfl
theorem cellE_nw {G : GG} {S : HSt} {k n b : Nat} (h : b ≠ gn S) : cellE G (nw S k n) b = cellE G S b := by
  unfold cellE rowE fvt
  simp only [gK_nw, gL_nw, gI_nw, gJ_nw, gP_nw, if_neg h]
theorem wl_nw (G : GG) (S : HSt) (k n : Nat) : wl G (nw S k n) = wl G S ++ [(G.1 + gn S, cellE G (nw S k n) (gn S))] := by
  unfold wl
  rw [gn_nw, List.range_succ, List.map_append]
  congr 1
  apply List.map_congr_left
  intro i hi
  rw [cellE_nw (Nat.ne_of_lt (List.mem_range.mp hi))]
theorem rp_new {G : GG} {S : HSt} {H H1 : Heap} {k n : Nat} (hR : Rp G S H) (hb : gn S + 1 ≤ 1000) (z : H1.size = H.size + 1) (o1 : ∀ q, q < H.size → H1[q]? = H[q]?) (he : va_at G.2.2.2 kcl (G.1 + gn S, cellE G (nw S k n) (gn S)) H1) : Rp G (nw S k n) H1 := by
  refine ⟨?_, by rw [z, hR.2.1, gn_nw]; omega, by rw [gn_nw]; exact hb⟩
  rw [wl_nw]
  refine (hR.1.kept (fun i x hx => o1 x.1 ((hR.1 i x hx).lt))).app (fun i x hx => ?_)
  have hz : i < 1 := (List.getElem?_eq_some_iff.mp hx).1
  rw [show i = 0 by omega] at hx
  cases hx
  exact he
theorem sa_new {G : GG} {H H1 : Heap} {locs : List Loc} (hS : SA G s H locs) (z : H.size ≤ H1.size) (o1 : ∀ q, q < H.size → H1[q]? = H[q]?) : SA G s H1 locs :=
  ⟨Nat.le_trans hS.1 z, fun x h1 h2 => (o1 x (Nat.lt_of_lt_of_le h1 hS.1)).trans (hS.2.1 x h1 h2), hS.2.2⟩
theorem ro_new {G : GG} {S : HSt} {H : Heap} (hR : Rp G S H) (hb : gn S + 1 ≤ 1000) : ro G (gn S) = H.size := by
  unfold ro
  rw [if_pos (by omega), hR.2.1]
theorem aw_new (hC : ACx p s m args meth c cc own nL ret) (hSt : St G s) {C : String} {T : u_T} {N ci index : Nat} (hc : kcl[ci]? = some (C, T, N)) (hcl : Cond.classLink own index C ∈ BIG) (hinst : Cond.instantiable C N ∈ BIG) (hini : Cond.initialized C ∈ BIG) (hb : gn S + 1 ≤ 1000) (hcells : cells + 1 ≤ R.cells) (hslots : slots + N ≤ R.slots) (hd : decode cc pc = .ok (.new index, 3))
    (kk : AW p l e R s m args below meth c G nL Q (nw S ci 0) (cells + 1) (slots + N) (pc + 3) lv (.ref (gn S) :: st)) : AW p l e R s m args below meth c G nL Q S cells slots pc lv st := by
  intro H locs ls hR hS hl
  have hKn := hSt.2.2.2.1.1 ci _ hc
  refine W.newcK hC.1 hC.2.1 hC.2.2.2.1 (hC.2.2.2.2.1 _ hcl) (hC.2.2.2.2.1 _ hinst) (hC.2.2.2.2.1 _ hini) rfl hd hcells hslots hKn.2.1 rfl fun H1 kC hkC e1 z1 o1 => ?_
  have hat : va_at G.2.2.2 kcl (G.1 + gn S, cellE G (nw S ci 0) (gn S)) H1 := by
    have hk : gK (nw S ci 0) (gn S) = ci := by rw [gK_nw, if_pos rfl]
    rw [cellE_obj hk (kcl_lt hc) (kcl_ty hc).2.2]
    refine ⟨_, hc, ?_⟩
    have h1 := u_born (tyK ci) (fun w h => hSt.2.2.1 w h args) (wcl_in hc) hKn hkC e1 (kcl_ty hc).1
    rw [← hR.2.1]
    refine h1.to (fun j hj => ?_)
    rw [dvK hc j hj]
    unfold vp_V fvt
    rw [List.getD_eq_getElem?_getD, fld_at hj, gI_nw, gJ_nw, gP_nw, if_pos rfl, if_pos rfl, if_pos rfl]
    rfl
  have h := kk H1 locs ls (rp_new hR hb z1 o1 hat) (sa_new hS (by omega) o1) hl
  rw [List.map_cons, show cv G (.ref (gn S)) = .ref H.size by show Value.ref (ro G (gn S)) = _; rw [ro_new hR hb]] at h
  exact h
theorem aw_newaI (hC : ACx p s m args meth c cc own nL ret) (hSt : St G s) {n : Int32} (N : Nat) (harr : Cond.arrayClass .int ∈ BIG) (hn : ¬ n < 0) (hN : n.toNatClampNeg = N) (hbytes : N * componentBytes .int ≤ 536870912) (hb : gn S + 1 ≤ 1000) (hcells : cells + 1 ≤ R.cells) (hslots : slots + N ≤ R.slots) (hd : decode cc pc = .ok (.newarray .int, 2))
    (kk : AW p l e R s m args below meth c G nL Q (nw S 14 N) (cells + 1) (slots + N) (pc + 2) lv (.ref (gn S) :: st)) : AW p l e R s m args below meth c G nL Q S cells slots pc lv (.int n :: st) := by
  intro H locs ls hR hS hl
  refine va_newaK (atype := .int) hC.1 hC.2.1 (hC.2.2.2.2.1 _ harr) rfl hd rfl hn hN hbytes hcells hslots rfl fun H1 cA e1 z1 o1 hAr hNm => ?_
  have hcA : G.2.2.1 14 = cA := Option.some.inj ((hSt.2.2.2.1.2 1 _ rfl).2.symm.trans hNm)
  have hat : va_at G.2.2.2 kcl (G.1 + gn S, cellE G (nw S 14 N) (gn S)) H1 := by
    have hk : gK (nw S 14 N) (gn S) = 14 := by rw [gK_nw, if_pos rfl]
    rw [cellE_row hk (by decide), rowE_i hk (by decide) (by decide), gL_nw, if_pos rfl, gI_nw, if_pos rfl, hcA]
    show H1[G.1 + gn S]? = _
    rw [← hR.2.1]
    exact e1
  have h := kk H1 locs ls (rp_new hR hb z1 o1 hat) (sa_new hS (by omega) o1) hl
  rw [List.map_cons, show cv G (.ref (gn S)) = .ref H.size by show Value.ref (ro G (gn S)) = _; rw [ro_new hR hb]] at h
  exact h
theorem aw_newaB (hC : ACx p s m args meth c cc own nL ret) (hSt : St G s) {n : Int32} (N : Nat) (harr : Cond.arrayClass .byte ∈ BIG) (hn : ¬ n < 0) (hN : n.toNatClampNeg = N) (hbytes : N * componentBytes .byte ≤ 536870912) (hb : gn S + 1 ≤ 1000) (hcells : cells + 1 ≤ R.cells) (hslots : slots + N ≤ R.slots) (hd : decode cc pc = .ok (.newarray .byte, 2))
    (kk : AW p l e R s m args below meth c G nL Q (nw S 13 N) (cells + 1) (slots + N) (pc + 2) lv (.ref (gn S) :: st)) : AW p l e R s m args below meth c G nL Q S cells slots pc lv (.int n :: st) := by
  intro H locs ls hR hS hl
  refine va_newaK (atype := .byte) hC.1 hC.2.1 (hC.2.2.2.2.1 _ harr) rfl hd rfl hn hN hbytes hcells hslots rfl fun H1 cA e1 z1 o1 hAr hNm => ?_
  have hcA : G.2.2.1 13 = cA := Option.some.inj ((hSt.2.2.2.1.2 0 _ rfl).2.symm.trans hNm)
  have hat : va_at G.2.2.2 kcl (G.1 + gn S, cellE G (nw S 13 N) (gn S)) H1 := by
    have hk : gK (nw S 13 N) (gn S) = 13 := by rw [gK_nw, if_pos rfl]
    rw [cellE_row hk (by decide), rowE_i hk (by decide) (by decide), gL_nw, if_pos rfl, gI_nw, if_pos rfl, hcA]
    show H1[G.1 + gn S]? = _
    rw [← hR.2.1]
    exact e1
  have h := kk H1 locs ls (rp_new hR hb z1 o1 hat) (sa_new hS (by omega) o1) hl
  rw [List.map_cons, show cv G (.ref (gn S)) = .ref H.size by show Value.ref (ro G (gn S)) = _; rw [ro_new hR hb]] at h
  exact h
theorem aw_newaZ (hC : ACx p s m args meth c cc own nL ret) (hSt : St G s) {n : Int32} (N : Nat) (harr : Cond.arrayClass .boolean ∈ BIG) (hn : ¬ n < 0) (hN : n.toNatClampNeg = N) (hbytes : N * componentBytes .boolean ≤ 536870912) (hb : gn S + 1 ≤ 1000) (hcells : cells + 1 ≤ R.cells) (hslots : slots + N ≤ R.slots) (hd : decode cc pc = .ok (.newarray .boolean, 2))
    (kk : AW p l e R s m args below meth c G nL Q (nw S 16 N) (cells + 1) (slots + N) (pc + 2) lv (.ref (gn S) :: st)) : AW p l e R s m args below meth c G nL Q S cells slots pc lv (.int n :: st) := by
  intro H locs ls hR hS hl
  refine va_newaK (atype := .boolean) hC.1 hC.2.1 (hC.2.2.2.2.1 _ harr) rfl hd rfl hn hN hbytes hcells hslots rfl fun H1 cA e1 z1 o1 hAr hNm => ?_
  have hcA : G.2.2.1 16 = cA := Option.some.inj ((hSt.2.2.2.1.2 3 _ rfl).2.symm.trans hNm)
  have hat : va_at G.2.2.2 kcl (G.1 + gn S, cellE G (nw S 16 N) (gn S)) H1 := by
    have hk : gK (nw S 16 N) (gn S) = 16 := by rw [gK_nw, if_pos rfl]
    rw [cellE_row hk (by decide), rowE_i hk (by decide) (by decide), gL_nw, if_pos rfl, gI_nw, if_pos rfl, hcA]
    show H1[G.1 + gn S]? = _
    rw [← hR.2.1]
    exact e1
  have h := kk H1 locs ls (rp_new hR hb z1 o1 hat) (sa_new hS (by omega) o1) hl
  rw [List.map_cons, show cv G (.ref (gn S)) = .ref H.size by show Value.ref (ro G (gn S)) = _; rw [ro_new hR hb]] at h
  exact h
theorem aw_newaJ (hC : ACx p s m args meth c cc own nL ret) (hSt : St G s) {n : Int32} (N : Nat) (harr : Cond.arrayClass .long ∈ BIG) (hn : ¬ n < 0) (hN : n.toNatClampNeg = N) (hbytes : N * componentBytes .long ≤ 536870912) (hb : gn S + 1 ≤ 1000) (hcells : cells + 1 ≤ R.cells) (hslots : slots + N ≤ R.slots) (hd : decode cc pc = .ok (.newarray .long, 2))
    (kk : AW p l e R s m args below meth c G nL Q (nw S 15 N) (cells + 1) (slots + N) (pc + 2) lv (.ref (gn S) :: st)) : AW p l e R s m args below meth c G nL Q S cells slots pc lv (.int n :: st) := by
  intro H locs ls hR hS hl
  refine va_newaK (atype := .long) hC.1 hC.2.1 (hC.2.2.2.2.1 _ harr) rfl hd rfl hn hN hbytes hcells hslots rfl fun H1 cA e1 z1 o1 hAr hNm => ?_
  have hcA : G.2.2.1 15 = cA := Option.some.inj ((hSt.2.2.2.1.2 2 _ rfl).2.symm.trans hNm)
  have hat : va_at G.2.2.2 kcl (G.1 + gn S, cellE G (nw S 15 N) (gn S)) H1 := by
    have hk : gK (nw S 15 N) (gn S) = 15 := by rw [gK_nw, if_pos rfl]
    rw [cellE_row hk (by decide), rowE_j hk, gL_nw, if_pos rfl, gJ_nw, if_pos rfl, hcA]
    show H1[G.1 + gn S]? = _
    rw [← hR.2.1]
    exact e1
  have h := kk H1 locs ls (rp_new hR hb z1 o1 hat) (sa_new hS (by omega) o1) hl
  rw [List.map_cons, show cv G (.ref (gn S)) = .ref H.size by show Value.ref (ro G (gn S)) = _; rw [ro_new hR hb]] at h
  exact h
theorem aw_anewL (hC : ACx p s m args meth c cc own nL ret) (hSt : St G s) {n : Int32} {index : Nat} (N : Nat) (hcl : Cond.classLink own index RX1 ∈ BIG) (hn : ¬ n < 0) (hN : n.toNatClampNeg = N) (hbytes : N * 4 ≤ 536870912) (hb : gn S + 1 ≤ 1000) (hcells : cells + 1 ≤ R.cells) (hslots : slots + N ≤ R.slots) (hd : decode cc pc = .ok (.anewarray index, 3))
    (kk : AW p l e R s m args below meth c G nL Q (nw S 17 N) (cells + 1) (slots + N) (pc + 3) lv (.ref (gn S) :: st)) : AW p l e R s m args below meth c G nL Q S cells slots pc lv (.int n :: st) := by
  intro H locs ls hR hS hl
  subst hN
  refine W.anew hC.1 hC.2.1 hC.2.2.2.1 (hC.2.2.2.2.1 _ hcl) (va_AO.use hSt.2.2.2.2.2.2.2.2.2.1) rfl hd rfl hn hbytes hcells hslots fun cA kA comp f1 f2 f3 f4 => ?_
  generalize hH1 : H.push ({ cls := cA, slots := Array.replicate n.toNatClampNeg .null, vm := .none } : Cell) = H1
  have z1 : H1.size = H.size + 1 := by rw [← hH1, Array.size_push]
  have e1 : H1[H.size]? = some (arrV cA n.toNatClampNeg (fun _ => .null)) := by rw [← hH1, Array.getElem?_push_size, ← arrV_new]
  have o1 : ∀ q : Nat, q < H.size → H1[q]? = H[q]? := fun q hq => by rw [← hH1, Array.getElem?_push, if_neg (Nat.ne_of_lt hq)]
  have hcA : G.2.2.1 17 = cA := by
    obtain ⟨_, _, _, _, _, q⟩ := (hSt.2.2.2.1.2 4 _ rfl).2
    exact Option.some.inj (q.symm.trans f1)
  have hat : va_at G.2.2.2 kcl (G.1 + gn S, cellE G (nw S 17 n.toNatClampNeg) (gn S)) H1 := by
    have hk : gK (nw S 17 n.toNatClampNeg) (gn S) = 17 := by rw [gK_nw, if_pos rfl]
    rw [cellE_row hk (by decide), rowE_p hk (by decide), gL_nw, if_pos rfl, gP_nw, if_pos rfl, hcA]
    show H1[G.1 + gn S]? = _
    rw [← hR.2.1]
    exact e1
  have h := kk H1 locs ls (rp_new hR hb z1 o1 hat) (sa_new hS (by omega) o1) hl
  rw [List.map_cons, show cv G (.ref (gn S)) = .ref H.size by show Value.ref (ro G (gn S)) = _; rw [ro_new hR hb]] at h
  exact h
theorem aw_aastL (hC : ACx p s m args meth c cc own nL ret) (hSt : St G s) {a b : Nat} {i : Int32} (ha : a < gn S) (hK : gK S a = 17) (hin : vp_in i (gL S a)) (hb : b < gn S) (hKb : gK S b = 1) (hd : decode cc pc = .ok (.aastore, 1))
    (kk : AW p l e R s m args below meth c G nL Q (sP S a i.toNatClampNeg (some b)) cells slots (pc + 1) lv st) : AW p l e R s m args below meth c G nL Q S cells slots pc lv (.ref b :: .int i :: .ref a :: st) := by
  intro H locs ls hR hS hl
  show W p l e R s m args below meth c H locs cells slots Q (F0 m pc ls (.ref (ro G b) :: .int i :: .ref (ro G a) :: st.map (cv G)))
  rw [ro_lt hR ha, ro_lt hR hb]
  have hrow := row_p (G := G) ha hK (by decide)
  have hlt : i.toNatClampNeg < gL S a := Nat.not_le.mp fun q => hin (Or.inr q)
  obtain ⟨r', hr', cellV, g1, g2, g3, -⟩ := hR.1 b _ (obj_at hb hKb rfl)
  have hcls := (hSt.2.2.2.1.1 1 _ rfl).2
  obtain ⟨kA, comp, k1, k2, k3, -⟩ := (hSt.2.2.2.1.2 4 _ rfl).2
  have hcomp : comp = G.2.2.2.1 1 := Option.some.inj (k3.symm.trans hcls.1)
  subst hcomp
  obtain ⟨kC, hkC, -⟩ := hcls.2
  refine W.aast hC.1 hC.2.1 (hR.1 a _ hrow) (fun q h => by cases h) (fun h => by cases h) k1 k2 rfl hkC ⟨fun q => hin (Or.inl q), by show _ < (arrV _ _ _).slots.size; rw [arrV_size]; exact hlt⟩ g1 (fun q h => by rw [g3] at h; cases h) (by rw [g2]; exact hkC) (by rw [g2]; exact va_assign hcls) rfl rfl hd fun H1 e1 z oq => ?_
  refine kk H1 _ ls (rp_row hR ha rfl ?_ (fun b hb => cellE_oP hb) z oq) (hS.put z oq ((wl_D G S).2 a _ hrow)) hl
  rw [cellE_row (S := sP S a i.toNatClampNeg (some b)) (k := 17) hK (by decide), rowE_p (S := sP S a i.toNatClampNeg (some b)) (k := 17) hK (by decide)]
  show H1[G.1 + a]? = some (vp_cell _ (gL S a, _))
  rw [e1, vp_cell_q, vp_cell_q, arrV_store]
  congr 2
  funext j
  rw [gP_sP, if_pos rfl]
  by_cases hj : j = i.toNatClampNeg
  · subst hj
    rw [if_pos rfl]
    show updV _ _ _ _ = va_rf (some (ro G b))
    rw [ro_lt hR hb]
    simp [updV, va_rf]
  · rw [if_neg hj]
    simp [updV, hj]
theorem aw_anewS (hC : ACx p s m args meth c cc own nL ret) (hSt : St G s) {n : Int32} {index : Nat} (N : Nat) (hcl : Cond.classLink own index RX7 ∈ BIG) (hn : ¬ n < 0) (hN : n.toNatClampNeg = N) (hbytes : N * 4 ≤ 536870912) (hb : gn S + 1 ≤ 1000) (hcells : cells + 1 ≤ R.cells) (hslots : slots + N ≤ R.slots) (hd : decode cc pc = .ok (.anewarray index, 3))
    (kk : AW p l e R s m args below meth c G nL Q (nw S 18 N) (cells + 1) (slots + N) (pc + 3) lv (.ref (gn S) :: st)) : AW p l e R s m args below meth c G nL Q S cells slots pc lv (.int n :: st) := by
  intro H locs ls hR hS hl
  subst hN
  refine W.anew hC.1 hC.2.1 hC.2.2.2.1 (hC.2.2.2.2.1 _ hcl) (va_AO.use hSt.2.2.2.2.2.2.2.2.2.2.1) rfl hd rfl hn hbytes hcells hslots fun cA kA comp f1 f2 f3 f4 => ?_
  generalize hH1 : H.push ({ cls := cA, slots := Array.replicate n.toNatClampNeg .null, vm := .none } : Cell) = H1
  have z1 : H1.size = H.size + 1 := by rw [← hH1, Array.size_push]
  have e1 : H1[H.size]? = some (arrV cA n.toNatClampNeg (fun _ => .null)) := by rw [← hH1, Array.getElem?_push_size, ← arrV_new]
  have o1 : ∀ q : Nat, q < H.size → H1[q]? = H[q]? := fun q hq => by rw [← hH1, Array.getElem?_push, if_neg (Nat.ne_of_lt hq)]
  have hcA : G.2.2.1 18 = cA := by
    obtain ⟨_, _, _, _, _, q⟩ := (hSt.2.2.2.1.2 5 _ rfl).2
    exact Option.some.inj (q.symm.trans f1)
  have hat : va_at G.2.2.2 kcl (G.1 + gn S, cellE G (nw S 18 n.toNatClampNeg) (gn S)) H1 := by
    have hk : gK (nw S 18 n.toNatClampNeg) (gn S) = 18 := by rw [gK_nw, if_pos rfl]
    rw [cellE_row hk (by decide), rowE_p hk (by decide), gL_nw, if_pos rfl, gP_nw, if_pos rfl, hcA]
    show H1[G.1 + gn S]? = _
    rw [← hR.2.1]
    exact e1
  have h := kk H1 locs ls (rp_new hR hb z1 o1 hat) (sa_new hS (by omega) o1) hl
  rw [List.map_cons, show cv G (.ref (gn S)) = .ref H.size by show Value.ref (ro G (gn S)) = _; rw [ro_new hR hb]] at h
  exact h
theorem aw_aastS (hC : ACx p s m args meth c cc own nL ret) (hSt : St G s) {a b : Nat} {i : Int32} (ha : a < gn S) (hK : gK S a = 18) (hin : vp_in i (gL S a)) (hb : b < gn S) (hKb : gK S b = 7) (hd : decode cc pc = .ok (.aastore, 1))
    (kk : AW p l e R s m args below meth c G nL Q (sP S a i.toNatClampNeg (some b)) cells slots (pc + 1) lv st) : AW p l e R s m args below meth c G nL Q S cells slots pc lv (.ref b :: .int i :: .ref a :: st) := by
  intro H locs ls hR hS hl
  show W p l e R s m args below meth c H locs cells slots Q (F0 m pc ls (.ref (ro G b) :: .int i :: .ref (ro G a) :: st.map (cv G)))
  rw [ro_lt hR ha, ro_lt hR hb]
  have hrow := row_p (G := G) ha hK (by decide)
  have hlt : i.toNatClampNeg < gL S a := Nat.not_le.mp fun q => hin (Or.inr q)
  obtain ⟨r', hr', cellV, g1, g2, g3, -⟩ := hR.1 b _ (obj_at hb hKb rfl)
  have hcls := (hSt.2.2.2.1.1 7 _ rfl).2
  obtain ⟨kA, comp, k1, k2, k3, -⟩ := (hSt.2.2.2.1.2 5 _ rfl).2
  have hcomp : comp = G.2.2.2.1 7 := Option.some.inj (k3.symm.trans hcls.1)
  subst hcomp
  obtain ⟨kC, hkC, -⟩ := hcls.2
  refine W.aast hC.1 hC.2.1 (hR.1 a _ hrow) (fun q h => by cases h) (fun h => by cases h) k1 k2 rfl hkC ⟨fun q => hin (Or.inl q), by show _ < (arrV _ _ _).slots.size; rw [arrV_size]; exact hlt⟩ g1 (fun q h => by rw [g3] at h; cases h) (by rw [g2]; exact hkC) (by rw [g2]; exact va_assign hcls) rfl rfl hd fun H1 e1 z oq => ?_
  refine kk H1 _ ls (rp_row hR ha rfl ?_ (fun b hb => cellE_oP hb) z oq) (hS.put z oq ((wl_D G S).2 a _ hrow)) hl
  rw [cellE_row (S := sP S a i.toNatClampNeg (some b)) (k := 18) hK (by decide), rowE_p (S := sP S a i.toNatClampNeg (some b)) (k := 18) hK (by decide)]
  show H1[G.1 + a]? = some (vp_cell _ (gL S a, _))
  rw [e1, vp_cell_q, vp_cell_q, arrV_store]
  congr 2
  funext j
  rw [gP_sP, if_pos rfl]
  by_cases hj : j = i.toNatClampNeg
  · subst hj
    rw [if_pos rfl]
    show updV _ _ _ _ = va_rf (some (ro G b))
    rw [ro_lt hR hb]
    simp [updV, va_rf]
  · rw [if_neg hj]
    simp [updV, hj]
/-- new int[N][K] -/
def mna (S : HSt) (N K : Nat) : HSt := (S.1 + 1 + N, (fun x => if x = S.1 then 19 else if S.1 < x ∧ x < S.1 + 1 + N then 14 else S.2.1 x), (fun x => if x = S.1 then N else if S.1 < x ∧ x < S.1 + 1 + N then K else S.2.2.1 x), (fun x => if S.1 ≤ x ∧ x < S.1 + 1 + N then (fun _ => 0) else S.2.2.2.1 x), (fun x => if S.1 ≤ x ∧ x < S.1 + 1 + N then (fun _ => 0) else S.2.2.2.2.1 x), (fun x => if x = S.1 then (fun j => if j < N then some (S.1 + 1 + j) else none) else if S.1 < x ∧ x < S.1 + 1 + N then (fun _ => none) else S.2.2.2.2.2 x))
theorem gn_mna (S : HSt) (N K : Nat) : gn (mna S N K) = gn S + 1 + N := rfl
theorem gK_mna (S : HSt) (N K x : Nat) : gK (mna S N K) x = if x = gn S then 19 else if gn S < x ∧ x < gn S + 1 + N then 14 else gK S x := rfl
theorem gL_mna (S : HSt) (N K x : Nat) : gL (mna S N K) x = if x = gn S then N else if gn S < x ∧ x < gn S + 1 + N then K else gL S x := rfl
theorem gI_mna (S : HSt) (N K x : Nat) : gI (mna S N K) x = if gn S ≤ x ∧ x < gn S + 1 + N then (fun _ => 0) else gI S x := rfl
theorem gJ_mna (S : HSt) (N K x : Nat) : gJ (mna S N K) x = if gn S ≤ x ∧ x < gn S + 1 + N then (fun _ => 0) else gJ S x := rfl
theorem gP_mna (S : HSt) (N K x : Nat) : gP (mna S N K) x = if x = gn S then (fun j => if j < N then some (gn S + 1 + j) else none) else if gn S < x ∧ x < gn S + 1 + N then (fun _ => none) else gP S x := rfl
theorem cellE_mna {G : GG} {S : HSt} {N K b : Nat} (h : b < gn S) : cellE G (mna S N K) b = cellE G S b := by
  have h1 : ¬ b = gn S := Nat.ne_of_lt h
  have h2 : ¬ (gn S < b ∧ b < gn S + 1 + N) := fun q => by omega
  have h3 : ¬ (gn S ≤ b ∧ b < gn S + 1 + N) := fun q => by omega
  unfold cellE rowE fvt
  simp only [gK_mna, gL_mna, gI_mna, gJ_mna, gP_mna, if_neg h1, if_neg h2, if_neg h3]
theorem mo_outer (c : ClassId) (N h0 : Nat) : ∀ i : Nat, Jvm.Free.Multi.outerC c N h0 i = arrV c N (fun j => va_rf (if j < i then some (h0 + 1 + j) else none))
  | 0 => by
    show ({ cls := c, slots := Array.replicate N .null, vm := .none } : Cell) = _
    rw [arrV_new]
    refine congrArg (arrV c N) (funext fun j => ?_)
    simp [va_rf]
  | i + 1 => by
    show (Jvm.Free.Multi.outerC c N h0 i).setSlot i (.ref (h0 + 1 + i)) = _
    rw [mo_outer c N h0 i, arrV_store]
    refine congrArg (arrV c N) (funext fun j => ?_)
    by_cases e : j = i
    · subst e
      simp [updV, va_rf]
    · by_cases h : j < i
      · simp [updV, e, h, Nat.lt_succ_of_lt h]
      · simp [updV, e, h, show ¬ j < i + 1 by omega]
theorem aw_mna (hC : ACx p s m args meth c cc own nL ret) (hSt : St G s) {n k : Int32} {index : Nat} (N K : Nat) (hcl : Cond.classLink own index "[[I" ∈ BIG) (harr : Cond.arrayClass .int ∈ BIG) (hn : ¬ n < 0) (hk : ¬ k < 0) (hN : n.toNatClampNeg = N) (hK' : k.toNatClampNeg = K) (hb1 : N * 4 ≤ 536870912) (hb2 : K * componentBytes .int ≤ 536870912) (hb3 : K ≤ 536870912) (hb : gn S + 1 + N ≤ 1000) (hcells : cells + (1 + N) ≤ R.cells) (hslots : slots + (N + N * K) ≤ R.slots) (hd : decode cc pc = .ok (.multianewarray index 2, 4))
    (kk : AW p l e R s m args below meth c G nL Q (mna S N K) (cells + 1 + N) (slots + N + N * K) (pc + 4) lv (.ref (gn S) :: st)) : AW p l e R s m args below meth c G nL Q S cells slots pc lv (.int k :: .int n :: st) := by
  intro H locs ls hR hS hl
  subst hN
  subst hK'
  intro T hT Xs
  obtain ⟨vm₁, cA, comp, -, fA, fC, hO, -, X', step⟩ := Xs.multianewarray2F (ty := .int) hC.1 hC.2.2.2.1 (hC.2.2.2.2.1 _ hcl) hSt.2.2.2.2.2.2.2.2.2.2.2 (hC.2.2.2.2.1 _ harr) (g := F0 m pc ls (.int k :: .int n :: st.map (cv G))) rfl (by rw [hC.2.1]; exact hd) rfl hn hk hb1 hb2 hb3 rfl rfl hcells hslots
  have hcA : G.2.2.1 19 = cA := Option.some.inj ((hSt.2.2.2.1.2 6 _ rfl).2.symm.trans fA)
  have hcI : G.2.2.1 14 = comp := Option.some.inj ((hSt.2.2.2.1.2 1 _ rfl).2.symm.trans fC)
  subst hcA
  subst hcI
  generalize hF : Jvm.Free.Multi.fill (T.setVm vm₁) (G.2.2.1 19) (G.2.2.1 14) n.toNatClampNeg k.toNatClampNeg (defaultValue .int) n.toNatClampNeg = F at X' step
  have hTh : (T.setVm vm₁).heap = H := hT
  obtain ⟨f1, f2, -, -⟩ := Jvm.Free.Multi.fill_facts (T.setVm vm₁) (G.2.2.1 19) (G.2.2.1 14) n.toNatClampNeg k.toNatClampNeg (defaultValue .int) n.toNatClampNeg
  rw [hF, hTh] at f1 f2
  have hold : ∀ x : Nat, x < H.size → F.heap[x]? = H[x]? := fun x hx => by
    have := Jvm.Free.Multi.fill_old (T.setVm vm₁) (G.2.2.1 19) (G.2.2.1 14) n.toNatClampNeg k.toNatClampNeg (defaultValue .int) (a := x) (by rw [hTh]; exact hx) n.toNatClampNeg
    rw [hF, hTh] at this
    exact this
  have hrow : ∀ j : Nat, j < n.toNatClampNeg → F.heap[H.size + 1 + j]? = some (arrV (G.2.2.1 14) k.toNatClampNeg (fun _ => .int 0)) := fun j hj => by
    have := Jvm.Free.Multi.fill_inner (T.setVm vm₁) (G.2.2.1 19) (G.2.2.1 14) n.toNatClampNeg k.toNatClampNeg (defaultValue .int) n.toNatClampNeg j hj
    rw [hF, hTh] at this
    rw [this]
    congr 1
    rw [← arrV_new]
    rfl
  rw [mo_outer] at f2
  have hsz : F.heap.size = G.1 + gn (mna S n.toNatClampNeg k.toNatClampNeg) := by rw [f1, hR.2.1, gn_mna]; omega
  have hP : va_P G.2.2.2 kcl (wl G (mna S n.toNatClampNeg k.toNatClampNeg)) F.heap := by
    intro i q hi
    have hlt : i < gn S + 1 + n.toNatClampNeg := by
      have := (List.getElem?_eq_some_iff.mp hi).1
      unfold wl at this
      rw [← gn_mna S n.toNatClampNeg k.toNatClampNeg]
      simpa using this
    rw [wl_get G hlt] at hi
    cases hi
    by_cases h1 : i < gn S
    · rw [cellE_mna h1]
      exact (hR.1 i _ (wl_get G h1)).kept (hold _ (by rw [hR.2.1]; omega))
    · by_cases h2 : i = gn S
      · subst h2
        have hk9 : gK (mna S n.toNatClampNeg k.toNatClampNeg) (gn S) = 19 := by rw [gK_mna, if_pos rfl]
        rw [cellE_row hk9 (by decide), rowE_p hk9 (by decide), gL_mna, if_pos rfl, gP_mna, if_pos rfl]
        show F.heap[G.1 + gn S]? = some (vp_cell _ _)
        rw [← hR.2.1, f2, vp_cell_q]
        congr 2
        funext j
        by_cases hj : j < n.toNatClampNeg
        · rw [if_pos hj, if_pos hj]
          show _ = va_rf (some (ro G (gn S + 1 + j)))
          unfold ro
          rw [if_pos (by omega), hR.2.1]
          congr 2
          omega
        · rw [if_neg hj, if_neg hj]
          rfl
      · have h3 : gn S < i ∧ i < gn S + 1 + n.toNatClampNeg := ⟨by omega, hlt⟩
        have hk9 : gK (mna S n.toNatClampNeg k.toNatClampNeg) i = 14 := by rw [gK_mna, if_neg h2, if_pos h3]
        rw [cellE_row hk9 (by decide), rowE_i hk9 (by decide) (by decide), gL_mna, if_neg h2, if_pos h3, gI_mna, if_pos ⟨by omega, hlt⟩]
        show F.heap[G.1 + i]? = some (vp_cell _ _)
        have := hrow (i - (gn S + 1)) (by omega)
        rw [hR.2.1, show G.1 + gn S + 1 + (i - (gn S + 1)) = G.1 + i by omega] at this
        rw [this, vp_cell_i]
  have h := kk F.heap locs ls ⟨hP, hsz, by rw [gn_mna]; exact hb⟩ (sa_new hS (by rw [f1]; omega) hold) hl
  rw [List.map_cons, show cv G (.ref (gn S)) = .ref H.size by show Value.ref (ro G (gn S)) = _; rw [ro_new hR (by omega)]] at h
  obtain ⟨t, a1, b1⟩ := h F rfl X'
  refine ⟨t, step t ?_, b1⟩
  rw [hT]
  exact a1
theorem aw_objInit (hC : ACx p s m args meth c cc own nL ret) {a index : Nat} (h1 : Cond.methodLink own index Lib.objectInit ∈ BIG) (h2 : Cond.instanceMethod Lib.objectInit ∈ BIG) (h3 : Cond.code Lib.objectInit { data := #[177] } 1 none ∈ BIG) (hd : decode cc pc = .ok (.invokespecial index, 3)) (hf : 1 ≤ R.frames) (hlo : (st.map fun v => v.category).sum + 12 ≤ R.locals)
    (kk : AW p l e R s m args below meth c G nL Q S cells slots (pc + 3) lv st) : AW p l e R s m args below meth c G nL Q S cells slots pc lv (.ref a :: st) := by
  intro H locs ls hR hS hl
  exact W.objInit (a := ro G a) hC.1 hC.2.1 hC.2.2.2.1 (hC.2.2.2.2.1 _ h1) (hC.2.2.2.2.1 _ h2) (hC.2.2.2.2.1 _ h3) rfl (hl.1.trans hC.2.2.1.symm) rfl hd hf (by rw [cats]; show 2 * 0 + _ + 12 ≤ _; omega) (kk H locs ls hR hS hl)
theorem aw_null (hC : ACx p s m args meth c cc own nL ret) (hd : decode cc pc = .ok (.aconst_null, 1)) (kk : AW p l e R s m args below meth c G nL Q S cells slots (pc + 1) lv (.null :: st)) : AW p l e R s m args below meth c G nL Q S cells slots pc lv st := fun H locs ls hR hS hl => lv_null hC.1 hC.2.1 hd (kk H locs ls hR hS hl)
theorem aw_nonnullN (hC : ACx p s m args meth c cc own nL ret) {off : Int} (hd : decode cc pc = .ok (.ifnonnull off, 3)) (kk : AW p l e R s m args below meth c G nL Q S cells slots (pc + 3) lv st) : AW p l e R s m args below meth c G nL Q S cells slots pc lv (.null :: st) := fun H locs ls hR hS hl => lv_ifnonnullN hC.1 hC.2.1 hd (kk H locs ls hR hS hl)
theorem aw_nonnullR (hC : ACx p s m args meth c cc own nL ret) {a : Nat} {off : Int} (tgt : Nat) (hd : decode cc pc = .ok (.ifnonnull off, 3)) (ht : (pc : Int) + off = (tgt : Int)) (kk : AW p l e R s m args below meth c G nL Q S cells slots tgt lv st) : AW p l e R s m args below meth c G nL Q S cells slots pc lv (.ref a :: st) := fun H locs ls hR hS hl => lv_ifnonnull hC.1 hC.2.1 hd ht (kk H locs ls hR hS hl)
/-- a field that holds no reference -/
theorem aw_getN (hC : ACx p s m args meth c cc own nL ret) (hSt : St G s) {a ci index N : Nat} (j : Nat) {C : String} {T : u_T} (ha : a < gn S) (hK : gK S a = ci) (hc : kcl[ci]? = some (C, T, N)) (hj : j < N) (hw : Cond.fieldLink own index (T j).1 (T j).2.1 (T j).2.2.1 ∈ BIG) (ht : ftc (tyK ci j) = 2) (hb : gP S a j = none) (hd : decode cc pc = .ok (.getfield index, 3)) (k : AW p l e R s m args below meth c G nL Q S cells slots (pc + 3) lv (.null :: st)) : AW p l e R s m args below meth c G nL Q S cells slots pc lv (.ref a :: st) := aw_getV hC hSt ha hK hc hj hw (by rw [ht]; show va_rf ((gP S a j).map (ro G)) = _; rw [hb]; rfl) hd k
theorem aw_putN (hC : ACx p s m args meth c cc own nL ret) (hSt : St G s) {a ci index N : Nat} (j : Nat) {C : String} {T : u_T} (ha : a < gn S) (hK : gK S a = ci) (hc : kcl[ci]? = some (C, T, N)) (hj : j < N) (hw : Cond.fieldLink own index (T j).1 (T j).2.1 (T j).2.2.1 ∈ BIG) (hfin : (T j).2.2.2 = false) (ht : ftc (tyK ci j) = 2) (hn : narrow (tyK ci j) .null = .null) (hf : fits (tyK ci j) .null = true) (hd : decode cc pc = .ok (.putfield index, 3)) (k : AW p l e R s m args below meth c G nL Q (sP S a j none) cells slots (pc + 3) lv st) : AW p l e R s m args below meth c G nL Q S cells slots pc lv (.null :: .ref a :: st) := by
  refine aw_putV (v := .null) hC hSt ha hK hc hj hw hfin hn hf (S' := sP S a j none) rfl hK (fun i hi => ?_) ?_ (fun b hb => cellE_oP hb) hd k
  · unfold fvt
    rw [gI_sP, gJ_sP, gP_sP, if_pos rfl, if_neg hi]
  · rw [ht]
    unfold fvt
    rw [if_neg (by decide), if_pos rfl, gP_sP, if_pos rfl, if_pos rfl]
    rfl
/-- a final field, written by its constructor -/
theorem aw_putFP (hC : ACx p s m args meth c cc own nL ret) (hSt : St G s) (hin2 : meth.name = "<init>") {a ci index N : Nat} (j : Nat) {b : Nat} {C : String} {T : u_T} (ha : a < gn S) (hK : gK S a = ci) (hc : kcl[ci]? = some (C, T, N)) (hj : j < N) (hw : Cond.fieldLink own index (T j).1 (T j).2.1 (T j).2.2.1 ∈ BIG) (hfin : (T j).2.2.2 = true) (hdecl : (T j).1 = own) (ht : ftc (tyK ci j) = 2) (hn : ∀ q : Nat, narrow (tyK ci j) (.ref q) = .ref q) (hf : ∀ q : Nat, fits (tyK ci j) (.ref q) = true) (hd : decode cc pc = .ok (.putfield index, 3)) (k : AW p l e R s m args below meth c G nL Q (sP S a j (some b)) cells slots (pc + 3) lv st) : AW p l e R s m args below meth c G nL Q S cells slots pc lv (.ref b :: .ref a :: st) := by
  intro H locs ls hR hS hl
  show W p l e R s m args below meth c H locs cells slots Q (F0 m pc ls (.ref (ro G b) :: .ref (ro G a) :: st.map (cv G)))
  rw [ro_lt hR ha]
  obtain ⟨hts, hin, hcty⟩ : (∀ w ∈ wcl, w.before args s = true) ∧ (∀ w ∈ u_ws C T N, w ∈ wcl) ∧ _ := ⟨fun w h => hSt.2.2.1 w h _, wcl_in hc, kcl_ty hc⟩
  have hap := va_apart (own := own) hts hin (tyK ci) hcty.1 hcty.2.1 hSt.2.2.2.1 hc
  have heo := obj_at (G := G) ha hK hc
  obtain ⟨r, h1, cell, q1, q2, q3, q4⟩ := hR.1 a _ heo
  have hr : r = (C, T, N) := Option.some.inj (h1.symm.trans hc)
  subst hr
  obtain ⟨hS2, hfc, kC, hkC, hkind⟩ := hSt.2.2.2.1.1 ci _ hc
  obtain ⟨cf, kf, fi, f, hi, hsl⟩ := hS2 j hj
  have hlay := hts _ (hin _ (u_in_lay hj))
  unfold u_lay at hlay
  rw [if_pos hfin] at hlay
  have hst := (u_facts hfc hkC (u_lays hts hin hj) hi).1
  have hcf : m.cls = cf := by
    obtain ⟨_, _, c', _, _, _, -, -, hf', -, -, -, hown2, -⟩ := Cond.laysFinal_spec hlay
    have e1 : c' = cf := by have := hi.symm.trans hf'; simp at this; exact this.1.symm
    rw [hdecl] at hown2
    rw [← e1]; exact Option.some.inj (hC.2.2.2.1.symm.trans hown2)
  have h6 := u_fits hfc hkC hkind (Or.inr hlay) hi (hcty.1 j hj) (hn (ro G b)) (hf (ro G b))
  refine W.putFinK hC.1 hC.2.1 hC.2.2.2.1 (hC.2.2.2.2.1 _ hw) hi hst hcf hin2 (by rw [q2]; exact h6) q1 q3 (by rw [hsl]; exact k2_hasslot (q4 j hj)) rfl rfl hd fun H1 e1 e2 e3 => ?_
  rw [hsl] at e1 ⊢
  have hP1 := hR.1.set (wl_D G S) heo (e := .inr (ci, ((List.range N).map (fun j => fvt (ro G) S a j (ftc (tyK ci j)))).set j (.ref (ro G b)))) ⟨_, hc, t_OB.to (V := updV (vp_V _) j (.ref (ro G b))) ⟨_, e1, q2, q3, t_set q4 hap hj (.ref (ro G b))⟩ (fun i _ => vp_updV_set (by simpa using hj) (.ref (ro G b)) i)⟩ e3
  refine k H1 _ ls ⟨?_, by rw [e2]; exact hR.2.1, hR.2.2⟩ (hS.put e2 e3 ((wl_D G S).2 a _ heo)) hl
  have hset := wl_set (G := G) (S := S) (S' := sP S a j (some b)) (a := a) rfl (cellE_obj (S := sP S a j (some b)) hK (kcl_lt hc) (kcl_ty hc).2.2) (fun b hb => cellE_oP hb)
  rw [map_range_set (f := fun i => fvt (ro G) S a i (ftc (tyK ci i))) (j := j) (fun i hi => by
    show fvt (ro G) (sP S a j (some b)) a i (ftc (tyK ci i)) = _
    unfold fvt
    rw [gI_sP, gJ_sP, gP_sP, if_pos rfl, if_neg hi])] at hset
  have hv : fvt (ro G) (sP S a j (some b)) a j (ftc (tyK ci j)) = .ref (ro G b) := by
    rw [ht]
    unfold fvt
    rw [if_neg (by decide), if_pos rfl, gP_sP, if_pos rfl, if_pos rfl]
    rfl
  rw [hv] at hset
  rw [← hset]
  exact hP1
theorem aw_cI (hC : ACx p s m args meth c cc own nL ret) (hSt : St G s) {y : MethodName} {rm : Room} {bytes : ByteArray} {maxL mc ms index : Nat} {b : Nat} {S1 : HSt}
    (hM : AM G l y bytes maxL none rm mc ms (.ref b :: []) S (FP none S1)) (hk : Cond.code y bytes maxL none ∈ BIG) (hlk : Cond.methodLink own index y ∈ BIG) (hini : Cond.initialized y.cls ∈ BIG) (hins : Cond.instanceMethod y ∈ BIG) (hy1 : y.name = "<init>") (hrc : rm.cells = mc) (hrs : rm.slots = ms) (hd : y.cls ≠ "java/lang/invoke/MethodHandle" ∧ y.cls ≠ "java/lang/invoke/VarHandle" ∧ (parseMethodDescriptor y.desc).map (fun d => d.parameters.length) = some 0) (hrm : rm.frames + 1 ≤ R.frames ∧ 8 + (maxL + 11) + rm.locals ≤ R.locals)
    (hcat : (st.map fun v => v.category).sum ≤ 8) (hdg : decode cc pc = .ok (.invokespecial index, 3)) (hf : cells + mc ≤ R.cells ∧ slots + ms ≤ R.slots)
    (kk : AW p l e R s m args below meth c G nL Q S1 (cells + mc) (slots + ms) (pc + 3) lv st) : AW p l e R s m args below meth c G nL Q S cells slots pc lv (.ref b :: st) :=
  aw_callI hC hSt [] 0 hM hk hini hlk hins hy1 hrc hrs hd hrm rfl rfl hcat hdg hf (fun r S2 h => by obtain ⟨rfl, rfl⟩ := h; exact kk)
theorem aw_cIN (hC : ACx p s m args meth c cc own nL ret) (hSt : St G s) {y : MethodName} {rm : Room} {bytes : ByteArray} {maxL mc ms index : Nat} {b : Nat} {S1 : HSt}
    (hM : AM G l y bytes maxL none rm mc ms (.ref b :: []) S (FP none S1)) (hk : Cond.code y bytes maxL none ∈ BIG) (hnl : (own, index, y) ∈ nwl) (hini : Cond.initialized y.cls ∈ BIG) (hins : Cond.instanceMethod y ∈ BIG) (hy1 : y.name = "<init>") (hrc : rm.cells = mc) (hrs : rm.slots = ms) (hd : y.cls ≠ "java/lang/invoke/MethodHandle" ∧ y.cls ≠ "java/lang/invoke/VarHandle" ∧ (parseMethodDescriptor y.desc).map (fun d => d.parameters.length) = some 0) (hrm : rm.frames + 1 ≤ R.frames ∧ 8 + (maxL + 11) + rm.locals ≤ R.locals)
    (hcat : (st.map fun v => v.category).sum ≤ 8) (hdg : decode cc pc = .ok (.invokespecial index, 3)) (hf : cells + mc ≤ R.cells ∧ slots + ms ≤ R.slots)
    (kk : AW p l e R s m args below meth c G nL Q S1 (cells + mc) (slots + ms) (pc + 3) lv st) : AW p l e R s m args below meth c G nL Q S cells slots pc lv (.ref b :: st) :=
  aw_callIN hC hSt [] 0 hM hk hnl hini hins hy1 hrc hrs hd hrm rfl rfl hcat hdg hf (fun r S2 h => by obtain ⟨rfl, rfl⟩ := h; exact kk)
end AWN
/-- a heap that is no smaller: what was there is as it was, but for the contents of a -/
def ExtF (a : Nat) (S T : HSt) : Prop := gn S ≤ gn T ∧ ∀ x, x < gn S → gK T x = gK S x ∧ gL T x = gL S x ∧ (x ≠ a → gP T x = gP S x ∧ gI T x = gI S x ∧ gJ T x = gJ S x)
theorem ExtF.refl (a : Nat) (S : HSt) : ExtF a S S := ⟨Nat.le_refl _, fun _ _ => ⟨rfl, rfl, fun _ => ⟨rfl, rfl, rfl⟩⟩⟩
theorem ExtF.trans {a b : Nat} {S T U : HSt} (h1 : ExtF a S T) (h2 : ExtF b T U) (hb : b = a ∨ gn S ≤ b) : ExtF a S U := by
  refine ⟨Nat.le_trans h1.1 h2.1, fun x hx => ?_⟩
  obtain ⟨a1, a2, a3⟩ := h1.2 x hx
  obtain ⟨b1, b2, b3⟩ := h2.2 x (Nat.lt_of_lt_of_le hx h1.1)
  refine ⟨b1.trans a1, b2.trans a2, fun hn => ?_⟩
  obtain ⟨c1, c2, c3⟩ := a3 hn
  obtain ⟨d1, d2, d3⟩ := b3 (by rcases hb with h | h <;> omega)
  exact ⟨d1.trans c1, d2.trans c2, d3.trans c3⟩
theorem ExtF.k {a : Nat} {S T : HSt} {x k n : Nat} (h : ExtF a S T) (hx : x < gn S ∧ gK S x = k ∧ gL S x = n) : x < gn T ∧ gK T x = k ∧ gL T x = n := ⟨Nat.lt_of_lt_of_le hx.1 h.1, (h.2 x hx.1).1.trans hx.2.1, (h.2 x hx.1).2.1.trans hx.2.2⟩
theorem ExtF.p {a : Nat} {S T : HSt} {x j : Nat} {v : Option Nat} (h : ExtF a S T) (hx : x < gn S) (hn : x ≠ a) (hp : gP S x j = v) : gP T x j = v := by rw [((h.2 x hx).2.2 hn).1]; exact hp
theorem ExtF.nw (a : Nat) (S : HSt) (k n : Nat) : ExtF a S (nw S k n) := ⟨by rw [gn_nw]; omega, fun x hx => by
  have h : ¬ x = gn S := Nat.ne_of_lt hx
  rw [gK_nw, gL_nw, gP_nw, gI_nw, gJ_nw, if_neg h, if_neg h, if_neg h, if_neg h, if_neg h]
  exact ⟨rfl, rfl, fun _ => ⟨rfl, rfl, rfl⟩⟩⟩
theorem ExtF.mna (a : Nat) (S : HSt) (N K : Nat) : ExtF a S (mna S N K) := ⟨by rw [gn_mna]; omega, fun x hx => by
  have h : ¬ x = gn S := Nat.ne_of_lt hx
  have h2 : ¬ (gn S < x ∧ x < gn S + 1 + N) := by omega
  have h3 : ¬ (gn S ≤ x ∧ x < gn S + 1 + N) := by omega
  rw [gK_mna, gL_mna, gP_mna, gI_mna, gJ_mna, if_neg h, if_neg h, if_neg h, if_neg h2, if_neg h2, if_neg h2, if_neg h3, if_neg h3]
  exact ⟨rfl, rfl, fun _ => ⟨rfl, rfl, rfl⟩⟩⟩
theorem ExtF.sP (S : HSt) (a j : Nat) (v : Option Nat) : ExtF a S (sP S a j v) := ⟨Nat.le_refl _, fun x _ => ⟨rfl, rfl, fun hn => ⟨by funext i; rw [gP_sP, if_neg hn], rfl, rfl⟩⟩⟩
theorem ExtF.sI (S : HSt) (a j : Nat) (v : Int32) : ExtF a S (sI S a j v) := ⟨Nat.le_refl _, fun x _ => ⟨rfl, rfl, fun hn => ⟨rfl, by funext i; rw [gI_sI, if_neg hn], rfl⟩⟩⟩
theorem nw_k (S : HSt) (k n : Nat) : gn S < gn (nw S k n) ∧ gK (nw S k n) (gn S) = k ∧ gL (nw S k n) (gn S) = n := ⟨by rw [gn_nw]; omega, by rw [gK_nw, if_pos rfl], by rw [gL_nw, if_pos rfl]⟩
theorem mna_k (S : HSt) (N K : Nat) : gn S < gn (mna S N K) ∧ gK (mna S N K) (gn S) = 19 ∧ gL (mna S N K) (gn S) = N := ⟨by rw [gn_mna]; omega, by rw [gK_mna, if_pos rfl], by rw [gL_mna, if_pos rfl]⟩
