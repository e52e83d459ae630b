/-! ===== CORE: a typed heap, and the machine over it (aw_ rules: one an instruction) ===== -/
/-- a heap of ours: how many cells, the kind of each, the length of each row, its ints, its longs, its references -/
abbrev HSt : Type := Nat × (Nat → Nat) × (Nat → Nat) × (Nat → Nat → Int32) × (Nat → Nat → Int64) × (Nat → Nat → Option Nat)
def gn (S : HSt) : Nat := S.1
def gK (S : HSt) : Nat → Nat := S.2.1
def gL (S : HSt) : Nat → Nat := S.2.2.1
def gI (S : HSt) : Nat → Nat → Int32 := S.2.2.2.1
def gJ (S : HSt) : Nat → Nat → Int64 := S.2.2.2.2.1
def gP (S : HSt) : Nat → Nat → Option Nat := S.2.2.2.2.2
def rI (S : HSt) (a : Nat) (g : Nat → Int32) : HSt := (S.1, S.2.1, S.2.2.1, va_up S.2.2.2.1 a g, S.2.2.2.2.1, S.2.2.2.2.2)
def rJ (S : HSt) (a : Nat) (g : Nat → Int64) : HSt := (S.1, S.2.1, S.2.2.1, S.2.2.2.1, va_up S.2.2.2.2.1 a g, S.2.2.2.2.2)
def rP (S : HSt) (a : Nat) (g : Nat → Option Nat) : HSt := (S.1, S.2.1, S.2.2.1, S.2.2.2.1, S.2.2.2.2.1, va_up S.2.2.2.2.2 a g)
def sI (S : HSt) (a j : Nat) (v : Int32) : HSt := rI S a (va_up (gI S a) j v)
def sJ (S : HSt) (a j : Nat) (v : Int64) : HSt := rJ S a (va_up (gJ S a) j v)
def sP (S : HSt) (a j : Nat) (v : Option Nat) : HSt := rP S a (va_up (gP S a) j v)
def nw (S : HSt) (k len : Nat) : HSt := (S.1 + 1, va_up S.2.1 S.1 k, va_up S.2.2.1 S.1 len, va_up S.2.2.2.1 S.1 (fun _ => 0), va_up S.2.2.2.2.1 S.1 (fun _ => 0), va_up S.2.2.2.2.2 S.1 (fun _ => none))
theorem gn_rI (S : HSt) (a : Nat) (g : Nat → Int32) : gn (rI S a g) = gn S := rfl
theorem gK_rI (S : HSt) (a : Nat) (g : Nat → Int32) : gK (rI S a g) = gK S := rfl
theorem gL_rI (S : HSt) (a : Nat) (g : Nat → Int32) : gL (rI S a g) = gL S := rfl
theorem gJ_rI (S : HSt) (a : Nat) (g : Nat → Int32) : gJ (rI S a g) = gJ S := rfl
theorem gP_rI (S : HSt) (a : Nat) (g : Nat → Int32) : gP (rI S a g) = gP S := rfl
theorem gI_rI (S : HSt) (a : Nat) (g : Nat → Int32) (b : Nat) : gI (rI S a g) b = if b = a then g else gI S b := rfl
theorem gn_rJ (S : HSt) (a : Nat) (g : Nat → Int64) : gn (rJ S a g) = gn S := rfl
theorem gK_rJ (S : HSt) (a : Nat) (g : Nat → Int64) : gK (rJ S a g) = gK S := rfl
theorem gL_rJ (S : HSt) (a : Nat) (g : Nat → Int64) : gL (rJ S a g) = gL S := rfl
theorem gI_rJ (S : HSt) (a : Nat) (g : Nat → Int64) : gI (rJ S a g) = gI S := rfl
theorem gP_rJ (S : HSt) (a : Nat) (g : Nat → Int64) : gP (rJ S a g) = gP S := rfl
theorem gJ_rJ (S : HSt) (a : Nat) (g : Nat → Int64) (b : Nat) : gJ (rJ S a g) b = if b = a then g else gJ S b := rfl
theorem gn_rP (S : HSt) (a : Nat) (g : Nat → Option Nat) : gn (rP S a g) = gn S := rfl
theorem gK_rP (S : HSt) (a : Nat) (g : Nat → Option Nat) : gK (rP S a g) = gK S := rfl
theorem gL_rP (S : HSt) (a : Nat) (g : Nat → Option Nat) : gL (rP S a g) = gL S := rfl
theorem gI_rP (S : HSt) (a : Nat) (g : Nat → Option Nat) : gI (rP S a g) = gI S := rfl
theorem gJ_rP (S : HSt) (a : Nat) (g : Nat → Option Nat) : gJ (rP S a g) = gJ S := rfl
theorem gP_rP (S : HSt) (a : Nat) (g : Nat → Option Nat) (b : Nat) : gP (rP S a g) b = if b = a then g else gP S b := rfl
theorem gn_sI (S : HSt) (a j : Nat) (v : Int32) : gn (sI S a j v) = gn S := rfl
theorem gK_sI (S : HSt) (a j : Nat) (v : Int32) : gK (sI S a j v) = gK S := rfl
theorem gL_sI (S : HSt) (a j : Nat) (v : Int32) : gL (sI S a j v) = gL S := rfl
theorem gJ_sI (S : HSt) (a j : Nat) (v : Int32) : gJ (sI S a j v) = gJ S := rfl
theorem gP_sI (S : HSt) (a j : Nat) (v : Int32) : gP (sI S a j v) = gP S := rfl
theorem gI_sI (S : HSt) (a j : Nat) (v : Int32) (b i : Nat) : gI (sI S a j v) b i = if b = a then (if i = j then v else gI S a i) else gI S b i := by
  unfold sI
  rw [gI_rI]
  by_cases h : b = a
  · rw [if_pos h, if_pos h]; rfl
  · rw [if_neg h, if_neg h]
theorem gn_sJ (S : HSt) (a j : Nat) (v : Int64) : gn (sJ S a j v) = gn S := rfl
theorem gK_sJ (S : HSt) (a j : Nat) (v : Int64) : gK (sJ S a j v) = gK S := rfl
theorem gL_sJ (S : HSt) (a j : Nat) (v : Int64) : gL (sJ S a j v) = gL S := rfl
theorem gI_sJ (S : HSt) (a j : Nat) (v : Int64) : gI (sJ S a j v) = gI S := rfl
theorem gP_sJ (S : HSt) (a j : Nat) (v : Int64) : gP (sJ S a j v) = gP S := rfl
theorem gJ_sJ (S : HSt) (a j : Nat) (v : Int64) (b i : Nat) : gJ (sJ S a j v) b i = if b = a then (if i = j then v else gJ S a i) else gJ S b i := by
  unfold sJ
  rw [gJ_rJ]
  by_cases h : b = a
  · rw [if_pos h, if_pos h]; rfl
  · rw [if_neg h, if_neg h]
theorem gn_sP (S : HSt) (a j : Nat) (v : Option Nat) : gn (sP S a j v) = gn S := rfl
theorem gK_sP (S : HSt) (a j : Nat) (v : Option Nat) : gK (sP S a j v) = gK S := rfl
theorem gL_sP (S : HSt) (a j : Nat) (v : Option Nat) : gL (sP S a j v) = gL S := rfl
theorem gI_sP (S : HSt) (a j : Nat) (v : Option Nat) : gI (sP S a j v) = gI S := rfl
theorem gJ_sP (S : HSt) (a j : Nat) (v : Option Nat) : gJ (sP S a j v) = gJ S := rfl
theorem gP_sP (S : HSt) (a j : Nat) (v : Option Nat) (b i : Nat) : gP (sP S a j v) b i = if b = a then (if i = j then v else gP S a i) else gP S b i := by
  unfold sP
  rw [gP_rP]
  by_cases h : b = a
  · rw [if_pos h, if_pos h]; rfl
  · rw [if_neg h, if_neg h]
/-- kinds 0 to 12 are the classes, 13 byte[], 14 int[], 15 long[], 16 boolean[], 17 Loop[], 18 Scene[], 19 int[][] -/
def tyK (k : Nat) : Nat → FieldType := match k with
  | 0 => tyX0
  | 1 => tyX1
  | 2 => tyX2
  | 3 => tyX3
  | 4 => tyX4
  | 5 => tyX5
  | 6 => tyX6
  | 7 => tyX7
  | 8 => tyX8
  | 9 => tyX9
  | 10 => tyX10
  | 11 => tyX11
  | _ => tyX12
def kcl : List vw_C := [(RX0, TX0, 2), (RX1, TX1, 7), (RX2, TX2, 9), (RX3, TX3, 5), (RX4, TX4, 9), (RX5, TX5, 3), (RX6, TX6, 11), (RX7, TX7, 10), (RX8, TX8, 5), (RX9, TX9, 11), (RX10, TX10, 2), (RX11, TX11, 11), (RX12, TX12, 52)]
def nfK (k : Nat) : Nat := match k with
  | 0 => 2
  | 1 => 7
  | 2 => 9
  | 3 => 5
  | 4 => 9
  | 5 => 3
  | 6 => 11
  | 7 => 10
  | 8 => 5
  | 9 => 11
  | 10 => 2
  | 11 => 11
  | _ => 52
def ftc (t : FieldType) : Nat := match t with
  | .long => 1
  | .object _ => 2
  | .array _ => 2
  | _ => 0
def fvt (r : Nat → Nat) (S : HSt) (a j t : Nat) : Value := if t = 1 then .long (gJ S a j) else if t = 2 then va_rf ((gP S a j).map r) else .int (gI S a j)
/-- the system's place: the first address, where the tables are, the array kinds' class numbers, the classes' -/
abbrev GG : Type := Nat × (Nat → Nat) × (Nat → ClassId) × va_G
def ro (G : GG) (i : Nat) : Nat := if i < 1000 then G.1 + i else G.2.1 (i - 1000)
def cv (G : GG) (v : Value) : Value := match v with
  | .ref i => .ref (ro G i)
  | w => w
theorem cv_cat (G : GG) (v : Value) : (cv G v).category = v.category := by cases v <;> rfl
def rowE (G : GG) (S : HSt) (a : Nat) : vp_A := (gL S a, if gK S a = 15 then .inr (.inl (gJ S a)) else if gK S a < 17 then .inl (gI S a) else .inr (.inr (.inr (.inr (fun j => (gP S a j).map (ro G))))))
def cellE (G : GG) (S : HSt) (a : Nat) : va_E := if gK S a < 13 then .inr (gK S a, (List.range (nfK (gK S a))).map (fun j => fvt (ro G) S a j (ftc (tyK (gK S a) j)))) else .inl (G.2.2.1 (gK S a), rowE G S a)
def wl (G : GG) (S : HSt) : va_W := (List.range (gn S)).map (fun i => (G.1 + i, cellE G S i))
theorem wl_get (G : GG) {S : HSt} {a : Nat} (h : a < gn S) : (wl G S)[a]? = some (G.1 + a, cellE G S a) := by
  unfold wl
  rw [List.getElem?_map, List.getElem?_range h]
  rfl
theorem wl_none (G : GG) {S : HSt} {a : Nat} (h : gn S ≤ a) : (wl G S)[a]? = none := by
  unfold wl
  exact List.getElem?_eq_none (by simpa using h)
theorem wl_D (G : GG) (S : HSt) : va_D (fun q => G.1 ≤ q) (wl G S) := by
  have key : ∀ (k : Nat) (q : Nat × va_E), (wl G S)[k]? = some q → q.1 = G.1 + k := by
    intro k q hk
    by_cases h : k < gn S
    · rw [wl_get G h] at hk
      cases hk
      rfl
    · rw [wl_none G (Nat.le_of_not_lt h)] at hk
      cases hk
  refine ⟨fun i j x y hi hj hxy => ?_, fun k q hk => ?_⟩
  · have h1 := key i x hi
    have h2 := key j y hj
    omega
  · have h1 := key k q hk
    show G.1 ≤ q.1
    omega
theorem wl_set {G : GG} {S S' : HSt} {a : Nat} {e : va_E} (hn : gn S' = gn S) (he : cellE G S' a = e) (ho : ∀ b, b ≠ a → cellE G S' b = cellE G S b) : (wl G S).set a (G.1 + a, e) = wl G S' := by
  apply List.ext_getElem?
  intro i
  rw [List.getElem?_set]
  by_cases hi : a = i
  · subst hi
    rw [if_pos rfl]
    by_cases h : a < gn S
    · have hl : a < (wl G S).length := by unfold wl; simpa using h
      rw [if_pos hl, wl_get G (by rw [hn]; exact h), he]
    · have hl : ¬ a < (wl G S).length := by unfold wl; simpa using h
      rw [if_neg hl, wl_none G (by rw [hn]; exact Nat.le_of_not_lt h)]
  · rw [if_neg hi]
    by_cases h : i < gn S
    · rw [wl_get G h, wl_get G (by rw [hn]; exact h), ho i (fun q => hi q.symm)]
    · rw [wl_none G (Nat.le_of_not_lt h), wl_none G (by rw [hn]; exact Nat.le_of_not_lt h)]
theorem map_range_set {f f' : Nat → Value} {N j : Nat} (h : ∀ i, i ≠ j → f' i = f i) : (List.range N).map f' = ((List.range N).map f).set j (f' j) := by
  apply List.ext_getElem?
  intro i
  rw [List.getElem?_set]
  by_cases hij : j = i
  · subst hij
    rw [if_pos rfl]
    by_cases hN : j < N
    · rw [if_pos (by simpa using hN), List.getElem?_map, List.getElem?_range hN]
      rfl
    · rw [if_neg (by simpa using hN)]
      exact List.getElem?_eq_none (by simpa using Nat.le_of_not_lt hN)
  · rw [if_neg hij, List.getElem?_map, List.getElem?_map]
    by_cases hN : i < N
    · rw [List.getElem?_range hN]
      show some (f' i) = some (f i)
      rw [h i (fun q => hij q.symm)]
    · rw [List.getElem?_eq_none (by simpa using Nat.le_of_not_lt hN)]
      rfl
theorem cellE_obj {G : GG} {S : HSt} {a ci N : Nat} (hK : gK S a = ci) (hci : ci < 13) (hN : nfK ci = N) : cellE G S a = .inr (ci, (List.range N).map (fun j => fvt (ro G) S a j (ftc (tyK ci j)))) := by
  subst hK; subst hN
  unfold cellE
  rw [if_pos hci]
theorem cellE_row {G : GG} {S : HSt} {a k : Nat} (hK : gK S a = k) (hk : 13 ≤ k) : cellE G S a = .inl (G.2.2.1 k, rowE G S a) := by
  subst hK
  unfold cellE
  rw [if_neg (Nat.not_lt.mpr hk)]
theorem rowE_i {G : GG} {S : HSt} {a k : Nat} (hK : gK S a = k) (h1 : k ≠ 15) (h2 : k < 17) : rowE G S a = (gL S a, .inl (gI S a)) := by
  subst hK
  unfold rowE
  rw [if_neg h1, if_pos h2]
theorem rowE_j {G : GG} {S : HSt} {a : Nat} (hK : gK S a = 15) : rowE G S a = (gL S a, .inr (.inl (gJ S a))) := by
  unfold rowE
  rw [if_pos hK]
theorem rowE_p {G : GG} {S : HSt} {a k : Nat} (hK : gK S a = k) (h2 : 17 ≤ k) : rowE G S a = (gL S a, .inr (.inr (.inr (.inr (fun j => (gP S a j).map (ro G)))))) := by
  subst hK
  unfold rowE
  rw [if_neg (by omega), if_neg (by omega)]
/-- the tables: static arrays of ints that nobody writes -/
def tbC (t : Nat) : String := if t < 3 then RX10 else RX4
def tbN (t : Nat) : String := match t with
  | 0 => "WIDER"
  | 1 => "FIRST"
  | 2 => "ROOM"
  | 3 => "NUMBERS"
  | 4 => "LOW"
  | _ => "HIGH"
def tbF (t : Nat) : List Int32 := match t with
  | 0 => [-1, 0, 1, 1, 0, 4, 0]
  | 1 => [0, 3, 6, 10, 16, 17]
  | 2 => [3, 3, 4, 6, 1, 20]
  | 3 => [3, 3, 5, 4, 4, 4, 4, 1, 1, 0]
  | 4 => [40, 0, 0, 0, 0, 0, 0, 0, 0, 0, 1, 0, 1, 1, 0, 0, 0, 0, 0, 0, 1, 0, 0, 0, 0, 1, 0, 0, 0, 0, 1, 0, 0, 0, 0, 0, 0, 0, 0, 0, 0, 0, 0, 0, 0, 0, 0, 0, 0, 0]
  | _ => [400, 9, 1, 0, 0, 20, 99, 3, 0, 0, 200, 15, 100, 9, 12, 15, 15, 200, 200, 0, 200, 99, 99, 99, 0, 40, 4, 9, 15, 0, 40, 4, 9, 15, 0, 0, 0, 0, 0, 0, 0, 0, 0, 0, 0, 0, 0, 0, 0, 0]
def wcl : List Cond := wsX00 ++ (wsX10 ++ (wsX20 ++ (wsX30 ++ (wsX40 ++ (wsX50 ++ (wsX60 ++ (wsX70 ++ (wsX80 ++ (wsX90 ++ (wsX100 ++ (wsX110 ++ wsX120)))))))))))
theorem wcl_good : wcl.all goodWord = true := by decide +kernel
def tysG (G : GG) : List (ClassId × FieldType) := [(G.2.2.1 13, .byte), (G.2.2.1 14, .int), (G.2.2.1 15, .long), (G.2.2.1 16, .boolean), (G.2.2.1 17, .object RX1), (G.2.2.1 18, .object RX7), (G.2.2.1 19, .array .int)]
def nwl : List (String × Nat × MethodName) := [(RX11, 18, yX4_init), (RX11, 25, yX7_init), (RX11, 294, yX3_init), (RX11, 36, yX9_init), (RX11, 43, yX6_init), (RX11, 50, yX8_init), (RX11, 64, yX0_init), (RX2, 36, yX9_init), (RX2, 41, yX1_init), (RX4, 15, yX10_init), (RX6, 11, yX1_init), (RX6, 129, yX11_lowest), (RX6, 20, yX9_init), (RX7, 11, yX10_init), (RX7, 20, yX1_init), (RX8, 25, yX1_init)]
def skT (i : Nat) : String := match i with
  | 0 => "rope"
  | 1 => "horse"
  | 2 => "beast"
  | 3 => "form"
  | 4 => "rule"
  | 5 => "spin"
  | 6 => "stand"
  | 7 => "flat"
  | 8 => "edge"
  | _ => "close"
def skL : List Nat := [4, 5, 5, 4, 4, 4, 5, 4, 4, 5]
def skB : List (List Int32) := [[114, 111, 112, 101], [104, 111, 114, 115, 101], [98, 101, 97, 115, 116], [102, 111, 114, 109], [114, 117, 108, 101], [115, 112, 105, 110], [115, 116, 97, 110, 100], [102, 108, 97, 116], [101, 100, 103, 101], [99, 108, 111, 115, 101]]

/-- rows of rows of ints may be made -/
def aoA (U : State) : Prop := (Cond.arrayOver (.array .int)).before #[] U = true
theorem aoA.moved {u U : State} (hvm : u.vm.Alike U.vm) (h : aoA u) : aoA U := Jvm.Stand.arrayOver_alikeB hvm h
/-- what holds of the place at a state, whatever the system's own cells hold -/
def St (G : GG) (s : State) : Prop := G.1 ≤ s.heap.size ∧ (∀ t, t < 6 → va_Z (tbC t) (tbN t) "[I" (.ref (G.2.1 t)) (fun q => G.1 ≤ q) s s.heap ∧ va_T .int (G.2.1 t) (tbF t).length (fun j => .int ((tbF t).getD j 0)) (fun q => G.1 ≤ q) s s.heap) ∧ (∀ w ∈ wcl, ∀ a, w.before a s = true) ∧ va_K G.2.2.2 kcl (tysG G) s ∧ (∀ q ∈ nwl, va_Nw (.methodLinkNest q.1 q.2.1 q.2.2 RX11) s) ∧ (∀ i, i < 10 → vk_R RX4 (130 + 2 * i) (skT i) (G.2.1 (1000 + i)) s) ∧ vk_S 10 skL skB (fun i => G.2.1 (1000 + i)) (fun i => G.2.1 (2000 + i)) (fun q => G.1 ≤ q) s s.heap ∧ va_Z "java/lang/String" "COMPACT_STRINGS" "Z" (.int 1) (fun q => G.1 ≤ q) s s.heap ∧ (va_Z "jdk/internal/util/Preconditions" "SIOOBE_FORMATTER" "Ljava/util/function/BiFunction;" .null (fun q => G.1 ≤ q) s s.heap ∨ va_Z "jdk/internal/util/Preconditions" "SIOOBE_FORMATTER" "Ljava/util/function/BiFunction;" (.ref (G.2.1 3000)) (fun q => G.1 ≤ q) s s.heap) ∧ va_AO RX1 s ∧ va_AO RX7 s ∧ aoA s
/-- the system's cells in a heap -/
def Rp (G : GG) (S : HSt) (H : Heap) : Prop := va_P G.2.2.2 kcl (wl G S) H ∧ H.size = G.1 + gn S ∧ gn S ≤ 1000
def SA (G : GG) (s : State) (H : Heap) (locs : List Loc) : Prop := va_S (fun q => G.1 ≤ q) s.heap H locs
theorem St.call {G : GG} {s U : State} {H : Heap} {locs : List Loc} (h : St G s) (hS : SA G s H locs) (hU : U.heap = H) (hW : s.WarmedH U.vm) : St G U := by
  obtain ⟨h1, h2, h3, h4, h5, h6, h7, h8, h9, h10, h11, h12⟩ := h
  have hk : ∀ a : Nat, a < s.heap.size → ¬ (fun q => G.1 ≤ q) a → U.heap[a]? = s.heap[a]? := fun a ha hn => by rw [hU]; exact hS.2.1 a ha hn
  refine ⟨Nat.le_trans h1 (by rw [hU]; exact hS.1), fun t ht => ⟨?_, ?_⟩, fun w hw a => ?_, va_K.moved hW.alike h4, fun q hq => (h5 q hq).warmM hW, fun i hi => (h6 i hi).warm hW, (h7.moved hW.alike).kept hk, va_Z.kept (h8.moved hW.alike) hk, h9.elim (fun q => Or.inl (va_Z.kept (q.moved hW.alike) hk)) (fun q => Or.inr (va_Z.kept (q.moved hW.alike) hk)), h10.moved hW.alike, h11.moved hW.alike, h12.moved hW.alike⟩
  · exact va_Z.kept ((h2 t ht).1.moved hW.alike) hk
  · exact va_T.kept ((h2 t ht).2.moved hW.alike) hk
  · exact word_at hW (good_of_word (List.all_eq_true.mp wcl_good w hw)) (h3 w hw a)
/-- the locals -/
def lvm (G : GG) (lv : List (Nat × Value)) : List (Nat × Value) := lv.map (fun q => (q.1, cv G q.2))
/-- what a method's place is: the machine's instructions, its bytes, its words .. -/
def ACx (p : Program) (s : State) (m : MethodId) (args : Array Value) (meth : Method) (c : Code) (cc : ByteArray) (own : String) (nL : Nat) (ret : Option FieldType) : Prop :=
  p.tables.exec = Jvm.exec ∧ c.code = cc ∧ c.maxLocals = nL ∧ s.vm.findClass own = some m.cls ∧ (∀ w ∈ BIG, w.before args s = true) ∧ meth.sig.returnType = ret ∧ meth.locks = false
/-- THE JUDGEMENT: from any heap that holds S, with these locals and this stack, the machine comes to Q -/
def AW (p : Program) (l : Launch) (e : Env) (R : Room) (s : State) (m : MethodId) (args : Array Value) (below : List Frame) (meth : Method) (c : Code) (G : GG) (nL : Nat) (Q : State → Prop) (S : HSt) (cells slots pc : Nat) (lv : List (Nat × Value)) (st : List Value) : Prop :=
  ∀ (H : Heap) (locs : List Loc) (ls : Array Slot), Rp G S H → SA G s H locs → lv_has ls nL (lvm G lv) → W p l e R s m args below meth c H locs cells slots Q (F0 m pc ls (st.map (cv G)))
/-- a method's end -/
def AQ (G : GG) (below : List Frame) (a : Array Value) (s : State) (mc ms : Nat) (Post : Option Value → HSt → Prop) : State → Prop :=
  MQ below (fun _ st oc t => (∃ (r : Option Value) (S1 : HSt), oc = .returned (r.map (cv G)) ∧ Post r S1 ∧ Rp G S1 t.heap) ∧ va_F (fun q => G.1 ≤ q) st t) a s mc ms (fun q => G.1 ≤ q)
/-- a method's contract at these arguments and this heap -/
def AM (G : GG) (l : Launch) (y : MethodName) (bytes : ByteArray) (maxL : Nat) (rt : Option FieldType) (rm : Room) (mc ms : Nat) (av : List Value) (S : HSt) (Post : Option Value → HSt → Prop) : Prop :=
  Met l y (Cond.code y bytes maxL rt :: BIG) rm (va_Pc (av.map (cv G)) (fun U => Rp G S U.heap ∧ St G U)) (fun _ st oc t => (∃ (r : Option Value) (S1 : HSt), oc = .returned (r.map (cv G)) ∧ Post r S1 ∧ Rp G S1 t.heap) ∧ va_F (fun q => G.1 ≤ q) st t) mc ms (fun q => G.1 ≤ q)
/-- the room of a method that calls no deeper than d -/
abbrev rmD (d mc ms : Nat) : Room := { frames := d + 1, cells := mc, slots := ms, locals := 100 * (d + 1) }
theorem lvm_args (G : GG) (av : List Value) : ∀ i, lv_args i (av.map (cv G)) = lvm G (lv_args i av) := by
  induction av with
  | nil => intro i; rfl
  | cons v vs ih =>
    intro i
    show (i, cv G v) :: lv_args (if (cv G v).category = 2 then i + 2 else i + 1) (vs.map (cv G)) = (i, cv G v) :: lvm G (lv_args (if v.category = 2 then i + 2 else i + 1) vs)
    rw [cv_cat, ih]
theorem lg_len (G : GG) (av : List Value) : (lg_sl (av.map (cv G))).length = (lg_sl av).length := by
  unfold lg_sl
  rw [List.length_flatMap, List.length_flatMap, List.map_map]
  congr 1
  apply List.map_congr_left
  intro v _
  show (if (cv G v).category = 2 then _ else _ : List Slot).length = _
  rw [cv_cat]
  by_cases h : v.category = 2
  · rw [if_pos h, if_pos h]; rfl
  · rw [if_neg h, if_neg h]; rfl
theorem AM.mk {G : GG} {l : Launch} {y : MethodName} {rm : Room} {mc ms : Nat} {av : List Value} {S : HSt} {Post : Option Value → HSt → Prop} {cc : ByteArray} {maxL : Nat} {ret : Option FieldType}
    (hy : plainName y.cls = true) (hlen : (lg_sl av).length ≤ maxL)
    (body : ∀ (p : Program) (e : Env) (s : State) (m : MethodId) (below : List Frame) (meth : Method) (c : Code), ACx p s m (av.map (cv G)).toArray meth c cc y.cls maxL ret → St G s → (y.name = "<init>" → meth.name = "<init>") →
      AW p l e rm s m (av.map (cv G)).toArray below meth c G maxL (AQ G below (av.map (cv G)).toArray s mc ms Post) S 0 0 0 (lv_args 0 av) []) : AM G l y cc maxL ret rm mc ms av S Post := by
  refine Met.ofW (cc := cc) (maxL := maxL) (ret := ret) hy rfl ?_
  intro p e s m args below meth c s₁ B hml hv
  obtain ⟨rfl, hR, hSt⟩ := hv
  have hl := lv_entry (av.map (cv G)) (n := maxL) (by rw [lg_len]; exact hlen)
  rw [lg_entry_eq]
  have hC : ACx p s m (av.map (cv G)).toArray meth c cc y.cls maxL ret := ⟨B.exec, B.bytes, hml, findClass_of_methodNamed B.named, fun w h => atoms_spec (ws := Cond.code y cc maxL ret :: BIG) B.pre w (List.mem_cons_of_mem _ h), B.returns, B.notSynchronized⟩
  refine body p e s m below meth c hC hSt (fun hi => (name_of_methodNamed B.named B.method).1.trans hi) s.heap [] _ hR va_S.rf ?_
  rw [← lvm_args]
  exact hl
