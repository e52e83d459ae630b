/-! ===== numbers: ints of the machine as integers ===== -/
def nz (z : Int) : Int32 := Int32.ofInt z
theorem nz_add (a b : Int) : nz a + nz b = nz (a + b) := (Int32.ofInt_add a b).symm
theorem nz_sub (a b : Int) : nz a - nz b = nz (a - b) := (Int32.ofInt_sub a b).symm
theorem nz_mul (a b : Int) : nz a * nz b = nz (a * b) := (Int32.ofInt_mul a b).symm
theorem nz_neg (a : Int) : -nz a = nz (-a) := (Int32.ofInt_neg a).symm
theorem nz_of (x : Int32) : nz x.toInt = x := Int32.ofInt_toInt x
theorem nz_toInt {z : Int} (h1 : -2147483648 ≤ z) (h2 : z < 2147483648) : (nz z).toInt = z := Int32.toInt_ofInt_of_le (by simpa using h1) (by simpa using h2)
theorem nz_lt {a b : Int} (ha : -2147483648 ≤ a ∧ a < 2147483648) (hb : -2147483648 ≤ b ∧ b < 2147483648) : nz a < nz b ↔ a < b := by
  rw [Int32.lt_iff_toInt_lt, nz_toInt ha.1 ha.2, nz_toInt hb.1 hb.2]
theorem nz_le {a b : Int} (ha : -2147483648 ≤ a ∧ a < 2147483648) (hb : -2147483648 ≤ b ∧ b < 2147483648) : nz a ≤ nz b ↔ a ≤ b := by
  rw [Int32.le_iff_toInt_le, nz_toInt ha.1 ha.2, nz_toInt hb.1 hb.2]
theorem nz_eq {a b : Int} (ha : -2147483648 ≤ a ∧ a < 2147483648) (hb : -2147483648 ≤ b ∧ b < 2147483648) : nz a = nz b ↔ a = b := by
  rw [← Int32.toInt_inj, nz_toInt ha.1 ha.2, nz_toInt hb.1 hb.2]
theorem i_lo (x : Int32) : -2147483648 ≤ x.toInt := by have := x.le_toInt; simpa using this
theorem i_hi (x : Int32) : x.toInt < 2147483648 := by have := x.toInt_lt; simpa using this
theorem ti_add {x y : Int32} (h1 : -2147483648 ≤ x.toInt + y.toInt) (h2 : x.toInt + y.toInt < 2147483648) : (x + y).toInt = x.toInt + y.toInt := by
  conv => lhs; rw [← nz_of x, ← nz_of y, nz_add]
  exact nz_toInt h1 h2
theorem ti_sub {x y : Int32} (h1 : -2147483648 ≤ x.toInt - y.toInt) (h2 : x.toInt - y.toInt < 2147483648) : (x - y).toInt = x.toInt - y.toInt := by
  conv => lhs; rw [← nz_of x, ← nz_of y, nz_sub]
  exact nz_toInt h1 h2
theorem ti_mul {x y : Int32} (h1 : -2147483648 ≤ x.toInt * y.toInt) (h2 : x.toInt * y.toInt < 2147483648) : (x * y).toInt = x.toInt * y.toInt := by
  conv => lhs; rw [← nz_of x, ← nz_of y, nz_mul]
  exact nz_toInt h1 h2
theorem ti_neg {x : Int32} (h1 : x.toInt ≠ -2147483648) : (-x).toInt = -x.toInt := by
  conv => lhs; rw [← nz_of x, nz_neg]
  have := i_lo x
  have := i_hi x
  exact nz_toInt (by omega) (by omega)
theorem ti_div {x y : Int32} (h : y ≠ -1) : (x / y).toInt = x.toInt.tdiv y.toInt := Int32.toInt_div_of_ne_right x y h
theorem ti_lt {x y : Int32} : x < y ↔ x.toInt < y.toInt := Int32.lt_iff_toInt_lt
theorem ti_le {x y : Int32} : x ≤ y ↔ x.toInt ≤ y.toInt := Int32.le_iff_toInt_le
theorem ti_eq {x y : Int32} : x = y ↔ x.toInt = y.toInt := Int32.toInt_inj.symm
theorem ti_cl (x : Int32) : x.toNatClampNeg = x.toInt.toNat := rfl
theorem in_of {i : Int32} {n : Nat} (h0 : 0 ≤ i.toInt) (h1 : i.toInt < n) : vp_in i n := vp_in_iff.mpr ⟨h0, h1⟩
theorem hs_ext {S T : HSt} (h1 : gn S = gn T) (h2 : gK S = gK T) (h3 : gL S = gL T) (h4 : ∀ a j, gI S a j = gI T a j) (h5 : ∀ a j, gJ S a j = gJ T a j) (h6 : ∀ a j, gP S a j = gP T a j) : S = T := by
  obtain ⟨a, b, c, d, e, f⟩ := S
  obtain ⟨a', b', c', d', e', f'⟩ := T
  have h4' : d = d' := funext fun x => funext fun y => h4 x y
  have h5' : e = e' := funext fun x => funext fun y => h5 x y
  have h6' : f = f' := funext fun x => funext fun y => h6 x y
  have h1' : a = a' := h1
  have h2' : b = b' := h2
  have h3' : c = c' := h3
  subst h1' h2' h3' h4' h5' h6'
  rfl
theorem sI_sI (S : HSt) (a j : Nat) (v w : Int32) : sI (sI S a j v) a j w = sI S a j w := by
  refine hs_ext rfl rfl rfl (fun b i => ?_) (fun _ _ => rfl) (fun _ _ => rfl)
  simp only [gI_sI]
  by_cases hb : b = a
  · by_cases hi : i = j <;> simp [hb, hi]
  · simp [hb]
theorem sI_comm (S : HSt) {a j b k : Nat} (v w : Int32) (h : ¬ (a = b ∧ j = k)) : sI (sI S a j v) b k w = sI (sI S b k w) a j v := by
  refine hs_ext rfl rfl rfl (fun x i => ?_) (fun _ _ => rfl) (fun _ _ => rfl)
  simp only [gI_sI]
  by_cases h1 : x = a <;> by_cases h2 : x = b <;> by_cases h3 : i = j <;> by_cases h4 : i = k <;> simp_all
section AWZ
variable {p : Program} {l : Launch} {e : Env} {R : Room} {s : State} {m : MethodId} {args : Array Value} {below : List Frame} {meth : Method} {c : Code} {G : GG} {nL : Nat} {Q : State → Prop} {S : HSt} {cells slots pc : Nat} {lv : List (Nat × Value)} {st : List Value}
variable {cc : ByteArray} {own : String} {ret : Option FieldType}
theorem aw_switchE (hC : ACx p s m args meth c cc own nL ret) {dflt lo hi : Int} {offs : Array Int} {len : Nat} {x : Int32} (hd : decode cc pc = .ok (.tableswitch dflt lo hi offs, len)) (tgt : Nat) (ht : (pc : Int) + dflt = (tgt : Int)) (ts : List Nat) (h1 : offs.toList.map (fun o => (pc : Int) + o) = ts.map (fun t : Nat => (t : Int))) (h2 : (ts.length : Int) = hi - lo + 1) (h3 : -2147483648 ≤ lo ∧ hi < 2147483648) (ko : (∀ k : Nat, k < ts.length → ¬ x = Int32.ofInt (lo + k)) → AW p l e R s m args below meth c G nL Q S cells slots tgt lv st) (ki : ∀ k : Nat, k < ts.length → x = Int32.ofInt (lo + k) → AW p l e R s m args below meth c G nL Q S cells slots (ts.getD k 0) lv st) : AW p l e R s m args below meth c G nL Q S cells slots pc lv (.int x :: st) := by
  refine aw_switchN hC hd tgt ht ts h1 h2 (fun ho => ko (fun k hk hx => ?_)) (fun k hk hx => ki k hk (by rw [← hx]; exact (Int32.ofInt_toInt x).symm))
  have hz : x.toInt = lo + k := by rw [hx]; exact nz_toInt (by omega) (by omega)
  omega
end AWZ
