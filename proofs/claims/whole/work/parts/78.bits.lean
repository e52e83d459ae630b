-- needs: 77.kway
/-! ===== fewest: bits of longs ===== -/
def b64 (x : Int64) (i : Nat) : Bool := x.toBitVec.getLsbD i
theorem bq_or (x y : Int64) (i : Nat) : b64 (x ||| y) i = (b64 x i || b64 y i) := by
  unfold b64
  rw [Int64.toBitVec_or, BitVec.getLsbD_or]
theorem bq_and (x y : Int64) (i : Nat) : b64 (x &&& y) i = (b64 x i && b64 y i) := by
  unfold b64
  rw [Int64.toBitVec_and, BitVec.getLsbD_and]
theorem b_zero (i : Nat) : b64 0 i = false := by
  unfold b64
  rw [show (0 : Int64).toBitVec = 0#64 from rfl]
  exact BitVec.getLsbD_zero
theorem b_big (x : Int64) {i : Nat} (h : 64 ≤ i) : b64 x i = false := BitVec.getLsbD_of_ge _ _ h
theorem b_ext {x : Int64} : x = 0 ↔ ∀ i, i < 64 → b64 x i = false := by
  constructor
  · intro h i _; rw [h]; exact b_zero i
  · intro h
    apply Int64.toBitVec_inj.mp
    apply BitVec.eq_of_getLsbD_eq
    intro i hi
    rw [show x.toBitVec.getLsbD i = b64 x i from rfl, h i hi]
    exact (b_zero i).symm
theorem sh_m : ∀ k, k < 64 → ((nI k).toInt64 &&& 63) = Int64.ofNat k := by decide
theorem sh_u : ∀ k, k < 64 → ((nI k).toInt64.toUInt64 &&& Int64.toUInt64 63) = UInt64.ofNat k := by decide
theorem b_shl (x : Int64) {k : Nat} (hk : k < 64) (i : Nat) : b64 (x <<< ((nI k).toInt64 &&& 63)) i = (decide (i < 64) && (decide (k ≤ i) && b64 x (i - k))) := by
  rw [sh_m k hk]
  unfold b64
  rw [Int64.toBitVec_shiftLeft]
  have e : ∀ k, k < 64 → ((Int64.ofNat k).toBitVec.smod 64).toNat = k := by decide
  rw [BitVec.shiftLeft_eq', e k hk, BitVec.getLsbD_shiftLeft]
  by_cases q : i < k
  · have : ¬ k ≤ i := by omega
    simp [q, this]
  · have : k ≤ i := by omega
    simp [q, this]
theorem bq_shr (x : Int64) {k : Nat} (hk : k < 64) (i : Nat) : b64 ((x.toUInt64 >>> ((nI k).toInt64.toUInt64 &&& Int64.toUInt64 63)).toInt64) i = b64 x (k + i) := by
  rw [sh_u k hk]
  unfold b64
  rw [show ∀ y : UInt64, y.toInt64.toBitVec = y.toBitVec from fun _ => rfl, UInt64.toBitVec_shiftRight]
  have e : ∀ k, k < 64 → ((UInt64.ofNat k).toBitVec % 64).toNat = k := by decide
  rw [BitVec.ushiftRight_eq', e k hk, BitVec.getLsbD_ushiftRight]
  rfl
theorem b_m20 (i : Nat) : b64 (1048575 : Int64) i = decide (i < 20) := by
  by_cases h : i < 64
  · have : ∀ i, i < 64 → b64 (1048575 : Int64) i = decide (i < 20) := by decide
    exact this i h
  · rw [b_big _ (by omega)]
    have : ¬ i < 20 := by omega
    simp [this]
theorem b_m2 (i : Nat) (hi : i < 64) : b64 (-2 : Int64) i = decide (1 ≤ i) := by
  have : ∀ i, i < 64 → b64 (-2 : Int64) i = decide (1 ≤ i) := by decide
  exact this i hi
theorem b_one (i : Nat) : b64 (1 : Int64) i = decide (i = 0) := by
  by_cases h : i < 64
  · have : ∀ i, i < 64 → b64 (1 : Int64) i = decide (i = 0) := by decide
    exact this i h
  · rw [b_big _ (by omega)]
    have : ¬ i = 0 := by omega
    simp [this]
theorem lgc_0 (x : Int64) : lg_cmp x 0 = 0 ↔ x = 0 := lgc_eq x 0
/-- a row of longs as a set: word a, four words, number z -/
def inJ (f : Nat → Int64) (a z : Nat) : Bool := b64 (f (a + z / 64)) (z % 64)
