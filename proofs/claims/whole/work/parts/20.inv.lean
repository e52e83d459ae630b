/-! ===== THE INVARIANT between the class's cells and the model's ===== -/
/-- rows: lanes 11, lengths 12, items 3..10; lane 65, many 66, item 67 -/
def IRow (S : HSt) : Prop := (∀ r, r < 8 → ((gI S 12 r = -1 ∧ gI S 65 r = -1) ∨ (0 ≤ (gI S 65 r).toInt ∧ (gI S 65 r).toInt ≤ 2 ∧ gI S 11 r = gI S 65 r ∧ gI S 12 r = gI S 66 r ∧ 0 ≤ (gI S 66 r).toInt ∧ (gI S 66 r).toInt ≤ 40))) ∧ (∀ r k, r < 8 → k < 40 → gI S (3 + r) k = gI S 67 (40 * r + k))
/-- the tape -/
def ITape (S : HSt) : Prop := gI S 13 2 = gI S 64 9 ∧ (0 ≤ (gI S 64 9).toInt ∧ (gI S 64 9).toInt ≤ 600) ∧ ∀ k, k < 600 → (0 ≤ (gI S 70 k).toInt ∧ (gI S 70 k).toInt ≤ 255) ∧ gI S 14 k = (gI S 70 k).toInt8.toInt32
/-- finding and fault -/
def IStat (S : HSt) : Prop := gI S 0 10 = gI S 64 1 ∧ gI S 13 7 = gI S 64 10
/-- the trace -/
def ITr (S : HSt) : Prop := gI S 62 1 = gI S 64 51 ∧ (0 ≤ (gI S 64 51).toInt ∧ (gI S 64 51).toInt ≤ 16) ∧ ∀ k, k < 16 → gI S 63 k = gI S 87 k
def cl0 (x : Int32) : Int32 := if x = -1000000 then 0 else x
/-- the class's counts C and values V hold the model's way W -/
def WayR (C V W : Nat → Int32) : Prop := (∀ j, j < 6 → C j = W j) ∧ (∀ i f, i < 3 → f < 3 → V ((0 + i) * 5 + f) = W (6 + 3 * i + f)) ∧ (∀ i f, i < 3 → f < 3 → V ((3 + i) * 5 + f) = W (15 + 3 * i + f)) ∧ (∀ i f, i < 4 → f < 5 → V ((6 + i) * 5 + f) = W (24 + 5 * i + f)) ∧ (∀ i f, i < 6 → f < 4 → V ((10 + i) * 5 + f) = W (44 + 4 * i + f)) ∧ (∀ f, f < 4 → V (16 * 5 + f) = W (68 + f)) ∧ (∀ i f, i < 20 → f < 5 → V ((17 + i) * 5 + f) = cl0 (W (72 + 5 * i + f)))
def bw (x : Int32) (lo hi : Int) : Prop := lo ≤ x.toInt ∧ x.toInt ≤ hi
/-- what an act is -/
def ActB (W : Nat → Int32) (i : Nat) : Prop := ((W (72 + 5 * i) = 2 ∨ W (72 + 5 * i) = 3) ∧ bw (W (72 + 5 * i + 1)) 1 40 ∧ bw (W (72 + 5 * i + 2)) 0 4 ∧ bw (W (72 + 5 * i + 3)) 0 9 ∧ bw (W (72 + 5 * i + 4)) 0 15) ∨ ((W (72 + 5 * i) = 4 ∨ W (72 + 5 * i) = 5) ∧ (0 ≤ (W (72 + 5 * i + 1)).toInt ∧ (W (72 + 5 * i + 1)).toInt < (W 2).toInt) ∧ W (72 + 5 * i + 2) = -1000000 ∧ W (72 + 5 * i + 3) = -1000000 ∧ W (72 + 5 * i + 4) = -1000000) ∨ (W (72 + 5 * i) = 6 ∧ W (72 + 5 * i + 1) = -1000000 ∧ W (72 + 5 * i + 2) = -1000000 ∧ W (72 + 5 * i + 3) = -1000000 ∧ W (72 + 5 * i + 4) = -1000000)
/-- a way's numbers lie in their bounds -/
def WayB (W : Nat → Int32) : Prop := (bw (W 0) 0 3 ∧ bw (W 1) 0 3 ∧ bw (W 2) 0 4 ∧ bw (W 3) 0 6 ∧ bw (W 4) 0 1 ∧ bw (W 5) 0 20) ∧ (∀ i, i < 3 → bw (W (6 + 3 * i)) 0 400 ∧ bw (W (6 + 3 * i + 1)) 0 9 ∧ bw (W (6 + 3 * i + 2)) 0 1 ∧ ((i : Int) < (W 0).toInt → 40 ≤ (W (6 + 3 * i)).toInt)) ∧ (∀ i, i < 3 → bw (W (15 + 3 * i)) 0 20 ∧ bw (W (15 + 3 * i + 1)) 0 99 ∧ bw (W (15 + 3 * i + 2)) 0 3 ∧ ((W 1).toInt ≤ (i : Int) → W (15 + 3 * i) = 0 ∧ W (15 + 3 * i + 1) = 0 ∧ W (15 + 3 * i + 2) = 0)) ∧ (∀ i, i < 4 → bw (W (24 + 5 * i)) 0 200 ∧ bw (W (24 + 5 * i + 1)) 0 15 ∧ bw (W (24 + 5 * i + 2)) 0 100 ∧ bw (W (24 + 5 * i + 3)) 0 9 ∧ bw (W (24 + 5 * i + 4)) 0 12 ∧ ((i : Int) < (W 2).toInt → 1 ≤ (W (24 + 5 * i + 3)).toInt)) ∧ (∀ i, i < 6 → bw (W (44 + 4 * i)) 0 15 ∧ bw (W (44 + 4 * i + 1)) 0 15 ∧ bw (W (44 + 4 * i + 2)) 0 200 ∧ bw (W (44 + 4 * i + 3)) 0 200) ∧ (bw (W 68) 0 200 ∧ bw (W 69) 0 99 ∧ bw (W 70) 0 99 ∧ bw (W 71) 0 99) ∧ (∀ i : Nat, i < 20 → (i : Int) < (W 5).toInt → ActB W i)
/-- a loop O of the class (size spin twist tired tick why kinked) is the model's Lv (size spin twist tired time kinked why) -/
def LoopR (O Lv : Nat → Int32) : Prop := O 0 = Lv 0 ∧ O 1 = Lv 1 ∧ O 2 = Lv 2 ∧ O 3 = Lv 3 ∧ O 4 = Lv 4 ∧ O 5 = Lv 6 ∧ O 6 = Lv 5
/-- a loop's bounds: on a rope of this length and stiffness, behind n calls -/
def LoopB (n : Nat) (len stiff : Int32) (Lv : Nat → Int32) : Prop := (0 ≤ (Lv 0).toInt ∧ (Lv 0).toInt ≤ len.toInt / 2) ∧ bw (Lv 1) 0 15 ∧ bw (Lv 2) (-80) 80 ∧ bw (Lv 3) 0 (15 * n) ∧ bw (Lv 4) 0 n ∧ Bz (Lv 5) ∧ (Lv 5 = 1 ↔ (24 + 4 * stiff.toInt < (Lv 2).toInt ∨ (Lv 2).toInt < -(24 + 4 * stiff.toInt)))
/-- the rope and the horse that are taken -/
def HeldR (O W : Nat → Int32) (rope horse : Int32) : Prop := bw rope 0 2 ∧ (horse = -1000000 ∨ bw horse 0 2) ∧ O 4 = W (6 + 3 * rope.toNatClampNeg) ∧ O 5 = W (6 + 3 * rope.toNatClampNeg + 1) ∧ O 6 = W (6 + 3 * rope.toNatClampNeg + 2) ∧ (horse = -1000000 → O 7 = 0 ∧ O 8 = 0 ∧ O 9 = 0) ∧ (horse ≠ -1000000 → O 7 = W (15 + 3 * horse.toNatClampNeg) ∧ O 8 = W (15 + 3 * horse.toNatClampNeg + 1) ∧ O 9 = W (15 + 3 * horse.toNatClampNeg + 2))
def HeldB (W : Nat → Int32) (rope horse : Int32) : Prop := rope.toInt < (W 0).toInt ∧ (horse ≠ -1000000 → horse.toInt < (W 1).toInt)
/-- the scene at sc is the model's way W, loop Lv, rope and horse -/
def SceneR (n sc : Nat) (S : HSt) (W Lv : Nat → Int32) (rope horse : Int32) : Prop := WayR (gI S (sc + 2)) (gI S (sc + 3)) W ∧ WayB W ∧ HeldR (gI S sc) W rope horse ∧ LoopR (gI S (sc + 4)) Lv ∧ LoopB n (W (6 + 3 * rope.toNatClampNeg)) (W (6 + 3 * rope.toNatClampNeg + 1)) Lv
def IScn (n : Nat) (S : HSt) : Prop := SceneR n 18 S (gI S 68) (gI S 71) (gI S 64 18) (gI S 64 19) ∧ gI S 18 2 = gI S 64 7 ∧ Bz (gI S 64 7) ∧ (gI S 64 7 = 1 → HeldB (gI S 68) (gI S 64 18) (gI S 64 19)) ∧ (gI S 64 7 = 0 → ∀ j, j < 6 → gI S 68 j = 0)
def IImg (n : Nat) (S : HSt) : Prop := ∀ k, k < 2 → gI S (24 + 5 * k) 2 = gI S 82 k ∧ Bz (gI S 82 k) ∧ (gI S 82 k = 1 → gI S 64 7 = 1 ∧ SceneR n (24 + 5 * k) S (fun j => gI S 83 (172 * k + j)) (fun j => gI S 84 (7 * k + j)) (gI S 85 k) (gI S 86 k) ∧ HeldB (fun j => gI S 83 (172 * k + j)) (gI S 85 k) (gI S 86 k))
/-- all but the planner's memory -/
def Inv0 (n : Nat) (S : HSt) : Prop := IRow S ∧ ITape S ∧ IStat S ∧ ITr S ∧ IScn n S ∧ IImg n S
/-- what no call may touch but those of its own -/
theorem IRow.of {S T : HSt} (h : ∀ a, (3 ≤ a ∧ a ≤ 12) ∨ (65 ≤ a ∧ a ≤ 67) → gI T a = gI S a) (hI : IRow S) : IRow T := by
  unfold IRow
  rw [h 12 (by omega), h 65 (by omega), h 11 (by omega), h 66 (by omega), h 67 (by omega)]
  exact ⟨hI.1, fun r k hr hk => by rw [h (3 + r) (by omega)]; exact hI.2 r k hr hk⟩
theorem ITape.of {S T : HSt} (h1 : gI T 13 2 = gI S 13 2) (h2 : gI T 64 9 = gI S 64 9) (h3 : gI T 70 = gI S 70) (h4 : gI T 14 = gI S 14) (hI : ITape S) : ITape T := by
  unfold ITape
  rw [h1, h2, h3, h4]
  exact hI
theorem ITr.of {S T : HSt} (h1 : gI T 62 1 = gI S 62 1) (h2 : gI T 64 51 = gI S 64 51) (h3 : gI T 63 = gI S 63) (h4 : gI T 87 = gI S 87) (hI : ITr S) : ITr T := by
  unfold ITr
  rw [h1, h2, h3, h4]
  exact hI
theorem LoopB.mono {n m : Nat} {len stiff : Int32} {Lv : Nat → Int32} (h : n ≤ m) (hB : LoopB n len stiff Lv) : LoopB m len stiff Lv := by
  obtain ⟨a, b, c, ⟨d1, d2⟩, ⟨e1, e2⟩, f, g⟩ := hB
  exact ⟨a, b, c, ⟨d1, by omega⟩, ⟨e1, by omega⟩, f, g⟩
theorem SceneR.mono {n m sc : Nat} {S : HSt} {W Lv : Nat → Int32} {r h : Int32} (hn : n ≤ m) (hI : SceneR n sc S W Lv r h) : SceneR m sc S W Lv r h := ⟨hI.1, hI.2.1, hI.2.2.1, hI.2.2.2.1, hI.2.2.2.2.mono hn⟩
theorem IScn.mono {n m : Nat} {S : HSt} (hn : n ≤ m) (hI : IScn n S) : IScn m S := ⟨hI.1.mono hn, hI.2⟩
theorem IImg.mono {n m : Nat} {S : HSt} (hn : n ≤ m) (hI : IImg n S) : IImg m S := fun k hk => by
  obtain ⟨a, b, c⟩ := hI k hk
  exact ⟨a, b, fun h => ⟨(c h).1, (c h).2.1.mono hn, (c h).2.2⟩⟩
theorem Inv0.mono {n m : Nat} {S : HSt} (hn : n ≤ m) (hI : Inv0 n S) : Inv0 m S := ⟨hI.1, hI.2.1, hI.2.2.1, hI.2.2.2.1, hI.2.2.2.2.1.mono hn, hI.2.2.2.2.2.mono hn⟩
theorem IScn.of {n : Nat} {S T : HSt} (h1 : ∀ j, j ≠ 0 → j ≠ 1 → j ≠ 3 → gI T 18 j = gI S 18 j) (h2 : gI T 20 = gI S 20) (h3 : gI T 21 = gI S 21) (h4 : gI T 22 = gI S 22) (h5 : gI T 68 = gI S 68) (h6 : gI T 71 = gI S 71) (h7 : gI T 64 18 = gI S 64 18) (h8 : gI T 64 19 = gI S 64 19) (h9 : gI T 64 7 = gI S 64 7) (hI : IScn n S) : IScn n T := by
  unfold IScn SceneR HeldR at hI ⊢
  simp only [show 18 + 2 = 20 from rfl, show 18 + 3 = 21 from rfl, show 18 + 4 = 22 from rfl] at hI ⊢
  rw [h2, h3, h4, h5, h6, h7, h8, h9, h1 2 (by decide) (by decide) (by decide), h1 4 (by decide) (by decide) (by decide), h1 5 (by decide) (by decide) (by decide), h1 6 (by decide) (by decide) (by decide), h1 7 (by decide) (by decide) (by decide), h1 8 (by decide) (by decide) (by decide), h1 9 (by decide) (by decide) (by decide)]
  exact hI
theorem IImg.of {n : Nat} {S T : HSt} (h1 : ∀ a, 24 ≤ a → a ≤ 33 → gI T a = gI S a) (h2 : ∀ a, 82 ≤ a → a ≤ 86 → gI T a = gI S a) (h3 : gI T 64 7 = gI S 64 7) (hI : IImg n S) : IImg n T := by
  intro k hk
  have h := hI k hk
  unfold SceneR HeldR at h ⊢
  rw [h1 (24 + 5 * k) (by omega) (by omega), h1 (24 + 5 * k + 2) (by omega) (by omega), h1 (24 + 5 * k + 3) (by omega) (by omega), h1 (24 + 5 * k + 4) (by omega) (by omega), h2 82 (by omega) (by omega), h2 83 (by omega) (by omega), h2 84 (by omega) (by omega), h2 85 (by omega) (by omega), h2 86 (by omega) (by omega), h3]
  exact h
/-- a heap that looks the same in all that Inv0 speaks of -/
def Same (S T : HSt) : Prop := (∀ a, 1 ≤ a → a ≤ 12 → gI T a = gI S a) ∧ (gI T 0 10 = gI S 0 10) ∧ (gI T 13 2 = gI S 13 2 ∧ gI T 13 7 = gI S 13 7 ∧ gI T 14 = gI S 14) ∧ (gI T 18 = gI S 18 ∧ gI T 20 = gI S 20 ∧ gI T 21 = gI S 21 ∧ gI T 22 = gI S 22) ∧ (∀ a, 24 ≤ a → a ≤ 33 → gI T a = gI S a) ∧ (gI T 62 1 = gI S 62 1 ∧ gI T 63 = gI S 63) ∧ (∀ j, j = 1 ∨ j = 7 ∨ j = 9 ∨ j = 10 ∨ j = 18 ∨ j = 19 ∨ j = 51 → gI T 64 j = gI S 64 j) ∧ (∀ a, (65 ≤ a ∧ a ≤ 68) ∨ a = 70 ∨ a = 71 ∨ (82 ≤ a ∧ a ≤ 87) → gI T a = gI S a)
theorem Inv0.same {n : Nat} {S T : HSt} (h : Same S T) (hI : Inv0 n S) : Inv0 n T := by
  obtain ⟨i1, i2, i3, i4, i5, i6⟩ := hI
  obtain ⟨a, b, ⟨c1, c2, c3⟩, ⟨d1, d2, d3, d4⟩, e, ⟨f1, f2⟩, g, m⟩ := h
  refine ⟨i1.of (fun x hx => ?_), i2.of c1 (g 9 (by omega)) (m 70 (by omega)) c3, ⟨?_, ?_⟩, i4.of f1 (g 51 (by omega)) f2 (m 87 (by omega)), i5.of (fun j _ _ _ => by rw [d1]) d2 d3 d4 (m 68 (by omega)) (m 71 (by omega)) (g 18 (by omega)) (g 19 (by omega)) (g 7 (by omega)), i6.of e (fun x h1 h2 => m x (by omega)) (g 7 (by omega))⟩
  · rcases hx with q | q
    · exact a x (by omega) (by omega)
    · exact m x (by omega)
  · rw [b, g 1 (by omega)]; exact i3.1
  · rw [c2, g 10 (by omega)]; exact i3.2
/-- the places that Inv0 doesn't speak of -/
def FreeW (W : List (Nat × Nat)) : Bool := W.all (fun q => (q.1 == 64 && !(q.2 == 1 || q.2 == 7 || q.2 == 9 || q.2 == 10 || q.2 == 18 || q.2 == 19 || q.2 == 51 || q.2 == 1000)) || q.1 == 69 || (72 ≤ q.1 && q.1 ≤ 81) || (34 ≤ q.1 && q.1 ≤ 61) || (15 ≤ q.1 && q.1 ≤ 17) || (q.1 == 13 && !(q.2 == 2 || q.2 == 7 || q.2 == 1000)) || (88 ≤ q.1))
theorem same_of_fr {W : List (Nat × Nat)} {S T : HSt} (hW : FreeW W = true) (h : Fr W S T) : Same S T := by
  have hw : ∀ q ∈ W, ((q.1 == 64 && !(q.2 == 1 || q.2 == 7 || q.2 == 9 || q.2 == 10 || q.2 == 18 || q.2 == 19 || q.2 == 51 || q.2 == 1000)) || q.1 == 69 || (72 ≤ q.1 && q.1 ≤ 81) || (34 ≤ q.1 && q.1 ≤ 61) || (15 ≤ q.1 && q.1 ≤ 17) || (q.1 == 13 && !(q.2 == 2 || q.2 == 7 || q.2 == 1000)) || (88 ≤ q.1)) = true := List.all_eq_true.mp hW
  have key : ∀ a j, ((a == 64 && !(j == 1 || j == 7 || j == 9 || j == 10 || j == 18 || j == 19 || j == 51 || j == 1000)) || a == 69 || (72 ≤ a && a ≤ 81) || (34 ≤ a && a ≤ 61) || (15 ≤ a && a ≤ 17) || (a == 13 && !(j == 2 || j == 7 || j == 1000)) || (88 ≤ a)) = false → ((a == 64 && !((1000 : Nat) == 1 || (1000 : Nat) == 7 || (1000 : Nat) == 9 || (1000 : Nat) == 10 || (1000 : Nat) == 18 || (1000 : Nat) == 19 || (1000 : Nat) == 51 || (1000 : Nat) == 1000)) || a == 69 || (72 ≤ a && a ≤ 81) || (34 ≤ a && a ≤ 61) || (15 ≤ a && a ≤ 17) || (a == 13 && !((1000 : Nat) == 2 || (1000 : Nat) == 7 || (1000 : Nat) == 1000)) || (88 ≤ a)) = false → gI T a j = gI S a j := by
    intro a j h1 h2
    refine h a j (fun q => ?_) (fun q => ?_)
    · have := hw _ q
      simp only at this
      rw [h1] at this
      cases this
    · have := hw _ q
      simp only at this
      rw [h2] at this
      cases this
  have row : ∀ a, ¬ a = 64 → ¬ a = 13 → ¬ a = 69 → ¬ (72 ≤ a ∧ a ≤ 81) → ¬ (34 ≤ a ∧ a ≤ 61) → ¬ (15 ≤ a ∧ a ≤ 17) → ¬ 88 ≤ a → gI T a = gI S a := by
    intro a h1 h2 h3 h4 h5 h6 h7
    funext j
    have e : ∀ j : Nat, ((a == 64 && !(j == 1 || j == 7 || j == 9 || j == 10 || j == 18 || j == 19 || j == 51 || j == 1000)) || a == 69 || (72 ≤ a && a ≤ 81) || (34 ≤ a && a ≤ 61) || (15 ≤ a && a ≤ 17) || (a == 13 && !(j == 2 || j == 7 || j == 1000)) || (88 ≤ a)) = false := by
      intro j
      simp only [beq_eq_false_iff_ne.mpr h1, beq_eq_false_iff_ne.mpr h2, beq_eq_false_iff_ne.mpr h3, Bool.false_and, Bool.false_or, Bool.or_false]
      simp only [Bool.or_eq_false_iff, Bool.and_eq_false_iff, decide_eq_false_iff_not]
      omega
    exact key a j (e j) (e 1000)
  refine ⟨fun a h1 h2 => row a (by omega) (by omega) (by omega) (by omega) (by omega) (by omega) (by omega), congrFun (row 0 (by decide) (by decide) (by decide) (by decide) (by decide) (by decide) (by decide)) 10, ⟨key 13 2 (by decide) (by decide), key 13 7 (by decide) (by decide), row 14 (by decide) (by decide) (by decide) (by decide) (by decide) (by decide) (by decide)⟩, ⟨row 18 (by decide) (by decide) (by decide) (by decide) (by decide) (by decide) (by decide), row 20 (by decide) (by decide) (by decide) (by decide) (by decide) (by decide) (by decide), row 21 (by decide) (by decide) (by decide) (by decide) (by decide) (by decide) (by decide), row 22 (by decide) (by decide) (by decide) (by decide) (by decide) (by decide) (by decide)⟩, fun a h1 h2 => row a (by omega) (by omega) (by omega) (by omega) (by omega) (by omega) (by omega), ⟨congrFun (row 62 (by decide) (by decide) (by decide) (by decide) (by decide) (by decide) (by decide)) 1, row 63 (by decide) (by decide) (by decide) (by decide) (by decide) (by decide) (by decide)⟩, fun j hj => ?_, fun a ha => row a (by omega) (by omega) (by omega) (by omega) (by omega) (by omega) (by omega)⟩
  rcases hj with rfl | rfl | rfl | rfl | rfl | rfl | rfl <;> exact key 64 _ (by decide) (by decide)
theorem Same.trans {S T U : HSt} (h1 : Same S T) (h2 : Same T U) : Same S U := by
  obtain ⟨a, b, ⟨c1, c2, c3⟩, ⟨d1, d2, d3, d4⟩, e, ⟨f1, f2⟩, g, m⟩ := h1
  obtain ⟨a', b', ⟨c1', c2', c3'⟩, ⟨d1', d2', d3', d4'⟩, e', ⟨f1', f2'⟩, g', m'⟩ := h2
  exact ⟨fun x h1 h2 => (a' x h1 h2).trans (a x h1 h2), b'.trans b, ⟨c1'.trans c1, c2'.trans c2, c3'.trans c3⟩, ⟨d1'.trans d1, d2'.trans d2, d3'.trans d3, d4'.trans d4⟩, fun x h1 h2 => (e' x h1 h2).trans (e x h1 h2), ⟨f1'.trans f1, f2'.trans f2⟩, fun j hj => (g' j hj).trans (g j hj), fun x hx => (m' x hx).trans (m x hx)⟩
