/-- the class: its cells -/
def cKT : List (Nat × Nat × Nat) := [(0, 11, 0), (1, 5, 0), (2, 19, 8), (3, 14, 40), (4, 14, 40), (5, 14, 40), (6, 14, 40), (7, 14, 40), (8, 14, 40), (9, 14, 40), (10, 14, 40), (11, 14, 8), (12, 14, 8), (13, 4, 0), (14, 13, 600), (15, 10, 0), (16, 14, 6), (17, 14, 185), (18, 7, 0), (19, 10, 0), (20, 14, 6), (21, 14, 185), (22, 1, 0), (23, 18, 2), (24, 7, 0), (25, 10, 0), (26, 14, 6), (27, 14, 185), (28, 1, 0), (29, 7, 0), (30, 10, 0), (31, 14, 6), (32, 14, 185), (33, 1, 0), (34, 9, 0), (35, 6, 0), (36, 1, 0), (37, 9, 0), (38, 8, 0), (39, 14, 384), (40, 14, 6), (41, 14, 101), (42, 1, 0), (43, 2, 0), (44, 17, 6), (45, 19, 6), (46, 14, 5), (47, 14, 5), (48, 14, 5), (49, 14, 5), (50, 14, 5), (51, 14, 5), (52, 14, 6), (53, 14, 6), (54, 14, 640), (55, 9, 0), (56, 1, 0), (57, 1, 0), (58, 1, 0), (59, 1, 0), (60, 1, 0), (61, 1, 0), (62, 0, 0), (63, 14, 16)]
def cPT : List (Nat × Nat × Nat) := [(0, 0, 1), (0, 1, 13), (0, 2, 18), (0, 3, 23), (0, 4, 34), (0, 5, 35), (0, 6, 38), (0, 7, 43), (0, 8, 62), (1, 0, 2), (1, 1, 11), (1, 2, 12), (2, 0, 3), (2, 1, 4), (2, 2, 5), (2, 3, 6), (2, 4, 7), (2, 5, 8), (2, 6, 9), (2, 7, 10), (13, 0, 14), (13, 1, 15), (15, 0, 16), (15, 1, 17), (18, 0, 19), (18, 1, 22), (19, 0, 20), (19, 1, 21), (23, 0, 24), (23, 1, 29), (24, 0, 25), (24, 1, 28), (25, 0, 26), (25, 1, 27), (29, 0, 30), (29, 1, 33), (30, 0, 31), (30, 1, 32), (35, 0, 36), (35, 1, 37), (38, 0, 39), (38, 1, 40), (38, 2, 41), (38, 3, 42), (43, 0, 44), (43, 1, 45), (43, 2, 52), (43, 3, 53), (43, 4, 54), (43, 5, 55), (44, 0, 56), (44, 1, 57), (44, 2, 58), (44, 3, 59), (44, 4, 60), (44, 5, 61), (45, 0, 46), (45, 1, 47), (45, 2, 48), (45, 3, 49), (45, 4, 50), (45, 5, 51), (62, 0, 63)]
def CS (S : HSt) : Prop := 88 ≤ gn S ∧ (∀ q ∈ cKT, gK S q.1 = q.2.1 ∧ gL S q.1 = q.2.2) ∧ (∀ q ∈ cPT, gP S q.1 q.2.1 = some q.2.2)
theorem cKT_lt : ∀ q ∈ cKT, q.1 < 88 := by decide
theorem cs_lt {S : HSt} (a k n : Nat) (hq : (a, k, n) ∈ cKT) (h : CS S) : a < gn S := Nat.lt_of_lt_of_le (cKT_lt _ hq) h.1
theorem cs_k {S : HSt} (a k n : Nat) (hq : (a, k, n) ∈ cKT) (h : CS S) : gK S a = k := (h.2.1 (a, k, n) hq).1
theorem cs_l {S : HSt} (a k n : Nat) (hq : (a, k, n) ∈ cKT) (h : CS S) : gL S a = n := (h.2.1 (a, k, n) hq).2
theorem cs_p {S : HSt} (a j b : Nat) (hq : (a, j, b) ∈ cPT) (h : CS S) : gP S a j = some b := h.2.2 (a, j, b) hq
theorem cs_ltE {S : HSt} (a k : Nat) (hq : ∃ z, (a, k, z) ∈ cKT) (h : CS S) : a < gn S := by
  obtain ⟨z, hz⟩ := hq
  exact cs_lt a k z hz h
theorem cs_kE {S : HSt} (a k : Nat) (hq : ∃ z, (a, k, z) ∈ cKT) (h : CS S) : gK S a = k := by
  obtain ⟨z, hz⟩ := hq
  exact cs_k a k z hz h
theorem shp_rI (S : HSt) (a : Nat) (g : Nat → Int32) : shp (rI S a g) = shp S := id rfl
theorem FP.pP {q : Nat × HSt} {v : Nat} {S S0 : HSt} (h : q = (v, S0)) : FP (some (.ref q.1)) S (some (.ref v)) S := by rw [h]; exact ⟨rfl, rfl⟩
theorem CS.of {S T : HSt} (h : shp T = shp S) (hM : CS S) : CS T := by
  have h1 : gn T = gn S := congrArg (fun q => q.1) h
  have h2 : gK T = gK S := congrArg (fun q => q.2.1) h
  have h3 : gL T = gL S := congrArg (fun q => q.2.2.1) h
  have h4 : gP T = gP S := congrArg (fun q => q.2.2.2) h
  unfold CS
  rw [h1, h2, h3, h4]
  exact hM
theorem wy_all : ∀ q ∈ cKT, q.2.1 = 10 → q.2.2 = 0 → (q.1 + 1, 14, 6) ∈ cKT ∧ (q.1 + 2, 14, 185) ∈ cKT ∧ (q.1, 0, q.1 + 1) ∈ cPT ∧ (q.1, 1, q.1 + 2) ∈ cPT := by decide +kernel
theorem sc_all : ∀ q ∈ cKT, q.2.1 = 7 → q.2.2 = 0 → (q.1 + 1, 10, 0) ∈ cKT ∧ (q.1 + 4, 1, 0) ∈ cKT ∧ (q.1, 0, q.1 + 1) ∈ cPT ∧ (q.1, 1, q.1 + 4) ∈ cPT := by decide +kernel
theorem wy_counts {o : Nat} (h : (o, 10, 0) ∈ cKT) : (o + 1, 14, 6) ∈ cKT := (wy_all _ h rfl rfl).1
theorem wy_values {o : Nat} (h : (o, 10, 0) ∈ cKT) : (o + 2, 14, 185) ∈ cKT := (wy_all _ h rfl rfl).2.1
theorem wy_pcounts {o : Nat} (h : (o, 10, 0) ∈ cKT) : (o, 0, o + 1) ∈ cPT := (wy_all _ h rfl rfl).2.2.1
theorem wy_pvalues {o : Nat} (h : (o, 10, 0) ∈ cKT) : (o, 1, o + 2) ∈ cPT := (wy_all _ h rfl rfl).2.2.2
theorem sc_way {o : Nat} (h : (o, 7, 0) ∈ cKT) : (o + 1, 10, 0) ∈ cKT := (sc_all _ h rfl rfl).1
theorem sc_loop {o : Nat} (h : (o, 7, 0) ∈ cKT) : (o + 4, 1, 0) ∈ cKT := (sc_all _ h rfl rfl).2.1
theorem sc_pway {o : Nat} (h : (o, 7, 0) ∈ cKT) : (o, 0, o + 1) ∈ cPT := (sc_all _ h rfl rfl).2.2.1
theorem sc_ploop {o : Nat} (h : (o, 7, 0) ∈ cKT) : (o, 1, o + 4) ∈ cPT := (sc_all _ h rfl rfl).2.2.2
theorem ar_all2 : ∀ j, j < 8 → (3 + j, 14, 40) ∈ cKT ∧ (2, j, 3 + j) ∈ cPT := by decide +kernel
theorem ar_m2 {i : Int32} (h : vp_in i 8) : (3 + i.toNatClampNeg, 14, 40) ∈ cKT := by
  obtain ⟨j, hj, rfl⟩ := vp_in_of h (by decide)
  rw [nI_clamp (by omega)]
  exact (ar_all2 j hj).1
theorem ar_p2 {i : Int32} (h : vp_in i 8) : (2, i.toNatClampNeg, 3 + i.toNatClampNeg) ∈ cPT := by
  obtain ⟨j, hj, rfl⟩ := vp_in_of h (by decide)
  rw [nI_clamp (by omega)]
  exact (ar_all2 j hj).2
theorem ar_all23 : ∀ j, j < 2 → (24 + 5 * j, 7, 0) ∈ cKT ∧ (23, j, 24 + 5 * j) ∈ cPT := by decide +kernel
theorem ar_m23 {i : Int32} (h : vp_in i 2) : (24 + 5 * i.toNatClampNeg, 7, 0) ∈ cKT := by
  obtain ⟨j, hj, rfl⟩ := vp_in_of h (by decide)
  rw [nI_clamp (by omega)]
  exact (ar_all23 j hj).1
theorem ar_p23 {i : Int32} (h : vp_in i 2) : (23, i.toNatClampNeg, 24 + 5 * i.toNatClampNeg) ∈ cPT := by
  obtain ⟨j, hj, rfl⟩ := vp_in_of h (by decide)
  rw [nI_clamp (by omega)]
  exact (ar_all23 j hj).2
theorem ar_all44 : ∀ j, j < 6 → (56 + j, 1, 0) ∈ cKT ∧ (44, j, 56 + j) ∈ cPT := by decide +kernel
theorem ar_m44 {i : Int32} (h : vp_in i 6) : (56 + i.toNatClampNeg, 1, 0) ∈ cKT := by
  obtain ⟨j, hj, rfl⟩ := vp_in_of h (by decide)
  rw [nI_clamp (by omega)]
  exact (ar_all44 j hj).1
theorem ar_p44 {i : Int32} (h : vp_in i 6) : (44, i.toNatClampNeg, 56 + i.toNatClampNeg) ∈ cPT := by
  obtain ⟨j, hj, rfl⟩ := vp_in_of h (by decide)
  rw [nI_clamp (by omega)]
  exact (ar_all44 j hj).2
theorem ar_all45 : ∀ j, j < 6 → (46 + j, 14, 5) ∈ cKT ∧ (45, j, 46 + j) ∈ cPT := by decide +kernel
theorem ar_m45 {i : Int32} (h : vp_in i 6) : (46 + i.toNatClampNeg, 14, 5) ∈ cKT := by
  obtain ⟨j, hj, rfl⟩ := vp_in_of h (by decide)
  rw [nI_clamp (by omega)]
  exact (ar_all45 j hj).1
theorem ar_p45 {i : Int32} (h : vp_in i 6) : (45, i.toNatClampNeg, 46 + i.toNatClampNeg) ∈ cPT := by
  obtain ⟨j, hj, rfl⟩ := vp_in_of h (by decide)
  rw [nI_clamp (by omega)]
  exact (ar_all45 j hj).2