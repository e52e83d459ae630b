-- needs: 90.px
/-! ===== fewest: the start ===== -/
theorem cs_shp {S T : HSt} (h : shp T = shp S) (r : Nat) : gL T r = gL S r := by
  have := congrArg (fun q => q.2.2.1) h
  exact congrFun this r
/-- the class's heap where the rounds begin -/
noncomputable def c8 (S : HSt) (h nx : Nat) (a2 : Int32) : HSt := sI (sI (sI (f_J7_fill_d0a16 (f_J7_fill_d0a16 S h nx h 0) h nx nx 0) 88 2 (gI (f_J7_fill_d0a16 (f_J7_fill_d0a16 S h nx h 0) h nx nx 0) 22 3)) 88 3 a2) 88 4 0
theorem nwZ_1 {z0 z : Nat} (h : 1 ≤ z0) : nwZ (z0 : Int) 1 z = true ↔ z = z0 := by
  unfold nwZ
  rw [Bool.and_eq_true, Bool.and_eq_true, decide_eq_true_iff, decide_eq_true_iff, b_one, decide_eq_true_iff]
  omega
theorem start_c {S : HSt} {h nx wa ta p0 z0 : Nat} (hRS : RS h nx S) (hhn : h ≠ nx) (hwa : wa ≤ 200) (h3 : gI S 22 3 = nI ta) (h1 : gI S 22 1 = nI p0) (h0 : gI S 22 0 = nI z0) (hp : p0 < 16) (hz : 1 ≤ z0 ∧ z0 < wa) : p_J7_fill_d0a16 S h nx h 0 ∧ p_J7_fill_d0a16 (f_J7_fill_d0a16 S h nx h 0) h nx nx 0 ∧ p_X3_add (c8 S h nx (nI wa)) h nx 88 h (f_X3_placeOf (c8 S h nx (nI wa)) (gI (c8 S h nx (nI wa)) 22 1) 0) (gI (c8 S h nx (nI wa)) 22 0) 1 ∧ ∃ r9, f_X3_add (c8 S h nx (nI wa)) h nx 88 h (f_X3_placeOf (c8 S h nx (nI wa)) (gI (c8 S h nx (nI wa)) 22 1) 0) (gI (c8 S h nx (nI wa)) 22 0) 1 = r9 ∧ (∀ x k, x ≠ 88 → gI r9 x k = gI S x k) ∧ gI r9 88 2 = nI ta ∧ gI r9 88 3 = nI wa ∧ gI r9 88 4 = 0 ∧ (∀ p g z, p < 16 → g < 181 → z < 256 → (inJ (gJ r9 h) (cel p g) z = true ↔ (p = p0 ∧ g = 0 ∧ z = z0))) ∧ (∀ p g z, p < 16 → g < 181 → z < 256 → inJ (gJ r9 nx) (cel p g) z = false) := by
  have lh : gL S h = 11584 := (hRS.2.2.2.1 h (Or.inl rfl)).2.2
  have ln : gL (f_J7_fill_d0a16 S h nx h 0) nx = 11584 := by
    rw [cs_shp (q_J7_fill_d0a16 _ _ _ _ _) nx]; exact (hRS.2.2.2.1 nx (Or.inr rfl)).2.2
  obtain ⟨a1, a2, a3, a4⟩ := fillJ_f S h nx h lh
  obtain ⟨b1, b2, b3, b4⟩ := fillJ_f (f_J7_fill_d0a16 S h nx h 0) h nx nx ln
  have gF : gI (f_J7_fill_d0a16 (f_J7_fill_d0a16 S h nx h 0) h nx nx 0) = gI S := b2.trans a2
  have g8 : ∀ x k, x ≠ 88 → gI (c8 S h nx (nI wa)) x k = gI S x k := fun x k hx => by
    unfold c8
    rw [gs_ne hx, gs_ne hx, gs_ne hx, gF]
  have k2 : gI (c8 S h nx (nI wa)) 88 2 = nI ta := by
    unfold c8
    rw [gs_o (by decide), gs_o (by decide), gs_eq, if_pos rfl, gF, h3]
  have k3 : gI (c8 S h nx (nI wa)) 88 3 = nI wa := by
    unfold c8
    rw [gs_o (by decide), gs_eq, if_pos rfl]
  have k4 : gI (c8 S h nx (nI wa)) 88 4 = 0 := by
    unfold c8
    rw [gs_eq, if_pos rfl]
  have jh : ∀ i, i < 11584 → gJ (c8 S h nx (nI wa)) h i = 0 := fun i hi => by
    show gJ (f_J7_fill_d0a16 (f_J7_fill_d0a16 S h nx h 0) h nx nx 0) h i = 0
    rw [b3 h hhn, a4 i hi]
  have jn : ∀ i, i < 11584 → gJ (c8 S h nx (nI wa)) nx i = 0 := fun i hi => by
    show gJ (f_J7_fill_d0a16 (f_J7_fill_d0a16 S h nx h 0) h nx nx 0) nx i = 0
    exact b4 i hi
  rw [g8 22 1 (by decide), g8 22 0 (by decide), h1, h0, show (0 : Int32) = nI 0 from rfl, place_at, show nI 0 = (0 : Int32) from rfl]
  have hcl := cel_lt hp (show 0 < 181 by omega)
  have hzt : (nI z0).toInt = (z0 : Int) := nI_ti (by omega)
  have hb : ∀ j, 20 ≤ j → b64 (1 : Int64) j = false := fun j hj => by rw [b_one, decide_eq_false (by omega)]
  obtain ⟨-, d2⟩ := addJ_at (c8 S h nx (nI wa)) h nx h (a := cel p0 0) (a3 := nI z0) (a4 := 1) hcl (by rw [hzt]; omega) (by rw [hzt]; omega) hb k3 hwa
  rw [hzt] at d2
  obtain ⟨t1, t2, t3, t4⟩ := d2 (fun z hz2 => by
    cases e : nwZ (z0 : Int) 1 z
    · rfl
    · have := (nwZ_1 hz.1).mp e; omega)
  refine ⟨a1, b1, p_add _ h nx h 1 hcl (by rw [hzt]; omega), _, rfl, fun x k hx => by rw [t1]; exact g8 x k hx, by rw [t1]; exact k2, by rw [t1]; exact k3, by rw [t1]; exact k4, fun p g z hp' hg' hz' => ?_, fun p g z hp' hg' hz' => ?_⟩
  · have z8 : inJ (gJ (c8 S h nx (nI wa)) h) (cel p g) z = false := by
      unfold inJ
      rw [jh _ (by have := cel_lt hp' hg'; omega)]; exact b_zero _
    by_cases q : p = p0 ∧ g = 0
    · obtain ⟨rfl, rfl⟩ := q
      rw [t4 z hz', z8, Bool.false_or, nwZ_1 hz.1]
      exact ⟨fun h => ⟨rfl, rfl, h⟩, fun h => h.2.2⟩
    · have e : inJ (gJ (f_X3_add (c8 S h nx (nI wa)) h nx 88 h (nI (cel p0 0)) (nI z0) 1) h) (cel p g) z = inJ (gJ (c8 S h nx (nI wa)) h) (cel p g) z := by
        unfold inJ
        rw [t3 _ (cel_ne hg' (by omega) q (by omega))]
      rw [e, z8]
      exact ⟨fun h => absurd h (by decide), fun h => absurd ⟨h.1, h.2.1⟩ q⟩
  · unfold inJ
    rw [t2 nx (fun e => hhn e.symm), jn _ (by have := cel_lt hp' hg'; omega)]; exact b_zero _
