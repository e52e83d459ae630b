-- needs: 9y.way
/-! ===== ASSEMBLY: fewest, and the start ===== -/
theorem kI_fewest : K_fewest INV := by
  intro n S a1 a2 hn hV
  obtain ⟨hs, hI, hP⟩ := hV
  -- the planner's memory is not touched
  have pl : ∀ U : HSt, (∀ x k, x < 88 → gI U x k = gI S x k) → IPlan (n + 1) (f_X12_fewest U 64 a1 a2).2 := fun U hU => by
    have r : ∀ x, x < 88 → gI U x = gI S x := fun x hx => by funext k; exact hU x k hx
    have hPU : IPlan n U := hP.of (hU 18 3 (by omega)) (hU 43 6 (by omega)) (hU 43 7 (by omega)) (r 46 (by omega)) (r 52 (by omega)) (r 53 (by omega)) (r 56 (by omega)) (r 68 (by omega)) (hU 64 18 (by omega)) (hU 64 19 (by omega))
    exact (fr_plan (by decide) (v_X12_fewest U 64 a1 a2) hPU).mono (Nat.le_succ n)
  refine ⟨fun hE => ?_, fun hgo h9 h88 => ?_, fun hgo h nx hRS h9 => ?_⟩
  · obtain ⟨p1, p2, hI2⟩ := few_E hI hE
    exact ⟨p1, p2, hs.of (q_X12_fewest _ _ _ _), hI2, pl S (fun _ _ _ => rfl)⟩
  · obtain ⟨p1, p2, p3, hI2, hfr⟩ := few_N hn hs.1 hI hgo h88
    obtain ⟨hRS', h9', -⟩ := mr_cs hs.1 h88
    obtain ⟨hor, hsx⟩ := rs_ticks hRS' 88 18 a1 a2
    have h10 := (congrFun (hsx.2.2.2 0 (by decide)) 9).trans h9'
    refine ⟨p1, p2, p3, SHP.of (q_X12_fewest _ _ _ _) ?_, hI2, pl _ hfr⟩
    rcases hor with q | q
    · exact ⟨q.1, MS.sx hsx (MS.mr hs.1 h88 hs.2.1), Or.inr ⟨89, 90, q, h10, by decide⟩⟩
    · exact ⟨q.1, MS.sx hsx (MS.mr hs.1 h88 hs.2.1), Or.inr ⟨90, 89, q, h10, by decide⟩⟩
  · have hne : h ≠ nx := by
      rcases hs.2.2 with ⟨-, q⟩ | ⟨h', nx', q1, -, q3⟩
      · rw [q] at h9; exact absurd h9 (by intro z; cases z)
      · have e1 := q1.2.2.2.2.1
        have e2 := q1.2.2.2.2.2
        rw [hRS.2.2.2.2.1] at e1
        rw [hRS.2.2.2.2.2] at e2
        rw [Option.some.inj e1, Option.some.inj e2]
        exact q3
    obtain ⟨p1, p2, p3, hI2, hfr⟩ := few_R hn hI hRS hne hgo
    obtain ⟨hor, hsx⟩ := rs_ticks hRS 88 18 a1 a2
    have h10 := (congrFun (hsx.2.2.2 0 (by decide)) 9).trans h9
    refine ⟨p1, p2, p3, SHP.of (q_X12_fewest _ _ _ _) ?_, hI2, pl _ (fun x k hx => hfr x k (by omega))⟩
    rcases hor with q | q
    · exact ⟨q.1, MS.sx hsx hs.2.1, Or.inr ⟨h, nx, q, h10, hne⟩⟩
    · exact ⟨q.1, MS.sx hsx hs.2.1, Or.inr ⟨nx, h, q, h10, fun e => hne e.symm⟩⟩
theorem kI_every : KAll INV := ⟨kI_row, kI_set, kI_copy, kI_drop, kI_feed, kI_way, kI_fault, kI_act, kI_take, kI_tick, kI_hurl, kI_close, kI_now, kI_piece, kI_odds, kI_need, kI_greatest, kI_out, kI_wraps, kI_told, kI_all, kI_score, kI_best, kI_moves, kI_fewest, kI_show, kI_learn, kI_film, kI_image, kI_restore, kI_kind, kI_as, kI_ask, kI_trace, kI_count, kI_status⟩
set_option maxRecDepth 100000 in
theorem s00_12 : ∀ r, r < 8 → gI S00 12 r = -1 ∧ gI S00 65 r = -1 := by decide +kernel
set_option maxRecDepth 100000 in
theorem s00_3 : ∀ r, r < 8 → gI S00 (3 + r) = fun _ => 0 := by
  intro r hr
  have hc : r = 0 ∨ r = 1 ∨ r = 2 ∨ r = 3 ∨ r = 4 ∨ r = 5 ∨ r = 6 ∨ r = 7 := by omega
  rcases hc with rfl | rfl | rfl | rfl | rfl | rfl | rfl | rfl <;> rfl
set_option maxRecDepth 100000 in
theorem s00_r : gI S00 14 = (fun _ => 0) ∧ gI S00 18 = (fun _ => 0) ∧ gI S00 20 = (fun _ => 0) ∧ gI S00 21 = (fun _ => 0) ∧ gI S00 22 = (fun _ => 0) ∧ gI S00 63 = (fun _ => 0) ∧ gI S00 67 = (fun _ => 0) ∧ gI S00 68 = (fun _ => 0) ∧ gI S00 70 = (fun _ => 0) ∧ gI S00 71 = (fun _ => 0) ∧ gI S00 87 = (fun _ => 0) := ⟨rfl, rfl, rfl, rfl, rfl, rfl, rfl, rfl, rfl, rfl, rfl⟩
theorem s00_v : (gI S00 13 2 = 0 ∧ gI S00 64 9 = 0 ∧ gI S00 0 10 = 0 ∧ gI S00 64 1 = 0 ∧ gI S00 13 7 = 0 ∧ gI S00 64 10 = 0 ∧ gI S00 62 1 = 0 ∧ gI S00 64 51 = 0) ∧ (gI S00 64 18 = 0 ∧ gI S00 64 19 = -1000000 ∧ gI S00 64 7 = 0 ∧ gI S00 43 6 = 0) := by decide +kernel
theorem s00_i : ∀ k, k < 2 → gI S00 (24 + 5 * k) 2 = 0 ∧ gI S00 82 k = 0 := by decide +kernel
theorem s00_sh : CS S00 ∧ MS S00 ∧ gn S00 = 88 ∧ gP S00 0 9 = none := by
  unfold CS MS
  decide +kernel
theorem z_bw {lo hi : Int} (h1 : lo ≤ 0) (h2 : 0 ≤ hi) : bw 0 lo hi := ⟨by rw [ti0]; exact h1, by rw [ti0]; exact h2⟩
theorem inv_0 : INV 0 S00 := by
  obtain ⟨r14, r18, r20, r21, r22, r63, r67, r68, r70, r71, r87⟩ := s00_r
  obtain ⟨⟨v1, v2, v3, v4, v5, v6, v7, v8⟩, v9, v10, v11, v12⟩ := s00_v
  obtain ⟨c1, c2, c3, c4⟩ := s00_sh
  refine ⟨⟨c1, c2, Or.inl ⟨c3, c4⟩⟩, ⟨⟨fun r hr => Or.inl (s00_12 r hr), fun r k hr _ => ?_⟩, ⟨?_, ?_, fun k _ => ?_⟩, ⟨?_, ?_⟩, ⟨?_, ?_, fun k _ => ?_⟩, ⟨⟨?_, ?_, ?_, ?_, ?_⟩, ?_, ?_, ?_, ?_⟩, fun k hk => ⟨?_, ?_, ?_⟩⟩, ⟨?_, Or.inl v12⟩⟩
  · rw [s00_3 r hr, r67]
  · rw [v1, v2]
  · rw [v2, ti0]; omega
  · rw [r70, r14]
    show (0 ≤ (0 : Int32).toInt ∧ (0 : Int32).toInt ≤ 255) ∧ (0 : Int32) = (0 : Int32).toInt8.toInt32
    decide
  · rw [v3, v4]
  · rw [v5, v6]
  · rw [v7, v8]
  · rw [v8, ti0]; omega
  · rw [r63, r87]
  · rw [show 18 + 2 = 20 from rfl, show 18 + 3 = 21 from rfl, r20, r21, r68]
    exact ⟨fun _ _ => rfl, fun _ _ _ _ => rfl, fun _ _ _ _ => rfl, fun _ _ _ _ => rfl, fun _ _ _ _ => rfl, fun _ _ => rfl, fun _ _ _ _ => (show (0 : Int32) = cl0 0 by decide)⟩
  · rw [r68]
    refine ⟨⟨z_bw (by decide) (by decide), z_bw (by decide) (by decide), z_bw (by decide) (by decide), z_bw (by decide) (by decide), z_bw (by decide) (by decide), z_bw (by decide) (by decide)⟩, fun i _ => ⟨z_bw (by decide) (by decide), z_bw (by decide) (by decide), z_bw (by decide) (by decide), fun q => ?_⟩, fun i _ => ⟨z_bw (by decide) (by decide), z_bw (by decide) (by decide), z_bw (by decide) (by decide), fun _ => ⟨rfl, rfl, rfl⟩⟩, fun i _ => ⟨z_bw (by decide) (by decide), z_bw (by decide) (by decide), z_bw (by decide) (by decide), z_bw (by decide) (by decide), z_bw (by decide) (by decide), fun q => ?_⟩, fun i _ => ⟨z_bw (by decide) (by decide), z_bw (by decide) (by decide), z_bw (by decide) (by decide), z_bw (by decide) (by decide)⟩, ⟨z_bw (by decide) (by decide), z_bw (by decide) (by decide), z_bw (by decide) (by decide), z_bw (by decide) (by decide)⟩, fun i _ q => ?_⟩
    · rw [ti0] at q; omega
    · rw [ti0] at q; omega
    · rw [ti0] at q; omega
  · rw [v9, v10, r18, r68]
    exact ⟨z_bw (by decide) (by decide), Or.inl rfl, rfl, rfl, rfl, fun _ => ⟨rfl, rfl, rfl⟩, fun q => absurd rfl q⟩
  · rw [show 18 + 4 = 22 from rfl, r22, r71]
    exact ⟨rfl, rfl, rfl, rfl, rfl, rfl, rfl⟩
  · rw [r68, r71]
    refine ⟨⟨by decide, by decide⟩, z_bw (by decide) (by decide), z_bw (by decide) (by decide), z_bw (by decide) (by decide), z_bw (by decide) (by decide), Or.inl rfl, ?_⟩
    exact ⟨fun q => absurd q (by decide), fun q => by rw [ti0] at q; omega⟩
  · rw [r18, v11]
  · rw [v11]; exact Or.inl rfl
  · rw [v11]; exact fun q => absurd q (by decide)
  · rw [r68]; exact fun _ _ _ => rfl
  · rw [(s00_i k hk).1, (s00_i k hk).2]
  · rw [(s00_i k hk).2]; exact Or.inl rfl
  · rw [(s00_i k hk).2]; exact fun q => absurd q (by decide)
  · rw [r18, ti0]; omega
