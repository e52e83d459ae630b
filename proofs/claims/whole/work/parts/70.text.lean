-- needs: 69.act
/-! ===== way: the text ===== -/
def sO (w : Nat) : Nat := if 5 < w then 5 else w
theorem sO_lt (w : Nat) : sO w < 6 := by unfold sO; split <;> omega
theorem bz_fail (S : HSt) (c : Int32) (r : Int32 × HSt) (er : f_X4_fail S 13 c = r) : Bz r.1 := by rw [← er]; exact Or.inl rfl
/-- the second rule -/
noncomputable def rR (S : HSt) (w : Nat) : Int32 := if nI (sO w) = (4 : Int32) then (if f_X10_isFull S 15 4 = 0 then (0 : Int32) else 1) else 0
noncomputable def itF (n : Nat) (S : HSt) (v1 v2 : Int32) (w : Nat) (rp : Int32) : Int32 × Int32 × Int32 × Int32 × HSt := if (10 : Int32) ≤ nI w then (pr 1 (pr (f_X4_fail S 13 1).1 (pr v1 (pr v2 (f_X4_fail S 13 1).2)))) else (if nI (sO w) < v1 then (pr 1 (pr (f_X4_fail S 13 1).1 (pr v1 (pr v2 (f_X4_fail S 13 1).2)))) else (if nI (sO w) ≤ 0 then (if rR S w = 0 then (if f_X10_isFull S 15 (nI (sO w)) = 0 then (if (f_X4_readThing S 13 (nI w) (nI (sO w))).1 = 0 then (pr 1 (pr 0 (pr (nI (sO w)) (pr v2 (f_X4_readThing S 13 (nI w) (nI (sO w))).2)))) else L_X4_readText_4 n (f_X4_readThing S 13 (nI w) (nI (sO w))).2 (nI (sO w)) (v2 + 1)) else (pr 1 (pr (f_X4_fail S 13 3).1 (pr v1 (pr v2 (f_X4_fail S 13 3).2))))) else (pr 1 (pr (f_X4_fail S 13 1).1 (pr v1 (pr v2 (f_X4_fail S 13 1).2))))) else (if rp = 0 then (pr 1 (pr (f_X4_fail S 13 1).1 (pr v1 (pr v2 (f_X4_fail S 13 1).2)))) else (if rR S w = 0 then (if f_X10_isFull S 15 (nI (sO w)) = 0 then (if (f_X4_readThing S 13 (nI w) (nI (sO w))).1 = 0 then (pr 1 (pr 0 (pr (nI (sO w)) (pr v2 (f_X4_readThing S 13 (nI w) (nI (sO w))).2)))) else L_X4_readText_4 n (f_X4_readThing S 13 (nI w) (nI (sO w))).2 (nI (sO w)) (v2 + 1)) else (pr 1 (pr (f_X4_fail S 13 3).1 (pr v1 (pr v2 (f_X4_fail S 13 3).2))))) else (pr 1 (pr (f_X4_fail S 13 1).1 (pr v1 (pr v2 (f_X4_fail S 13 1).2))))))))
theorem sO_v {w : Nat} (hw : w ≤ 10) : (if (5 : Int32) < nI w then (5 : Int32) else nI w) = nI (sO w) := by
  unfold sO
  by_cases q : 5 < w
  · rw [if_pos q, if_pos (by rw [ti_lt, nI_ti (by omega), show (5 : Int32).toInt = 5 from rfl]; omega)]; rfl
  · rw [if_neg q, if_neg (by rw [ti_lt, nI_ti (by omega), show (5 : Int32).toInt = 5 from rfl]; omega)]
noncomputable def rpV (S : HSt) : Int32 := if f_X10_howMany S 15 0 ≤ 0 then (0 : Int32) else 1
theorem L_it (n : Nat) (S : HSt) (v1 v2 : Int32) {w : Nat} (hw : w ≤ 10) (h6 : ¬ (600 : Int32) < v2) (eW : (if gI S 13 3 = (1 : Int32) then f_X4_wordHere S 13 else 10) = nI w) : L_X4_readText_4 (n + 1) S v1 v2 = (if gI S 13 3 = 0 then (if rpV S = 0 then itF n S v1 v2 w (rpV S) else (pr 1 (pr 1 (pr v1 (pr v2 S))))) else itF n S v1 v2 w (rpV S)) := by
  conv => lhs; unfold L_X4_readText_4
  simp only [bd_def]
  rw [if_neg h6, eW, sO_v hw]
  rfl
theorem T_it (n : Nat) (S : HSt) (v1 v2 : Int32) {w : Nat} (hw : w ≤ 10) (eW : (if gI S 13 3 = (1 : Int32) then f_X4_wordHere S 13 else 10) = nI w) (pw : gI S 13 3 = 1 → p_X4_wordHere S 13) (hr : ¬ (10 : Int32) ≤ nI w → ¬ nI (sO w) < v1 → (nI (sO w) ≤ 0 ∨ ¬ rpV S = 0) → rR S w = 0 → f_X10_isFull S 15 (nI (sO w)) = 0 → p_X4_readThing S 13 (nI w) (nI (sO w)) ∧ (¬ (f_X4_readThing S 13 (nI w) (nI (sO w))).1 = 0 → T_X4_readText_4 n (f_X4_readThing S 13 (nI w) (nI (sO w))).2 (nI (sO w)) (v2 + 1))) : T_X4_readText_4 (n + 1) S v1 v2 := by
  have eS := sO_v hw
  have pf : ∀ s, s < 6 → p_X10_isFull S 15 (nI s) := fun s hs => (full_at S 15 hs).2
  have ps := pf (sO w) (sO_lt w)
  unfold T_X4_readText_4
  rw [eW]
  refine ⟨fun _ => p_many _ _ _, fun _ x3 _ _ q => pw q, fun _ x3 _ _ x6 _ x7 _ _ => pf 4 (by decide), fun _ x3 _ _ x6 _ x7 _ x10 _ _ r er => bz_fail _ _ r er, fun _ x3 _ _ x6 _ x7 _ x10 _ _ _ r er => bz_fail _ _ r er, fun _ x3 _ _ x6 e6 x7 e7 x10 _ _ _ _ _ => ?_, fun _ x3 e3 _ x6 e6 x7 e7 x10 e10 q1 q2 q3 q4 q5 => ?_, fun _ x3 e3 _ x6 e6 x7 e7 x10 e10 q1 q2 q3 q4 q5 r er q6 => ?_, fun _ x3 _ _ x6 _ x7 _ x10 _ _ _ _ _ _ r er => bz_fail _ _ r er, fun _ x3 _ _ x6 _ x7 _ x10 _ _ _ _ _ r er => bz_fail _ _ r er, fun _ x3 _ _ x6 _ x7 _ x10 _ _ _ _ _ r er => bz_fail _ _ r er, fun _ x3 _ _ x6 e6 x7 e7 x10 _ _ _ _ _ _ => ?_, fun _ x3 e3 _ x6 e6 x7 e7 x10 e10 q1 q2 q3 q3' q4 q5 => ?_, fun _ x3 e3 _ x6 e6 x7 e7 x10 e10 q1 q2 q3 q3' q4 q5 r er q6 => ?_, fun _ x3 _ _ x6 _ x7 _ x10 _ _ _ _ _ _ _ r er => bz_fail _ _ r er, fun _ x3 _ _ x6 _ x7 _ x10 _ _ _ _ _ _ r er => bz_fail _ _ r er, fun _ x3 _ _ _ q => pw q, fun _ x3 _ _ _ x6 _ x7 _ _ => pf 4 (by decide), fun _ x3 _ _ _ x6 _ x7 _ x10 _ _ r er => bz_fail _ _ r er, fun _ x3 _ _ _ x6 _ x7 _ x10 _ _ _ r er => bz_fail _ _ r er, fun _ x3 _ _ _ x6 e6 x7 e7 x10 _ _ _ _ _ => ?_, fun _ x3 e3 _ _ x6 e6 x7 e7 x10 e10 q1 q2 q3 q4 q5 => ?_, fun _ x3 e3 _ _ x6 e6 x7 e7 x10 e10 q1 q2 q3 q4 q5 r er q6 => ?_, fun _ x3 _ _ _ x6 _ x7 _ x10 _ _ _ _ _ _ r er => bz_fail _ _ r er, fun _ x3 _ _ _ x6 _ x7 _ x10 _ _ _ _ _ r er => bz_fail _ _ r er, fun _ x3 _ _ _ x6 _ x7 _ x10 _ _ _ _ _ r er => bz_fail _ _ r er, fun _ x3 _ _ _ x6 e6 x7 e7 x10 _ _ _ _ _ _ => ?_, fun _ x3 e3 _ _ x6 e6 x7 e7 x10 e10 q1 q2 q3 q3' q4 q5 => ?_, fun _ x3 e3 _ _ x6 e6 x7 e7 x10 e10 q1 q2 q3 q3' q4 q5 r er q6 => ?_, fun _ x3 _ _ _ x6 _ x7 _ x10 _ _ _ _ _ _ _ r er => bz_fail _ _ r er, fun _ x3 _ _ _ x6 _ x7 _ x10 _ _ _ _ _ _ r er => bz_fail _ _ r er⟩
  all_goals rw [← e6, eS] at e7
  · rw [← e7]; exact ps
  · rw [← e7] at e10 q2 q3 q5 ⊢; rw [← e10] at q4; rw [← e6] at q1 ⊢; exact (hr q1 q2 (Or.inl q3) q4 q5).1
  · rw [← e7] at e10 q2 q3 q5 er ⊢; rw [← e10] at q4; rw [← e6] at q1 er; rw [← er] at q6 ⊢; exact (hr q1 q2 (Or.inl q3) q4 q5).2 q6
  · rw [← e7]; exact ps
  · rw [← e7] at e10 q2 q3 q5 ⊢; rw [← e10] at q4; rw [← e6] at q1 ⊢; rw [← e3] at q3'; exact (hr q1 q2 (Or.inr q3') q4 q5).1
  · rw [← e7] at e10 q2 q3 q5 er ⊢; rw [← e10] at q4; rw [← e6] at q1 er; rw [← er] at q6 ⊢; rw [← e3] at q3'; exact (hr q1 q2 (Or.inr q3') q4 q5).2 q6
  · rw [← e7]; exact ps
  · rw [← e7] at e10 q2 q3 q5 ⊢; rw [← e10] at q4; rw [← e6] at q1 ⊢; exact (hr q1 q2 (Or.inl q3) q4 q5).1
  · rw [← e7] at e10 q2 q3 q5 er ⊢; rw [← e10] at q4; rw [← e6] at q1 er; rw [← er] at q6 ⊢; exact (hr q1 q2 (Or.inl q3) q4 q5).2 q6
  · rw [← e7]; exact ps
  · rw [← e7] at e10 q2 q3 q5 ⊢; rw [← e10] at q4; rw [← e6] at q1 ⊢; rw [← e3] at q3'; exact (hr q1 q2 (Or.inr q3') q4 q5).1
  · rw [← e7] at e10 q2 q3 q5 er ⊢; rw [← e10] at q4; rw [← e6] at q1 er; rw [← er] at q6 ⊢; rw [← e3] at q3'; exact (hr q1 q2 (Or.inr q3') q4 q5).2 q6
/-- a fault of the class -/
theorem fail_at {N kd b e : Nat} {S T T' : HSt} (hX : NX N S T kd b e) {c : Nat} (c1 : 1 ≤ c) (c3 : c ≤ 3) (h16 : gI T' 64 16 = nI c) (h17 : gI T' 64 17 = nI b) : FE (f_X4_fail S 13 (nI c)).2 T' := by
  refine ⟨c, c1, c3, ?_, h16, ?_⟩
  · show gI (sI (sI S 13 7 (nI c)) 13 8 (gI (sI S 13 7 (nI c)) 13 4)) 13 7 = _
    rw [gs_o (by decide), gs_eq, if_pos rfl]
  · show gI (sI (sI S 13 7 (nI c)) 13 8 (gI (sI S 13 7 (nI c)) 13 4)) 13 8 = _
    rw [gs_eq, if_pos rfl, gs_o (by decide), hX.1.2.1, h17]
/-- no room: the model's things with a full sort -/
theorem full_rope {N kd b e : Nat} {S T : HSt} (hX : NX N S T kd b e) (h0 : gI T 64 16 = 0) (hc : gI T 69 0 = nI 3) : p_X12_readRope T 64 ∧ gI (f_X12_readRope T 64) 64 16 = nI 3 ∧ gI (f_X12_readRope T 64) 64 17 = nI b := by
  obtain ⟨g2, g3⟩ := begins_f h0 (s := 0) (room := 3) (at' := 6) (each := 3) (by decide) (by decide) hc
  have g2' : (f_X12_begins T 64 0 3 6 3).2 = sI (sI T 64 16 3) 64 17 (gI T 64 14) := g2
  have g3' : p_X12_begins T 64 0 3 6 3 := g3
  have hp : 0 < (gI (sI (sI T 64 16 3) 64 17 (gI T 64 14)) 64 16).toInt := by rw [gs_o (by decide), gs_eq, if_pos rfl]; decide
  have nf := fun a lo hi => number_f hp a lo hi
  have ef := ends_f hp (s := 0) (by decide)
  rw [show nI 0 = (0 : Int32) from rfl] at ef
  have eR : f_X12_readRope T 64 = sI (sI (sI T 64 16 3) 64 17 (gI T 64 14)) 69 0 (gI (sI (sI T 64 16 3) 64 17 (gI T 64 14)) 69 0 + 0) := by
    unfold f_X12_readRope
    simp only [bd_def]
    rw [g2', (nf _ _ _).1, (nf _ _ _).1, (nf _ _ _).1, ef.2]
  refine ⟨⟨g3', fun r1 er1 x2 _ => ?_, fun r1 er1 x2 _ r3 er3 => ?_, fun r1 er1 x2 _ r3 er3 r4 er4 => ?_, fun r1 er1 x2 _ r3 er3 r4 er4 r5 er5 => ?_⟩, ?_, ?_⟩
  · rw [← er1, g2']; exact (nf _ _ _).2
  · rw [← er1, g2', (nf _ _ _).1] at er3; rw [← er3]; exact (nf _ _ _).2
  · rw [← er1, g2', (nf _ _ _).1] at er3; rw [← er3, (nf _ _ _).1] at er4; rw [← er4]; exact (nf _ _ _).2
  · rw [← er1, g2', (nf _ _ _).1] at er3; rw [← er3, (nf _ _ _).1] at er4; rw [← er4, (nf _ _ _).1] at er5; rw [← er5]; exact ef.1
  · rw [eR, gs_ne (by decide), gs_o (by decide), gs_eq, if_pos rfl]; rfl
  · rw [eR, gs_ne (by decide), gs_eq, if_pos rfl]; exact hX.2.1.2.2.1
theorem full_horse {N kd b e : Nat} {S T : HSt} (hX : NX N S T kd b e) (h0 : gI T 64 16 = 0) (hc : gI T 69 1 = nI 3) : p_X12_readHorse T 64 ∧ gI (f_X12_readHorse T 64) 64 16 = nI 3 ∧ gI (f_X12_readHorse T 64) 64 17 = nI b := by
  obtain ⟨g2, g3⟩ := begins_f h0 (s := 1) (room := 3) (at' := 15) (each := 3) (by decide) (by decide) hc
  have g2' : (f_X12_begins T 64 1 3 15 3).2 = sI (sI T 64 16 3) 64 17 (gI T 64 14) := g2
  have g3' : p_X12_begins T 64 1 3 15 3 := g3
  have hp : 0 < (gI (sI (sI T 64 16 3) 64 17 (gI T 64 14)) 64 16).toInt := by rw [gs_o (by decide), gs_eq, if_pos rfl]; decide
  have nf := fun a lo hi => number_f hp a lo hi
  have ef := ends_f hp (s := 1) (by decide)
  rw [show nI 1 = (1 : Int32) from rfl] at ef
  have eR : f_X12_readHorse T 64 = sI (sI (sI T 64 16 3) 64 17 (gI T 64 14)) 69 1 (gI (sI (sI T 64 16 3) 64 17 (gI T 64 14)) 69 1 + 0) := by
    unfold f_X12_readHorse
    simp only [bd_def]
    rw [g2', (nf _ _ _).1, (nf _ _ _).1, (nf _ _ _).1, ef.2]
  refine ⟨⟨g3', fun r1 er1 x2 _ => ?_, fun r1 er1 x2 _ r3 er3 => ?_, fun r1 er1 x2 _ r3 er3 r4 er4 => ?_, fun r1 er1 x2 _ r3 er3 r4 er4 r5 er5 => ?_⟩, ?_, ?_⟩
  · rw [← er1, g2']; exact (nf _ _ _).2
  · rw [← er1, g2', (nf _ _ _).1] at er3; rw [← er3]; exact (nf _ _ _).2
  · rw [← er1, g2', (nf _ _ _).1] at er3; rw [← er3, (nf _ _ _).1] at er4; rw [← er4]; exact (nf _ _ _).2
  · rw [← er1, g2', (nf _ _ _).1] at er3; rw [← er3, (nf _ _ _).1] at er4; rw [← er4, (nf _ _ _).1] at er5; rw [← er5]; exact ef.1
  · rw [eR, gs_ne (by decide), gs_o (by decide), gs_eq, if_pos rfl]; rfl
  · rw [eR, gs_ne (by decide), gs_eq, if_pos rfl]; exact hX.2.1.2.2.1
theorem full_beast {N kd b e : Nat} {S T : HSt} (hX : NX N S T kd b e) (h0 : gI T 64 16 = 0) (hc : gI T 69 2 = nI 4) : p_X12_readBeast T 64 ∧ gI (f_X12_readBeast T 64) 64 16 = nI 3 ∧ gI (f_X12_readBeast T 64) 64 17 = nI b := by
  obtain ⟨g2, g3⟩ := begins_f h0 (s := 2) (room := 4) (at' := 24) (each := 5) (by decide) (by decide) hc
  have g2' : (f_X12_begins T 64 2 4 24 5).2 = sI (sI T 64 16 3) 64 17 (gI T 64 14) := g2
  have g3' : p_X12_begins T 64 2 4 24 5 := g3
  have hp : 0 < (gI (sI (sI T 64 16 3) 64 17 (gI T 64 14)) 64 16).toInt := by rw [gs_o (by decide), gs_eq, if_pos rfl]; decide
  have nf := fun a lo hi => number_f hp a lo hi
  have ef := ends_f hp (s := 2) (by decide)
  rw [show nI 2 = (2 : Int32) from rfl] at ef
  have eR : f_X12_readBeast T 64 = sI (sI (sI T 64 16 3) 64 17 (gI T 64 14)) 69 2 (gI (sI (sI T 64 16 3) 64 17 (gI T 64 14)) 69 2 + 0) := by
    unfold f_X12_readBeast
    simp only [bd_def]
    rw [g2', (nf _ _ _).1, (nf _ _ _).1, (nf _ _ _).1, (nf _ _ _).1, (nf _ _ _).1, ef.2]
  refine ⟨⟨g3', fun r1 er1 x2 _ => ?_, fun r1 er1 x2 _ r3 er3 => ?_, fun r1 er1 x2 _ r3 er3 r4 er4 => ?_, fun r1 er1 x2 _ r3 er3 r4 er4 r5 er5 => ?_, fun r1 er1 x2 _ r3 er3 r4 er4 r5 er5 r6 er6 => ?_, fun r1 er1 x2 _ r3 er3 r4 er4 r5 er5 r6 er6 r7 er7 => ?_⟩, ?_, ?_⟩
  · rw [← er1, g2']; exact (nf _ _ _).2
  · rw [← er1, g2', (nf _ _ _).1] at er3; rw [← er3]; exact (nf _ _ _).2
  · rw [← er1, g2', (nf _ _ _).1] at er3; rw [← er3, (nf _ _ _).1] at er4; rw [← er4]; exact (nf _ _ _).2
  · rw [← er1, g2', (nf _ _ _).1] at er3; rw [← er3, (nf _ _ _).1] at er4; rw [← er4, (nf _ _ _).1] at er5; rw [← er5]; exact (nf _ _ _).2
  · rw [← er1, g2', (nf _ _ _).1] at er3; rw [← er3, (nf _ _ _).1] at er4; rw [← er4, (nf _ _ _).1] at er5; rw [← er5, (nf _ _ _).1] at er6; rw [← er6]; exact (nf _ _ _).2
  · rw [← er1, g2', (nf _ _ _).1] at er3; rw [← er3, (nf _ _ _).1] at er4; rw [← er4, (nf _ _ _).1] at er5; rw [← er5, (nf _ _ _).1] at er6; rw [← er6, (nf _ _ _).1] at er7; rw [← er7]; exact ef.1
  · rw [eR, gs_ne (by decide), gs_o (by decide), gs_eq, if_pos rfl]; rfl
  · rw [eR, gs_ne (by decide), gs_eq, if_pos rfl]; exact hX.2.1.2.2.1
theorem full_form {N kd b e : Nat} {S T : HSt} (hX : NX N S T kd b e) (h0 : gI T 64 16 = 0) (hc : gI T 69 3 = nI 6) : p_X12_readForm T 64 ∧ gI (f_X12_readForm T 64) 64 16 = nI 3 ∧ gI (f_X12_readForm T 64) 64 17 = nI b := by
  obtain ⟨g2, g3⟩ := begins_f h0 (s := 3) (room := 6) (at' := 44) (each := 4) (by decide) (by decide) hc
  have g2' : (f_X12_begins T 64 3 6 44 4).2 = sI (sI T 64 16 3) 64 17 (gI T 64 14) := g2
  have g3' : p_X12_begins T 64 3 6 44 4 := g3
  have hp : 0 < (gI (sI (sI T 64 16 3) 64 17 (gI T 64 14)) 64 16).toInt := by rw [gs_o (by decide), gs_eq, if_pos rfl]; decide
  have hz : ¬ gI (sI (sI T 64 16 3) 64 17 (gI T 64 14)) 64 16 = 0 := by rw [gs_o (by decide), gs_eq, if_pos rfl]; decide
  have nf := fun a lo hi => number_f hp a lo hi
  have ef := ends_f hp (s := 3) (by decide)
  rw [show nI 3 = (3 : Int32) from rfl] at ef
  have eR : f_X12_readForm T 64 = sI (sI (sI T 64 16 3) 64 17 (gI T 64 14)) 69 3 (gI (sI (sI T 64 16 3) 64 17 (gI T 64 14)) 69 3 + 0) := by
    unfold f_X12_readForm
    simp only [bd_def]
    rw [g2', (nf _ _ _).1, (nf _ _ _).1, (nf _ _ _).1, (nf _ _ _).1, ef.2]
  refine ⟨⟨g3', fun r1 er1 x2 _ => ?_, fun r1 er1 x2 _ r3 er3 q => ?_, fun r1 er1 x2 _ r3 er3 x5 _ => ?_, fun r1 er1 x2 _ r3 er3 x5 _ r6 er6 => ?_, fun r1 er1 x2 _ r3 er3 x5 _ r6 er6 r7 er7 q => ?_, fun r1 er1 x2 _ r3 er3 x5 _ r6 er6 r7 er7 x9 _ => ?_, fun r1 er1 x2 _ r3 er3 x5 _ r6 er6 r7 er7 x9 _ r10 er10 => ?_⟩, ?_, ?_⟩
  · rw [← er1, g2']; exact (nf _ _ _).2
  · rw [← er1, g2', (nf _ _ _).1] at er3; rw [← er3] at q; exact absurd q hz
  · rw [← er1, g2', (nf _ _ _).1] at er3; rw [← er3]; exact (nf _ _ _).2
  · rw [← er1, g2', (nf _ _ _).1] at er3; rw [← er3, (nf _ _ _).1] at er6; rw [← er6]; exact (nf _ _ _).2
  · rw [← er1, g2', (nf _ _ _).1] at er3; rw [← er3, (nf _ _ _).1] at er6; rw [← er6, (nf _ _ _).1] at er7; rw [← er7] at q; exact absurd q hz
  · rw [← er1, g2', (nf _ _ _).1] at er3; rw [← er3, (nf _ _ _).1] at er6; rw [← er6, (nf _ _ _).1] at er7; rw [← er7]; exact (nf _ _ _).2
  · rw [← er1, g2', (nf _ _ _).1] at er3; rw [← er3, (nf _ _ _).1] at er6; rw [← er6, (nf _ _ _).1] at er7; rw [← er7, (nf _ _ _).1] at er10; rw [← er10]; exact ef.1
  · rw [eR, gs_ne (by decide), gs_o (by decide), gs_eq, if_pos rfl]; rfl
  · rw [eR, gs_ne (by decide), gs_eq, if_pos rfl]; exact hX.2.1.2.2.1
theorem full_act {N kd b e : Nat} {S T : HSt} (hX : NX N S T kd b e) (h0 : gI T 64 16 = 0) (hc : gI T 69 5 = nI 20) (hk : ¬ f_X12_kindOfWord T 64 = -1000000) (pkw : p_X12_kindOfWord T 64) : p_X12_readAct T 64 ∧ gI (f_X12_readAct T 64) 64 16 = nI 3 ∧ gI (f_X12_readAct T 64) 64 17 = nI b := by
  obtain ⟨g2, g3⟩ := begins_f h0 (s := 5) (room := 20) (at' := 72) (each := 5) (by decide) (by decide) hc
  have g2' : (f_X12_begins T 64 5 20 72 5).2 = sI (sI T 64 16 3) 64 17 (gI T 64 14) := g2
  have g3' : p_X12_begins T 64 5 20 72 5 := g3
  have hz : ¬ gI (sI (sI T 64 16 3) 64 17 (gI T 64 14)) 64 16 ≤ 0 := by rw [gs_o (by decide), gs_eq, if_pos rfl]; decide
  have eR : f_X12_readAct T 64 = sI (sI T 64 16 3) 64 17 (gI T 64 14) := by
    unfold f_X12_readAct
    simp only [bd_def]
    rw [if_neg hk, g2', if_neg hz]
  have no : ∀ r3, f_X12_begins T 64 5 20 72 5 = r3 → gI r3.2 64 16 ≤ 0 → False := fun r3 er q => by
    rw [← er, g2'] at q
    exact hz q
  refine ⟨⟨pkw, fun x1 _ _ => g3', fun x1 _ _ r3 er x4 _ q => (no r3 er q).elim, fun x1 _ _ r3 er x4 _ q => (no r3 er q).elim, fun x1 _ _ r3 er x4 _ q => (no r3 er q).elim, fun x1 _ _ r3 er x4 _ q => (no r3 er q).elim, fun x1 _ _ r3 er x4 _ q => (no r3 er q).elim, fun x1 _ _ r3 er x4 _ q => (no r3 er q).elim, fun x1 _ _ r3 er x4 _ q => (no r3 er q).elim, fun x1 _ _ r3 er x4 _ q => (no r3 er q).elim, fun x1 _ _ r3 er x4 _ q => (no r3 er q).elim, fun x1 _ _ r3 er x4 _ q => (no r3 er q).elim, fun x1 _ _ r3 er x4 _ q => (no r3 er q).elim, fun x1 _ _ r3 er x4 _ q => (no r3 er q).elim⟩, ?_, ?_⟩
  · rw [eR, gs_o (by decide), gs_eq, if_pos rfl]; rfl
  · rw [eR, gs_eq, if_pos rfl]; exact hX.2.1.2.2.1
theorem none_act {N kd b e : Nat} {S T : HSt} (hX : NX N S T kd b e) (h0 : gI T 64 16 = 0) (hk : f_X12_kindOfWord T 64 = -1000000) (pkw : p_X12_kindOfWord T 64) : p_X12_readAct T 64 ∧ gI (f_X12_readAct T 64) 64 16 = nI 1 ∧ gI (f_X12_readAct T 64) 64 17 = nI b := by
  have eR : f_X12_readAct T 64 = sI (sI T 64 16 1) 64 17 (gI T 64 14) := by
    unfold f_X12_readAct
    simp only [bd_def]
    rw [if_pos hk, bad_0 h0]
  have no : ∀ x1, f_X12_kindOfWord T 64 = x1 → ¬ x1 = (-1000000 : Int32) → False := fun x1 e q => q (by rw [← e]; exact hk)
  refine ⟨⟨pkw, fun x1 e q => (no x1 e q).elim, fun x1 e q => (no x1 e q).elim, fun x1 e q => (no x1 e q).elim, fun x1 e q => (no x1 e q).elim, fun x1 e q => (no x1 e q).elim, fun x1 e q => (no x1 e q).elim, fun x1 e q => (no x1 e q).elim, fun x1 e q => (no x1 e q).elim, fun x1 e q => (no x1 e q).elim, fun x1 e q => (no x1 e q).elim, fun x1 e q => (no x1 e q).elim, fun x1 e q => (no x1 e q).elim, fun x1 e q => (no x1 e q).elim⟩, ?_, ?_⟩
  · rw [eR, gs_o (by decide), gs_eq, if_pos rfl]; rfl
  · rw [eR, gs_eq, if_pos rfl]; exact hX.2.1.2.2.1
