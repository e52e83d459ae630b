-- needs: 62.showm
def Xq : Nat → Nat
  | 0 => 0
  | m + 1 => 6 * (1 + Xq m) + 1
theorem cur_lc {F : Nat} (hF : F < 7) (g : Nat → Nat → Bool) {s : Nat} (hs : s < 64) (l : Option Nat) : ∀ c, c ≤ F → (cur F g s l c).length ≤ cnt F s := by
  intro c
  induction c with
  | zero => intro _; exact Nat.zero_le _
  | succ c ih =>
    intro hc
    rw [cur_succ]
    unfold stp
    by_cases q : okf g s l c = true
    · rw [if_pos q]
      by_cases q2 : (cur F g s l c).length < (BS F g (s ||| 2 ^ c) (some c)).length + 1
      · rw [if_pos q2, List.length_cons]
        have h1 := BS_lc F g (s ||| 2 ^ c) (some c)
        have h2 := cnt_or F hF s hs c (by omega) (okf_bit q)
        show (BS F g (s ||| 2 ^ c) (some c)).length + 1 ≤ _
        omega
      · rw [if_neg q2]; exact ih (by omega)
    · rw [if_neg q]; exact ih (by omega)
theorem JJ_len {acc P c : List Nat} {n : Nat} (h1 : acc.length ≤ n) (h2 : P.length + c.length ≤ n) : (JJ acc P c).length ≤ n := by
  unfold JJ
  by_cases q : acc.length < P.length + c.length
  · rw [if_pos q]; simp; omega
  · rw [if_neg q]; exact h1
theorem last_app (P : List Nat) (f : Nat) : lastO (P ++ [f]) = some f := by
  unfold lastO
  simp
theorem last_cases (P : List Nat) : (lastO P = none ∧ P.length = 0) ∨ (lastO P = some (P.getD (P.length - 1) 0) ∧ 0 < P.length) := by
  unfold lastO
  match P with
  | [] => exact Or.inl ⟨rfl, rfl⟩
  | a :: L =>
    right
    refine ⟨?_, by simp⟩
    rw [List.getLast?_eq_getElem?, List.getD_eq_getElem?_getD]
    have : (a :: L).length - 1 < (a :: L).length := by simp
    rw [List.getElem?_eq_getElem this]
    rfl
theorem getD_app1 {P : List Nat} {f k : Nat} (h : k < P.length) : (P ++ [f]).getD k 0 = P.getD k 0 := by
  simp [List.getD_eq_getElem?_getD, List.getElem?_append_left h]
theorem getD_app2 (P : List Nat) (f : Nat) : (P ++ [f]).getD P.length 0 = f := by simp
theorem getD_mem {P : List Nat} {F k : Nat} (h : ∀ x ∈ P, x < F) (hk : k < P.length) : P.getD k 0 < F := by
  rw [List.getD_eq_getElem?_getD, List.getElem?_eq_getElem hk]
  exact h _ (List.getElem_mem hk)
theorem dfs {F : Nat} (hF : F < 7) {W : Nat → Int32} : ∀ (m s : Nat), s < 2 ^ F → cnt F s = m → ∀ (j c : Nat) (P acc0 acc : List Nat) (T : HSt) (v2 v4 : Int32), c ≤ F → F - c ≤ j → gI T 68 = W → P.length + m = F → (∀ x ∈ P, x < F) → MSt F s c P acc T v2 v4 → acc = JJ acc0 P (cur F (gW W) s (lastO P) c) → acc0.length ≤ 6 → ∃ cost, cost ≤ (F - c) * (1 + Xq m) + 1 ∧ ∃ T', gI T' 68 = W ∧ (∀ k, k < P.length → gI T' 79 k = nI (P.getD k 0)) ∧ (∀ k, k < (JJ acc0 P (BS F (gW W) s (lastO P))).length → gI T' 80 k = nI ((JJ acc0 P (BS F (gW W) s (lastO P))).getD k 0)) ∧ ∀ n, (T_X12_seekShows_21 n T' (nI F) (nI (JJ acc0 P (BS F (gW W) s (lastO P))).length) (nI P.length + (-1 : Int32)) (nI s) → T_X12_seekShows_21 (n + cost) T (nI F) v2 (nI P.length) v4) ∧ L_X12_seekShows_21 (n + cost) T (nI F) v2 (nI P.length) v4 = L_X12_seekShows_21 n T' (nI F) (nI (JJ acc0 P (BS F (gW W) s (lastO P))).length) (nI P.length + (-1 : Int32)) (nI s) := by
  have h64 := p64 F hF
  intro m
  induction m with
  | zero =>
    intro s hs hm j c P acc0 acc T v2 v4 hc hj hW hP hPF hM hacc ha0
    obtain ⟨m1, m2, m3, m4, m5, m6, m7⟩ := hM
    have hx1 : (nI c + (-1 : Int32)) + 1 = nI c := by
      rw [Int32.add_assoc]
      show nI c + ((-1 : Int32) + 1) = nI c
      rw [show ((-1 : Int32) + 1) = nI 0 by decide, nI_add]
      rfl
    have hu : (v4 &&& (if 0 ≤ nI c + (-1 : Int32) then (((1 : Int32) <<< ((nI c + (-1 : Int32)) &&& 31)) ^^^ (-1 : Int32)) else (-1 : Int32))) = nI s := by
      rcases m4 with ⟨rfl, rfl⟩ | ⟨q1, q2, q3, rfl⟩
      · rw [if_neg (by decide)]; exact b_m1 s (by omega)
      · obtain ⟨c, rfl⟩ : ∃ q, c = q + 1 := ⟨c - 1, by omega⟩
        rw [nI_dn, if_pos (by rw [ti_le, ti0, nI_ti (by omega)]; omega)]
        exact b_clr s (by omega) c (by omega) q3
    have hlc : (lastO P = none ∧ P.length = 0) ∨ (∃ x, x < 6 ∧ lastO P = some x ∧ 0 < P.length ∧ gI T 79 (P.length - 1) = nI x) := by
      rcases last_cases P with h | ⟨h1, h2⟩
      · exact Or.inl h
      · exact Or.inr ⟨_, by have := getD_mem hPF (k := P.length - 1) (by omega); omega, h1, h2, m2 _ (by omega)⟩
    obtain ⟨t1, f, t2, t3, t4, t5, t6⟩ := find_L (T := T) hF (s := s) (by omega) v2 m1 hlc FU c hc (by rw [FU_eq]; omega)
    have hfF : f = F := by
      refine Classical.byContradiction fun q => ?_
      have h1 := okf_bit (t6 (by omega))
      rw [cnt_0 hm (by omega)] at h1
      exact absurd h1 (by decide)
    subst hfF
    have it := fun n => it_none hF (d := P.length) m1 m3 hu (by rw [hx1]; exact t1) (by rw [hx1]; exact t4) n
    have ea : acc = JJ acc0 P (BS f (gW W) s (lastO P)) := by
      rw [hacc, BS_eq hF (gW W) (by omega), ← cur_skip (gW W) s (lastO P) (f - c) c (fun k h1 h2 => by rw [← hW]; exact t5 k h1 (by omega)), show c + (f - c) = f by omega]
    refine ⟨1, by omega, T, hW, m2, ?_, fun n => ?_⟩
    · rw [← ea]; exact m7
    · rw [← ea, ← m5]; exact it n
  | succ m ihm =>
    intro s hs hm j
    induction j with
    | zero =>
      intro c P acc0 acc T v2 v4 hc hj hW hP hPF hM hacc ha0
      have hcF : c = F := by omega
      subst hcF
      obtain ⟨m1, m2, m3, m4, m5, m6, m7⟩ := hM
      have hx1 : (nI c + (-1 : Int32)) + 1 = nI c := by
        rw [Int32.add_assoc]
        show nI c + ((-1 : Int32) + 1) = nI c
        rw [show ((-1 : Int32) + 1) = nI 0 by decide, nI_add]
        rfl
      have hu : (v4 &&& (if 0 ≤ nI c + (-1 : Int32) then (((1 : Int32) <<< ((nI c + (-1 : Int32)) &&& 31)) ^^^ (-1 : Int32)) else (-1 : Int32))) = nI s := by
        rcases m4 with ⟨rfl, rfl⟩ | ⟨q1, q2, q3, rfl⟩
        · rw [if_neg (by decide)]; exact b_m1 s (by omega)
        · obtain ⟨c, rfl⟩ : ∃ q, c = q + 1 := ⟨c - 1, by omega⟩
          rw [nI_dn, if_pos (by rw [ti_le, ti0, nI_ti (by omega)]; omega)]
          exact b_clr s (by omega) c (by omega) q3
      have hlc : (lastO P = none ∧ P.length = 0) ∨ (∃ x, x < 6 ∧ lastO P = some x ∧ 0 < P.length ∧ gI T 79 (P.length - 1) = nI x) := by
        rcases last_cases P with h | ⟨h1, h2⟩
        · exact Or.inl h
        · exact Or.inr ⟨_, by have := getD_mem hPF (k := P.length - 1) (by omega); omega, h1, h2, m2 _ (by omega)⟩
      obtain ⟨t1, f, t2, t3, t4, t5, t6⟩ := find_L (T := T) hF (s := s) (by omega) v2 m1 hlc FU c hc (by rw [FU_eq]; omega)
      have hfF : f = c := by omega
      subst hfF
      have it := fun n => it_none hF (d := P.length) m1 m3 hu (by rw [hx1]; exact t1) (by rw [hx1]; exact t4) n
      have ea : acc = JJ acc0 P (BS f (gW W) s (lastO P)) := by
        rw [hacc, BS_eq hF (gW W) (by omega)]
      refine ⟨1, by omega, T, hW, m2, ?_, fun n => ?_⟩
      · rw [← ea]; exact m7
      · rw [← ea, ← m5]; exact it n
    | succ j ihj =>
      intro c P acc0 acc T v2 v4 hc hj hW hP hPF hM hacc ha0
      obtain ⟨m1, m2, m3, m4, m5, m6, m7⟩ := hM
      have hx1 : (nI c + (-1 : Int32)) + 1 = nI c := by
        rw [Int32.add_assoc]
        show nI c + ((-1 : Int32) + 1) = nI c
        rw [show ((-1 : Int32) + 1) = nI 0 by decide, nI_add]
        rfl
      have hu : (v4 &&& (if 0 ≤ nI c + (-1 : Int32) then (((1 : Int32) <<< ((nI c + (-1 : Int32)) &&& 31)) ^^^ (-1 : Int32)) else (-1 : Int32))) = nI s := by
        rcases m4 with ⟨rfl, rfl⟩ | ⟨q1, q2, q3, rfl⟩
        · rw [if_neg (by decide)]; exact b_m1 s (by omega)
        · obtain ⟨c, rfl⟩ : ∃ q, c = q + 1 := ⟨c - 1, by omega⟩
          rw [nI_dn, if_pos (by rw [ti_le, ti0, nI_ti (by omega)]; omega)]
          exact b_clr s (by omega) c (by omega) q3
      have hlc : (lastO P = none ∧ P.length = 0) ∨ (∃ x, x < 6 ∧ lastO P = some x ∧ 0 < P.length ∧ gI T 79 (P.length - 1) = nI x) := by
        rcases last_cases P with h | ⟨h1, h2⟩
        · exact Or.inl h
        · exact Or.inr ⟨_, by have := getD_mem hPF (k := P.length - 1) (by omega); omega, h1, h2, m2 _ (by omega)⟩
      obtain ⟨t1, f, t2, t3, t4, t5, t6⟩ := find_L (T := T) hF (s := s) (by omega) v2 m1 hlc FU c hc (by rw [FU_eq]; omega)
      clear hlc
      have ecur : cur F (gW W) s (lastO P) f = cur F (gW W) s (lastO P) c := by
        have := cur_skip (F := F) (gW W) s (lastO P) (f - c) c (fun k h1 h2 => by rw [← hW]; exact t5 k h1 (by omega))
        rw [show c + (f - c) = f by omega] at this
        exact this
      by_cases hfF : f = F
      · subst hfF
        have it := fun n => it_none hF (d := P.length) m1 m3 hu (by rw [hx1]; exact t1) (by rw [hx1]; exact t4) n
        have ea : acc = JJ acc0 P (BS f (gW W) s (lastO P)) := by
          rw [hacc, BS_eq hF (gW W) (by omega), ecur]
        refine ⟨1, by omega, T, hW, m2, ?_, fun n => ?_⟩
        · rw [← ea]; exact m7
        · rw [← ea, ← m5]; exact it n
      · have hf : f < F := by omega
        have hok : okf (gW W) s (lastO P) f = true := by rw [← hW]; exact t6 hf
        have tb := okf_bit hok
        have hco := cnt_or F hF s (by omega) f hf tb
        have hx6 := b_F F hF s hs f hf
        have it := fun n => it_some hF (s := s) (d := P.length) (f := f) (by omega) (by omega) hf m3 hu (by rw [hx1]; exact t1) (by rw [hx1]; exact t4) n
        obtain ⟨k1, -, k3, k4⟩ := keep_B (d := P.length + 1) (by omega) (nI F) (nI (P.length + 1)) (nI (s ||| 2 ^ f)) (nI f) FU 0 (sI (sI T 79 P.length (nI f)) 79 (P.length + 1) (-1)) (by omega) (by rw [FU_eq]; omega)
        rw [show nI 0 = (0 : Int32) from rfl] at k3 k4
        have hle : nI (P.length + 1) ≤ v2 ↔ ¬ acc.length < P.length + 1 := by rw [m5, ti_le, nI_ti (by omega), nI_ti (by omega)]; omega
        have g79 : ∀ k, gI (nxT T F P.length s f v2) 79 k = gI (sI (sI T 79 P.length (nI f)) 79 (P.length + 1) (-1)) 79 k := fun k => by
          unfold nxT
          by_cases q : nI (P.length + 1) ≤ v2
          · rw [if_pos q]
          · rw [if_neg q, k4 79 (by decide)]
        have g68 : gI (nxT T F P.length s f v2) 68 = W := by
          unfold nxT
          by_cases q : nI (P.length + 1) ≤ v2
          · rw [if_pos q, gs_ne (by decide), gs_ne (by decide)]; exact hW
          · rw [if_neg q, k4 68 (by decide), gs_ne (by decide), gs_ne (by decide)]; exact hW
        have hM2 : MSt F (s ||| 2 ^ f) 0 (P ++ [f]) (JJ acc (P ++ [f]) []) (nxT T F P.length s f v2) (if nI (P.length + 1) ≤ v2 then v2 else nI (P.length + 1)) (nI (s ||| 2 ^ f)) := by
          have e79 : ∀ k, k < P.length + 1 → gI (nxT T F P.length s f v2) 79 k = nI ((P ++ [f]).getD k 0) := fun k hk => by
            rw [g79, gs_o (by omega), gs_eq]
            by_cases e : k = P.length
            · rw [if_pos e, e, getD_app2]
            · rw [if_neg e, getD_app1 (by omega)]; exact m2 k (by omega)
          refine ⟨by simp; omega, fun k hk => e79 k (by simpa using hk), ?_, Or.inl ⟨rfl, rfl⟩, ?_, ?_, ?_⟩
          · rw [show (P ++ [f]).length = P.length + 1 by simp, g79, gs_eq, if_pos rfl]; decide
          · rw [JJ_nil]
            by_cases q : acc.length < P.length + 1
            · rw [if_pos q, if_neg (fun z => hle.mp z q)]; simp
            · rw [if_neg q, if_pos (hle.mpr q), m5]
          · exact JJ_len m6 (by simp; omega)
          · rw [JJ_nil]
            intro k hk
            by_cases q : acc.length < P.length + 1
            · rw [if_pos q] at hk ⊢
              have hk1 : k < P.length + 1 := by simpa using hk
              rw [← e79 k hk1, g79]
              unfold nxT
              rw [if_neg (fun z => hle.mp z q), k3, if_pos (by omega)]
            · rw [if_neg q] at hk ⊢
              unfold nxT
              rw [if_pos (hle.mpr q), gs_ne (by decide), gs_ne (by decide)]
              exact m7 k hk
        obtain ⟨c1, hc1, T3, a1, a2, a3, a4⟩ := ihm (s ||| 2 ^ f) hx6 (by omega) F 0 (P ++ [f]) acc (JJ acc (P ++ [f]) []) (nxT T F P.length s f v2) _ _ (by omega) (by omega) g68 (by simp; omega) (fun x hx => by
          rcases List.mem_append.mp hx with h | h
          · exact hPF x h
          · have : x = f := by simpa using h
            omega) hM2 rfl m6
        rw [last_app] at a3 a4
        have ej : JJ acc (P ++ [f]) (BS F (gW W) (s ||| 2 ^ f) (some f)) = JJ acc0 P (cur F (gW W) s (lastO P) (f + 1)) := by
          rw [hacc, ← ecur, JJ_step, cur_succ]
          unfold stp
          rw [if_pos hok]
        rw [ej] at a3 a4
        have hl1 : (P ++ [f]).length = P.length + 1 := by simp
        rw [hl1, nI_dn] at a4
        have hcl := cur_lc hF (gW W) (s := s) (by omega) (lastO P) (f + 1) (by omega)
        have hM3 : MSt F s (f + 1) P (JJ acc0 P (cur F (gW W) s (lastO P) (f + 1))) T3 (nI (JJ acc0 P (cur F (gW W) s (lastO P) (f + 1))).length) (nI (s ||| 2 ^ f)) := by
          refine ⟨m1, fun k hk => ?_, ?_, Or.inr ⟨by omega, by omega, tb, rfl⟩, rfl, JJ_len ha0 (by omega), a3⟩
          · rw [a2 k (by rw [hl1]; omega), getD_app1 hk]
          · rw [nI_dn, a2 P.length (by rw [hl1]; omega), getD_app2]
        obtain ⟨c2, hc2, T4, b1, b2, b3, b4⟩ := ihj (f + 1) P acc0 _ T3 _ _ (by omega) (by omega) a1 hP hPF hM3 rfl ha0
        refine ⟨1 + (c1 + c2), ?_, T4, b1, b2, b3, fun n => ?_⟩
        · have hA : c1 ≤ Xq (m + 1) := by
            show c1 ≤ 6 * (1 + Xq m) + 1
            have : (F - 0) * (1 + Xq m) ≤ 6 * (1 + Xq m) := Nat.mul_le_mul_right _ (by omega)
            omega
          have hB : (F - (f + 1) + 1) * (1 + Xq (m + 1)) ≤ (F - c) * (1 + Xq (m + 1)) := Nat.mul_le_mul_right _ (by omega)
          rw [Nat.succ_mul] at hB
          omega
        · obtain ⟨x1, x2⟩ := b4 n
          obtain ⟨y1, y2⟩ := a4 (n + c2)
          obtain ⟨z1, z2⟩ := it (n + c2 + c1)
          have e : n + (1 + (c1 + c2)) = n + c2 + c1 + 1 := by omega
          rw [e]
          exact ⟨fun h => z1 (y1 (x1 h)), z2.trans (y2.trans x2)⟩
theorem show_m {F : Nat} (hF : F < 7) {T : HSt} (hF3 : gI T 68 3 = nI F) : p_X12_seekShows T 64 ∧ (f_X12_seekShows T 64).1 = nI (BS F (gW (gI T 68)) 0 none).length ∧ (∀ k, k < (BS F (gW (gI T 68)) 0 none).length → gI (f_X12_seekShows T 64).2 80 k = nI ((BS F (gW (gI T 68)) 0 none).getD k 0)) := by
  have hp : 0 < 2 ^ F := Nat.two_pow_pos F
  have hJ : JJ [] [] (BS F (gW (gI T 68)) 0 none) = BS F (gW (gI T 68)) 0 none := by
    unfold JJ
    by_cases q : ([] : List Nat).length < ([] : List Nat).length + (BS F (gW (gI T 68)) 0 none).length
    · rw [if_pos q]; rfl
    · rw [if_neg q]
      simp at q
      exact q.symm
  obtain ⟨cost, hc, T', a1, -, a3, a4⟩ := dfs hF (W := gI T 68) F 0 hp (cnt_full F) F 0 [] [] [] (sI T 79 0 (-1)) 0 0 (by omega) (by omega) (gs_ne (by decide)) (by simp) (fun x hx => absurd hx (by simp)) ⟨by simp, fun k hk => absurd hk (by simp), by rw [show ([] : List Nat).length = 0 from rfl, gs_eq, if_pos rfl]; decide, Or.inl ⟨rfl, rfl⟩, rfl, by simp, fun k hk => absurd hk (by simp)⟩ rfl (by simp)
  rw [show lastO [] = none from rfl, hJ] at a3 a4
  have hX : ∀ F, F < 7 → (F - 0) * (1 + Xq F) + 1 ≤ 1000000 := by decide
  have hcb := hX F hF
  obtain ⟨n, hn⟩ : ∃ n, FU = (n + 1) + cost := ⟨9999999 - cost, by rw [FU_eq]; omega⟩
  obtain ⟨b1, b2⟩ := a4 (n + 1)
  have z : nI ([] : List Nat).length + (-1 : Int32) < 0 := by decide
  have eL : L_X12_seekShows_21 (n + 1) T' (nI F) (nI (BS F (gW (gI T 68)) 0 none).length) (nI ([] : List Nat).length + (-1 : Int32)) (nI 0) = pr (nI F) (pr (nI (BS F (gW (gI T 68)) 0 none).length) (pr (nI ([] : List Nat).length + (-1 : Int32)) (pr (nI 0) T'))) := by
    unfold L_X12_seekShows_21
    rw [if_pos z]
  have eT : T_X12_seekShows_21 (n + 1) T' (nI F) (nI (BS F (gW (gI T 68)) 0 none).length) (nI ([] : List Nat).length + (-1 : Int32)) (nI 0) := by
    unfold T_X12_seekShows_21
    exact ⟨fun q => absurd z q, fun q => absurd z q, fun q => absurd z q, fun q => absurd z q, fun q => absurd z q, fun q => absurd z q⟩
  rw [← hn] at b1 b2
  rw [eL] at b2
  have e0 : (0 : Int32).toNatClampNeg = 0 := rfl
  have e3 : (3 : Int32).toNatClampNeg = 3 := rfl
  have b2' : L_X12_seekShows_21 FU (sI T 79 0 (-1)) (nI F) 0 0 0 = pr (nI F) (pr (nI (BS F (gW (gI T 68)) 0 none).length) (pr (nI ([] : List Nat).length + (-1 : Int32)) (pr (nI 0) T'))) := b2
  have b1' : T_X12_seekShows_21 FU (sI T 79 0 (-1)) (nI F) 0 0 0 := b1 eT
  have ef : f_X12_seekShows T 64 = pr (nI (BS F (gW (gI T 68)) 0 none).length) T' := by
    unfold f_X12_seekShows
    simp only [bd_def]
    rw [e0, e3, hF3, b2']
    rfl
  refine ⟨fun x ex S2 e2 => ?_, by rw [ef, pr_1], by rw [ef, pr_2]; exact a3⟩
  rw [← e2, ← ex, e0, e3, hF3]
  exact b1'
theorem k_show : K_show Inv0 := by
  intro n S a hn hI
  have f1 := v_X11_show S 0 a
  have f2 := v_X12_show (f_X11_show S 0 a).2 64 a
  have hinv : Inv0 (n + 1) (f_X12_show (f_X11_show S 0 a).2 64 a).2 := ((hI.same (same_of_fr (by decide) f1)).same (same_of_fr (by decide) f2)).mono (Nat.le_succ n)
  obtain ⟨hR, hth, hbz, -⟩ := hI.2.2.2.2.1
  have key : p_X11_show S 0 a ∧ p_X12_show (f_X11_show S 0 a).2 64 a ∧ (f_X11_show S 0 a).1 = (f_X12_show (f_X11_show S 0 a).2 64 a).1 := by
    have g64 : gI (f_X11_show S 0 a).2 64 = gI S 64 := fr_addr f1 64 (by decide)
    have g68 : gI (f_X11_show S 0 a).2 68 = gI S 68 := fr_addr f1 68 (by decide)
    obtain ⟨U, hU⟩ : ∃ U, (f_X11_show S 0 a).2 = U := ⟨_, rfl⟩
    rw [hU] at g64 g68 ⊢
    have u7 : ∀ S1, sI U 64 0 0 = S1 → gI S1 64 7 = gI S 18 2 := fun S1 e => by rw [← e, gs_o (by decide), g64, hth]
    have u68 : gI (sI U 64 0 0) 68 = gI S 68 := by rw [gs_ne (by decide), g68]
    unfold p_X12_show f_X12_show
    simp only [bd_def]
    rw [u7 _ rfl]
    by_cases c0 : (-1 : Int32) ≤ a
    · by_cases c1 : gI S 18 2 = 0
      · refine ⟨⟨fun _ q => absurd c1 q, fun _ q => absurd c1 q⟩, ⟨fun _ e _ q => absurd ((u7 _ e).trans c1) q, fun _ e _ q => absurd ((u7 _ e).trans c1) q⟩, ?_⟩
        unfold f_X11_show
        rw [if_pos c0, if_pos c0, if_pos c1, if_pos c1, pr_1, pr_1]
      · have hb := hR.2.1.1.2.2.2.1
        obtain ⟨F, hF, eF⟩ := nI_of_bw (x := gI S 68 3) (n := 7) hb.1 (by have := hb.2; omega) (by omega)
        have hW := hR.1.2.2.2.2.1
        obtain ⟨s1, s2, s3⟩ := show_c hF (S := S) (W := gI S 68) (by rw [← eF]; exact hR.1.1 3 (by decide)) hW
        obtain ⟨t1, t2, t3⟩ := show_m hF (T := sI U 64 0 0) (by rw [u68]; exact eF)
        rw [u68] at t2 t3
        have hl := (BS_len F (gW (gI S 68)) 0 none).1
        generalize hB : BS F (gW (gI S 68)) 0 none = B at s2 s3 t2 t3 hl
        generalize hA : f_X8_seekShow S 38 19 = A at s2 s3
        generalize hM : f_X12_seekShows (sI U 64 0 0) 64 = M at t2 t3
        rw [if_pos c0, if_neg c1]
        refine ⟨⟨fun _ _ => s1, fun _ _ r er _ q1 q2 => ?_⟩, ⟨fun S1 e _ _ => by rw [← e]; exact t1, fun S1 e _ _ r er x ex q1 q2 => ?_⟩, ?_⟩
        · rw [hA] at er
          rw [← er, s2, ti_le, nI_ti (by omega)] at q2
          rw [ti_lt, ti0] at q1
          exact vp_in_iff.mpr ⟨by omega, by omega⟩
        · rw [← e, hM] at er
          rw [← er] at ex
          rw [← ex, t2, ti_le, nI_ti (by omega)] at q2
          rw [ti_le, show (-1 : Int32).toInt = -1 from rfl] at c0
          have : ¬ a.toInt = -1 := fun z => q1 (ti_eq.mpr z)
          exact vp_in_iff.mpr ⟨by omega, by omega⟩
        · unfold f_X11_show
          rw [if_pos c0, if_neg c1, bd_def, bd_def, pr_1, pr_1, hA]
          by_cases c2 : a = -1
          · rw [if_pos c2, if_pos c2, t2, show f_X8_showLength A 38 = gI A 38 4 from rfl, s2]
          · rw [if_neg c2, if_neg c2, t2]
            have a0 : 0 ≤ a.toInt := by
              rw [ti_le, show (-1 : Int32).toInt = -1 from rfl] at c0
              have : ¬ a.toInt = -1 := fun z => c2 (ti_eq.mpr z)
              omega
            have ef : f_X8_formAt A 38 a = if nI B.length ≤ a then (-1000000 : Int32) else gI A 40 a.toNatClampNeg := by
              show (if a < 0 then (-1000000 : Int32) else if gI A 38 4 ≤ a then (-1000000 : Int32) else gI A 40 a.toNatClampNeg) = _
              rw [if_neg (by rw [ti_lt, ti0]; omega), s2]
            rw [ef]
            by_cases c3 : nI B.length ≤ a
            · rw [if_pos c3, if_pos c3]; decide
            · rw [if_neg c3, if_neg c3]
              rw [ti_le, nI_ti (by omega)] at c3
              rw [s3 _ (by rw [ti_cl]; omega), t3 _ (by rw [ti_cl]; omega)]
    · refine ⟨⟨fun q => absurd q c0, fun q => absurd q c0⟩, ⟨fun _ _ q => absurd q c0, fun _ _ q => absurd q c0⟩, ?_⟩
      unfold f_X11_show
      rw [if_neg c0, if_neg c0, pr_1, pr_1]
  exact ⟨key.1, key.2.1, key.2.2, hinv⟩
