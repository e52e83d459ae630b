-- needs: 95.path
/-! ===== moves: lookRow ===== -/
/-- the model's best row so far -/
def MB (T : HSt) (b : WRo) : Prop := match b with
  | none => gI T 64 38 = -1000000
  | some x => gI T 64 38 = nI x.2.length ∧ x.2.length ≤ 5 ∧ (gI T 64 39).toInt = x.1 ∧ ∀ k, k < x.2.length → gI T 76 k = nI (x.2.getD k 0)
theorem lookL {d : Nat} (hd : d ≤ 5) : ∀ (n k : Nat) (T : HSt), k ≤ d → d - k < n → T_X12_lookRow_39 n T (nI d) (nI k) ∧ (∀ i, gI (L_X12_lookRow_39 n T (nI d) (nI k)).2.2 76 i = if k ≤ i ∧ i < d then gI T 73 i else gI T 76 i) ∧ (∀ x, x ≠ 76 → gI (L_X12_lookRow_39 n T (nI d) (nI k)).2.2 x = gI T x) := by
  intro n
  induction n with
  | zero => intro k T _ h; omega
  | succ n ih =>
    intro k T hk hn
    unfold T_X12_lookRow_39 L_X12_lookRow_39
    by_cases c : k = d
    · have a1 : nI d ≤ nI k := by rw [ti_le, nI_ti (by omega), nI_ti (by omega)]; omega
      rw [if_pos a1]
      refine ⟨⟨fun q => absurd a1 q, fun q => absurd a1 q, fun q => absurd a1 q⟩, fun i => ?_, fun x _ => rfl⟩
      rw [if_neg (by omega)]; rfl
    · have a1 : ¬ nI d ≤ nI k := by rw [ti_le, nI_ti (by omega), nI_ti (by omega)]; omega
      obtain ⟨i1, i2, i3⟩ := ih (k + 1) (sI T 76 k (gI T 73 k)) (by omega) (by omega)
      rw [nI_succ] at i1 i2 i3
      rw [if_neg a1, bd_def, nI_clamp' (i := k) (by omega)]
      refine ⟨⟨fun _ => vp_in_nI (by omega) (by omega), fun _ => vp_in_nI (by omega) (by omega), fun _ S1 e1 => by rw [← e1]; exact i1⟩, fun i => ?_, fun x hx => (i3 x hx).trans (gs_ne hx)⟩
      rw [i2 i, gs_ne (show (73 : Nat) ≠ 76 by decide), gs_eq]
      by_cases q : k + 1 ≤ i ∧ i < d
      · rw [if_pos q, if_pos (by omega)]
      · rw [if_neg q]
        by_cases e : i = k
        · subst e; rw [if_pos rfl, if_pos (by omega)]
        · rw [if_neg e, if_neg (by omega)]
/-- the row is taken -/
noncomputable def lkT (T : HSt) (d : Nat) : HSt := (L_X12_lookRow_39 1000 (sI (sI T 64 38 (nI d)) 64 39 (gI (sI T 64 38 (nI d)) 75 d)) (nI d) 0).2.2
theorem lkT_v (T : HSt) {d : Nat} (hd : d ≤ 5) : gI (lkT T d) 64 38 = nI d ∧ gI (lkT T d) 64 39 = gI T 75 d ∧ (∀ i, i < d → gI (lkT T d) 76 i = gI T 73 i) ∧ (∀ x k, x ≠ 76 → ¬ (x = 64 ∧ (k = 38 ∨ k = 39)) → gI (lkT T d) x k = gI T x k) := by
  obtain ⟨-, a2, a3⟩ := lookL hd 1000 0 (sI (sI T 64 38 (nI d)) 64 39 (gI (sI T 64 38 (nI d)) 75 d)) (by omega) (by omega)
  rw [show nI 0 = (0 : Int32) from rfl] at a2 a3
  refine ⟨?_, ?_, fun i hi => ?_, fun x k h1 h2 => ?_⟩
  · unfold lkT; rw [a3 64 (by decide), gs_o (by decide), gs_eq, if_pos rfl]
  · unfold lkT; rw [a3 64 (by decide), gs_eq, if_pos rfl, gs_ne (show (75 : Nat) ≠ 64 by decide)]
  · unfold lkT; rw [a2 i, if_pos ⟨Nat.zero_le _, hi⟩, gs_ne (show (73 : Nat) ≠ 64 by decide), gs_ne (show (73 : Nat) ≠ 64 by decide)]
  · unfold lkT
    rw [a3 x h1]
    by_cases q : x = 64
    · subst q; rw [gs_o (by omega), gs_o (by omega)]
    · rw [gs_ne q, gs_ne q]
theorem look_v (T : HSt) {d : Nat} (hd : d ≤ 5) : f_X12_lookRow T 64 (nI d) = if gI T 64 38 = (-1000000 : Int32) then lkT T d else (if gI T 75 d ≤ gI T 64 39 then T else lkT T d) := by
  unfold f_X12_lookRow
  simp only [bd_def]
  rw [nI_clamp' (by omega)]
  rfl
theorem look_at {T : HSt} {b : WRo} {d : Nat} {w : Int} {pre : List Nat} (hb : MB T b) (hd : d ≤ 5) (hl : pre.length = d) (hw : (gI T 75 d).toInt = w) (hm : ∀ k, k < d → gI T 73 k = nI (pre.getD k 0)) : MB (f_X12_lookRow T 64 (nI d)) (offO b (some (w, pre))) ∧ (∀ x k, x ≠ 76 → ¬ (x = 64 ∧ (k = 38 ∨ k = 39)) → gI (f_X12_lookRow T 64 (nI d)) x k = gI T x k) := by
  obtain ⟨v1, v2, v3, v4⟩ := lkT_v T hd
  have hnew : MB (lkT T d) (some (w, pre)) := by
    refine ⟨?_, ?_, ?_, fun k hk => ?_⟩
    · show gI (lkT T d) 64 38 = nI pre.length; rw [hl]; exact v1
    · show pre.length ≤ 5; omega
    · show (gI (lkT T d) 64 39).toInt = w; rw [v2]; exact hw
    · have hk' : k < d := by have : k < pre.length := hk; omega
      show gI (lkT T d) 76 k = nI (pre.getD k 0)
      rw [v3 k hk']; exact hm k hk'
  rw [look_v T hd]
  cases b with
  | none =>
    have h38 : gI T 64 38 = -1000000 := hb
    rw [if_pos h38]
    exact ⟨hnew, v4⟩
  | some x =>
    obtain ⟨b1, b2, b3, b4⟩ := id hb
    have n38 : ¬ gI T 64 38 = -1000000 := by rw [b1]; exact nI_none (by omega)
    rw [if_neg n38]
    by_cases q : gI T 75 d ≤ gI T 64 39
    · rw [if_pos q]
      have q' : ¬ x.1 < w := by rw [ti_le, hw, b3] at q; omega
      have e : offO (some x) (some (w, pre)) = some x := by
        show (if x.1 < w then some (w, pre) else some x) = some x
        rw [if_neg q']
      rw [e]
      exact ⟨hb, fun _ _ _ _ => rfl⟩
    · rw [if_neg q]
      have q' : x.1 < w := by rw [ti_le, hw, b3] at q; omega
      have e : offO (some x) (some (w, pre)) = some (w, pre) := by
        show (if x.1 < w then some (w, pre) else some x) = _
        rw [if_pos q']
      rw [e]
      exact ⟨hnew, v4⟩
theorem p_look (T : HSt) {d : Nat} (hd : d ≤ 5) : p_X12_lookRow T 64 (nI d) := by
  have v6 : vp_in (nI d) 6 := vp_in_nI (by omega) (by omega)
  have hT : ∀ U, T_X12_lookRow_39 1000 U (nI d) 0 := fun U => (lookL hd 1000 0 U (by omega) (by omega)).1
  unfold p_X12_lookRow
  repeat' constructor
  all_goals intros
  all_goals first | exact v6 | exact hT _
