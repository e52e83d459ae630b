-- needs: 9p.throws
theorem worth_fr {S' : HSt} {d : Nat} {e b : Int32} (n : Nat) : FrC n d S' (f_X2_worthOf S' 43 18 (nI d) e b).2 ∧ (∀ y, y ≠ 54 → y ≠ 55 → gI (f_X2_worthOf S' 43 18 (nI d) e b).2 y = gI S' y) := by
  have fr := v_X2_worthOf S' 43 18 (nI d) e b
  have q : ∀ y, y ≠ 54 → y ≠ 55 → gI (f_X2_worthOf S' 43 18 (nI d) e b).2 y = gI S' y := fun y h1 h2 => fr_addr fr y (by intro w hw; simp at hw; rcases hw with h | h | h | h | h | h | h | h | h <;> rw [h] <;> simp <;> omega)
  exact ⟨⟨fun y _ _ h3 h4 _ _ => q y h3 h4, fun j _ => by rw [q 52 (by omega) (by omega)], fun j _ => by rw [q 53 (by omega) (by omega)]⟩, q⟩
theorem mx_ti {a b : Int32} : (if a < b then b else a).toInt = if a.toInt < b.toInt then b.toInt else a.toInt := by
  by_cases q : a < b
  · rw [if_pos q, if_pos (by rw [ti_lt] at q; exact q)]
  · rw [if_neg q, if_neg (by rw [ti_lt] at q; exact q)]
theorem off_mx {p q : Int} {w : Int} {P : Prop} [Decidable P] (hP : P ↔ ¬ p < q) {m : Nat} {r : List Nat} : some ((if p < q then q else p) + w, (m + if P then 0 else 1) :: r) = offO (some (p + w, m :: r)) (some (q + w, (m + 1) :: r)) := by
  show _ = if p + w < q + w then some (q + w, (m + 1) :: r) else some (p + w, m :: r)
  by_cases c : p < q
  · rw [if_pos c, if_neg (fun z => (hP.mp z) c), if_pos (by omega)]
  · rw [if_neg c, if_pos (hP.mpr c), if_neg (by omega)]
    rfl
theorem thr_off {B : HSt} {A k b : Nat} {x : (Nat → Int32) × Nat} {P : Prop} [Decidable P] (hmay : may6 B x (6 + 2 * b) = true) (hmay1 : may6 B x (6 + 2 * b + 1) = true) (hP : P ↔ ¬ gn6 B x (6 + 2 * b + 0) < gn6 B x (6 + 2 * b + 1)) : offO (scn (it6 B A k x) (6 + 2 * b) 0) (some ((if gn6 B x (6 + 2 * b + 0) < gn6 B x (6 + 2 * b + 1) then gn6 B x (6 + 2 * b + 1) else gn6 B x (6 + 2 * b + 0)) + (bs6 B A k (stp6 B x (6 + 2 * b))).1, (6 + 2 * b + if P then 0 else 1) :: (bs6 B A k (stp6 B x (6 + 2 * b))).2)) = scn (it6 B A k x) (6 + 2 * (b + 1)) 0 := by
  have i0 : it6 B A k x (6 + 2 * b) = some (gn6 B x (6 + 2 * b + 0) + (bs6 B A k (stp6 B x (6 + 2 * b))).1, (6 + 2 * b) :: (bs6 B A k (stp6 B x (6 + 2 * b))).2) := by
    unfold it6
    rw [if_pos hmay, Nat.add_zero]
  have i1 : it6 B A k x (6 + 2 * b + 1) = some (gn6 B x (6 + 2 * b + 1) + (bs6 B A k (stp6 B x (6 + 2 * b))).1, (6 + 2 * b + 1) :: (bs6 B A k (stp6 B x (6 + 2 * b))).2) := by
    unfold it6
    rw [if_pos hmay1, stp_h2]
  have e2 : scn (it6 B A k x) (6 + 2 * (b + 1)) 0 = offO (offO (scn (it6 B A k x) (6 + 2 * b) 0) (it6 B A k x (6 + 2 * b))) (it6 B A k x (6 + 2 * b + 1)) := by
    rw [show 6 + 2 * (b + 1) = 6 + 2 * b + 1 + 1 by omega, scn_one, scn_one]
  rw [e2, i0, i1, offO_assoc]
  generalize scn (it6 B A k x) (6 + 2 * b) 0 = o
  generalize gn6 B x (6 + 2 * b + 0) = p at *
  generalize gn6 B x (6 + 2 * b + 1) = q at *
  generalize bs6 B A k (stp6 B x (6 + 2 * b)) = z
  rw [off_mx hP]
theorem throw_step {S B S1 : HSt} {K : Int32} {c n d N k A b : Nat} {x : (Nat → Int32) × Nat} {g : HSt → Nat → Nat → Int32 → Int32 × HSt} {pg : HSt → Nat → Nat → Int32 → Prop} (hE : EV S B) (hc : (gI B 68 2).toInt = c) (hA : A = 6 + 2 * c) (hn : n ≤ 5) (hk : d + 1 + k = n) (hG : 0 < k → SPEC S B K c n A k (d + 1) g pg) (h : SY S B K c n S1 d x) (hv : VX S K d x N) (hN : N + (k + 1) ≤ 1999) (hb : b < c) (ho : ROWO S1 d (scn (it6 B A k x) (6 + 2 * b) 0)) (f : Nat) :
    ∃ S2, L_X2_tryThrows_12 g 18 (f + 1) S1 (nI d) (nI c) (nI b) = L_X2_tryThrows_12 g 18 f S2 (nI d) (nI c) (nI (b + 1)) ∧ (T_X2_tryThrows_12 g pg 18 f S2 (nI d) (nI c) (nI (b + 1)) → T_X2_tryThrows_12 g pg 18 (f + 1) S1 (nI d) (nI c) (nI b)) ∧ SY S B K c n S2 d x ∧ FrC n d S1 S2 ∧ ROWO S2 d (scn (it6 B A k x) (6 + 2 * (b + 1)) 0) := by
  have hc4 : c ≤ 4 := by have := hE.2.1.1.2.2.1.2; omega
  have nb : ¬ nI c ≤ nI b := by rw [ti_le, nI_ti (by omega), nI_ti (by omega)]; omega
  have hand := b_and x.2 (by have := hv.2.1; omega) b (by omega)
  rw [← h.2.2.1] at hand
  by_cases hbit : x.2.testBit b = false
  · have hz := hand.mpr hbit
    obtain ⟨w1, w2, w3⟩ := worth_at (s := x.2) (e := 0) hE hc h.1 (show d < 5 by omega) hb (by omega) (by omega) hv.1 h.2.2.2.1 hv.2.2
    obtain ⟨wf, wq⟩ := worth_fr (S' := S1) (d := d) (e := nI 0) (b := nI b) n
    have h2 := h.fr (by omega) wf w3
    obtain ⟨y1, y2, y3⟩ := worth_at (s := x.2) (e := 1) hE hc h2.1 (show d < 5 by omega) hb (by omega) (by omega) hv.1 h2.2.2.2.1 hv.2.2
    obtain ⟨yf, yq⟩ := worth_fr (S' := (f_X2_worthOf S1 43 18 (nI d) (nI 0) (nI b)).2) (d := d) (e := nI 1) (b := nI b) n
    have h3 := h2.fr (by omega) yf y3
    obtain ⟨z1, z2, z3, z4, z5, z6, z7, z8⟩ := behind_at hE hc4 hn hk hG h3 hv hN hb hbit
    have g0 := gn_bw hE hv.1 (by omega) hc (m := 6 + 2 * b + 0) (by omega)
    have g1 := gn_bw hE hv.1 (by omega) hc (m := 6 + 2 * b + 1) (by omega)
    have hmay : may6 B x (6 + 2 * b) = true := by rw [show 6 + 2 * b = 6 + 2 * b + 0 from rfl, may_h 0 (by omega), hbit]; rfl
    have hmay1 : may6 B x (6 + 2 * b + 1) = true := by rw [may_h 1 (by omega), hbit]; rfl
    have gb := bs6_bw hE hc k (N + 1) (stp6 B x (6 + 2 * b)) (stp_B hE hv.1 (by omega) hmay) (by omega)
    rw [← hA] at gb
    have hlen := bs6_len B A k (stp6 B x (6 + 2 * b))
    have w2' : (f_X2_worthOf S1 43 18 (nI d) 0 (nI b)).1.toInt = gn6 B x (6 + 2 * b + 0) := w2
    have y2' : (f_X2_worthOf (f_X2_worthOf S1 43 18 (nI d) 0 (nI b)).2 43 18 (nI d) 1 (nI b)).1.toInt = gn6 B x (6 + 2 * b + 1) := y2
    have w1' : p_X2_worthOf S1 43 18 (nI d) 0 (nI b) := w1
    have y1' : p_X2_worthOf (f_X2_worthOf S1 43 18 (nI d) 0 (nI b)).2 43 18 (nI d) 1 (nI b) := y1
    have ho3 : ROWO (f_X2_seekBehindThrow g (f_X2_worthOf (f_X2_worthOf S1 43 18 (nI d) (nI 0) (nI b)).2 43 18 (nI d) (nI 1) (nI b)).2 43 18 (nI d) (nI b)).2 d (scn (it6 B A k x) (6 + 2 * b) 0) := ho.of (by rw [z6, yq 52 (by omega) (by omega), wq 52 (by omega) (by omega)]) (by rw [z7, yq 53 (by omega) (by omega), wq 53 (by omega) (by omega)]) (by rw [z8, yq (46 + d) (by omega) (by omega), wq (46 + d) (by omega) (by omega)])
    have fr3 := (wf.trans yf).trans z5
    rw [show nI 0 = (0 : Int32) from rfl, show nI 1 = (1 : Int32) from rfl] at z1 z2 z3 z4 ho3 fr3
    have eL : L_X2_tryThrows_12 g 18 (f + 1) S1 (nI d) (nI c) (nI b) = L_X2_tryThrows_12 g 18 f (f_X2_offer (f_X2_seekBehindThrow g (f_X2_worthOf (f_X2_worthOf S1 43 18 (nI d) 0 (nI b)).2 43 18 (nI d) 1 (nI b)).2 43 18 (nI d) (nI b)).2 43 (nI d) (((6 : Int32) + ((2 : Int32) * nI b)) + (if (f_X2_worthOf (f_X2_worthOf S1 43 18 (nI d) 0 (nI b)).2 43 18 (nI d) 1 (nI b)).1 ≤ (f_X2_worthOf S1 43 18 (nI d) 0 (nI b)).1 then (0 : Int32) else 1)) ((if (f_X2_worthOf S1 43 18 (nI d) 0 (nI b)).1 < (f_X2_worthOf (f_X2_worthOf S1 43 18 (nI d) 0 (nI b)).2 43 18 (nI d) 1 (nI b)).1 then (f_X2_worthOf (f_X2_worthOf S1 43 18 (nI d) 0 (nI b)).2 43 18 (nI d) 1 (nI b)).1 else (f_X2_worthOf S1 43 18 (nI d) 0 (nI b)).1) + (f_X2_seekBehindThrow g (f_X2_worthOf (f_X2_worthOf S1 43 18 (nI d) 0 (nI b)).2 43 18 (nI d) 1 (nI b)).2 43 18 (nI d) (nI b)).1)) (nI d) (nI c) (nI (b + 1)) := by
      rw [L_X2_tryThrows_12, if_neg nb]
      simp only [bd_def]
      rw [if_pos hz, nsucc]
    have eT : ∀ (O : HSt), (f_X2_offer (f_X2_seekBehindThrow g (f_X2_worthOf (f_X2_worthOf S1 43 18 (nI d) 0 (nI b)).2 43 18 (nI d) 1 (nI b)).2 43 18 (nI d) (nI b)).2 43 (nI d) (((6 : Int32) + ((2 : Int32) * nI b)) + (if (f_X2_worthOf (f_X2_worthOf S1 43 18 (nI d) 0 (nI b)).2 43 18 (nI d) 1 (nI b)).1 ≤ (f_X2_worthOf S1 43 18 (nI d) 0 (nI b)).1 then (0 : Int32) else 1)) ((if (f_X2_worthOf S1 43 18 (nI d) 0 (nI b)).1 < (f_X2_worthOf (f_X2_worthOf S1 43 18 (nI d) 0 (nI b)).2 43 18 (nI d) 1 (nI b)).1 then (f_X2_worthOf (f_X2_worthOf S1 43 18 (nI d) 0 (nI b)).2 43 18 (nI d) 1 (nI b)).1 else (f_X2_worthOf S1 43 18 (nI d) 0 (nI b)).1) + (f_X2_seekBehindThrow g (f_X2_worthOf (f_X2_worthOf S1 43 18 (nI d) 0 (nI b)).2 43 18 (nI d) 1 (nI b)).2 43 18 (nI d) (nI b)).1)) = O → p_X2_offer (f_X2_seekBehindThrow g (f_X2_worthOf (f_X2_worthOf S1 43 18 (nI d) 0 (nI b)).2 43 18 (nI d) 1 (nI b)).2 43 18 (nI d) (nI b)).2 43 (nI d) (((6 : Int32) + ((2 : Int32) * nI b)) + (if (f_X2_worthOf (f_X2_worthOf S1 43 18 (nI d) 0 (nI b)).2 43 18 (nI d) 1 (nI b)).1 ≤ (f_X2_worthOf S1 43 18 (nI d) 0 (nI b)).1 then (0 : Int32) else 1)) ((if (f_X2_worthOf S1 43 18 (nI d) 0 (nI b)).1 < (f_X2_worthOf (f_X2_worthOf S1 43 18 (nI d) 0 (nI b)).2 43 18 (nI d) 1 (nI b)).1 then (f_X2_worthOf (f_X2_worthOf S1 43 18 (nI d) 0 (nI b)).2 43 18 (nI d) 1 (nI b)).1 else (f_X2_worthOf S1 43 18 (nI d) 0 (nI b)).1) + (f_X2_seekBehindThrow g (f_X2_worthOf (f_X2_worthOf S1 43 18 (nI d) 0 (nI b)).2 43 18 (nI d) 1 (nI b)).2 43 18 (nI d) (nI b)).1) → T_X2_tryThrows_12 g pg 18 f O (nI d) (nI c) (nI (b + 1)) → T_X2_tryThrows_12 g pg 18 (f + 1) S1 (nI d) (nI c) (nI b) := fun O hO po q => by
      rw [T_X2_tryThrows_12]
      simp only [bd_def]
      refine ⟨fun _ _ => w1', fun _ _ r4 e4 x5 _ => ?_, fun _ _ r4 e4 x5 _ r6 e6 x7 _ x9 _ x10 _ => ?_, fun _ _ r4 e4 x5 e5 r6 e6 x7 e7 x9 e9 x10 e10 r11 e11 => ?_, fun _ S2 eS => ?_⟩
      · rw [← e4]; exact y1'
      · rw [← e6, ← e4]; exact z1
      · rw [← e11, ← e10, ← e9, ← e7, ← e5, ← e6, ← e4]; exact po
      · rw [if_pos hz, hO] at eS
        rw [← eS, nsucc]; exact q
    generalize f_X2_seekBehindThrow g (f_X2_worthOf (f_X2_worthOf S1 43 18 (nI d) 0 (nI b)).2 43 18 (nI d) 1 (nI b)).2 43 18 (nI d) (nI b) = Q at z1 z2 z3 z4 ho3 fr3 eL eT
    generalize (f_X2_worthOf (f_X2_worthOf S1 43 18 (nI d) 0 (nI b)).2 43 18 (nI d) 1 (nI b)).1 = x7 at y2' eL eT
    generalize (f_X2_worthOf S1 43 18 (nI d) 0 (nI b)).1 = x5 at w2' eL eT
    have emv : ((6 : Int32) + ((2 : Int32) * nI b)) + (if x7 ≤ x5 then (0 : Int32) else 1) = nI (6 + 2 * b + if x7 ≤ x5 then 0 else 1) := by
      have e1 : (if x7 ≤ x5 then (0 : Int32) else 1) = nI (if x7 ≤ x5 then 0 else 1) := by split <;> rfl
      rw [e1, show (2 : Int32) = nI 2 from rfl, show (6 : Int32) = nI 6 from rfl, pk_mul, nI_add, nI_add]
    rw [emv] at eL eT
    obtain ⟨o1, o2, o3⟩ := offer_at (d := d) (by omega) (by omega) z3 ho3 (6 + 2 * b + if x7 ≤ x5 then 0 else 1) ((if x5 < x7 then x7 else x5) + Q.1)
    have hmx : (if x5 < x7 then x7 else x5).toInt = if gn6 B x (6 + 2 * b + 0) < gn6 B x (6 + 2 * b + 1) then gn6 B x (6 + 2 * b + 1) else gn6 B x (6 + 2 * b + 0) := by rw [mx_ti, w2', y2']
    have hmb : -99 ≤ (if x5 < x7 then x7 else x5).toInt ∧ (if x5 < x7 then x7 else x5).toInt ≤ 99 := by rw [hmx]; split <;> omega
    have hsum : ((if x5 < x7 then x7 else x5) + Q.1).toInt = (if gn6 B x (6 + 2 * b + 0) < gn6 B x (6 + 2 * b + 1) then gn6 B x (6 + 2 * b + 1) else gn6 B x (6 + 2 * b + 0)) + (bs6 B A k (stp6 B x (6 + 2 * b))).1 := by
      rw [ti_add (by rw [z2]; omega) (by rw [z2]; omega), hmx, z2]
    have hle : (x7 ≤ x5) ↔ ¬ gn6 B x (6 + 2 * b + 0) < gn6 B x (6 + 2 * b + 1) := by rw [ti_le, w2', y2']; omega
    have eo : offO (scn (it6 B A k x) (6 + 2 * b) 0) (some (((if x5 < x7 then x7 else x5) + Q.1).toInt, (6 + 2 * b + if x7 ≤ x5 then 0 else 1) :: (bs6 B A k (stp6 B x (6 + 2 * b))).2)) = scn (it6 B A k x) (6 + 2 * (b + 1)) 0 := by
      rw [hsum]
      exact thr_off hmay hmay1 hle
    rw [eo] at o2
    have f2 : FrC n d S1 (f_X2_offer Q.2 43 (nI d) (nI (6 + 2 * b + if x7 ≤ x5 then 0 else 1)) ((if x5 < x7 then x7 else x5) + Q.1)) := fr3.trans ⟨fun y h1 h2 h3 h4 h5 h6 => by funext j; exact o3 y j (by omega) (by omega) (by omega), fun j hj => o3 52 j (by omega) (by omega) (by omega), fun j hj => o3 53 j (by omega) (by omega) (by omega)⟩
    refine ⟨_, eL, eT _ rfl o1, h.fr (by omega) f2 (z4.1.of ?_ ?_ ?_ ?_ (q_X2_offer _ _ _ _ _)), f2, o2⟩
    · funext j; exact o3 18 j (by omega) (by omega) (by omega)
    · funext j; exact o3 20 j (by omega) (by omega) (by omega)
    · funext j; exact o3 21 j (by omega) (by omega) (by omega)
    · funext j; exact o3 54 j (by omega) (by omega) (by omega)
  · have hz : ¬ (gI S1 43 8 &&& ((1 : Int32) <<< (nI b &&& 31))) = 0 := fun q => hbit (hand.mp q)
    refine ⟨S1, ?_, fun q => ?_, h, FrC.refl _ _ _, ?_⟩
    · rw [L_X2_tryThrows_12, if_neg nb]
      simp only [bd_def]
      rw [if_neg hz, nsucc]
    · rw [T_X2_tryThrows_12]
      simp only [bd_def]
      refine ⟨fun _ z => absurd z hz, fun _ z => absurd z hz, fun _ z => absurd z hz, fun _ z => absurd z hz, fun _ S2 eS => ?_⟩
      rw [if_neg hz] at eS
      rw [← eS, nsucc]; exact q
    · have hb1 : x.2.testBit b = true := by simpa using hbit
      have e : ∀ e, e < 2 → it6 B A k x (6 + 2 * b + e) = none := fun e he => by
        unfold it6
        rw [may_h e he, hb1]
        rfl
      rw [show 6 + 2 * (b + 1) = 6 + 2 * b + 1 + 1 by omega, scn_one, scn_one, e 1 (by omega), offO_nr, show it6 B A k x (6 + 2 * b) = none from e 0 (by omega), offO_nr]
      exact ho
