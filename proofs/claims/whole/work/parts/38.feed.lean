-- needs: 37.out
theorem byte_eq (x : BitVec 64) (k : Nat) (hk : k + 8 ≤ 64) : BitVec.setWidth 8 (BitVec.setWidth 32 (x >>> k)) = BitVec.setWidth 8 (BitVec.setWidth 32 (x.sshiftRight k &&& 255#64)) := by
  apply BitVec.eq_of_getLsbD_eq
  intro i hi
  have h255 : ∀ i, i < 8 → (255#64).getLsbD i = true := by decide
  simp only [BitVec.getLsbD_setWidth, BitVec.getLsbD_and, BitVec.getLsbD_ushiftRight, BitVec.getLsbD_sshiftRight, h255 i hi, Bool.and_true, show (k + i < 64) = True from eq_true (by omega), show (64 ≤ i) = False from eq_false (by omega), decide_true, decide_false, Bool.not_false, Bool.true_and, if_true]
theorem sh_eq : ∀ j, j < 8 → (((8 : Int32) * nI j).toInt64.toUInt64 &&& Int64.toUInt64 63).toBitVec.umod 64 = BitVec.ofNat 64 (8 * j) ∧ (((8 : Int32) * nI j).toInt64 &&& 63).toBitVec.smod 64 = BitVec.ofNat 64 (8 * j) := by decide
theorem feed_byte (x : Int64) {j : Nat} (hj : j < 8) : (vp_nar .byte ((x.toUInt64 >>> (((8 : Int32) * nI j).toInt64.toUInt64 &&& Int64.toUInt64 63)).toInt64).toInt32.toInt8.toInt32) = (((x >>> (((8 : Int32) * nI j).toInt64 &&& 63)) &&& (255 : Int64)).toInt32).toInt8.toInt32 ∧ 0 ≤ (((x >>> (((8 : Int32) * nI j).toInt64 &&& 63)) &&& (255 : Int64)).toInt32).toInt ∧ (((x >>> (((8 : Int32) * nI j).toInt64 &&& 63)) &&& (255 : Int64)).toInt32).toInt ≤ 255 := by
  obtain ⟨s1, s2⟩ := sh_eq j hj
  have hm : (BitVec.ofNat 64 (8 * j)).toNat = 8 * j := by rw [BitVec.toNat_ofNat, Nat.mod_eq_of_lt (by omega)]
  have hA : (x.toUInt64 >>> (((8 : Int32) * nI j).toInt64.toUInt64 &&& Int64.toUInt64 63)).toBitVec = x.toBitVec >>> (8 * j) := by
    rw [UInt64.toBitVec_shiftRight]
    show x.toBitVec >>> ((((8 : Int32) * nI j).toInt64.toUInt64 &&& Int64.toUInt64 63).toBitVec.umod 64) = _
    rw [s1, BitVec.ushiftRight_eq', hm]
  have hB : (x >>> (((8 : Int32) * nI j).toInt64 &&& 63)).toBitVec = x.toBitVec.sshiftRight (8 * j) := by
    rw [Int64.toBitVec_shiftRight, s2, BitVec.sshiftRight_eq', hm]
  have hC : ((x >>> (((8 : Int32) * nI j).toInt64 &&& 63)) &&& (255 : Int64)).toBitVec = x.toBitVec.sshiftRight (8 * j) &&& 255#64 := by
    rw [Int64.toBitVec_and, hB]; rfl
  have e1 : ((x.toUInt64 >>> (((8 : Int32) * nI j).toInt64.toUInt64 &&& Int64.toUInt64 63)).toInt64).toInt32.toInt8 = (((x >>> (((8 : Int32) * nI j).toInt64 &&& 63)) &&& (255 : Int64)).toInt32).toInt8 := by
    apply Int8.toBitVec_inj.mp
    show BitVec.signExtend 8 (BitVec.signExtend 32 (x.toUInt64 >>> (((8 : Int32) * nI j).toInt64.toUInt64 &&& Int64.toUInt64 63)).toBitVec) = BitVec.signExtend 8 (BitVec.signExtend 32 ((x >>> (((8 : Int32) * nI j).toInt64 &&& 63)) &&& (255 : Int64)).toBitVec)
    rw [hA, hC, BitVec.signExtend_eq_setWidth_of_le _ (by omega), BitVec.signExtend_eq_setWidth_of_le _ (by omega), BitVec.signExtend_eq_setWidth_of_le _ (by omega), BitVec.signExtend_eq_setWidth_of_le _ (by omega)]
    exact byte_eq x.toBitVec (8 * j) (by omega)
  have hD : (((x >>> (((8 : Int32) * nI j).toInt64 &&& 63)) &&& (255 : Int64)).toInt32).toInt = ((x.toBitVec.sshiftRight (8 * j) &&& 255#64).toNat : Int) := by
    show (BitVec.signExtend 32 ((x >>> (((8 : Int32) * nI j).toInt64 &&& 63)) &&& (255 : Int64)).toBitVec).toInt = _
    rw [hC, BitVec.signExtend_eq_setWidth_of_le _ (by omega)]
    have hle : (x.toBitVec.sshiftRight (8 * j) &&& 255#64).toNat ≤ 255 := by
      rw [BitVec.toNat_and]; exact Nat.and_le_right
    have h2 : (BitVec.setWidth 32 (x.toBitVec.sshiftRight (8 * j) &&& 255#64)).toNat = (x.toBitVec.sshiftRight (8 * j) &&& 255#64).toNat := by
      rw [BitVec.toNat_setWidth, Nat.mod_eq_of_lt (by omega)]
    rw [BitVec.toInt_eq_toNat_of_lt (by rw [h2]; omega), h2]
  refine ⟨?_, ?_, ?_⟩
  · rw [e1]
    generalize (((x >>> (((8 : Int32) * nI j).toInt64 &&& 63)) &&& (255 : Int64)).toInt32).toInt8 = y
    show y.toInt32.toInt8.toInt32 = _
    rw [Int8.toInt8_toInt32]
  · rw [hD]; omega
  · rw [hD, BitVec.toNat_and]
    have : (x.toBitVec.sshiftRight (8 * j)).toNat &&& (255#64).toNat ≤ 255 := Nat.and_le_right
    omega
def cB (x : Int64) (j : Nat) : Int32 := vp_nar .byte ((x.toUInt64 >>> (((8 : Int32) * nI j).toInt64.toUInt64 &&& Int64.toUInt64 63)).toInt64).toInt32.toInt8.toInt32
def mB (x : Int64) (j : Nat) : Int32 := ((x >>> (((8 : Int32) * nI j).toInt64 &&& 63)) &&& (255 : Int64)).toInt32
theorem nI_dn {c : Nat} : nI (c + 1) + (-1 : Int32) = nI c := by
  rw [nI_succ, Int32.add_assoc, show (1 : Int32) + (-1) = 0 from rfl, Int32.add_zero]
theorem ap_L (x : Int64) (v3 : Int32) : ∀ (n : Nat) (S : HSt) (p c : Nat), c ≤ 8 → c < n → p + c ≤ 600 → gI S 13 2 = nI p → T_X4_append_29 n S x v3 (nI c + (-1 : Int32)) ∧ gI (L_X4_append_29 n S x v3 (nI c + (-1 : Int32))).2.2.2 13 2 = nI (p + c) ∧ (∀ k, gI (L_X4_append_29 n S x v3 (nI c + (-1 : Int32))).2.2.2 14 k = if p ≤ k ∧ k < p + c then cB x (p + c - 1 - k) else gI S 14 k) ∧ (∀ a j, a ≠ 14 → ¬ (a = 13 ∧ j = 2) → gI (L_X4_append_29 n S x v3 (nI c + (-1 : Int32))).2.2.2 a j = gI S a j) := by
  intro n
  induction n with
  | zero => intro S p c _ h; omega
  | succ n ih =>
    intro S p c hc hn hp hS
    unfold T_X4_append_29 L_X4_append_29
    by_cases c0 : c = 0
    · subst c0
      have a1 : nI 0 + (-1 : Int32) < 0 := by decide
      rw [if_pos a1]
      refine ⟨⟨fun q => absurd a1 q, fun q => absurd a1 q⟩, hS, fun k => ?_, fun a j _ _ => rfl⟩
      rw [if_neg (by omega)]
      rfl
    · obtain ⟨d, rfl⟩ : ∃ d, c = d + 1 := ⟨c - 1, by omega⟩
      rw [nI_dn]
      have a1 : ¬ nI d < 0 := by
        rw [ti_lt, nI_ti (by omega), ti0]; omega
      rw [hS, nI_clamp' (by omega)]
      have h13 : ∀ w, gI (sI S 14 p w) 13 2 = nI p := fun w => by rw [gs_ne (by decide), hS]
      refine ⟨⟨fun _ => vp_in_nI (by omega) (by omega), fun _ A eA B eB => ?_⟩, ?_⟩
      · rw [← eB, ← eA, h13]
        obtain ⟨i1, -⟩ := ih (sI (sI S 14 p (cB x d)) 13 2 (nI p + 1)) (p + 1) d (by omega) (by omega) (by omega) (by rw [gs_eq, if_pos rfl, nI_succ])
        exact i1
      · rw [if_neg a1, bd_def, bd_def, h13]
        obtain ⟨-, i2, i3, i4⟩ := ih (sI (sI S 14 p (cB x d)) 13 2 (nI p + 1)) (p + 1) d (by omega) (by omega) (by omega) (by rw [gs_eq, if_pos rfl, nI_succ])
        refine ⟨i2.trans (by rw [show p + 1 + d = p + (d + 1) by omega]), fun k => (i3 k).trans ?_, fun a j h1 h2 => (i4 a j h1 h2).trans ?_⟩
        · by_cases q : k = p
          · rw [if_neg (by omega), if_pos (by omega), gs_ne (by decide), gs_eq, if_pos q, show p + (d + 1) - 1 - k = d by omega]
          · by_cases q2 : p ≤ k ∧ k < p + (d + 1)
            · rw [if_pos (by omega), if_pos q2, show p + 1 + d - 1 - k = p + (d + 1) - 1 - k by omega]
            · rw [if_neg (by omega), if_neg q2, gs_ne (by decide), gs_eq, if_neg q]
        · by_cases q : a = 13
          · subst q
            rw [gs_o (fun z => h2 ⟨rfl, z⟩), gs_ne (by decide)]
          · rw [gs_ne q, gs_ne h1]
theorem fe_L (x : Int64) (v3 : Int32) : ∀ (n : Nat) (S : HSt) (p c : Nat), c ≤ 8 → c < n → p + c ≤ 600 → gI S 64 9 = nI p → T_X12_feed_42 n S x v3 (nI c + (-1 : Int32)) ∧ gI (L_X12_feed_42 n S x v3 (nI c + (-1 : Int32))).2.2.2 64 9 = nI (p + c) ∧ (∀ k, gI (L_X12_feed_42 n S x v3 (nI c + (-1 : Int32))).2.2.2 70 k = if p ≤ k ∧ k < p + c then mB x (p + c - 1 - k) else gI S 70 k) ∧ (∀ a j, a ≠ 70 → ¬ (a = 64 ∧ j = 9) → gI (L_X12_feed_42 n S x v3 (nI c + (-1 : Int32))).2.2.2 a j = gI S a j) := by
  intro n
  induction n with
  | zero => intro S p c _ h; omega
  | succ n ih =>
    intro S p c hc hn hp hS
    unfold T_X12_feed_42 L_X12_feed_42
    by_cases c0 : c = 0
    · subst c0
      have a1 : nI 0 + (-1 : Int32) < 0 := by decide
      rw [if_pos a1]
      refine ⟨⟨fun q => absurd a1 q, fun q => absurd a1 q⟩, hS, fun k => ?_, fun a j _ _ => rfl⟩
      rw [if_neg (by omega)]
      rfl
    · obtain ⟨d, rfl⟩ : ∃ d, c = d + 1 := ⟨c - 1, by omega⟩
      rw [nI_dn]
      have a1 : ¬ nI d < 0 := by
        rw [ti_lt, nI_ti (by omega), ti0]; omega
      rw [hS, nI_clamp' (by omega)]
      have h13 : ∀ w, gI (sI S 70 p w) 64 9 = nI p := fun w => by rw [gs_ne (by decide), hS]
      refine ⟨⟨fun _ => vp_in_nI (by omega) (by omega), fun _ A eA B eB => ?_⟩, ?_⟩
      · rw [← eB, ← eA, h13]
        obtain ⟨i1, -⟩ := ih (sI (sI S 70 p (mB x d)) 64 9 (nI p + 1)) (p + 1) d (by omega) (by omega) (by omega) (by rw [gs_eq, if_pos rfl, nI_succ])
        exact i1
      · rw [if_neg a1, bd_def, bd_def, h13]
        obtain ⟨-, i2, i3, i4⟩ := ih (sI (sI S 70 p (mB x d)) 64 9 (nI p + 1)) (p + 1) d (by omega) (by omega) (by omega) (by rw [gs_eq, if_pos rfl, nI_succ])
        refine ⟨i2.trans (by rw [show p + 1 + d = p + (d + 1) by omega]), fun k => (i3 k).trans ?_, fun a j h1 h2 => (i4 a j h1 h2).trans ?_⟩
        · by_cases q : k = p
          · rw [if_neg (by omega), if_pos (by omega), gs_ne (by decide), gs_eq, if_pos q, show p + (d + 1) - 1 - k = d by omega]
          · by_cases q2 : p ≤ k ∧ k < p + (d + 1)
            · rw [if_pos (by omega), if_pos q2, show p + 1 + d - 1 - k = p + (d + 1) - 1 - k by omega]
            · rw [if_neg (by omega), if_neg q2, gs_ne (by decide), gs_eq, if_neg q]
        · by_cases q : a = 64
          · subst q
            rw [gs_o (fun z => h2 ⟨rfl, z⟩), gs_ne (by decide)]
          · rw [gs_ne q, gs_ne h1]
theorem bytes_v (S : HSt) (o : Nat) : f_X4_bytes S o = gI S 13 2 := rfl
theorem k_feed : K_feed Inv0 := by
  intro n S x b hn hI
  have hp : ∀ T : HSt, f_X12_in T b.toInt64 (1 : Int64) (8 : Int64) = f_X11_within S b 1 8 := fun T => by
    rw [show (1 : Int64) = (1 : Int32).toInt64 from rfl, show (8 : Int64) = (8 : Int32).toInt64 from rfl, in_within T S]
  obtain ⟨h13, ⟨hb1, hb2⟩, hcell⟩ := hI.2.1
  obtain ⟨p, hpp, hpe⟩ := nI_of_bw (x := gI S 64 9) (n := 601) hb1 (by omega) (by omega)
  have hbx : ¬ f_X11_within S b 1 8 = 0 → ∃ c, 1 ≤ c ∧ c ≤ 8 ∧ b = nI c := fun h => by
    have w := within_1 S h
    rw [ti1, show (8 : Int32).toInt = 8 from rfl] at w
    obtain ⟨c, h1, h2⟩ := nI_of_bw (x := b) (n := 9) (by omega) (by omega) (by omega)
    rw [h2, nI_ti (by omega)] at w
    exact ⟨c, by omega, by omega, h2⟩
  have hsub : ∀ c, nI c - (1 : Int32) = nI c + (-1 : Int32) := fun c => by rw [Int32.sub_eq_add_neg]
  have q1 : ∀ c, 1 ≤ c → c ≤ 8 → (nI p ≤ (600 : Int32) - nI c ↔ p + c ≤ 600) := fun c h1 h2 => by
    have t6 : (600 : Int32).toInt = 600 := rfl
    rw [ti_le, ti_sub (by rw [nI_ti (by omega), t6]; omega) (by rw [nI_ti (by omega), t6]; omega), nI_ti (by omega), nI_ti (by omega), t6]
    omega
  have q2 : ∀ c, 1 ≤ c → c ≤ 8 → (nI p + nI c ≤ (600 : Int32) ↔ p + c ≤ 600) := fun c h1 h2 => by
    have t6 : (600 : Int32).toInt = 600 := rfl
    rw [nI_add, ti_le, nI_ti (by omega), t6]
    omega
  have hcls : (f_X11_within S b 1 8 = 0 ∧ (f_X11_feed S 0 x b).1 = -9000000000000000001 ∧ (f_X11_feed S 0 x b).2 = S) ∨ (∃ c, 1 ≤ c ∧ c ≤ 8 ∧ b = nI c ∧ ¬ f_X11_within S b 1 8 = 0 ∧ ((¬ p + c ≤ 600 ∧ (f_X11_feed S 0 x b).1 = -9000000000000000003 ∧ (f_X11_feed S 0 x b).2 = S) ∨ (p + c ≤ 600 ∧ (f_X11_feed S 0 x b).1 = (nI (p + c)).toInt64 ∧ gI (f_X11_feed S 0 x b).2 13 2 = nI (p + c) ∧ (∀ k, gI (f_X11_feed S 0 x b).2 14 k = if p ≤ k ∧ k < p + c then cB x (p + c - 1 - k) else gI S 14 k) ∧ (∀ a j, a ≠ 14 → ¬ (a = 13 ∧ j = 2) → gI (f_X11_feed S 0 x b).2 a j = gI S a j)))) := by
    unfold f_X11_feed
    by_cases c1 : f_X11_within S b 1 8 = 0
    · left
      rw [if_pos c1]
      exact ⟨c1, pr_1 _ _, pr_2 _ _⟩
    · right
      rw [if_neg c1, bd_def, bd_def]
      obtain ⟨c, hc1, hc2, rfl⟩ := hbx c1
      refine ⟨c, hc1, hc2, rfl, c1, ?_⟩
      rw [pr_1, pr_2]
      unfold f_X4_append
      have z1 : ¬ nI c < 0 := by rw [ti_lt, nI_ti (by omega), ti0]; omega
      have z2 : ¬ (8 : Int32) < nI c := by rw [ti_lt, nI_ti (by omega), show (8 : Int32).toInt = 8 from rfl]; omega
      rw [if_neg z1, if_neg z2, h13, hpe]
      by_cases c2 : p + c ≤ 600
      · right
        rw [if_pos ((q1 c hc1 hc2).mpr c2), bd_def, bd_def, pr_1, pr_2, hsub, if_neg (by decide)]
        obtain ⟨-, i2, i3, i4⟩ := ap_L x (nI c) 1000 S p c hc2 (by omega) c2 (by rw [h13, hpe])
        refine ⟨c2, ?_, i2, i3, i4⟩
        rw [bytes_v, i2]
      · left
        rw [if_neg (fun q => c2 ((q1 c hc1 hc2).mp q)), pr_1, pr_2, if_pos rfl]
        exact ⟨c2, rfl, rfl⟩
  have f1 := v_X11_feed S 0 x b
  have f2 := v_X12_feed (f_X11_feed S 0 x b).2 64 x b
  have h649 : gI (f_X11_feed S 0 x b).2 64 9 = nI p := by
    rw [fr_addr f1 64 (by decide), hpe]
  refine ⟨fun h h1 h2 h3 y ey => ?_, fun S1 e1 h h3 y ey => ?_, ?_⟩
  · obtain ⟨c, hc1, hc2, rfl⟩ := hbx h
    rw [h13, hpe, q1 c hc1 hc2] at h3
    rw [← ey, hsub]
    exact (ap_L x (nI c) 1000 S p c hc2 (by omega) h3 (by rw [h13, hpe])).1
  · rw [hp] at h
    obtain ⟨c, hc1, hc2, rfl⟩ := hbx h
    have h9 : gI S1 64 9 = nI p := by rw [← e1, gs_o (by decide), h649]
    rw [h9, q2 c hc1 hc2] at h3
    rw [← ey, hsub]
    exact (fe_L x (nI c) 1000 S1 p c hc2 (by omega) h3 h9).1
  · have key : (f_X11_feed S 0 x b).1 = (f_X12_feed (f_X11_feed S 0 x b).2 64 x b).1 ∧ ITape (f_X12_feed (f_X11_feed S 0 x b).2 64 x b).2 := by
      have hsame : ITape (sI S 64 0 0) := ITape.of (S := S) (T := sI S 64 0 0) (by rw [gs_ne (by decide)]) (by rw [gs_o (by decide)]) (by rw [gs_ne (by decide)]) (by rw [gs_ne (by decide)]) hI.2.1
      rcases hcls with ⟨c1, e1, e2⟩ | ⟨c, hc1, hc2, rfl, c1, ⟨c2, e1, e2⟩ | ⟨c2, e1, u1, u2, u3⟩⟩
      · rw [e1, e2]
        unfold f_X12_feed
        rw [bd_def, hp, if_pos c1, pr_1, pr_2]
        exact ⟨rfl, hsame⟩
      · rw [e1, e2]
        unfold f_X12_feed
        rw [bd_def, hp, if_neg c1, gs_o (by decide), hpe, if_neg (fun q => c2 ((q2 c hc1 hc2).mp q)), pr_1, pr_2]
        exact ⟨rfl, hsame⟩
      · rw [e1]
        generalize (f_X11_feed S 0 x (nI c)).2 = U at u1 u2 u3 h649
        unfold f_X12_feed
        rw [bd_def, hp, if_neg c1, gs_o (by decide), h649, if_pos ((q2 c hc1 hc2).mpr c2), bd_def, bd_def, pr_1, pr_2, hsub]
        obtain ⟨-, i2, i3, i4⟩ := fe_L x (nI c) 1000 (sI U 64 0 0) p c hc2 (by omega) c2 (by rw [gs_o (by decide), h649])
        rw [i2]
        refine ⟨rfl, ?_⟩
        generalize (L_X12_feed_42 1000 (sI U 64 0 0) x (nI c) (nI c + -1)).2.2.2 = V at i2 i3 i4
        refine ⟨?_, ?_, fun k hk => ?_⟩
        · rw [i4 13 2 (by decide) (by decide), gs_ne (by decide), u1, i2]
        · rw [i2, nI_ti (by omega)]; omega
        · rw [i3 k, i4 14 k (by decide) (by omega), gs_ne (by decide), gs_ne (by decide), u2 k, u3 70 k (by decide) (by omega)]
          by_cases z : p ≤ k ∧ k < p + c
          · rw [if_pos z, if_pos z]
            obtain ⟨w1, w2, w3⟩ := feed_byte x (j := p + c - 1 - k) (by omega)
            exact ⟨⟨w2, w3⟩, w1⟩
          · rw [if_neg z, if_neg z]
            exact hcell k hk
    refine ⟨key.1, ?_, key.2, ?_, ?_, ?_, ?_⟩
    · exact fr_row (by decide) f2 (fr_row (by decide) f1 hI.1)
    · exact fr_stat (by decide) f2 (fr_stat (by decide) f1 hI.2.2.1)
    · exact fr_tr (by decide) f2 (fr_tr (by decide) f1 hI.2.2.2.1)
    · exact (fr_scn (by decide) f2 (fr_scn (by decide) f1 hI.2.2.2.2.1)).mono (Nat.le_succ n)
    · exact (fr_img (by decide) f2 (fr_img (by decide) f1 hI.2.2.2.2.2)).mono (Nat.le_succ n)
