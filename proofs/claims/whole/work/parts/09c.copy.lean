section AWP
variable {p : Program} {l : Launch} {e : Env} {R : Room} {s : State} {m : MethodId} {args : Array Value} {below : List Frame} {meth : Method} {c : Code} {G : GG} {nL : Nat} {Q : State → Prop} {S : HSt} {cells slots pc : Nat} {lv : List (Nat × Value)} {st : List Value}
variable {cc : ByteArray} {own : String} {ret : Option FieldType}
/-- System.arraycopy of ints -/
theorem aw_copy (hC : ACx p s m args meth c cc own nL ret) (hSt : St G s) {a0 a index : Nat} {sp dp n : Int32} (g0 : a0 < gn S) (hK0 : gK S a0 = 14) (ga : a < gn S) (hK : gK S a = 14) (h1 : ¬ sp < 0) (h2 : ¬ dp < 0) (h3 : ¬ n < 0) (h4 : sp.toNatClampNeg + n.toNatClampNeg ≤ gL S a0) (h5 : dp.toNatClampNeg + n.toNatClampNeg ≤ gL S a)
    (hw1 : Cond.methodLink own index arraycopyName ∈ BIG) (hw2 : Cond.native arraycopyName ∈ BIG) (hw3 : Cond.static arraycopyName ∈ BIG) (hw4 : Cond.initialized "java/lang/System" ∈ BIG) (hframes : 1 ≤ R.frames) (hlocals : (st.map fun v => v.category).sum + (nativeFrameWords "java/lang/System" "arraycopy" 5 + 11) ≤ R.locals) (hd : decode cc pc = .ok (.invokestatic index, 3))
    (kk : AW p l e R s m args below meth c G nL Q (rI S a (va_cpy (gI S a0) (gI S a) sp.toNatClampNeg dp.toNatClampNeg n.toNatClampNeg)) cells slots (pc + 3) lv st) : AW p l e R s m args below meth c G nL Q S cells slots pc lv (.int n :: .int dp :: .ref a :: .int sp :: .ref a0 :: st) := by
  intro H locs ls hR hS hl
  show W p l e R s m args below meth c H locs cells slots Q (F0 m pc ls (.int n :: .int dp :: .ref (ro G a) :: .int sp :: .ref (ro G a0) :: st.map (cv G)))
  rw [ro_lt hR ga, ro_lt hR g0]
  have nn : ∀ z : Int32, ¬ z < 0 → z.toInt = (z.toNatClampNeg : Int) := by
    intro z hz
    have hz0 : (0 : Int) ≤ z.toInt := by
      have := Int32.not_lt.mp hz
      simpa using Int32.le_iff_toInt_le.mp this
    show z.toInt = ((z.toInt.toNat : Nat) : Int)
    omega
  have r0 := row_i (G := G) g0 hK0 (by decide) (by decide) (by decide)
  have r1 := row_i (G := G) ga hK (by decide) (by decide) (by decide)
  have hc0 : H[G.1 + a0]? = some (vp_cell (G.2.2.1 14) (gL S a0, .inl (gI S a0))) := hR.1 a0 _ r0
  have hc1 : H[G.1 + a]? = some (vp_cell (G.2.2.1 14) (gL S a, .inl (gI S a))) := hR.1 a _ r1
  obtain ⟨-, k0, hk0, cm0, hkk0⟩ := (hSt.2.2.2.1.2 1 _ rfl).1 (gL S a0) (fun j => .int (gI S a0 j))
  obtain ⟨-, k1, hk1, cm1, hkk1⟩ := (hSt.2.2.2.1.2 1 _ rfl).1 (gL S a) (fun j => .int (gI S a j))
  intro T hT X
  obtain ⟨vm', X', step⟩ := X.arraycopy hC.1 hC.2.2.2.1 (hC.2.2.2.2.1 _ hw1) (hC.2.2.2.2.1 _ hw2) (hC.2.2.2.2.1 _ hw3) (hC.2.2.2.2.1 _ hw4) (src := G.1 + a0) (dst := G.1 + a) (cs := vp_cell (G.2.2.1 14) (gL S a0, .inl (gI S a0))) (cd := vp_cell (G.2.2.1 14) (gL S a, .inl (gI S a))) (srcPos := sp) (destPos := dp) (n := n) (by rw [hT]; exact hc0) (by rw [hT]; exact hc1)
    (fun _ h => by cases h) (fun _ h => by cases h) (fun h => by cases h) (fun h => by cases h) hk0 hk1 hkk0 hkk1 (by simp [refKind]) h1 h2 h3
    (by rw [nn sp h1, nn n h3]; show ¬ _ > ((arrV _ (gL S a0) (fun j => .int (gI S a0 j))).slots.size : Int); rw [arrV_size]; omega)
    (by rw [nn dp h2, nn n h3]; show ¬ _ > ((arrV _ (gL S a) (fun j => .int (gI S a j))).slots.size : Int); rw [arrV_size]; omega)
    (fun vm₁ _ i hi => by
      have e : (vp_cell (G.2.2.1 14) (gL S a0, .inl (gI S a0))).slots.getD (sp.toNatClampNeg + i) .null = .int (gI S a0 (sp.toNatClampNeg + i)) := by
        show (arrV _ (gL S a0) (fun j => .int (gI S a0 j))).slots.getD _ _ = _
        rw [Array.getD_eq_getD_getElem?, arrV_read _ _ (by omega)]
        rfl
      refine ⟨?_, ?_⟩
      · rw [e]
        rfl
      · rw [e]
        exact trivial)
    (g := F0 m pc ls (.int n :: .int dp :: .ref (G.1 + a) :: .int sp :: .ref (G.1 + a0) :: st.map (cv G))) rfl (by rw [hC.2.2.1]; exact hl.1) (rest := st.map (cv G)) rfl (by rw [hC.2.1]; exact hd) hframes (by rw [cats]; show 2 * 0 + _ + _ ≤ _; omega)
  have e1 : copied (vp_cell (G.2.2.1 14) (gL S a0, .inl (gI S a0))) (vp_cell (G.2.2.1 14) (gL S a, .inl (gI S a))) sp dp n = vp_cell (G.2.2.1 14) (gL S a, .inl (va_cpy (gI S a0) (gI S a) sp.toNatClampNeg dp.toNatClampNeg n.toNatClampNeg)) := va_copied (fun z => .int z) _ _ (gI S a0) (gI S a) h4
  rw [e1] at X' step
  have hlt : G.1 + a < H.size := (Array.getElem?_eq_some_iff.mp hc1).1
  have hheap : ((T.setVm vm').setCell (G.1 + a) (vp_cell (G.2.2.1 14) (gL S a, .inl (va_cpy (gI S a0) (gI S a) sp.toNatClampNeg dp.toNatClampNeg n.toNatClampNeg)))).heap = H.setIfInBounds (G.1 + a) (vp_cell (G.2.2.1 14) (gL S a, .inl (va_cpy (gI S a0) (gI S a) sp.toNatClampNeg dp.toNatClampNeg n.toNatClampNeg))) := by rw [← hT]; rfl
  have oq : ∀ q : Nat, q ≠ G.1 + a → (H.setIfInBounds (G.1 + a) (vp_cell (G.2.2.1 14) (gL S a, .inl (va_cpy (gI S a0) (gI S a) sp.toNatClampNeg dp.toNatClampNeg n.toNatClampNeg))))[q]? = H[q]? := fun q hq => by simp [Array.getElem?_setIfInBounds, Ne.symm hq]
  have hself : (H.setIfInBounds (G.1 + a) (vp_cell (G.2.2.1 14) (gL S a, .inl (va_cpy (gI S a0) (gI S a) sp.toNatClampNeg dp.toNatClampNeg n.toNatClampNeg))))[G.1 + a]? = some (vp_cell (G.2.2.1 14) (gL S a, .inl (va_cpy (gI S a0) (gI S a) sp.toNatClampNeg dp.toNatClampNeg n.toNatClampNeg))) := by simp [Array.getElem?_setIfInBounds, hlt]
  generalize hS' : rI S a (va_cpy (gI S a0) (gI S a) sp.toNatClampNeg dp.toNatClampNeg n.toNatClampNeg) = S' at kk
  have hrow : cellE G S' a = .inl (G.2.2.1 14, gL S a, .inl (va_cpy (gI S a0) (gI S a) sp.toNatClampNeg dp.toNatClampNeg n.toNatClampNeg)) := by
    subst hS'
    rw [cellE_row (S := rI S a _) (k := 14) hK (by decide), rowE_i (S := rI S a _) (k := 14) hK (by decide) (by decide), gI_rI, if_pos rfl]
    rfl
  have hRp : Rp G S' (H.setIfInBounds (G.1 + a) (vp_cell (G.2.2.1 14) (gL S a, .inl (va_cpy (gI S a0) (gI S a) sp.toNatClampNeg dp.toNatClampNeg n.toNatClampNeg)))) := by
    refine rp_row hR ga (by subst hS'; rfl) ?_ (fun b hb => by subst hS'; exact cellE_oI hb) (by simp) oq
    rw [hrow]
    exact hself
  obtain ⟨t, a1, b1⟩ := kk _ _ ls hRp ⟨by simp; exact hS.1, fun q g1 g2 => by
      rw [oq q (fun e => g2 (by rw [e]; exact (wl_D G S).2 a _ r1))]
      exact hS.2.1 q g1 g2, fun q hq => by
      rcases List.mem_append.mp hq with h | h
      · exact hS.2.2 q h
      · obtain ⟨z, -, hz⟩ := List.mem_map.mp h
        rw [← hz]
        exact (wl_D G S).2 a _ r1⟩ hl _ hheap X'
  exact ⟨t, step t a1, b1⟩
theorem aw_aret {rt : FieldType} (hC : ACx p s m args meth c cc own nL (some rt)) (hrt : (∃ n, rt = .object n) ∨ ∃ t, rt = .array t) {mc ms : Nat} {Post : Option Value → HSt → Prop} {v : Nat} (hd : decode cc pc = .ok (.areturn, 1)) (hc : cells ≤ mc) (hs : slots ≤ ms) (hp : Post (some (.ref v)) S) : AW p l e R s m args below meth c G nL (AQ G below args s mc ms Post) S cells slots pc lv [.ref v] := fun H locs ls hR hS hl => W.widen hc hs (W.aret (v := .ref (ro G v)) hC.1 hC.2.1 hC.2.2.2.2.2.1 hrt (Or.inr ⟨_, rfl⟩) (fun t ht hW => ⟨⟨some (.ref v), S, rfl, hp, by rw [ht]; exact hR⟩, hS.F ht⟩) hS.2.2 hd (hlocks := hC.2.2.2.2.2.2))
end AWP
