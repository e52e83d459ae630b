-- needs: 22.c
theorem gI_ite {c : Prop} [Decidable c] (A B : HSt) (a j : Nat) : gI (if c then A else B) a j = if c then gI A a j else gI B a j := by
  by_cases h : c
  · rw [if_pos h, if_pos h]
  · rw [if_neg h, if_neg h]
theorem needOf_s (S : HSt) {sc o : Nat} (h : ¬ sc = o) (j : Nat) (v x : Int32) : f_X7_needOf (sI S o j v) sc x = f_X7_needOf S sc x := by
  unfold f_X7_needOf F_X7_needOf
  simp only [gI_sI, if_neg h]
  rfl
theorem room_s (S : HSt) {sc o : Nat} (h : ¬ sc = o) (j : Nat) (v : Int32) : f_X7_room (sI S o j v) sc = f_X7_room S sc := by
  unfold f_X7_room F_X7_room
  simp only [gI_sI, if_neg h]
  rfl
theorem limit_s (S : HSt) {sc o : Nat} (h : ¬ sc = o) (j : Nat) (v : Int32) : f_X7_limit (sI S o j v) sc = f_X7_limit S sc := by
  unfold f_X7_limit F_X7_limit
  simp only [gI_sI, if_neg h]
  rfl
/-! a tick, as a function of numbers -/
def tnd (sp up ti : Int32) : Int32 := (if (if (0 : Int32) < ((sp + up) - (2 : Int32)) then ((sp + up) - (2 : Int32)) else (0 : Int32)) < (if (1 : Int32) < ((15 : Int32) - (ti / (64 : Int32))) then ((15 : Int32) - (ti / (64 : Int32))) else (1 : Int32)) then (if (0 : Int32) < ((sp + up) - (2 : Int32)) then ((sp + up) - (2 : Int32)) else (0 : Int32)) else (if (1 : Int32) < ((15 : Int32) - (ti / (64 : Int32))) then ((15 : Int32) - (ti / (64 : Int32))) else (1 : Int32)))
def lck (nd st sp : Int32) : Int32 := nd + (if st = 0 then (0 : Int32) else 2) - sp
def szc (size lk st lt sp room : Int32) : Int32 := if 0 < lk then (if (0 : Int32) < size - (if st = 0 then (5 : Int32) else 3) * lk then size - (if st = 0 then (5 : Int32) else 3) * lk else 0) else (if size + lt * sp / (8 : Int32) < room then size + lt * sp / (8 : Int32) else room)
def knc (tw lim : Int32) : Int32 := if (if 0 ≤ tw then tw else 0 - tw) ≤ lim then (0 : Int32) else 1
def whc (kn sz lk room : Int32) : Int32 := if kn = 0 then (if sz = 0 then (3 : Int32) else if lk ≤ 0 then (if sz = room then (1 : Int32) else 0) else 2) else 4
theorem turned_eq (S : HSt) (sp up ti : Int32) : f_X1_turned S sp up ti = tnd sp up ti := rfl
theorem reason_v (S : HSt) (o : Nat) (a b : Int32) : f_X1_reason S o a b = if gI S o 6 = 0 then (if gI S o 0 = 0 then (3 : Int32) else if a = 0 then (if b = 0 then (0 : Int32) else 1) else 2) else 4 := by
  show (F_X1_reason S o a b).1 = _
  unfold F_X1_reason
  by_cases h1 : gI S o 6 = 0
  · rw [if_pos h1, if_pos h1]
    by_cases h2 : gI S o 0 = 0
    · rw [if_pos h2, if_pos h2]; rfl
    · rw [if_neg h2, if_neg h2]
      by_cases h3 : a = 0
      · rw [if_pos h3, if_pos h3]; rfl
      · rw [if_neg h3, if_neg h3]; rfl
  · rw [if_neg h1, if_neg h1]; rfl
theorem i01 (c : Prop) [Decidable c] : ((if c then (0 : Int32) else 1) = 0) = c := by
  by_cases h : c <;> simp [h]
theorem i10 (c : Prop) [Decidable c] : ((if c then (1 : Int32) else 0) = 0) = ¬ c := by
  by_cases h : c <;> simp [h]
theorem limit_i {c : Prop} [Decidable c] (A B : HSt) (sc : Nat) : f_X7_limit (if c then A else B) sc = if c then f_X7_limit A sc else f_X7_limit B sc := by
  by_cases h : c
  · rw [if_pos h, if_pos h]
  · rw [if_neg h, if_neg h]
theorem room_i {c : Prop} [Decidable c] (A B : HSt) (sc : Nat) : f_X7_room (if c then A else B) sc = if c then f_X7_room A sc else f_X7_room B sc := by
  by_cases h : c
  · rw [if_pos h, if_pos h]
  · rw [if_neg h, if_neg h]
theorem adv_1 {S : HSt} {o sc : Nat} (h : ¬ sc = o) (st up lt tn : Int32) : gI (f_X1_advance S o sc st up lt tn) o 1 = tnd (gI S o 1) up (gI S o 3) := by
  unfold f_X1_advance
  simp only [bd_def, gI_sI, gI_ite, needOf_s _ h, room_s _ h, limit_s _ h, limit_i, room_i, if_true, if_false, reduceIte, Nat.reduceEqDiff, turned_eq, ite_self]
theorem adv_0 {S : HSt} {o sc : Nat} (h : ¬ sc = o) (st up lt tn : Int32) : gI (f_X1_advance S o sc st up lt tn) o 0 = szc (gI S o 0) (lck (f_X7_needOf S sc (gI S o 0)) st (tnd (gI S o 1) up (gI S o 3))) st lt (tnd (gI S o 1) up (gI S o 3)) (f_X7_room S sc) := by
  unfold f_X1_advance
  unfold szc lck
  simp only [bd_def, gI_sI, gI_ite, needOf_s _ h, room_s _ h, limit_s _ h, limit_i, room_i, if_true, if_false, reduceIte, Nat.reduceEqDiff, turned_eq, ite_self]
theorem adv_2 {S : HSt} {o sc : Nat} (h : ¬ sc = o) (st up lt tn : Int32) : gI (f_X1_advance S o sc st up lt tn) o 2 = gI S o 2 + (if st = 0 then tnd (gI S o 1) up (gI S o 3) - tn else (tnd (gI S o 1) up (gI S o 3) - tn) / 2) := by
  unfold f_X1_advance
  simp only [bd_def, gI_sI, gI_ite, needOf_s _ h, room_s _ h, limit_s _ h, limit_i, room_i, if_true, if_false, reduceIte, Nat.reduceEqDiff, turned_eq, ite_self]
theorem adv_3 {S : HSt} {o sc : Nat} (h : ¬ sc = o) (st up lt tn : Int32) : gI (f_X1_advance S o sc st up lt tn) o 3 = gI S o 3 + tnd (gI S o 1) up (gI S o 3) := by
  unfold f_X1_advance
  simp only [bd_def, gI_sI, gI_ite, needOf_s _ h, room_s _ h, limit_s _ h, limit_i, room_i, if_true, if_false, reduceIte, Nat.reduceEqDiff, turned_eq, ite_self]
theorem adv_4 {S : HSt} {o sc : Nat} (h : ¬ sc = o) (st up lt tn : Int32) : gI (f_X1_advance S o sc st up lt tn) o 4 = gI S o 4 + 1 := by
  unfold f_X1_advance
  simp only [bd_def, gI_sI, gI_ite, needOf_s _ h, room_s _ h, limit_s _ h, limit_i, room_i, if_true, if_false, reduceIte, Nat.reduceEqDiff, turned_eq, ite_self]
theorem adv_6 {S : HSt} {o sc : Nat} (h : ¬ sc = o) (st up lt tn : Int32) : gI (f_X1_advance S o sc st up lt tn) o 6 = knc (gI S o 2 + (if st = 0 then tnd (gI S o 1) up (gI S o 3) - tn else (tnd (gI S o 1) up (gI S o 3) - tn) / 2)) (f_X7_limit S sc) := by
  unfold f_X1_advance
  unfold knc
  simp only [bd_def, gI_sI, gI_ite, needOf_s _ h, room_s _ h, limit_s _ h, limit_i, room_i, if_true, if_false, reduceIte, Nat.reduceEqDiff, turned_eq, ite_self]
theorem adv_5 {S : HSt} {o sc : Nat} (h : ¬ sc = o) (st up lt tn : Int32) : gI (f_X1_advance S o sc st up lt tn) o 5 = whc (gI (f_X1_advance S o sc st up lt tn) o 6) (gI (f_X1_advance S o sc st up lt tn) o 0) (lck (f_X7_needOf S sc (gI S o 0)) st (tnd (gI S o 1) up (gI S o 3))) (f_X7_room S sc) := by
  rw [adv_6 h, adv_0 h]
  unfold f_X1_advance whc szc knc lck
  simp only [bd_def, gI_sI, gI_ite, needOf_s _ h, room_s _ h, limit_s _ h, limit_i, room_i, if_true, if_false, reduceIte, Nat.reduceEqDiff, turned_eq, ite_self, reason_v, i01, i10, ite_not]
/-! the model's tick -/
theorem ropeOf_s (T : HSt) {j : Nat} (h : ¬ j = 18) (v k : Int32) : f_X12_ropeOf (sI T 64 j v) 64 k = f_X12_ropeOf T 64 k := by
  show gI (sI T 64 j v) 68 (((6 : Int32) + (3 : Int32) * gI (sI T 64 j v) 64 18) + k).toNatClampNeg = gI T 68 (((6 : Int32) + (3 : Int32) * gI T 64 18) + k).toNatClampNeg
  have e : gI (sI T 64 j v) 64 18 = gI T 64 18 := by rw [gI_sI, if_pos rfl, if_neg (fun q => h q.symm)]
  rw [e, gI_sI, if_neg (by decide)]
theorem ropeOf_i {c : Prop} [Decidable c] (A B : HSt) (k : Int32) : f_X12_ropeOf (if c then A else B) 64 k = if c then f_X12_ropeOf A 64 k else f_X12_ropeOf B 64 k := by
  by_cases h : c
  · rw [if_pos h, if_pos h]
  · rw [if_neg h, if_neg h]
def ndm (w s x : Int32) : Int32 := if (1 : Int32) ≤ ((((4 : Int32) + (x / (20 : Int32))) + (if w = 1 then (2 : Int32) else 0)) - (s / (4 : Int32))) then ((((4 : Int32) + (x / (20 : Int32))) + (if w = 1 then (2 : Int32) else 0)) - (s / (4 : Int32))) else 1
theorem needOf_v (T : HSt) (x : Int32) : f_X12_needOf T 64 x = ndm (f_X12_ropeOf T 64 2) (f_X12_ropeOf T 64 1) x := rfl
theorem limit_v (T : HSt) : f_X12_limit T 64 = (24 : Int32) + (4 : Int32) * f_X12_ropeOf T 64 1 := rfl
def tnm (sp up ti : Int32) : Int32 := if 0 ≤ (sp + up - 2) then (if (sp + up - 2) ≤ (if (1 : Int32) ≤ (15 : Int32) - ti / 64 then (15 : Int32) - ti / 64 else 1) then (sp + up - 2) else (if (1 : Int32) ≤ (15 : Int32) - ti / 64 then (15 : Int32) - ti / 64 else 1)) else 0
theorem spinBy_v (T : HSt) (up : Int32) : f_X12_spinBy T 64 up = tnm (gI T 64 21) up (gI T 64 23) := rfl
def szm (size nd st lt sp room : Int32) : Int32 := if (if sp < nd + (if st = 0 then (0 : Int32) else 2) then (0 : Int32) else 1) = 0 then (if 0 ≤ size - (if st = 0 then (5 : Int32) else 3) * (nd + (if st = 0 then (0 : Int32) else 2) - sp) then size - (if st = 0 then (5 : Int32) else 3) * (nd + (if st = 0 then (0 : Int32) else 2) - sp) else 0) else (if size + lt * sp / 8 ≤ room then size + lt * sp / 8 else room)
def twm (tw st sp tn : Int32) : Int32 := tw + (if st = 0 then (if tn = -1000000 then (0 : Int32) else sp - tn) else (if tn = -1000000 then (0 : Int32) else sp - tn) / 2)
def knm (tw lim : Int32) : Int32 := if lim < tw then (1 : Int32) else if -lim ≤ tw then 0 else 1
theorem tck_21 (T : HSt) (st up lt tn : Int32) : gI (f_X12_doTick T 64 st up lt tn) 64 21 = tnm (gI T 64 21) up (gI T 64 23) := by
  unfold f_X12_doTick 
  simp only [bd_def, gI_sI, gI_ite, needOf_v, limit_v, spinBy_v, ropeOf_s _ (show ¬ 20 = 18 by decide), ropeOf_s _ (show ¬ 21 = 18 by decide), ropeOf_s _ (show ¬ 22 = 18 by decide), ropeOf_s _ (show ¬ 23 = 18 by decide), ropeOf_s _ (show ¬ 24 = 18 by decide), ropeOf_s _ (show ¬ 25 = 18 by decide), ropeOf_i, if_true, if_false, reduceIte, Nat.reduceEqDiff, ite_self]
theorem tck_20 (T : HSt) (st up lt tn : Int32) : gI (f_X12_doTick T 64 st up lt tn) 64 20 = szm (gI T 64 20) (ndm (f_X12_ropeOf T 64 2) (f_X12_ropeOf T 64 1) (gI T 64 20)) st lt (tnm (gI T 64 21) up (gI T 64 23)) (f_X12_ropeOf T 64 0 / 2) := by
  unfold f_X12_doTick szm
  simp only [bd_def, gI_sI, gI_ite, needOf_v, limit_v, spinBy_v, ropeOf_s _ (show ¬ 20 = 18 by decide), ropeOf_s _ (show ¬ 21 = 18 by decide), ropeOf_s _ (show ¬ 22 = 18 by decide), ropeOf_s _ (show ¬ 23 = 18 by decide), ropeOf_s _ (show ¬ 24 = 18 by decide), ropeOf_s _ (show ¬ 25 = 18 by decide), ropeOf_i, if_true, if_false, reduceIte, Nat.reduceEqDiff, ite_self]
theorem tck_22 (T : HSt) (st up lt tn : Int32) : gI (f_X12_doTick T 64 st up lt tn) 64 22 = twm (gI T 64 22) st (tnm (gI T 64 21) up (gI T 64 23)) tn := by
  unfold f_X12_doTick twm
  simp only [bd_def, gI_sI, gI_ite, needOf_v, limit_v, spinBy_v, ropeOf_s _ (show ¬ 20 = 18 by decide), ropeOf_s _ (show ¬ 21 = 18 by decide), ropeOf_s _ (show ¬ 22 = 18 by decide), ropeOf_s _ (show ¬ 23 = 18 by decide), ropeOf_s _ (show ¬ 24 = 18 by decide), ropeOf_s _ (show ¬ 25 = 18 by decide), ropeOf_i, if_true, if_false, reduceIte, Nat.reduceEqDiff, ite_self]
theorem tck_23 (T : HSt) (st up lt tn : Int32) : gI (f_X12_doTick T 64 st up lt tn) 64 23 = gI T 64 23 + tnm (gI T 64 21) up (gI T 64 23) := by
  unfold f_X12_doTick 
  simp only [bd_def, gI_sI, gI_ite, needOf_v, limit_v, spinBy_v, ropeOf_s _ (show ¬ 20 = 18 by decide), ropeOf_s _ (show ¬ 21 = 18 by decide), ropeOf_s _ (show ¬ 22 = 18 by decide), ropeOf_s _ (show ¬ 23 = 18 by decide), ropeOf_s _ (show ¬ 24 = 18 by decide), ropeOf_s _ (show ¬ 25 = 18 by decide), ropeOf_i, if_true, if_false, reduceIte, Nat.reduceEqDiff, ite_self]
theorem tck_24 (T : HSt) (st up lt tn : Int32) : gI (f_X12_doTick T 64 st up lt tn) 64 24 = gI T 64 24 + 1 := by
  unfold f_X12_doTick 
  simp only [bd_def, gI_sI, gI_ite, needOf_v, limit_v, spinBy_v, ropeOf_s _ (show ¬ 20 = 18 by decide), ropeOf_s _ (show ¬ 21 = 18 by decide), ropeOf_s _ (show ¬ 22 = 18 by decide), ropeOf_s _ (show ¬ 23 = 18 by decide), ropeOf_s _ (show ¬ 24 = 18 by decide), ropeOf_s _ (show ¬ 25 = 18 by decide), ropeOf_i, if_true, if_false, reduceIte, Nat.reduceEqDiff, ite_self]
theorem tck_25 (T : HSt) (st up lt tn : Int32) : gI (f_X12_doTick T 64 st up lt tn) 64 25 = knm (twm (gI T 64 22) st (tnm (gI T 64 21) up (gI T 64 23)) tn) (24 + 4 * f_X12_ropeOf T 64 1) := by
  unfold f_X12_doTick knm twm
  simp only [bd_def, gI_sI, gI_ite, needOf_v, limit_v, spinBy_v, ropeOf_s _ (show ¬ 20 = 18 by decide), ropeOf_s _ (show ¬ 21 = 18 by decide), ropeOf_s _ (show ¬ 22 = 18 by decide), ropeOf_s _ (show ¬ 23 = 18 by decide), ropeOf_s _ (show ¬ 24 = 18 by decide), ropeOf_s _ (show ¬ 25 = 18 by decide), ropeOf_i, if_true, if_false, reduceIte, Nat.reduceEqDiff, ite_self]
theorem tck_26 (T : HSt) (st up lt tn : Int32) : gI (f_X12_doTick T 64 st up lt tn) 64 26 = (if gI (f_X12_doTick T 64 st up lt tn) 64 25 = 0 then (if gI (f_X12_doTick T 64 st up lt tn) 64 20 = 0 then (3 : Int32) else if (tnm (gI T 64 21) up (gI T 64 23)) < ndm (f_X12_ropeOf T 64 2) (f_X12_ropeOf T 64 1) (gI T 64 20) + (if st = 0 then (0 : Int32) else 2) then 2 else if gI (f_X12_doTick T 64 st up lt tn) 64 20 = f_X12_ropeOf T 64 0 / 2 then (1 : Int32) else 0) else 4) := by
  rw [tck_25, tck_20]
  unfold f_X12_doTick szm twm knm
  simp only [bd_def, gI_sI, gI_ite, needOf_v, limit_v, spinBy_v, ropeOf_s _ (show ¬ 20 = 18 by decide), ropeOf_s _ (show ¬ 21 = 18 by decide), ropeOf_s _ (show ¬ 22 = 18 by decide), ropeOf_s _ (show ¬ 23 = 18 by decide), ropeOf_s _ (show ¬ 24 = 18 by decide), ropeOf_s _ (show ¬ 25 = 18 by decide), ropeOf_i, if_true, if_false, reduceIte, Nat.reduceEqDiff, ite_self, i01]
