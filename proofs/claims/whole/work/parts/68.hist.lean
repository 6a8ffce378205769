/-! what a raid adds to the tallies and the parts -/
def inN (tm r s st nt pb wo sp t i w : Nat) : Nat :=
  if w = 0 then (if tm = t ∧ r = i then 1 else 0)
  else if w = 1 then (if tm = t ∧ r = i then pb else 0)
  else if w = 2 then (if tm = t ∧ r = i then nt else 0)
  else if w = 3 then (if 1 - tm = t ∧ s = 3 ∧ st = i then 1 else 0)
  else if w = 4 then (if 1 - tm = t ∧ s = 3 ∧ st = i then 1 + sp else 0)
  else if w = 5 then (if tm = t ∧ r = i then wo else 0) + (if 1 - tm = t ∧ s = 1 then st / 2 ^ i % 2 else 0)
  else (if tm = t ∧ r = i ∧ s = 0 then 1 else 0)
def ptN (tm s nt pb wo sp ao t w : Nat) : Nat :=
  if w = 0 then (if tm = t then nt else 0)
  else if w = 1 then (if tm = t then pb - nt else 0)
  else if w = 2 then (if 1 - tm = t ∧ s = 3 then 1 else 0)
  else if w = 3 then (if 1 - tm = t ∧ s = 3 then sp else 0)
  else if w = 4 then 2 * (ao / 2 ^ (1 - t) % 2)
  else (if 1 - tm = t ∧ s ≠ 3 then wo else 0)
theorem nI01 : nI 1 = 1 := by decide
theorem i_mul0 (a : Int32) : a * nI 0 = 0 := by rw [nI00]; exact Int32.mul_zero
theorem i_mul1 (a : Int32) : a * nI 1 = a := by rw [nI01]; exact Int32.mul_one a
theorem i_ifm (c : Prop) [Decidable c] (sg : Int32) (n : Nat) : (if c then sg * nI n else 0) = sg * nI (if c then n else 0) := by
  split
  · rfl
  · rw [i_mul0]
theorem i_ifm' (c : Prop) [Decidable c] (sg : Int32) : (if c then sg else 0) = sg * nI (if c then 1 else 0) := by
  split
  · rw [i_mul1]
  · rw [i_mul0]
theorem sum_tlL {sg : Int32} {o st t i w : Nat} (hi : i < 10) (hw : w < 8) : ∀ n, n ≤ 10 → sumAt (taA t i w) (tlL sg o st n) = if o = t ∧ w = 5 ∧ i < n then sg * nI (st / 2 ^ i % 2) else 0
  | 0, _ => by rw [if_neg (by omega)]; rfl
  | n + 1, hn => by
    show sumAt _ (tlL sg o st n ++ [(taA o n 5, sg * nI (st / 2 ^ n % 2))]) = _
    rw [sumAt_app, sum_tlL hi hw n (by omega)]
    show _ + ((if taA o n 5 = taA t i w then sg * nI (st / 2 ^ n % 2) else 0) + 0) = _
    rw [Int32.add_zero]
    by_cases c : o = t ∧ w = 5 ∧ i < n
    · rw [if_pos c, if_pos (c := o = t ∧ w = 5 ∧ i < n + 1) (by omega), if_neg (by rw [taA_eq (by omega) hi (by decide) hw]; omega), Int32.add_zero]
    · rw [if_neg c, Int32.zero_add]
      by_cases c2 : o = t ∧ w = 5 ∧ i = n
      · obtain ⟨c3, c4, c5⟩ := c2
        subst c5
        rw [if_pos (by rw [taA_eq hi hi (by decide) hw]; omega), if_pos (by omega)]
      · rw [if_neg (by rw [taA_eq (by omega) hi (by decide) hw]; omega), if_neg (by omega)]
theorem sum_bkT {sg : Int32} {tm r s st nt pb wo sp t i w : Nat} (ht : t < 2) (htm : tm < 2) (hr : r < 10) (hi : i < 10) (hw : w < 7) (hst : s = 3 → st < 10) : sumAt (taA t i w) (bkT sg tm r s st nt pb wo sp) = sg * nI (inN tm r s st nt pb wo sp t i w) := by
  unfold bkT
  rw [sumAt_app, sumAt_app]
  have e1 : sumAt (taA t i w) (if s = 1 then tlL sg (1 - tm) st 10 else []) = sg * nI (if w = 5 ∧ 1 - tm = t ∧ s = 1 then st / 2 ^ i % 2 else 0) := by
    by_cases e : s = 1
    · rw [if_pos e, sum_tlL hi (by omega) 10 (by decide), i_ifm]
      congr 2
      by_cases c : w = 5 ∧ 1 - tm = t
      · rw [if_pos (by omega), if_pos (by omega)]
      · rw [if_neg (by omega), if_neg (by omega)]
    · rw [if_neg e, if_neg (by omega), i_mul0]; rfl
  have e3 : sumAt (taA t i w) (if s = 3 then [(taA (1 - tm) st 3, sg), (taA (1 - tm) st 4, sg * (nI 1 + nI sp))] else []) = sg * nI (if 1 - tm = t ∧ s = 3 ∧ st = i then (if w = 3 then 1 else if w = 4 then 1 + sp else 0) else 0) := by
    by_cases e : s = 3
    · rw [if_pos e]
      have hs := hst e
      show (if taA (1 - tm) st 3 = taA t i w then sg else 0) + ((if taA (1 - tm) st 4 = taA t i w then sg * (nI 1 + nI sp) else 0) + 0) = _
      rw [Int32.add_zero, nI_add]
      simp only [taA_eq hs hi (by decide : 3 < 8) (by omega : w < 8), taA_eq hs hi (by decide : 4 < 8) (by omega : w < 8)]
      by_cases c : 1 - tm = t ∧ st = i
      · rw [if_pos (c := 1 - tm = t ∧ s = 3 ∧ st = i) ⟨c.1, e, c.2⟩]
        by_cases w3 : w = 3
        · rw [if_pos ⟨c.1, c.2, w3.symm⟩, if_neg (by omega), if_pos w3, Int32.add_zero, i_mul1]
        · rw [if_neg (by omega), if_neg w3, Int32.zero_add]
          by_cases w4 : w = 4
          · rw [if_pos ⟨c.1, c.2, w4.symm⟩, if_pos w4]
          · rw [if_neg (by omega), if_neg w4, i_mul0]
      · rw [if_neg (by omega), if_neg (by omega), if_neg (by omega), i_mul0]; rfl
    · rw [if_neg e, if_neg (by omega), i_mul0]; rfl
  rw [e1, e3]
  show ((if taA tm r 0 = taA t i w then sg else 0) + ((if taA tm r 1 = taA t i w then sg * nI pb else 0) + ((if taA tm r 2 = taA t i w then sg * nI nt else 0) + ((if taA tm r 5 = taA t i w then sg * nI wo else 0) + ((if taA tm r 6 = taA t i w then (if s = 0 then sg else nI 0) else 0) + 0))))) + _ = _
  simp only [taA_eq hr hi (by decide : 0 < 8) (by omega : w < 8), taA_eq hr hi (by decide : 1 < 8) (by omega : w < 8), taA_eq hr hi (by decide : 2 < 8) (by omega : w < 8), taA_eq hr hi (by decide : 5 < 8) (by omega : w < 8), taA_eq hr hi (by decide : 6 < 8) (by omega : w < 8), Int32.add_zero]
  unfold inN
  rcases (show w = 0 ∨ w = 1 ∨ w = 2 ∨ w = 3 ∨ w = 4 ∨ w = 5 ∨ w = 6 by omega) with rfl | rfl | rfl | rfl | rfl | rfl | rfl
  · simp only [i_mul0, Int32.add_zero, and_true, and_false, if_false, if_true, false_and, Nat.reduceEqDiff, ite_self, i_ifm']
    try simp [i_mul0]
  · simp only [and_true, and_false, if_false, if_true, false_and, Nat.reduceEqDiff, ite_self, i_ifm]
    simp [i_mul0]
  · simp only [and_true, and_false, if_false, if_true, false_and, Nat.reduceEqDiff, ite_self, i_ifm]
    simp [i_mul0]
  · simp only [and_true, and_false, if_false, if_true, false_and, Nat.reduceEqDiff, ite_self]
    simp [i_mul0]
  · simp only [and_true, and_false, if_false, if_true, false_and, Nat.reduceEqDiff, ite_self]
    simp [i_mul0]
  · simp only [and_true, and_false, if_false, if_true, false_and, true_and, Nat.reduceEqDiff, ite_self, i_ifm]
    simp only [i_mul0, Int32.add_zero, Int32.zero_add, Nat.reduceEqDiff, if_false, if_true]
    rw [← nI_add, Int32.mul_add]
    try simp [i_mul0]
  · simp only [and_true, and_false, if_false, if_true, false_and, Nat.reduceEqDiff, ite_self]
    by_cases c : tm = t ∧ r = i
    · obtain ⟨c1, c2⟩ := c
      by_cases e : s = 0
      · simp [i_mul0, c1, c2, e, i_mul1]
      · simp [i_mul0, c1, c2, e, nI00]
    · rw [if_neg c, if_neg (fun q => c ⟨q.1, q.2.1⟩)]
      simp [i_mul0]
theorem ptA_eq {t w t' w' : Nat} (hw : w < 6) (hw' : w' < 6) : ptA t w = ptA t' w' ↔ t = t' ∧ w = w' := by
  unfold ptA; omega
theorem sum_bkP {sg : Int32} {tm s nt pb wo sp ao t w : Nat} (ht : t < 2) (htm : tm < 2) (hw : w < 6) (hnp : nt ≤ pb) : sumAt (ptA t w) (bkP sg tm s nt pb wo sp ao) = sg * nI (ptN tm s nt pb wo sp ao t w) := by
  unfold bkP
  rw [sumAt_app, sumAt_app]
  have e3 : sumAt (ptA t w) (if s = 3 then [(ptA (1 - tm) 2, sg), (ptA (1 - tm) 3, sg * nI sp)] else [(ptA (1 - tm) 5, sg * nI wo)]) = sg * nI (if 1 - tm = t then (if s = 3 then (if w = 2 then 1 else if w = 3 then sp else 0) else (if w = 5 then wo else 0)) else 0) := by
    by_cases e : s = 3
    · rw [if_pos e, if_pos e]
      show (if ptA (1 - tm) 2 = ptA t w then sg else 0) + ((if ptA (1 - tm) 3 = ptA t w then sg * nI sp else 0) + 0) = _
      rw [Int32.add_zero]
      simp only [ptA_eq (by decide : 2 < 6) hw, ptA_eq (by decide : 3 < 6) hw]
      by_cases c : 1 - tm = t
      · rw [if_pos (c := 1 - tm = t) c]
        by_cases w2 : w = 2
        · rw [if_pos ⟨c, w2.symm⟩, if_neg (by omega), if_pos w2, Int32.add_zero, i_mul1]
        · rw [if_neg (by omega), if_neg w2, Int32.zero_add]
          by_cases w3 : w = 3
          · rw [if_pos ⟨c, w3.symm⟩, if_pos w3]
          · rw [if_neg (by omega), if_neg w3, i_mul0]
      · rw [if_neg (by omega), if_neg (by omega), if_neg c, i_mul0]; rfl
    · rw [if_neg e, if_neg e]
      show (if ptA (1 - tm) 5 = ptA t w then sg * nI wo else 0) + 0 = _
      rw [Int32.add_zero]
      simp only [ptA_eq (by decide : 5 < 6) hw]
      by_cases c : 1 - tm = t ∧ w = 5
      · rw [if_pos ⟨c.1, c.2.symm⟩, if_pos c.1, if_pos c.2]
      · rw [if_neg (by omega)]
        by_cases c1 : 1 - tm = t
        · rw [if_pos c1, if_neg (by omega), i_mul0]
        · rw [if_neg c1, i_mul0]
  rw [e3]
  show ((if ptA tm 0 = ptA t w then sg * nI nt else 0) + ((if ptA tm 1 = ptA t w then sg * (nI pb - nI nt) else 0) + 0)) + (_ + ((if ptA 1 4 = ptA t w then sg * nI 2 * nI (ao / 2 ^ 0 % 2) else 0) + ((if ptA 0 4 = ptA t w then sg * nI 2 * nI (ao / 2 ^ 1 % 2) else 0) + 0))) = _
  simp only [ptA_eq (by decide : 0 < 6) hw, ptA_eq (by decide : 1 < 6) hw, ptA_eq (by decide : 4 < 6) hw, Int32.add_zero, eSub hnp, Int32.mul_assoc, pk_mul]
  unfold ptN
  rcases (show w = 0 ∨ w = 1 ∨ w = 2 ∨ w = 3 ∨ w = 4 ∨ w = 5 by omega) with rfl | rfl | rfl | rfl | rfl | rfl
  · simp only [and_true, and_false, if_false, if_true, false_and, Nat.reduceEqDiff, ite_self, i_ifm]
    simp [i_mul0]
  · simp only [and_true, and_false, if_false, if_true, false_and, Nat.reduceEqDiff, ite_self, i_ifm]
    simp [i_mul0]
  · simp only [and_true, and_false, if_false, if_true, false_and, Nat.reduceEqDiff, ite_self, i_ifm]
    simp only [i_mul0, Int32.add_zero, Int32.zero_add]
    congr 2
    by_cases c : 1 - tm = t <;> by_cases e : s = 3 <;> simp [c, e]
  · simp only [and_true, and_false, if_false, if_true, false_and, Nat.reduceEqDiff, ite_self, i_ifm]
    simp only [i_mul0, Int32.add_zero, Int32.zero_add]
    congr 2
    by_cases c : 1 - tm = t <;> by_cases e : s = 3 <;> simp [c, e]
  · simp only [and_true, and_false, if_false, if_true, false_and, Nat.reduceEqDiff, ite_self, i_ifm]
    rcases (show t = 0 ∨ t = 1 by omega) with rfl | rfl <;> simp [i_mul0]
  · simp only [and_true, and_false, if_false, if_true, false_and, Nat.reduceEqDiff, ite_self, i_ifm]
    simp only [i_mul0, Int32.add_zero, Int32.zero_add]
    congr 2
    by_cases c : 1 - tm = t <;> by_cases e : s = 3 <;> simp [c, e]
