/-! ===== rows kept, brought back, copied ===== -/
theorem xl147 : xln (xrf 146 1) = 3235 := rfl
theorem xl148 : xln (xrf 146 2) = 3235 := rfl
theorem xl151 : xln (xrf 146 20) = 32350 := rfl
theorem x147 : xrf 146 1 = 147 := rfl
theorem x148 : xrf 146 2 = 148 := rfl
theorem x151 : xrf 146 20 = 151 := rfl
theorem xwQ_1 (M : xMem) (k : Nat) (f : Nat → Int64) : (xwQ M k f).1 = M.1 := rfl
theorem xwQ_at (M : xMem) (k : Nat) (f : Nat → Int64) : (xwQ M k f).2.1 k = f := by simp [xwQ, va_up]
theorem xwQ_ne {M : xMem} {k j : Nat} {f : Nat → Int64} (h : j ≠ k) : (xwQ M k f).2.1 j = M.2.1 j := by simp [xwQ, va_up, h]
theorem xwQ_xwQ (M : xMem) (k : Nat) (f g : Nat → Int64) : xwQ (xwQ M k f) k g = xwQ M k g := by simp only [xwQ, bx_uu]
theorem xwQ_of {M : xMem} {k : Nat} {f : Nat → Int64} (h : M.2.1 k = f) : M = xwQ M k f := by
  subst h
  simp only [xwQ]
  have : va_up M.2.1 k (M.2.1 k) = M.2.1 := by
    funext j
    unfold va_up
    by_cases h : j = k <;> simp [h]
  rw [this]
theorem xwL_Q {M : xMem} {k j v : Nat} {ρ : Nat → Nat} : xwL (xwQ M k (lf ρ)) k j (lN v) = xwQ M k (lf (va_up ρ j v)) := by
  unfold xwL
  rw [xwQ_at, lf_up, xwQ_xwQ]
theorem xwI_at (M : xMem) (k j : Nat) (v : Int32) : (xwI M k j v).1 k j = v := by simp [xwI, xwR, va_up, upd]
theorem xwI_ne {M : xMem} {k j k' j' : Nat} {v : Int32} (h : k' ≠ k ∨ j' ≠ j) : (xwI M k j v).1 k' j' = M.1 k' j' := by
  simp only [xwI, xwR, va_up, upd]
  by_cases e : k' = k
  · subst e
    rw [if_pos rfl]
    unfold upd
    exact if_neg (by omega)
  · rw [if_neg e]
/-- a write into a row -/
theorem sWq {β : Type} {M : xMem} {q : Nat} {ρ : Nat → Nat} {j : Nat} {v : Int64} {F : xMem → Option β} {z : Option β} (k w : Nat) (hj : j = k) (hv : v = lN w) (kk : F (xwQ M q (lf (va_up ρ k w))) = z) : xLt (xwL (xwQ M q (lf ρ)) q j v) F = z := by
  subst hj hv
  rw [eLt, xwL_Q]
  exact kk
def keepC (a : Nat) (ρ κ : Nat → Nat) : Nat → Nat := fun j => if 3235 * a ≤ j ∧ j < 3235 * a + 3235 then ρ (j - 3235 * a) else κ j
def shiftC (κ : Nat → Nat) : Nat → Nat := fun j => if j < 29115 then κ (j + 3235) else κ j
theorem e_keeps_l54 {M : xMem} {ρ κ : Nat → Nat} {a : Nat} (ha : a < 10) (h147 : M.2.1 147 = lf ρ) (h19 : M.1 146 19 = nI a) (K : Int32 → xMem → Option xMem) :
    fX11_keeps_l54 146 K xFU (nI 0) (xwQ M 151 (lf κ)) = K (nI 3235) (xwQ M 151 (lf (keepC a ρ κ))) := by
  have hL := loopU (fun n k => fX11_keeps_l54 146 K n (nI k) (xwQ M 151 (lf (fun j => if 3235 * a ≤ j ∧ j < 3235 * a + k then ρ (j - 3235 * a) else κ j)))) 3235 (K (nI 3235) (xwQ M 151 (lf (keepC a ρ κ)))) (by decide) (fun n k hk => ?_) (fun n => ?_)
  · have e : (fun j => if 3235 * a ≤ j ∧ j < 3235 * a + 0 then ρ (j - 3235 * a) else κ j) = κ := by
      funext j
      rw [if_neg (by omega)]
    rw [e] at hL
    exact hL
  · rw [fX11_keeps_l54.eq_2]
    refine sF (by rw [eLe (by decide) (by omega)]; omega) (sGb k rfl (by rw [xl147]; exact hk) (by rw [xl147]; decide) ?_)
    rw [xwQ_1, h19, pk_mul, nI_add]
    refine sGb (3235 * a + k) rfl (by rw [xl151]; omega) (by rw [xl151]; decide) ?_
    refine sWq (3235 * a + k) (ρ k) (eCl (by omega)) (by rw [x147, xwQ_ne (by decide), h147, eCl (by omega), lf_at]) ?_
    refine sLe (nI_1 k) ?_
    congr 2
    apply congrArg lf
    funext j
    by_cases h : j = 3235 * a + k
    · subst h
      rw [va_at_eq, if_pos (by omega)]
      congr 1
      omega
    · rw [va_at_ne h]
      by_cases h2 : 3235 * a ≤ j ∧ j < 3235 * a + k
      · rw [if_pos h2, if_pos (by omega)]
      · rw [if_neg h2, if_neg (by omega)]
  · rw [fX11_keeps_l54.eq_2]
    exact sT (by decide) rfl
theorem e_keeps_l13 {M : xMem} {κ : Nat → Nat} (K : Int32 → xMem → Option xMem) :
    fX11_keeps_l13 146 K xFU (nI 3235) (xwQ M 151 (lf κ)) = K (nI 32350) (xwQ M 151 (lf (shiftC κ))) := by
  have hL := loopI (fun n i => fX11_keeps_l13 146 K n (nI (3235 + i)) (xwQ M 151 (lf (fun j => if j < i then κ (j + 3235) else κ j)))) 29115 (K (nI 32350) (xwQ M 151 (lf (shiftC κ)))) (fun n i hi => ?_) (fun n => ?_) 29115 0 xFU (by decide) (by rw [xFU_eq]; decide)
  · have e : (fun j => if j < 0 then κ (j + 3235) else κ j) = κ := by
      funext j
      rw [if_neg (by omega)]
    rw [e] at hL
    exact hL
  · rw [fX11_keeps_l13.eq_2]
    refine sF (by rw [eLe (by decide) (by omega)]; omega) (sGb (3235 + i) rfl (by rw [xl151]; omega) (by rw [xl151]; decide) ?_)
    rw [eSub (by omega), show 3235 + i - 3235 = i by omega]
    refine sGb i rfl (by rw [xl151]; omega) (by rw [xl151]; decide) ?_
    refine sWq i (κ (i + 3235)) (eCl (by omega)) (by rw [x151, xwQ_at, eCl (by omega), lf_at, if_neg (by omega), Nat.add_comm]) ?_
    refine sLe (b := nI (3235 + (i + 1))) (nI_1 (3235 + i)) ?_
    congr 2
    apply congrArg lf
    funext j
    by_cases h : j = i
    · subst h
      rw [va_at_eq, if_pos (by omega)]
    · rw [va_at_ne h]
      by_cases h2 : j < i
      · rw [if_pos h2, if_pos (by omega)]
      · rw [if_neg h2, if_neg (by omega)]
  · rw [fX11_keeps_l13.eq_2]
    exact sT (by decide) rfl
def actsN (a : Nat) : Nat := if a = 10 then 10 else a + 1
def keepR (a : Nat) (ρ κ : Nat → Nat) : Nat → Nat := if a = 10 then keepC 9 ρ (shiftC κ) else keepC a ρ κ
theorem e_keeps {M : xMem} {ρ κ : Nat → Nat} {a : Nat} (ha : a ≤ 10) (h147 : M.2.1 147 = lf ρ) (h151 : M.2.1 151 = lf κ) (h19 : M.1 146 19 = nI a) :
    fX11_keeps 146 M = some (xwI (xwQ M 151 (lf (keepR a ρ κ))) 146 19 (nI (actsN a))) := by
  unfold fX11_keeps
  rw [xwQ_of h151]
  by_cases e : a = 10
  · refine sJx (xwI (xwQ M 151 (lf (shiftC κ))) 146 19 (nI 9)) (fun J => ?_) ?_
    · refine sT (by rw [xwQ_1, h19, e]) ?_
      rw [e_keeps_l13]
      show J _ = _
      rw [xwQ_1, h19, e]
      rfl
    · have e1 : xwI (xwQ M 151 (lf (shiftC κ))) 146 19 (nI 9) = xwQ (xwI M 146 19 (nI 9)) 151 (lf (shiftC κ)) := rfl
      rw [e1, e_keeps_l54 (M := xwI M 146 19 (nI 9)) (ρ := ρ) (a := 9) (by decide) h147 (xwI_at _ _ _ _)]
      unfold keepR actsN
      rw [if_pos e, if_pos e, xwQ_xwQ]
      show some (xwI _ _ _ _) = _
      have e2 : (xwQ (xwI M 146 19 (nI 9)) 151 (lf (keepC 9 ρ (shiftC κ)))).1 146 19 + nI 1 = nI 10 := by
        show (xwI M 146 19 (nI 9)).1 146 19 + nI 1 = nI 10
        simp only [xwI, xwR, va_up, upd, if_true]
        decide
      rw [e2]
      congr 1
      show xwI (xwI (xwQ M 151 (lf (keepC 9 ρ (shiftC κ)))) 146 19 (nI 9)) 146 19 (nI 10) = _
      simp only [xwI, xwR, bx_uu, va_at_eq]
      congr 2
      funext j
      simp only [upd]
      by_cases h : j = 19 <;> simp [h]
  · refine sJx (xwQ M 151 (lf κ)) (fun J => ?_) ?_
    · exact sF (by rw [xwQ_1, h19, eEq (by omega) (by decide)]; exact e) rfl
    · rw [e_keeps_l54 (ρ := ρ) (a := a) (by omega) h147 h19]
      unfold keepR actsN
      rw [if_neg e, if_neg e, xwQ_xwQ]
      show some (xwI _ _ _ _) = _
      rw [xwQ_1, h19, nI_add]
theorem e_undo_l21 {M : xMem} {ρ κ : Nat → Nat} {a : Nat} (ha : a < 10) (h151 : M.2.1 151 = lf κ) (h19 : M.1 146 19 = nI a) (K : Int32 → xMem → Option (Int32 × xMem)) :
    fX11_undo_l21 146 K xFU (nI 0) (xwQ M 147 (lf ρ)) = K (nI 3235) (xwQ M 147 (lf (fun j => if j < 3235 then κ (3235 * a + j) else ρ j))) := by
  have hL := loopU (fun n k => fX11_undo_l21 146 K n (nI k) (xwQ M 147 (lf (fun j => if j < k then κ (3235 * a + j) else ρ j)))) 3235 (K (nI 3235) (xwQ M 147 (lf (fun j => if j < 3235 then κ (3235 * a + j) else ρ j)))) (by decide) (fun n k hk => ?_) (fun n => ?_)
  · have e : (fun j => if j < 0 then κ (3235 * a + j) else ρ j) = ρ := by
      funext j
      rw [if_neg (by omega)]
    rw [e] at hL
    exact hL
  · rw [fX11_undo_l21.eq_2]
    refine sF (by rw [eLe (by decide) (by omega)]; omega) ?_
    rw [xwQ_1, h19, pk_mul, nI_add]
    refine sGb (3235 * a + k) rfl (by rw [xl151]; omega) (by rw [xl151]; decide) (sGb k rfl (by rw [xl147]; exact hk) (by rw [xl147]; decide) ?_)
    refine sWq k (κ (3235 * a + k)) (eCl (by omega)) (by rw [x151, xwQ_ne (by decide), h151, eCl (by omega), lf_at]) ?_
    refine sLe (nI_1 k) ?_
    congr 2
    apply congrArg lf
    funext j
    by_cases h : j = k
    · subst h
      rw [va_at_eq, if_pos (by omega)]
    · rw [va_at_ne h]
      by_cases h2 : j < k
      · rw [if_pos h2, if_pos (by omega)]
      · rw [if_neg h2, if_neg (by omega)]
  · rw [fX11_undo_l21.eq_2]
    exact sT (by decide) rfl
theorem e_copies_l2 {M : xMem} {ρ α : Nat → Nat} (h147 : M.2.1 147 = lf ρ) (K : Int32 → xMem → Option xMem) :
    fX11_copies_l2 146 K xFU (nI 0) (xwQ M 148 (lf α)) = K (nI 3235) (xwQ M 148 (lf (fun j => if j < 3235 then ρ j else α j))) := by
  have hL := loopU (fun n k => fX11_copies_l2 146 K n (nI k) (xwQ M 148 (lf (fun j => if j < k then ρ j else α j)))) 3235 (K (nI 3235) (xwQ M 148 (lf (fun j => if j < 3235 then ρ j else α j)))) (by decide) (fun n k hk => ?_) (fun n => ?_)
  · have e : (fun j => if j < 0 then ρ j else α j) = α := by
      funext j
      rw [if_neg (by omega)]
    rw [e] at hL
    exact hL
  · rw [fX11_copies_l2.eq_2]
    refine sF (by rw [eLe (by decide) (by omega)]; omega) (sGb k rfl (by rw [xl147]; exact hk) (by rw [xl147]; decide) (sGb k rfl (by rw [xl148]; exact hk) (by rw [xl148]; decide) ?_))
    refine sWq k (ρ k) (eCl (by omega)) (by rw [x147, xwQ_ne (by decide), h147, eCl (by omega), lf_at]) ?_
    refine sLe (nI_1 k) ?_
    congr 2
    apply congrArg lf
    funext j
    by_cases h : j = k
    · subst h
      rw [va_at_eq, if_pos (by omega)]
    · rw [va_at_ne h]
      by_cases h2 : j < k
      · rw [if_pos h2, if_pos (by omega)]
      · rw [if_neg h2, if_neg (by omega)]
  · rw [fX11_copies_l2.eq_2]
    exact sT (by decide) rfl
