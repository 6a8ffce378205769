/-! ===== leaving, coming back, all out, waiting ===== -/
def qL (ρ : Nat → Nat) (t : Nat) : List Nat := (List.range (ρ (108 + t))).map (fun j => ρ (110 + 10 * t + j))
def putQ (t : Nat) (l : List Nat) (ρ : Nat → Nat) : Nat → Nat := fun k => if 110 + 10 * t ≤ k ∧ k < 110 + 10 * t + l.length then l.getD (k - (110 + 10 * t)) 0 else ρ k
def leaveR (t i : Nat) (ρ : Nat → Nat) : Nat → Nat := va_up (putQ t ((qL ρ t).filter (· != i)) ρ) (108 + t) ((qL ρ t).filter (· != i)).length
theorem qL_len (ρ : Nat → Nat) (t : Nat) : (qL ρ t).length = ρ (108 + t) := by simp [qL]
theorem qL_at {ρ : Nat → Nat} {t j : Nat} (h : j < ρ (108 + t)) : (qL ρ t)[j]? = some (ρ (110 + 10 * t + j)) := by
  unfold qL
  rw [List.getElem?_map, List.getElem?_range h]
  rfl
theorem take_succ_filter {l : List Nat} {k x i : Nat} (h : l[k]? = some x) : (l.take (k + 1)).filter (· != i) = if x = i then (l.take k).filter (· != i) else (l.take k).filter (· != i) ++ [x] := by
  rw [List.take_add_one, h]
  simp only [Option.toList_some, List.filter_append]
  by_cases e : x = i
  · subst e; simp
  · simp [e]
theorem filter_take_le (l : List Nat) (k i : Nat) : ((l.take k).filter (· != i)).length ≤ k := Nat.le_trans (List.length_filter_le _ _) (by simp; omega)
theorem putQ_push {t : Nat} {l : List Nat} {ρ : Nat → Nat} {x : Nat} : va_up (putQ t l ρ) (110 + 10 * t + l.length) x = putQ t (l ++ [x]) ρ := by
  funext k
  unfold va_up putQ
  by_cases h : k = 110 + 10 * t + l.length
  · subst h
    simp
  · rw [if_neg h]
    by_cases h2 : 110 + 10 * t ≤ k ∧ k < 110 + 10 * t + l.length
    · rw [if_pos h2, if_pos (by simp; omega)]
      rw [List.getD_eq_getElem?_getD, List.getD_eq_getElem?_getD, List.getElem?_append_left (by omega)]
    · rw [if_neg h2, if_neg (by simp; omega)]
theorem putQ_ge {t : Nat} {l : List Nat} {ρ : Nat → Nat} {j : Nat} (h : l.length ≤ j) : putQ t l ρ (110 + 10 * t + j) = ρ (110 + 10 * t + j) := by
  unfold putQ
  rw [if_neg (by omega)]
theorem putQ_nil (t : Nat) (ρ : Nat → Nat) : putQ t [] ρ = ρ := by
  funext k
  unfold putQ
  rw [if_neg (by simp)]
theorem e_leavesOuts_l {M : xMem} {ρ : Nat → Nat} {t i : Nat} (ht : t < 2) (hi : i < 10) (ho : ρ (108 + t) ≤ 10) (hq : ∀ j, j < ρ (108 + t) → ρ (110 + 10 * t + j) < 10) (K : Int32 → Int32 → xMem → Option xMem) :
    fX11_leavesOuts_l15 146 (nI t) (nI i) (nI (ρ (108 + t))) K xFU (nI 0) (nI 0) (nwS M ρ) = K (nI ((qL ρ t).filter (· != i)).length) (nI (ρ (108 + t))) (nwS M (putQ t ((qL ρ t).filter (· != i)) ρ)) := by
  have h := loopU (fun n k => fX11_leavesOuts_l15 146 (nI t) (nI i) (nI (ρ (108 + t))) K n (nI (((qL ρ t).take k).filter (· != i)).length) (nI k) (nwS M (putQ t (((qL ρ t).take k).filter (· != i)) ρ))) (ρ (108 + t)) (K (nI (((qL ρ t).take (ρ (108 + t))).filter (· != i)).length) (nI (ρ (108 + t))) (nwS M (putQ t (((qL ρ t).take (ρ (108 + t))).filter (· != i)) ρ))) (by omega) (fun n k hk => ?_) (fun n => ?_)
  · have hT : (qL ρ t).take (ρ (108 + t)) = qL ρ t := List.take_of_length_le (by rw [qL_len]; exact Nat.le_refl _)
    rw [hT] at h
    simpa only [List.take_zero, List.filter_nil, putQ_nil, List.length_nil] using h
  · have h1 := hq k hk
    have h2 := filter_take_le (qL ρ t) k i
    have h3 : putQ t (((qL ρ t).take k).filter (· != i)) ρ (110 + 10 * t + k) = ρ (110 + 10 * t + k) := putQ_ge h2
    rw [fX11_leavesOuts_l15.eq_2, take_succ_filter (qL_at hk)]
    simp (disch := omega) only [pk_mul, nI_add, nI_1, eLt, eBn, eBv, nwS_w, nwS_1, xlnw, eGb, eCl, nwS_wL, nwS_wI, e_get, e_many, e_isOf, eI2L, eL2I, nwS_at, lf_at, lN_add, lN_1, eLe, eLtI, eEq, eEq0, eCmp0, eCmpLe, eCmpGe, eCmpLt, eCmpGt, eLE, eLLe, eLLt, va_at_ne, va_at_eq, h3]
    rw [if_neg (by omega)]
    by_cases e : ρ (110 + 10 * t + k) = i
    · rw [if_pos e, if_pos e]
    · rw [if_neg e, if_neg e, putQ_push, List.length_append]
      rfl
  · rw [fX11_leavesOuts_l15.eq_2]
    simp (disch := omega) only [pk_mul, nI_add, nI_1, eLt, eBn, eBv, nwS_w, nwS_1, xlnw, eGb, eCl, nwS_wL, nwS_wI, e_get, e_many, e_isOf, eI2L, eL2I, nwS_at, lf_at, lN_add, lN_1, eLe, eLtI, eEq, eEq0, eCmp0, eCmpLe, eCmpGe, eCmpLt, eCmpGt, eLE, eLLe, eLLt, va_at_ne, va_at_eq]
    rw [if_pos (Nat.le_refl _)]
theorem e_leavesOuts {M : xMem} {ρ : Nat → Nat} {t i : Nat} (ht : t < 2) (hi : i < 10) (ho : ρ (108 + t) ≤ 10) (hq : ∀ j, j < ρ (108 + t) → ρ (110 + 10 * t + j) < 10) :
    fX11_leavesOuts 146 (nI t) (nI i) (nwS M ρ) = some (nwS M (leaveR t i ρ)) := by
  unfold fX11_leavesOuts
  have h2 := filter_take_le (qL ρ t) (ρ (108 + t)) i
  rw [List.take_of_length_le (by rw [qL_len]; exact Nat.le_refl _)] at h2
  simp (disch := omega) only [pk_mul, nI_add, nI_1, eLt, eBn, eBv, nwS_w, nwS_1, xlnw, eGb, eCl, nwS_wL, nwS_wI, e_get, e_many, e_isOf, eI2L, eL2I, nwS_at, lf_at, lN_add, lN_1, eLe, eLtI, eEq, eEq0, eCmp0, eCmpLe, eCmpGe, eCmpLt, eCmpGt, eLE, eLLe, eLLt, va_at_ne, va_at_eq]
  rw [e_leavesOuts_l ht hi ho hq]
  simp (disch := omega) only [pk_mul, nI_add, nI_1, eLt, eBn, eBv, nwS_w, nwS_1, xlnw, eGb, eCl, nwS_wL, nwS_wI, e_get, e_many, e_isOf, eI2L, eL2I, nwS_at, lf_at, lN_add, lN_1, eLe, eLtI, eEq, eEq0, eCmp0, eCmpLe, eCmpGe, eCmpLt, eCmpGt, eLE, eLLe, eLLt, va_at_ne, va_at_eq]
  rfl
def backR (t : Nat) (ρ : Nat → Nat) : Nat → Nat := if ρ (108 + t) = 0 then ρ else va_up (leaveR t (ρ (110 + 10 * t)) ρ) (48 + 10 * t + ρ (110 + 10 * t)) 0
def backN (t : Nat) (ρ : Nat → Nat) : Nat := if ρ (108 + t) = 0 then 0 else 1
theorem e_back {M : xMem} {ρ : Nat → Nat} {t : Nat} (ht : t < 2) (ho : ρ (108 + t) ≤ 10) (hq : ∀ j, j < ρ (108 + t) → ρ (110 + 10 * t + j) < 10) :
    fX11_back 146 (nI t) (nwS M ρ) = some (nI (backN t ρ), nwS M (backR t ρ)) := by
  unfold fX11_back
  simp (disch := omega) only [pk_mul, nI_add, nI_1, eLt, eBn, eBv, nwS_w, nwS_1, xlnw, eGb, eCl, nwS_wL, nwS_wI, e_get, e_many, e_isOf, eI2L, eL2I, nwS_at, lf_at, lN_add, lN_1, eLe, eLtI, eEq, eEq0, eCmp0, eCmpLe, eCmpGe, eCmpLt, eCmpGt, eLE, eLLe, eLLt, va_at_ne, va_at_eq]
  unfold backN backR
  by_cases h : ρ (108 + t) = 0
  · rw [if_pos h, if_pos h, if_pos h]
  · have h1 := hq 0 (by omega)
    rw [Nat.add_zero] at h1
    rw [if_neg h, if_neg h, if_neg h]
    simp (disch := omega) only [pk_mul, nI_add, nI_1, eLt, eBn, eBv, nwS_w, nwS_1, xlnw, eGb, eCl, nwS_wL, nwS_wI, e_get, e_many, e_isOf, eI2L, eL2I, nwS_at, lf_at, lN_add, lN_1, eLe, eLtI, eEq, eEq0, eCmp0, eCmpLe, eCmpGe, eCmpLt, eCmpGt, eLE, eLLe, eLLt, va_at_ne, va_at_eq, e_leavesOuts ht h1 ho hq]
def addR (k v : Nat) (ρ : Nat → Nat) : Nat → Nat := va_up ρ k (ρ k + v)
theorem e_scores {M : xMem} {ρ : Nat → Nat} {t k v : Nat} (ht : t < 2) (hk : k < 6) (hv : v < 2147483648) :
    fX11_scores 146 (nI t) (nI k) (nI v) (nwS M ρ) = some (nwS M (addR (36 + 6 * t + k) v ρ)) := by
  unfold fX11_scores
  simp (disch := omega) only [pk_mul, nI_add, nI_1, eLt, eBn, eBv, nwS_w, nwS_1, xlnw, eGb, eCl, nwS_wL, nwS_wI, e_get, e_many, e_isOf, eI2L, eL2I, nwS_at, lf_at, lN_add, lN_1, eLe, eLtI, eEq, eEq0, eCmp0, eCmpLe, eCmpGe, eCmpLt, eCmpGt, eLE, eLLe, eLLt, va_at_ne, va_at_eq]
  rfl
