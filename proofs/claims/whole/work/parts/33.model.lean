theorem qL_congr {ρ σ : Nat → Nat} {t : Nat} (h0 : σ (108 + t) = ρ (108 + t)) (h : ∀ j, j < ρ (108 + t) → σ (110 + 10 * t + j) = ρ (110 + 10 * t + j)) : qL σ t = qL ρ t := by
  unfold qL
  rw [h0]
  apply List.map_congr_left
  intro j hj
  exact h j (List.mem_range.mp hj)
theorem qL_put {ρ σ : Nat → Nat} {t : Nat} {l : List Nat} (h0 : σ (108 + t) = l.length) (h : ∀ j, j < l.length → σ (110 + 10 * t + j) = l.getD j 0) : qL σ t = l := by
  apply List.ext_getElem?
  intro j
  by_cases hj : j < l.length
  · rw [qL_at (by rw [h0]; exact hj), h j hj]
    rw [List.getD_eq_getElem?_getD, List.getElem?_eq_getElem hj]; rfl
  · rw [List.getElem?_eq_none (by rw [qL_len, h0]; omega), List.getElem?_eq_none (by omega)]
theorem qL_leave {ρ : Nat → Nat} {t i : Nat} (ht : t < 2) : qL (leaveR t i ρ) t = (qL ρ t).filter (· != i) := by
  apply qL_put (ρ := ρ)
  · unfold leaveR; exact va_at_eq
  · intro j hj
    unfold leaveR
    rw [va_at_ne (by omega)]
    unfold putQ
    rw [if_pos (by omega)]
    congr 1
    omega
theorem leaveR_ne {ρ : Nat → Nat} {t i k : Nat} (h1 : k ≠ 108 + t) (h2 : k < 110 + 10 * t ∨ 110 + 10 * t + ρ (108 + t) ≤ k) : leaveR t i ρ k = ρ k := by
  have h := filter_take_le (qL ρ t) (ρ (108 + t)) i
  rw [List.take_of_length_le (by rw [qL_len]; exact Nat.le_refl _)] at h
  unfold leaveR
  rw [va_at_ne h1]
  unfold putQ
  rw [if_neg (by omega)]
theorem qL_mem {ρ : Nat → Nat} {t x : Nat} : x ∈ qL ρ t ↔ ∃ j, j < ρ (108 + t) ∧ ρ (110 + 10 * t + j) = x := by
  unfold qL
  simp
/-- the row of those who are out: at most ten, all players -/
def qOk (ρ : Nat → Nat) (t : Nat) : Prop := ρ (108 + t) ≤ 10 ∧ ∀ x ∈ qL ρ t, x < 10
theorem qOk_at {ρ : Nat → Nat} {t j : Nat} (h : qOk ρ t) (hj : j < ρ (108 + t)) : ρ (110 + 10 * t + j) < 10 := h.2 _ (qL_mem.mpr ⟨j, hj, rfl⟩)
theorem qL_head {ρ : Nat → Nat} {t : Nat} (h : ρ (108 + t) ≠ 0) : ∃ r, qL ρ t = ρ (110 + 10 * t) :: r := by
  have h1 := qL_at (ρ := ρ) (t := t) (j := 0) (by omega)
  rw [Nat.add_zero] at h1
  cases hq : qL ρ t with
  | nil => rw [hq] at h1; simp at h1
  | cons a r => rw [hq] at h1; simp at h1; exact ⟨r, by rw [h1]⟩
theorem qL_back {ρ : Nat → Nat} {t : Nat} (ht : t < 2) (hq : qOk ρ t) (h : ρ (108 + t) ≠ 0) : qL (backR t ρ) t = (qL ρ t).filter (· != ρ (110 + 10 * t)) := by
  unfold backR
  rw [if_neg h, ← qL_leave ht]
  have h1 := qOk_at hq (j := 0) (by omega)
  rw [Nat.add_zero] at h1
  exact qL_congr (va_at_ne (by omega)) (fun j _ => va_at_ne (by omega))
theorem qOk_of {ρ : Nat → Nat} {t : Nat} (h1 : (qL ρ t).length ≤ 10) (h2 : ∀ x ∈ qL ρ t, x < 10) : qOk ρ t := ⟨by rw [← qL_len ρ t]; exact h1, h2⟩
theorem qOk_back {ρ : Nat → Nat} {t : Nat} (ht : t < 2) (hq : qOk ρ t) : qOk (backR t ρ) t ∧ (ρ (108 + t) ≠ 0 → (backR t ρ) (108 + t) < ρ (108 + t)) := by
  by_cases h : ρ (108 + t) = 0
  · have e : backR t ρ = ρ := by unfold backR; rw [if_pos h]
    rw [e]
    exact ⟨hq, fun q => absurd h q⟩
  · have e := qL_back ht hq h
    obtain ⟨r, hr⟩ := qL_head h
    have hl : (qL (backR t ρ) t).length < ρ (108 + t) := by
      rw [e, ← qL_len ρ t, hr]
      simp only [List.filter_cons, bne_self_eq_false, Bool.false_eq_true, if_false, List.length_cons]
      exact Nat.lt_succ_of_le (List.length_filter_le _ _)
    refine ⟨qOk_of (by have := hq.1; omega) (fun x hx => ?_), fun _ => by rw [qL_len] at hl; exact hl⟩
    rw [e] at hx
    exact hq.2 x (List.mem_filter.mp hx).1
def backsR (t : Nat) : Nat → (Nat → Nat) → (Nat → Nat)
  | 0, ρ => ρ
  | n + 1, ρ => backsR t n (backR t ρ)
def backsN (t : Nat) : Nat → (Nat → Nat) → Nat
  | 0, _ => 0
  | n + 1, ρ => backN t ρ + backsN t n (backR t ρ)
theorem backR_0 {t : Nat} {ρ : Nat → Nat} (h : ρ (108 + t) = 0) : backR t ρ = ρ := by unfold backR; rw [if_pos h]
theorem backsR_0 {t : Nat} : ∀ {n : Nat} {ρ : Nat → Nat}, ρ (108 + t) = 0 → backsR t n ρ = ρ
  | 0, _, _ => rfl
  | n + 1, ρ, h => by unfold backsR; rw [backR_0 h]; exact backsR_0 h
theorem e_allOut_l {M : xMem} {t : Nat} (ht : t < 2) (K : Int32 → xMem → Option (Int32 × xMem)) :
    ∀ (m : Nat) (ρ : Nat → Nat) (v : Int32) (n : Nat), qOk ρ t → ρ (108 + t) ≤ m → m < n → ∃ v', fX11_allOutOf_l27 146 (nI t) K n v (nwS M ρ) = K v' (nwS M (backsR t m ρ)) := by
  intro m
  induction m with
  | zero =>
    intro ρ v n hq h1 h2
    obtain ⟨n, rfl⟩ : ∃ q, n = q + 1 := ⟨n - 1, by omega⟩
    refine ⟨v, ?_⟩
    rw [fX11_allOutOf_l27.eq_2]
    have h3 := hq.1
    simp (disch := omega) only [pk_mul, nI_add, nI_1, eLt, eBn, eBv, nwS_w, nwS_1, xlnw, eGb, eCl, nwS_wL, nwS_wI, e_get, e_many, e_isOf, eI2L, eL2I, nwS_at, lf_at, lN_add, lN_1, eLe, eLtI, eEq, eEq0, eCmp0, eCmpLe, eCmpGe, eCmpLt, eCmpGt, eLE, eLLe, eLLt, va_at_ne, va_at_eq]
    rw [if_pos (by omega)]
    rfl
  | succ m ih =>
    intro ρ v n hq h1 h2
    obtain ⟨n, rfl⟩ : ∃ q, n = q + 1 := ⟨n - 1, by omega⟩
    have h3 := hq.1
    by_cases h : ρ (108 + t) = 0
    · refine ⟨v, ?_⟩
      rw [fX11_allOutOf_l27.eq_2]
      simp (disch := omega) only [pk_mul, nI_add, nI_1, eLt, eBn, eBv, nwS_w, nwS_1, xlnw, eGb, eCl, nwS_wL, nwS_wI, e_get, e_many, e_isOf, eI2L, eL2I, nwS_at, lf_at, lN_add, lN_1, eLe, eLtI, eEq, eEq0, eCmp0, eCmpLe, eCmpGe, eCmpLt, eCmpGt, eLE, eLLe, eLLt, va_at_ne, va_at_eq]
      rw [if_pos (by omega), backsR_0 h]
    · obtain ⟨q1, q2⟩ := qOk_back ht hq
      have q2 := q2 h
      obtain ⟨v', hv⟩ := ih (backR t ρ) (v + nI (backN t ρ)) n q1 (by omega) (by omega)
      refine ⟨v', ?_⟩
      rw [fX11_allOutOf_l27.eq_2]
      simp (disch := omega) only [pk_mul, nI_add, nI_1, eLt, eBn, eBv, nwS_w, nwS_1, xlnw, eGb, eCl, nwS_wL, nwS_wI, e_get, e_many, e_isOf, eI2L, eL2I, nwS_at, lf_at, lN_add, lN_1, eLe, eLtI, eEq, eEq0, eCmp0, eCmpLe, eCmpGe, eCmpLt, eCmpGt, eLE, eLLe, eLLt, va_at_ne, va_at_eq]
      rw [if_neg (by omega), e_back ht hq.1 (fun j hj => qOk_at hq hj)]
      simp (disch := omega) only [pk_mul, nI_add, nI_1, eLt, eBn, eBv, nwS_w, nwS_1, xlnw, eGb, eCl, nwS_wL, nwS_wI, e_get, e_many, e_isOf, eI2L, eL2I, nwS_at, lf_at, lN_add, lN_1, eLe, eLtI, eEq, eEq0, eCmp0, eCmpLe, eCmpGe, eCmpLt, eCmpGt, eLE, eLLe, eLLt, va_at_ne, va_at_eq]
      rw [hv]
      rfl
/-- nobody on, somebody out -/
def isAll (t : Nat) (ρ : Nat → Nat) : Bool := mkP (fun i => ρ (48 + 10 * t + i) == 0) (ρ (1 + t)) == 0 && ρ (108 + t) != 0
def allR (t : Nat) (ρ : Nat → Nat) : Nat → Nat := if isAll t ρ then addR (36 + 6 * (1 - t) + 4) 2 (backsR t (ρ (108 + t)) ρ) else ρ
theorem e_allOutOf {M : xMem} {ρ : Nat → Nat} {t : Nat} (ht : t < 2) (hr : ρ (1 + t) ≤ 10) (hs : ∀ i, i < 10 → ρ (48 + 10 * t + i) < 2147483648) (hq : qOk ρ t) :
    fX11_allOutOf 146 (nI t) (nwS M ρ) = some (nI (if isAll t ρ then 1 else 0), nwS M (allR t ρ)) := by
  unfold fX11_allOutOf
  have h3 := hq.1
  have h4 : mkP (fun i => ρ (48 + 10 * t + i) == 0) (ρ (1 + t)) < 2147483648 := Nat.lt_of_lt_of_le (mkP_lt _ _) (Nat.le_trans (Nat.pow_le_pow_right (by decide) hr) (by decide))
  rw [e_thoseOf ht (by decide) hr hs]
  simp (disch := omega) only [pk_mul, nI_add, nI_1, eLt, eBn, eBv, nwS_w, nwS_1, xlnw, eGb, eCl, nwS_wL, nwS_wI, e_get, e_many, e_isOf, eI2L, eL2I, nwS_at, lf_at, lN_add, lN_1, eLe, eLtI, eEq, eEq0, eCmp0, eCmpLe, eCmpGe, eCmpLt, eCmpGt, eLE, eLLe, eLLt, va_at_ne, va_at_eq]
  unfold allR isAll
  by_cases h1 : mkP (fun i => ρ (48 + 10 * t + i) == 0) (ρ (1 + t)) = 0
  · rw [if_pos h1]
    by_cases h2 : ρ (108 + t) = 0
    · rw [if_pos h2]
      simp [h1, h2]
    · rw [if_neg h2]
      obtain ⟨v', hv⟩ := e_allOut_l (M := M) ht (fun v8 M9 => xBv (fX11_scores 146 (nI 1 - nI t) (nI 4) (nI 2) M9) fun M10 => some (nI 1, M10)) (ρ (108 + t)) ρ (nI 0) xFU hq (Nat.le_refl _) (by rw [xFU_eq]; omega)
      refine Eq.trans (Eq.trans ?_ hv) ?_
      · rfl
      · simp (disch := omega) only [pk_mul, nI_add, nI_1, eLt, eBn, eBv, nwS_w, nwS_1, xlnw, eGb, eCl, nwS_wL, nwS_wI, e_get, e_many, e_isOf, eI2L, eL2I, nwS_at, lf_at, lN_add, lN_1, eLe, eLtI, eEq, eEq0, eCmp0, eCmpLe, eCmpGe, eCmpLt, eCmpGt, eLE, eLLe, eLLt, va_at_ne, va_at_eq, eSub, e_scores]
        simp [h1, h2]
  · rw [if_neg h1]
    simp [h1]
