theorem waitsR_ne {k : Nat} {ρ : Nat → Nat} (h1 : ρ 1 ≤ 10) (h2 : ρ 2 ≤ 10) (h : k < 48 ∨ 88 ≤ k) : waitsR ρ k = ρ k := by
  unfold waitsR
  rw [waitsT_ne (by omega) h2, waitsT_ne (by omega) h1]
theorem wS_ok {t i : Nat} {ρ : Nat → Nat} (h : ∀ j, j < 10 → ρ (48 + 10 * t + j) < 5 ∧ ρ (68 + 10 * t + j) < 7 ∧ (ρ (48 + 10 * t + j) = 3 → 1 ≤ ρ (68 + 10 * t + j))) (hi : i < 10) : ∀ j, j < 10 → wS t i ρ (48 + 10 * t + j) < 5 ∧ wS t i ρ (68 + 10 * t + j) < 7 ∧ (wS t i ρ (48 + 10 * t + j) = 3 → 1 ≤ wS t i ρ (68 + 10 * t + j)) := by
  intro j hj
  have hj' := h j hj
  by_cases e : j = i
  · subst e
    unfold wS
    split
    · split
      · rw [va_at_eq, va_at_ne (by omega), va_at_eq]; omega
      · rw [va_at_eq, va_at_ne (by omega)]; omega
    · exact hj'
  · rw [wS_ne (by omega) (by omega), wS_ne (by omega) (by omega)]
    exact hj'
theorem waitsT_ok {t : Nat} {ρ : Nat → Nat} (h : ∀ j, j < 10 → ρ (48 + 10 * t + j) < 5 ∧ ρ (68 + 10 * t + j) < 7 ∧ (ρ (48 + 10 * t + j) = 3 → 1 ≤ ρ (68 + 10 * t + j))) : ∀ n, n ≤ 10 → ∀ j, j < 10 → waitsT t n ρ (48 + 10 * t + j) < 5 ∧ waitsT t n ρ (68 + 10 * t + j) < 7 ∧ (waitsT t n ρ (48 + 10 * t + j) = 3 → 1 ≤ waitsT t n ρ (68 + 10 * t + j))
  | 0, _ => h
  | n + 1, hn => wS_ok (waitsT_ok h n (by omega)) (by omega)
theorem RW.waits {ρ : Nat → Nat} (h : RW ρ) : RW (waitsR ρ) := by
  have m0 : ρ 1 ≤ 10 := h.m (t := 0) (by decide)
  have m1 : ρ 2 ≤ 10 := h.m (t := 1) (by decide)
  refine ⟨by rw [waitsR_ne m0 m1 (by omega)]; exact h.1, fun u hu => ?_⟩
  obtain ⟨a, b, c⟩ := h.2 u hu
  refine ⟨by rw [waitsR_ne m0 m1 (by omega)]; exact a, ?_, ?_⟩
  · rcases (show u = 0 ∨ u = 1 by omega) with rfl | rfl
    · intro j hj
      unfold waitsR
      rw [waitsT_ne (by omega) m1, waitsT_ne (by omega) m1]
      exact waitsT_ok b _ m0 j hj
    · unfold waitsR
      refine waitsT_ok (fun j hj => ?_) _ m1
      rw [waitsT_ne (by omega) m0, waitsT_ne (by omega) m0]
      exact b j hj
  · have c1 := c.1
    have e1 : qL (waitsR ρ) u = qL ρ u := qL_congr (waitsR_ne m0 m1 (by omega)) (fun j hj => waitsR_ne m0 m1 (by omega))
    exact qOk_of (by rw [e1, qL_len]; exact c.1) (by rw [e1]; exact c.2)
theorem backsR_succ (t : Nat) : ∀ (n : Nat) (ρ : Nat → Nat), backsR t (n + 1) ρ = backR t (backsR t n ρ)
  | 0, _ => rfl
  | n + 1, ρ => backsR_succ t n (backR t ρ)
theorem backsN_succ (t : Nat) : ∀ (n : Nat) (ρ : Nat → Nat), backsN t (n + 1) ρ = backsN t n ρ + backN t (backsR t n ρ)
  | 0, _ => by simp [backsN, backsR]
  | n + 1, ρ => by
    have := backsN_succ t n (backR t ρ)
    unfold backsN
    rw [this]
    simp only [backsR]
    omega
theorem RW.backs {t : Nat} (ht : t < 2) : ∀ (n : Nat) {ρ : Nat → Nat}, RW ρ → RW (backsR t n ρ)
  | 0, _, h => h
  | n + 1, _, h => RW.backs ht n (h.back ht)
theorem backsR_ne {t k : Nat} (ht : t < 2) (h1 : k < 48 + 10 * t ∨ 58 + 10 * t ≤ k) (h2 : k ≠ 108 + t) (h3 : k < 110 + 10 * t ∨ 120 + 10 * t ≤ k) : ∀ (n : Nat) {ρ : Nat → Nat}, RW ρ → backsR t n ρ k = ρ k
  | 0, _, _ => rfl
  | n + 1, ρ, h => by
    unfold backsR
    rw [backsR_ne ht h1 h2 h3 n (h.back ht), backR_ne (h.q ht) h1 h2 h3]
theorem RW.add {ρ : Nat → Nat} (h : RW ρ) {k v : Nat} (h1 : 30 ≤ k) (h2 : k < 48) : RW (addR k v ρ) := h.congr (fun j _ hj => va_at_ne (by omega))
theorem RW.up {ρ : Nat → Nat} (h : RW ρ) {k v : Nat} (h1 : (3 ≤ k ∧ k < 48 ∧ k ≠ 28) ∨ 130 ≤ k) : RW (va_up ρ k v) := h.congr (fun j _ hj => va_at_ne (by omega))
theorem RW.all {ρ : Nat → Nat} (h : RW ρ) {t : Nat} (ht : t < 2) : RW (allR t ρ) := by
  unfold allR
  split
  · exact (RW.backs ht _ h).add (by omega) (by omega)
  · exact h
theorem allR_ne {ρ : Nat → Nat} (h : RW ρ) {t k : Nat} (ht : t < 2) (h0 : k ≠ 36 + 6 * (1 - t) + 4) (h1 : k < 48 + 10 * t ∨ 58 + 10 * t ≤ k) (h2 : k ≠ 108 + t) (h3 : k < 110 + 10 * t ∨ 120 + 10 * t ≤ k) : allR t ρ k = ρ k := by
  unfold allR
  split
  · unfold addR
    rw [va_at_ne h0, backsR_ne ht h1 h2 h3 _ h]
  · rfl
/-! the touched ones go out -/
def outsR (t : Nat) (tl : List Nat) (ρ : Nat → Nat) : Nat → Nat := tl.foldl (fun σ i => outR t i σ) ρ
theorem outR_outs (t i : Nat) (ρ : Nat → Nat) : outR t i ρ (108 + t) = ρ (108 + t) + 1 := by
  unfold outR
  exact va_at_eq
theorem outsR_ok {t : Nat} (ht : t < 2) : ∀ (tl : List Nat) {ρ : Nat → Nat}, RW ρ → (∀ x ∈ tl, x < 10) → ρ (108 + t) + tl.length ≤ 10 → RW (outsR t tl ρ) ∧ outsR t tl ρ (108 + t) = ρ (108 + t) + tl.length
  | [], ρ, h, _, _ => ⟨h, rfl⟩
  | a :: l, ρ, h, h1, h2 => by
    simp only [List.length_cons] at h2
    have := outsR_ok ht l (h.out ht (h1 a List.mem_cons_self) (by omega)) (fun x hx => h1 x (List.mem_cons_of_mem _ hx)) (by rw [outR_outs]; omega)
    refine ⟨this.1, ?_⟩
    have e := this.2
    rw [outR_outs] at e
    show outsR t l (outR t a ρ) (108 + t) = _
    rw [e, List.length_cons]
    omega
theorem outsR_ne {t k : Nat} (ht : t < 2) (h1 : k < 48 + 10 * t ∨ 58 + 10 * t ≤ k) (h2 : k ≠ 108 + t) (h3 : k < 110 + 10 * t ∨ 120 + 10 * t ≤ k) : ∀ (tl : List Nat) {ρ : Nat → Nat}, (∀ x ∈ tl, x < 10) → ρ (108 + t) + tl.length ≤ 10 → outsR t tl ρ k = ρ k
  | [], _, _, _ => rfl
  | a :: l, ρ, h4, h5 => by
    simp only [List.length_cons] at h5
    have ha := h4 a List.mem_cons_self
    show outsR t l (outR t a ρ) k = _
    rw [outsR_ne ht h1 h2 h3 l (fun x hx => h4 x (List.mem_cons_of_mem _ hx)) (by rw [outR_outs]; omega)]
    exact outR_ne (by omega) (by omega) h2
theorem outsR_take {t : Nat} {tl : List Nat} {k x : Nat} {ρ : Nat → Nat} (h : tl[k]? = some x) : outsR t (tl.take (k + 1)) ρ = outR t x (outsR t (tl.take k) ρ) := foldl_take _ _ h
theorem e_raids_l357 {M : xMem} {ρ : Nat → Nat} {tl : List Nat} {t o s : Nat} (p1 p3 p4 p5 p6 p7 p8 : Int32) (ho : o < 2) (hs : M.1 146 5 = nI s) (hs5 : s < 5) (h : tlOk M tl) (hR : RW ρ) (hl : ρ (108 + o) + tl.length ≤ 10) (K : Int32 → xMem → Option xMem) (hK : ∀ v w M, K v M = K w M) :
    fX11_raids_l357 146 p1 (nI o) p3 p4 p5 p6 p7 p8 K xFU (nI 0) (nwS M ρ) = K (nI 0) (nwS M (if s = 1 then outsR o tl ρ else ρ)) := by
  obtain ⟨h1, h2, h3, h4⟩ := h
  by_cases e : s = 1
  · rw [if_pos e, hK _ (nI tl.length)]
    have hL := loopU (fun n k => fX11_raids_l357 146 p1 (nI o) p3 p4 p5 p6 p7 p8 K n (nI k) (nwS M (outsR o (tl.take k) ρ))) tl.length (K (nI tl.length) (nwS M (outsR o (tl.take tl.length) ρ))) (by omega) (fun n k hk => ?_) (fun n => ?_)
    · rw [List.take_length] at hL
      exact hL
    · have hx : tl[k]? = some tl[k] := List.getElem?_eq_getElem hk
      have hx2 := h4 _ (List.mem_of_getElem? hx)
      have hq := (outsR_ok ho (tl.take k) hR (fun x hx => h4 x (List.mem_of_mem_take hx)) (by rw [List.length_take]; omega)).2
      rw [List.length_take] at hq
      rw [fX11_raids_l357.eq_2, outsR_take hx]
      simp (disch := omega) only [pk_mul, nI_add, nI_1, eLt, eBn, eBv, nwS_w, nwS_1, xlnw, eGb, eCl, nwS_wL, nwS_wI, e_get, e_many, e_isOf, eI2L, eL2I, nwS_at, lf_at, lN_add, lN_1, eLe, eLtI, eEq, eEq0, eCmp0, eCmpLe, eCmpGe, eCmpLt, eCmpGt, eLE, eLLe, eLLt, va_at_ne, va_at_eq, x146_7, xl149, h2, hs]
      rw [if_neg (by omega), if_pos e, h3 k _ hx, e_goesOut ho hx2 (by omega)]
      rfl
    · rw [fX11_raids_l357.eq_2]
      simp (disch := omega) only [pk_mul, nI_add, nI_1, eLt, eBn, eBv, nwS_w, nwS_1, xlnw, eGb, eCl, nwS_wL, nwS_wI, e_get, e_many, e_isOf, eI2L, eL2I, nwS_at, lf_at, lN_add, lN_1, eLe, eLtI, eEq, eEq0, eCmp0, eCmpLe, eCmpGe, eCmpLt, eCmpGt, eLE, eLLe, eLLt, va_at_ne, va_at_eq, x146_7, xl149, h2, hs]
      rw [if_pos (Nat.le_refl _)]
  · rw [if_neg e]
    have e2 : xFU = 39999 + 1 := by decide
    rw [e2, fX11_raids_l357.eq_2]
    simp (disch := omega) only [pk_mul, nI_add, nI_1, eLt, eBn, eBv, nwS_w, nwS_1, xlnw, eGb, eCl, nwS_wL, nwS_wI, e_get, e_many, e_isOf, eI2L, eL2I, nwS_at, lf_at, lN_add, lN_1, eLe, eLtI, eEq, eEq0, eCmp0, eCmpLe, eCmpGe, eCmpLt, eCmpGt, eLE, eLLe, eLLt, va_at_ne, va_at_eq, h2, hs]
    by_cases e3 : tl.length ≤ 0
    · rw [if_pos e3]
    · rw [if_neg e3, if_neg e]
theorem e_raids_l430 {M : xMem} {ρ : Nat → Nat} {tl : List Nat} {t s : Nat} (p2 p3 p4 p5 p6 p7 p8 : Int32) (ht : t < 2) (hs : M.1 146 5 = nI s) (hs5 : s < 5) (h : tlOk M tl) (hR : RW ρ) (K : Int32 → Int32 → xMem → Option xMem) (hK : ∀ a v w M, K a v M = K a w M) :
    fX11_raids_l430 146 (nI t) p2 p3 p4 p5 p6 p7 p8 K xFU (nI 0) (nI 0) (nwS M ρ) = K (nI (if s = 1 then backsN t tl.length ρ else 0)) (nI 0) (nwS M (if s = 1 then backsR t tl.length ρ else ρ)) := by
  obtain ⟨h1, h2, h3, h4⟩ := h
  by_cases e : s = 1
  · rw [if_pos e, if_pos e, hK _ _ (nI tl.length)]
    refine loopU (fun n k => fX11_raids_l430 146 (nI t) p2 p3 p4 p5 p6 p7 p8 K n (nI (backsN t k ρ)) (nI k) (nwS M (backsR t k ρ))) tl.length _ (by omega) (fun n k hk => ?_) (fun n => ?_)
    · have hR' := RW.backs ht k hR
      rw [fX11_raids_l430.eq_2, backsN_succ, backsR_succ]
      simp (disch := omega) only [pk_mul, nI_add, nI_1, eLt, eBn, eBv, nwS_w, nwS_1, xlnw, eGb, eCl, nwS_wL, nwS_wI, e_get, e_many, e_isOf, eI2L, eL2I, nwS_at, lf_at, lN_add, lN_1, eLe, eLtI, eEq, eEq0, eCmp0, eCmpLe, eCmpGe, eCmpLt, eCmpGt, eLE, eLLe, eLLt, va_at_ne, va_at_eq, h2, hs]
      rw [if_neg (by omega), if_pos e, e_back ht (hR'.q ht).1 (fun j hj => qOk_at (hR'.q ht) hj)]
      simp (disch := omega) only [pk_mul, nI_add, nI_1, eLt, eBn, eBv, nwS_w, nwS_1, xlnw, eGb, eCl, nwS_wL, nwS_wI, e_get, e_many, e_isOf, eI2L, eL2I, nwS_at, lf_at, lN_add, lN_1, eLe, eLtI, eEq, eEq0, eCmp0, eCmpLe, eCmpGe, eCmpLt, eCmpGt, eLE, eLLe, eLLt, va_at_ne, va_at_eq]
    · rw [fX11_raids_l430.eq_2]
      simp (disch := omega) only [pk_mul, nI_add, nI_1, eLt, eBn, eBv, nwS_w, nwS_1, xlnw, eGb, eCl, nwS_wL, nwS_wI, e_get, e_many, e_isOf, eI2L, eL2I, nwS_at, lf_at, lN_add, lN_1, eLe, eLtI, eEq, eEq0, eCmp0, eCmpLe, eCmpGe, eCmpLt, eCmpGt, eLE, eLLe, eLLt, va_at_ne, va_at_eq, h2, hs]
      rw [if_pos (Nat.le_refl _)]
  · rw [if_neg e, if_neg e]
    have e2 : xFU = 39999 + 1 := by decide
    rw [e2, fX11_raids_l430.eq_2]
    simp (disch := omega) only [pk_mul, nI_add, nI_1, eLt, eBn, eBv, nwS_w, nwS_1, xlnw, eGb, eCl, nwS_wL, nwS_wI, e_get, e_many, e_isOf, eI2L, eL2I, nwS_at, lf_at, lN_add, lN_1, eLe, eLtI, eEq, eEq0, eCmp0, eCmpLe, eCmpGe, eCmpLt, eCmpGt, eLE, eLLe, eLLt, va_at_ne, va_at_eq, h2, hs]
    by_cases e3 : tl.length ≤ 0
    · rw [if_pos e3]
    · rw [if_neg e3, if_neg e]
def aheadR (ρ : Nat → Nat) : Nat → Nat := fun k => if 130 ≤ k ∧ k < 235 then ρ (k - 105) else ρ k
theorem e_raids_l2 {M : xMem} {ρ : Nat → Nat} (K : Int32 → xMem → Option xMem) : fX11_raids_l2 146 K xFU (nI 0) (nwS M ρ) = K (nI 105) (nwS M (aheadR ρ)) := by
  have hL := loopU (fun n k => fX11_raids_l2 146 K n (nI k) (nwS M (fun j => if 130 ≤ j ∧ j < 130 + k then ρ (j - 105) else ρ j))) 105 (K (nI 105) (nwS M (aheadR ρ))) (by decide) (fun n k hk => ?_) (fun n => ?_)
  · have e : (fun j => if 130 ≤ j ∧ j < 130 + 0 then ρ (j - 105) else ρ j) = ρ := by
      funext j
      rw [if_neg (by omega)]
    rw [e] at hL
    exact hL
  · rw [fX11_raids_l2.eq_2]
    simp (disch := omega) only [pk_mul, nI_add, nI_1, eLt, eBn, eBv, nwS_w, nwS_1, xlnw, eGb, eCl, nwS_wL, nwS_wI, e_get, e_many, e_isOf, eI2L, eL2I, nwS_at, lf_at, lN_add, lN_1, eLe, eLtI, eEq, eEq0, eCmp0, eCmpLe, eCmpGe, eCmpLt, eCmpGt, eLE, eLLe, eLLt, va_at_ne, va_at_eq]
    rw [if_neg (by omega), if_neg (by omega)]
    congr 2
    funext j
    by_cases h : j = 130 + k
    · subst h
      rw [va_at_eq, if_pos (by omega)]
      congr 1
      omega
    · rw [va_at_ne h]
      by_cases h2 : 130 ≤ j ∧ j < 130 + k
      · rw [if_pos h2, if_pos (by omega)]
      · rw [if_neg h2, if_neg (by omega)]
  · rw [fX11_raids_l2.eq_2]
    simp (disch := omega) only [pk_mul, nI_add, nI_1, eLt, eBn, eBv, nwS_w, nwS_1, xlnw, eGb, eCl, nwS_wL, nwS_wI, e_get, e_many, e_isOf, eI2L, eL2I, nwS_at, lf_at, lN_add, lN_1, eLe, eLtI, eEq, eEq0, eCmp0, eCmpLe, eCmpGe, eCmpLt, eCmpGt, eLE, eLLe, eLLt, va_at_ne, va_at_eq]
    rw [if_pos (Nat.le_refl _)]
    rfl
