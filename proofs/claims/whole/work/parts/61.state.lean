/-! ===== the class: the other lines on a state ===== -/
theorem StR.note {M : xMem} {k : Nat} {ρ : Nat → Nat} (hk : xkd k = 8) (hS : StR M k ρ) (hR : RW ρ) : ∃ M', fX8_noteOther k M = some M' ∧ StR M' k (lineR ρ) ∧ Fi (fun c => c = k) M M' := by
  refine ⟨xwI (xwI M k 3 (nI (ρ 26 + 1))) k 4 (nI 0), ?_, ?_, ?_⟩
  · unfold fX8_noteOther
    rw [eLt, eLt, hS.2.2.1, nI_add]
  · have e : ∀ j, j ≠ 26 → j ≠ 29 → lineR ρ j = ρ j := fun j h1 h2 => by unfold lineR; rw [va_at_ne h2, va_at_ne h1]
    have e26 : lineR ρ 26 = ρ 26 + 1 := by unfold lineR; rw [va_at_ne (by decide), va_at_eq]
    have e29 : lineR ρ 29 = 0 := by unfold lineR; rw [va_at_eq]
    refine ⟨?_, ?_, ?_, ?_, fun t ht => ?_⟩
    · rw [e _ (by decide) (by decide), xwI_ne (by omega), xwI_ne (by omega)]; exact hS.1
    · rw [e _ (by decide) (by decide), xwI_ne (by omega), xwI_ne (by omega)]; exact hS.2.1
    · rw [e26, xwI_ne (by omega), xwI_at]
    · rw [e29, xwI_at]
    · obtain ⟨a, b, c, d, f⟩ := hS.2.2.2.2 t ht
      rw [e _ (by omega) (by omega), e _ (by omega) (by omega), e _ (by omega) (by omega), scR_lo (ρ := ρ) ht (fun j h1 h2 => e j (by omega) (by omega))]
      rw [xwI_c (by omega), xwI_c (by omega)]
      refine ⟨(a.keep (fun c h1 h2 => by rw [xwI_c (by omega), xwI_c (by omega)])).row (hR.m ht) (hR.q ht).1 (fun j hj => e j (by omega) (by omega)), b, c, d, f⟩
  · exact ((Fi.refl (fun c => c = k) M).wI (k := k) rfl).wI (k := k) rfl
theorem RW.line {ρ : Nat → Nat} (h : RW ρ) : RW (lineR ρ) := (h.up (Or.inl (by decide))).up (Or.inl (by decide))
theorem RT.line {ρ : Nat → Nat} (h : RT ρ) : RT (lineR ρ) := (h.lo (Or.inl (by decide))).lo (Or.inl (by decide))
theorem line_ne {ρ : Nat → Nat} {j : Nat} (h1 : j ≠ 26) (h2 : j ≠ 29) : lineR ρ j = ρ j := by unfold lineR; rw [va_at_ne h2, va_at_ne h1]
/-- a state of which one side's part is replaced -/
theorem StR.side {M M' : xMem} {k u : Nat} {ρ σ : Nat → Nat} (hS : StR M k ρ) (hu : u < 2) (hR : RW ρ) (hF : Fi (sdC (k + 2 + 5 * u)) M M')
    (e : ∀ j, j = 28 ∨ j = 27 ∨ j = 26 ∨ j = 29 ∨ j = 30 + (1 - u) ∨ j = 32 + (1 - u) ∨ j = 34 + (1 - u) ∨ (36 + 6 * (1 - u) ≤ j ∧ j < 42 + 6 * (1 - u)) ∨ tmP (1 - u) j → σ j = ρ j)
    (h : SdR M' (k + 2 + 5 * u) u σ ∧ M'.1 (k + 2 + 5 * u) 6 = nI (scR u σ) ∧ M'.1 (k + 2 + 5 * u) 7 = nI (σ (30 + u)) ∧ M'.1 (k + 2 + 5 * u) 8 = nI (σ (32 + u)) ∧ M'.1 (k + 2 + 5 * u) 9 = nI (σ (34 + u))) : StR M' k σ := by
  have f0 : M'.1 k = M.1 k := hF.1 k (by unfold sdC; omega)
  refine ⟨?_, ?_, ?_, ?_, fun w hw => ?_⟩
  · rw [f0, e _ (by omega)]; exact hS.1
  · rw [f0, e _ (by omega)]; exact hS.2.1
  · rw [f0, e _ (by omega)]; exact hS.2.2.1
  · rw [f0, e _ (by omega)]; exact hS.2.2.2.1
  · by_cases q : w = u
    · subst q; exact h
    · have q' : w = 1 - u := by omega
      subst q'
      obtain ⟨a, b, c, d, f⟩ := hS.2.2.2.2 _ hw
      have f1 : ∀ c, k + 2 + 5 * (1 - u) ≤ c → c < k + 2 + 5 * (1 - u) + 5 → M'.1 c = M.1 c := fun c h1 h2 => hF.1 c (by unfold sdC; omega)
      rw [e (30 + (1 - u)) (by omega), e (32 + (1 - u)) (by omega), e (34 + (1 - u)) (by omega), scR_congr (ρ := ρ) (fun j hj => e _ (by omega)), f1 _ (Nat.le_refl _) (by omega)]
      exact ⟨(a.keep f1).row (hR.m hw) (hR.q hw).1 (fun j hj => e j (by unfold tmP; omega)), b, c, d, f⟩
theorem SdR.fld {M : xMem} {k t j : Nat} {v : Int32} {ρ : Nat → Nat} (h : SdR M k t ρ) (hj : 6 ≤ j) : SdR (xwI M k j v) k t ρ := by
  obtain ⟨a, b, c, d, f⟩ := h
  refine ⟨by rw [xwI_ne (by omega)]; exact a, by rw [xwI_ne (by omega)]; exact b, fun i hi => ?_, fun i hi hi' => ?_, fun i hi => ?_⟩
  · rw [xwI_c (c := k + 1) (by omega), xwI_c (c := k + 2) (by omega), xwI_c (c := k + 3) (by omega)]; exact c i hi
  · rw [xwI_c (c := k + 1) (by omega)]; exact d i hi hi'
  · rw [xwI_c (c := k + 4) (by omega)]; exact f i hi
theorem s_exchange {M : xMem} {k t f u : Nat} {ρ : Nat → Nat} (hk : xkd k = 8) (hS : StR M k ρ) (hR : RW ρ) (ht : t < 2) (hf : f < ρ (1 + t)) (hu : u < ρ (1 + t)) : ∃ M', fX8_exchange k (nI t) (nI f) (nI u) M = some M' ∧ StR M' k (changeR t f u ρ) ∧ Fi (stC k) M M' := by
  have hm := hR.m ht
  obtain ⟨a, b, cc, -⟩ := st_rf hk
  obtain ⟨e0, l0⟩ := sd_0 hk ht
  obtain ⟨M1, f1, S1, F1⟩ := hS.note hk hR
  have hR1 := hR.line
  obtain ⟨x1, x2, x3, x4, x5⟩ := S1.2.2.2.2 t ht
  have L : ∀ j, j ≠ 26 → j ≠ 29 → lineR ρ j = ρ j := fun j h1 h2 => line_ne h1 h2
  have q1 : lineR ρ (1 + t) = ρ (1 + t) := L _ (by omega) (by omega)
  have q8 : lineR ρ (108 + t) = ρ (108 + t) := L _ (by omega) (by omega)
  have hq := (hR.q ht).1
  have ce : ∀ j, j ≠ 32 + t → j ≠ 48 + 10 * t + f → j ≠ 48 + 10 * t + u → changeR t f u ρ j = lineR ρ j := fun j h1 h2 h3 => by
    unfold changeR lineR addR
    by_cases h29 : j = 29
    · subst h29; rw [va_at_eq, va_at_eq]
    · rw [va_at_ne h29, va_at_ne h29]
      by_cases h26 : j = 26
      · subst h26
        rw [va_at_eq, va_at_eq, va_at_ne (by omega), va_at_ne (by omega), va_at_ne (by omega)]
      · rw [va_at_ne h26, va_at_ne h26, va_at_ne h1, va_at_ne h3, va_at_ne h2]
  have c1 : changeR t f u ρ (32 + t) = ρ (32 + t) + 1 := by
    unfold changeR
    rw [line_ne (by omega) (by omega)]
    unfold addR
    rw [va_at_eq, va_at_ne (by omega), va_at_ne (by omega)]
  have c2 : changeR t f u ρ (48 + 10 * t + u) = 0 := by
    unfold changeR
    rw [line_ne (by omega) (by omega)]
    unfold addR
    rw [va_at_ne (by omega), va_at_eq]
  have c3 : f ≠ u → changeR t f u ρ (48 + 10 * t + f) = 2 := fun h => by
    unfold changeR
    rw [line_ne (by omega) (by omega)]
    unfold addR
    rw [va_at_ne (by omega), va_at_ne (by omega), va_at_eq]
  have S2 : SdR (xwI M1 (k + 2 + 5 * t + 1) f (nI 2)) (k + 2 + 5 * t) t (va_up (lineR ρ) (48 + 10 * t + f) 2) := x1.st (by rw [q1]; exact hf) (by rw [q1]; exact hm) (by rw [q8]; exact hq) va_at_eq (fun j hj _ => va_at_ne hj) ht
  have S3 : SdR (xwI (xwI M1 (k + 2 + 5 * t + 1) f (nI 2)) (k + 2 + 5 * t + 1) u (nI 0)) (k + 2 + 5 * t) t (changeR t f u ρ) := S2.st (by rw [va_at_ne (by omega), q1]; exact hu) (by rw [va_at_ne (by omega), q1]; exact hm) (by rw [va_at_ne (by omega), q8]; exact hq) c2 (fun j hj hj' => by
    by_cases h : j = 48 + 10 * t + f
    · rw [h, va_at_eq, c3 (by omega)]
    · rw [va_at_ne h, ce _ (by omega) h hj]) ht
  have F4 : Fi (sdC (k + 2 + 5 * t)) M1 (xwI (xwI (xwI M1 (k + 2 + 5 * t + 1) f (nI 2)) (k + 2 + 5 * t + 1) u (nI 0)) (k + 2 + 5 * t) 8 (nI (ρ (32 + t) + 1))) := (((Fi.refl _ M1).wI (by unfold sdC; omega)).wI (by unfold sdC; omega)).wI (by unfold sdC; omega)
  refine ⟨_, ?_, S1.side ht hR1 F4 (fun j hj => ce j (by unfold tmP at hj; omega) (by unfold tmP at hj; omega) (by unfold tmP at hj; omega)) ⟨?_, ?_, ?_, ?_, ?_⟩, (F1.mono (fun c hc => by unfold stC; omega)).trans (F4.mono (fun c hc => by unfold sdC at hc; unfold stC; omega))⟩
  · unfold fX8_exchange
    rw [a, b]
    refine sGb t rfl ht (by decide) (sBv f1 ?_)
    rw [eCl (by omega), cc t ht, e0, l0]
    refine sGb f rfl (by omega) (by decide) ?_
    rw [eCl (by omega)]
    refine sLt (sGb u rfl (by omega) (by decide) ?_)
    rw [eCl (by omega)]
    refine sLt ?_
    rw [xwI_c (c := k + 2 + 5 * t) (by omega), xwI_c (c := k + 2 + 5 * t) (by omega), x4, L _ (by omega) (by omega), nI_add]
    rfl
  · exact S3.fld (by decide)
  · rw [xwI_ne (by omega), xwI_c (by omega), xwI_c (by omega), x2, scR_congr (ρ := lineR ρ) (fun j hj => ce _ (by omega) (by omega) (by omega))]
  · rw [xwI_ne (by omega), xwI_c (by omega), xwI_c (by omega), x3, ce _ (by omega) (by omega) (by omega)]
  · rw [xwI_at, c1]
  · rw [xwI_ne (by omega), xwI_c (by omega), xwI_c (by omega), x5, ce _ (by omega) (by omega) (by omega)]
theorem s_endHalf {M : xMem} {k : Nat} {ρ : Nat → Nat} (hk : xkd k = 8) (hS : StR M k ρ) (hR : RW ρ) : ∃ M', fX8_endHalf k M = some M' ∧ StR M' k (halfR ρ) ∧ Fi (stC k) M M' := by
  obtain ⟨a, b, cc, -⟩ := st_rf hk
  obtain ⟨M1, f1, S1, F1⟩ := hS.note hk hR
  have c0 := cc 0 (by decide)
  have c1 := cc 1 (by decide)
  refine ⟨xwI (xwI (xwI (xwI (xwI (xwI M1 k 2 (nI (ρ 27 + 1))) k 1 (nI 1)) (k + 2 + 5 * 0) 7 (nI 0)) (k + 2 + 5 * 0) 9 (nI 0)) (k + 2 + 5 * 1) 7 (nI 0)) (k + 2 + 5 * 1) 9 (nI 0), ?_, ?_, ?_⟩
  · unfold fX8_endHalf
    refine sBv f1 (sLt (sLt ?_))
    rw [S1.2.1, line_ne (by decide) (by decide), nI_add]
    have e : xFU = 39997 + 1 + 1 + 1 := by decide
    rw [e, fX8_endHalf_l21.eq_2, a, b]
    refine sF (by decide) (sGb 0 rfl (by decide) (by decide) ?_)
    rw [eCl (by decide), c0]
    refine sLt (sGb 0 rfl (by decide) (by decide) (sLt (sLe (nI_1 0) ?_)))
    rw [fX8_endHalf_l21.eq_2, a, b]
    refine sF (by decide) (sGb 1 rfl (by decide) (by decide) ?_)
    rw [eCl (by decide), c1]
    refine sLt (sGb 1 rfl (by decide) (by decide) (sLt (sLe (nI_1 1) ?_)))
    rw [fX8_endHalf_l21.eq_2]
    exact sT (by decide) rfl
  · have e : ∀ j, j ≠ 27 → j ≠ 28 → j ≠ 30 → j ≠ 31 → j ≠ 34 → j ≠ 35 → halfR ρ j = lineR ρ j := fun j h1 h2 h3 h4 h5 h6 => by
      unfold halfR lineR
      by_cases h29 : j = 29
      · subst h29; rw [va_at_eq, va_at_eq]
      · rw [va_at_ne h29, va_at_ne h29]
        by_cases h26 : j = 26
        · subst h26
          rw [va_at_eq, va_at_eq]
          simp (disch := omega) only [va_at_ne]
        · rw [va_at_ne h26, va_at_ne h26, va_at_ne h6, va_at_ne h4, va_at_ne h5, va_at_ne h3, va_at_ne h2, va_at_ne h1]
    have e27 : halfR ρ 27 = ρ 27 + 1 := rfl
    have e28 : halfR ρ 28 = 1 := rfl
    have e30 : ∀ t, t < 2 → halfR ρ (30 + t) = 0 ∧ halfR ρ (34 + t) = 0 := fun t ht => by
      rcases (show t = 0 ∨ t = 1 by omega) with rfl | rfl <;> exact ⟨rfl, rfl⟩
    refine ⟨?_, ?_, ?_, ?_, fun t ht => ?_⟩
    · rw [e28]; simp (disch := omega) only [xwI_c]; rw [xwI_at]
    · rw [e27]; simp (disch := omega) only [xwI_c]; rw [xwI_ne (by omega), xwI_at]
    · rw [e _ (by decide) (by decide) (by decide) (by decide) (by decide) (by decide)]; simp (disch := omega) only [xwI_c]; rw [xwI_ne (by omega), xwI_ne (by omega)]; exact S1.2.2.1
    · rw [e _ (by decide) (by decide) (by decide) (by decide) (by decide) (by decide)]; simp (disch := omega) only [xwI_c]; rw [xwI_ne (by omega), xwI_ne (by omega)]; exact S1.2.2.2.1
    · obtain ⟨x1, x2, x3, x4, x5⟩ := S1.2.2.2.2 t ht
      have hR1 := hR.line
      have T1 : St0 (xwI (xwI M1 k 2 (nI (ρ 27 + 1))) k 1 (nI 1)) k 1 (lineR ρ) := ⟨by rw [xwI_at], fun u hu => (S1.2.2.2.2 u hu).1.keep (fun c h1 h2 => by rw [xwI_c (by omega), xwI_c (by omega)])⟩
      have T2 := (((T1.sfld (u := 0) (v := nI 0) (j := 7) (by decide) (by decide)).sfld (u := 0) (v := nI 0) (j := 9) (by decide) (by decide)).sfld (u := 1) (v := nI 0) (j := 7) (by decide) (by decide)).sfld (u := 1) (v := nI 0) (j := 9) (by decide) (by decide)
      have sdv : ∀ j, (xwI (xwI (xwI (xwI (xwI (xwI M1 k 2 (nI (ρ 27 + 1))) k 1 (nI 1)) (k + 2 + 5 * 0) 7 (nI 0)) (k + 2 + 5 * 0) 9 (nI 0)) (k + 2 + 5 * 1) 7 (nI 0)) (k + 2 + 5 * 1) 9 (nI 0)).1 (k + 2 + 5 * t) j = if j = 7 ∨ j = 9 then nI 0 else M1.1 (k + 2 + 5 * t) j := fun j => by
        rw [sd_eq (by decide) ht, sd_eq (by decide) ht, sd_eq (by decide) ht, sd_eq (by decide) ht, xwI_c (by omega), xwI_c (by omega)]
        rcases (show t = 0 ∨ t = 1 by omega) with rfl | rfl <;> by_cases h7 : j = 7 <;> by_cases h9 : j = 9 <;> simp [h7, h9]
      refine ⟨(T2.2 t ht).row (hR1.m ht) (hR1.q ht).1 (fun j hj => e j (by omega) (by omega) (by omega) (by omega) (by omega) (by omega)), ?_, ?_, ?_, ?_⟩
      · rw [sdv, if_neg (by decide), x2, scR_congr (ρ := lineR ρ) (fun j hj => e _ (by omega) (by omega) (by omega) (by omega) (by omega) (by omega))]
      · rw [sdv, if_pos (by decide), (e30 t ht).1]
      · rw [sdv, if_neg (by decide), x4, e _ (by omega) (by omega) (by omega) (by omega) (by omega) (by omega)]
      · rw [sdv, if_pos (by decide), (e30 t ht).2]
  · have F0 : Fi (stC k) M M1 := F1.mono (fun c hc => by unfold stC; omega)
    exact (((((F0.wI (by unfold stC; omega)).wI (by unfold stC; omega)).wI (by unfold stC; omega)).wI (by unfold stC; omega)).wI (by unfold stC; omega)).wI (by unfold stC; omega)
