/-! ===== what a step leaves as it was; well formed rows ===== -/
def mOn (t : Nat) (ρ : Nat → Nat) : Nat := mkP (fun i => ρ (48 + 10 * t + i) == 0) (ρ (1 + t))
def scR (t : Nat) (ρ : Nat → Nat) : Nat := sumR (fun k => ρ (36 + 6 * t + k)) 6
theorem mkP_congr {p p' : Nat → Bool} : ∀ {n : Nat}, (∀ i, i < n → p i = p' i) → mkP p n = mkP p' n
  | 0, _ => rfl
  | n + 1, h => by
    unfold mkP
    rw [mkP_congr (fun i hi => h i (by omega)), h n (by omega)]
theorem sumR_congr {f g : Nat → Nat} : ∀ {n : Nat}, (∀ i, i < n → f i = g i) → sumR f n = sumR g n
  | 0, _ => rfl
  | n + 1, h => by
    unfold sumR
    rw [sumR_congr (fun i hi => h i (by omega)), h n (by omega)]
theorem mOn_congr {ρ σ : Nat → Nat} {t : Nat} (h0 : σ (1 + t) = ρ (1 + t)) (hr : ρ (1 + t) ≤ 10) (h : ∀ i, i < 10 → σ (48 + 10 * t + i) = ρ (48 + 10 * t + i)) : mOn t σ = mOn t ρ := by
  unfold mOn
  rw [h0]
  exact mkP_congr (fun i hi => by rw [h i (by omega)])
theorem scR_congr {ρ σ : Nat → Nat} {t : Nat} (h : ∀ k, k < 6 → σ (36 + 6 * t + k) = ρ (36 + 6 * t + k)) : scR t σ = scR t ρ := sumR_congr h
theorem mOn_lt {ρ : Nat → Nat} {t : Nat} (hr : ρ (1 + t) ≤ 10) : mOn t ρ < 1024 := Nat.lt_of_lt_of_le (mkP_lt _ _) (Nat.pow_le_pow_right (by decide) hr)
/-- a row that the steps can go on: players, what they are, waits, those who are out -/
def RW (ρ : Nat → Nat) : Prop := ρ 28 < 2 ∧ ∀ t, t < 2 → (1 ≤ ρ (1 + t) ∧ ρ (1 + t) ≤ 10) ∧ (∀ i, i < 10 → ρ (48 + 10 * t + i) < 5 ∧ ρ (68 + 10 * t + i) < 7 ∧ (ρ (48 + 10 * t + i) = 3 → 1 ≤ ρ (68 + 10 * t + i))) ∧ qOk ρ t
theorem RW.w {ρ : Nat → Nat} (h : RW ρ) {t : Nat} (ht : t < 2) : wOk ρ t := ⟨(h.2 t ht).1.2, (h.2 t ht).2.1⟩
theorem RW.q {ρ : Nat → Nat} (h : RW ρ) {t : Nat} (ht : t < 2) : qOk ρ t := (h.2 t ht).2.2
theorem RW.m {ρ : Nat → Nat} (h : RW ρ) {t : Nat} (ht : t < 2) : ρ (1 + t) ≤ 10 := (h.2 t ht).1.2
theorem RW.s {ρ : Nat → Nat} (h : RW ρ) {t : Nat} (ht : t < 2) : ∀ i, i < 10 → ρ (48 + 10 * t + i) < 2147483648 := fun i hi => Nat.lt_trans ((h.2 t ht).2.1 i hi).1 (by decide)
theorem RW.congr {ρ σ : Nat → Nat} (h : RW ρ) (e : ∀ k, k < 130 → (k < 3 ∨ k = 28 ∨ 48 ≤ k) → σ k = ρ k) : RW σ := by
  refine ⟨by rw [e 28 (by decide) (by decide)]; exact h.1, fun t ht => ?_⟩
  obtain ⟨a, b, c⟩ := h.2 t ht
  have c1 := c.1
  refine ⟨by rw [e _ (by omega) (by omega)]; exact a, fun i hi => ?_, ?_⟩
  · rw [e _ (by omega) (by omega), e _ (by omega) (by omega)]
    exact b i hi
  · have e1 : qL σ t = qL ρ t := qL_congr (e _ (by omega) (by omega)) (fun j hj => e _ (by omega) (by omega))
    refine qOk_of (by rw [e1, qL_len]; exact c.1) (by rw [e1]; exact c.2)
theorem outR_ne {t i k : Nat} {ρ : Nat → Nat} (h1 : k ≠ 48 + 10 * t + i) (h2 : k ≠ 110 + 10 * t + ρ (108 + t)) (h3 : k ≠ 108 + t) : outR t i ρ k = ρ k := by
  unfold outR
  rw [va_at_ne h3, va_at_ne h2, va_at_ne h1]
theorem qL_out {t i : Nat} {ρ : Nat → Nat} (ht : t < 2) (hi : i < 10) (hq : ρ (108 + t) < 10) : qL (outR t i ρ) t = qL ρ t ++ [i] := by
  apply qL_put (ρ := ρ)
  · rw [List.length_append, qL_len]
    unfold outR
    rw [va_at_eq]; rfl
  · intro j hj
    rw [List.length_append, qL_len] at hj
    simp only [List.length_cons, List.length_nil] at hj
    unfold outR
    rw [va_at_ne (by omega)]
    by_cases h : j = ρ (108 + t)
    · subst h
      rw [va_at_eq]
      simp [List.getD, qL_len]
    · rw [va_at_ne (by omega), va_at_ne (by omega)]
      rw [List.getD_eq_getElem?_getD, List.getElem?_append_left (by rw [qL_len]; omega), qL_at (by omega)]
      rfl
theorem qL_other {t i : Nat} {ρ : Nat → Nat} (ht : t < 2) (hi : i < 10) (hq : ρ (108 + t) < 10) (hq2 : ρ (108 + (1 - t)) ≤ 10) : qL (outR t i ρ) (1 - t) = qL ρ (1 - t) :=
  qL_congr (outR_ne (by omega) (by omega) (by omega)) (fun j hj => outR_ne (by omega) (by omega) (by omega))
theorem RW.out {ρ : Nat → Nat} (h : RW ρ) {t i : Nat} (ht : t < 2) (hi : i < 10) (hq : ρ (108 + t) < 10) : RW (outR t i ρ) := by
  refine ⟨by rw [outR_ne (by omega) (by omega) (by omega)]; exact h.1, fun u hu => ?_⟩
  obtain ⟨a, b, c⟩ := h.2 u hu
  refine ⟨by rw [outR_ne (by omega) (by omega) (by omega)]; exact a, fun j hj => ?_, ?_⟩
  · have e2 : outR t i ρ (68 + 10 * u + j) = ρ (68 + 10 * u + j) := outR_ne (by omega) (by omega) (by omega)
    rw [e2]
    by_cases e : 48 + 10 * u + j = 48 + 10 * t + i
    · have : outR t i ρ (48 + 10 * u + j) = 1 := by
        unfold outR
        rw [va_at_ne (by omega), va_at_ne (by omega), e, va_at_eq]
      rw [this]
      exact ⟨by omega, (b j hj).2.1, by omega⟩
    · rw [outR_ne (by omega) (by omega) (by omega)]
      exact b j hj
  · by_cases e : u = t
    · subst e
      have e1 := qL_out (ρ := ρ) hu hi hq
      refine qOk_of (by rw [e1, List.length_append, qL_len]; simp; omega) (fun x hx => ?_)
      rw [e1] at hx
      rcases List.mem_append.mp hx with q | q
      · exact c.2 x q
      · rw [List.mem_singleton.mp q]; exact hi
    · have e0 : u = 1 - t := by omega
      subst e0
      have e1 := qL_other (ρ := ρ) ht hi hq c.1
      exact qOk_of (by rw [e1, qL_len]; exact c.1) (by rw [e1]; exact c.2)
theorem backR_ne {t k : Nat} {ρ : Nat → Nat} (hq : qOk ρ t) (h1 : k < 48 + 10 * t ∨ 58 + 10 * t ≤ k) (h2 : k ≠ 108 + t) (h3 : k < 110 + 10 * t ∨ 120 + 10 * t ≤ k) : backR t ρ k = ρ k := by
  unfold backR
  split
  · rfl
  · have h4 := qOk_at hq (j := 0) (by omega)
    rw [Nat.add_zero] at h4
    have := hq.1
    rw [va_at_ne (by omega), leaveR_ne h2 (by omega)]
theorem RW.back {ρ : Nat → Nat} (h : RW ρ) {t : Nat} (ht : t < 2) : RW (backR t ρ) := by
  have hq := h.q ht
  refine ⟨by rw [backR_ne hq (by omega) (by omega) (by omega)]; exact h.1, fun u hu => ?_⟩
  obtain ⟨a, b, c⟩ := h.2 u hu
  refine ⟨by rw [backR_ne hq (by omega) (by omega) (by omega)]; exact a, fun j hj => ?_, ?_⟩
  · have e2 : backR t ρ (68 + 10 * u + j) = ρ (68 + 10 * u + j) := backR_ne hq (by omega) (by omega) (by omega)
    rw [e2]
    by_cases e : u = t
    · subst e
      unfold backR
      split
      · exact b j hj
      · have h4 := qOk_at hq (j := 0) (by omega)
        rw [Nat.add_zero] at h4
        by_cases e3 : 48 + 10 * u + j = 48 + 10 * u + ρ (110 + 10 * u)
        · rw [e3, va_at_eq]
          exact ⟨by omega, (b j hj).2.1, by omega⟩
        · rw [va_at_ne e3, leaveR_ne (by omega) (by omega)]
          exact b j hj
    · rw [backR_ne hq (by omega) (by omega) (by omega)]
      exact b j hj
  · by_cases e : u = t
    · subst e
      exact (qOk_back hu hq).1
    · have e1 : qL (backR t ρ) u = qL ρ u := qL_congr (backR_ne hq (by omega) (by omega) (by omega)) (fun j hj => backR_ne hq (by have := c.1; omega) (by omega) (by have := c.1; omega))
      exact qOk_of (by rw [e1, qL_len]; exact c.1) (by rw [e1]; exact c.2)
