/-! what a step on one team leaves of the other one -/
theorem out_other {ρ : Nat → Nat} {t u i j : Nat} (ht : t < 2) (hu : u < 2) (hut : u ≠ t) (hi : i < 10) (hq : ρ (108 + t) < 10) (hj : j = 1 + u ∨ j = 108 + u ∨ (48 + 10 * u ≤ j ∧ j < 58 + 10 * u) ∨ (68 + 10 * u ≤ j ∧ j < 78 + 10 * u) ∨ (88 + 10 * u ≤ j ∧ j < 98 + 10 * u) ∨ (110 + 10 * u ≤ j ∧ j < 120 + 10 * u)) : outR t i ρ j = ρ j := outR_ne (by omega) (by omega) (by omega)
theorem back_other {ρ : Nat → Nat} {t u j : Nat} (ht : t < 2) (hu : u < 2) (hut : u ≠ t) (hq : qOk ρ t) (hj : j = 1 + u ∨ j = 108 + u ∨ (48 + 10 * u ≤ j ∧ j < 58 + 10 * u) ∨ (68 + 10 * u ≤ j ∧ j < 78 + 10 * u) ∨ (88 + 10 * u ≤ j ∧ j < 98 + 10 * u) ∨ (110 + 10 * u ≤ j ∧ j < 120 + 10 * u)) : backR t ρ j = ρ j := backR_ne hq (by omega) (by omega) (by omega)
/-- both teams -/
def RT (ρ : Nat → Nat) : Prop := RW ρ ∧ ∀ t, t < 2 → TI ρ t
theorem RT.out {ρ : Nat → Nat} (h : RT ρ) {t i : Nat} (ht : t < 2) (hi : i < ρ (1 + t)) (h0 : ρ (48 + 10 * t + i) = 0) : RT (outR t i ρ) := by
  have h7 := (h.2 t ht).q7
  have hr := h.1.m ht
  refine ⟨h.1.out ht (by omega) (by omega), fun u hu => ?_⟩
  by_cases e : u = t
  · subst e; exact (h.2 u hu).out h.1 hu hi h0
  · exact (h.2 u hu).congr (h.1.m hu) (fun j hj => out_other ht hu e (by omega) (by omega) (by omega))
theorem RT.back {ρ : Nat → Nat} (h : RT ρ) {t : Nat} (ht : t < 2) : RT (backR t ρ) := by
  refine ⟨h.1.back ht, fun u hu => ?_⟩
  by_cases e : u = t
  · subst e; exact (h.2 u hu).back h.1 hu
  · exact (h.2 u hu).congr (h.1.m hu) (fun j hj => back_other ht hu e (h.1.q ht) (by omega))
theorem RT.backs {t : Nat} (ht : t < 2) : ∀ (n : Nat) {ρ : Nat → Nat}, RT ρ → RT (backsR t n ρ)
  | 0, _, h => h
  | n + 1, _, h => RT.backs ht n (h.back ht)
theorem RT.congr {ρ σ : Nat → Nat} (h : RT ρ) (e : ∀ k, k < 130 → (k < 3 ∨ k = 28 ∨ (48 ≤ k ∧ k < 88) ∨ 108 ≤ k) → σ k = ρ k) (e28 : ∀ k, 88 ≤ k → k < 108 → True := fun _ _ _ => trivial) : RT σ := by
  have hw : RW σ := by
    refine ⟨by rw [e 28 (by decide) (by decide)]; exact h.1.1, fun t ht => ?_⟩
    obtain ⟨a, b, c⟩ := h.1.2 t ht
    have c1 := c.1
    refine ⟨by rw [e _ (by omega) (by omega)]; exact a, fun i hi => ?_, ?_⟩
    · rw [e _ (by omega) (by omega), e _ (by omega) (by omega)]
      exact b i hi
    · have e1 : qL σ t = qL ρ t := qL_congr (e _ (by omega) (by omega)) (fun j hj => e _ (by omega) (by omega))
      exact qOk_of (by rw [e1, qL_len]; exact c.1) (by rw [e1]; exact c.2)
  exact ⟨hw, fun t ht => (h.2 t ht).congr (h.1.m ht) (fun j hj => e _ (by omega) (by omega))⟩
theorem RT.add {ρ : Nat → Nat} (h : RT ρ) {k v : Nat} (h1 : (29 ≤ k ∧ k < 48) ∨ (88 ≤ k ∧ k < 108) ∨ 130 ≤ k) : RT (va_up ρ k v) := h.congr (fun j _ hj => va_at_ne (by omega))
theorem TI.wst {ρ : Nat → Nat} {t i : Nat} (h : TI ρ t) (hR : RW ρ) (ht : t < 2) (hi : i < ρ (1 + t)) : TI (wS t i ρ) t := by
  have h7 := h.q7
  have hr := hR.m ht
  have hb := (hR.2 t ht).2.1 i (by omega)
  obtain ⟨a, b, c, d, f, g⟩ := h
  have e1 : wS t i ρ (1 + t) = ρ (1 + t) := wS_ne (by omega) (by omega)
  have eq : qL (wS t i ρ) t = qL ρ t := qL_congr (wS_ne (by omega) (by omega)) (fun j hj => wS_ne (by omega) (by omega))
  by_cases h3 : ρ (48 + 10 * t + i) = 3
  · by_cases h4 : ρ (68 + 10 * t + i) - 1 = 0
    · have es : ∀ j, j < ρ (1 + t) → wS t i ρ (48 + 10 * t + j) = if j = i then 0 else ρ (48 + 10 * t + j) := fun j hj => by
        by_cases q : j = i
        · subst q
          unfold wS
          rw [if_pos h3, if_pos h4, va_at_eq, if_pos rfl]
        · rw [if_neg q, wS_ne (by omega) (by omega)]
      have ew : ∀ j, j < ρ (1 + t) → wS t i ρ (68 + 10 * t + j) = if j = i then 0 else ρ (68 + 10 * t + j) := fun j hj => by
        by_cases q : j = i
        · subst q
          unfold wS
          rw [if_pos h3, if_pos h4, va_at_ne (by omega), va_at_eq, if_pos rfl]
        · rw [if_neg q, wS_ne (by omega) (by omega)]
      refine ⟨by rw [e1]; exact a, by rw [eq]; exact b, fun j hj => ?_, fun x hx => by rw [eq] at hx; rw [e1]; exact d x hx, ?_, fun j hj hj3 => ?_⟩
      · rw [e1] at hj
        rw [eq, es j hj, ← c j hj]
        by_cases q : j = i
        · rw [if_pos q, q]; omega
        · rw [if_neg q]
      · rw [← f]
        exact cnt_up hi (by decide) (by omega) e1 es
      · rw [e1] at hj
        rw [ew j hj]
        rw [es j hj] at hj3
        by_cases q : j = i
        · rw [if_pos q]
        · rw [if_neg q]; rw [if_neg q] at hj3; exact g j hj hj3
    · have es : ∀ j, wS t i ρ (48 + 10 * t + j) = ρ (48 + 10 * t + j) ∨ 10 ≤ j := fun j => by
        by_cases q : j < 10
        · left
          unfold wS
          rw [if_pos h3, if_neg h4, va_at_ne (by omega)]
        · exact Or.inr (by omega)
      have es' : ∀ j, j < ρ (1 + t) → wS t i ρ (48 + 10 * t + j) = ρ (48 + 10 * t + j) := fun j hj => (es j).resolve_right (by omega)
      refine ⟨by rw [e1]; exact a, by rw [eq]; exact b, fun j hj => ?_, fun x hx => by rw [eq] at hx; rw [e1]; exact d x hx, ?_, fun j hj hj3 => ?_⟩
      · rw [e1] at hj
        rw [eq, es' j hj]; exact c j hj
      · rw [← f]
        unfold cntR
        rw [e1]
        exact sumR_congr (fun j hj => by rw [es' j hj])
      · rw [e1] at hj
        rw [es' j hj] at hj3
        have q : j ≠ i := fun q => hj3 (by rw [q]; exact h3)
        rw [wS_ne (by omega) (by omega)]
        exact g j hj hj3
  · have e : wS t i ρ = ρ := by
      unfold wS
      rw [if_neg h3]
    rw [e]
    exact ⟨a, b, c, d, f, g⟩
theorem RW.wst {ρ : Nat → Nat} {t i : Nat} (hR : RW ρ) (ht : t < 2) (hi : i < 10) : RW (wS t i ρ) := by
  refine ⟨by rw [wS_ne (by omega) (by omega)]; exact hR.1, fun u hu => ?_⟩
  obtain ⟨a, b, c⟩ := hR.2 u hu
  have c1 := c.1
  refine ⟨by rw [wS_ne (by omega) (by omega)]; exact a, ?_, ?_⟩
  · by_cases e : u = t
    · subst e; exact wS_ok b hi
    · intro j hj
      rw [wS_ne (by omega) (by omega), wS_ne (by omega) (by omega)]
      exact b j hj
  · have e1 : qL (wS t i ρ) u = qL ρ u := qL_congr (wS_ne (by omega) (by omega)) (fun j hj => wS_ne (by omega) (by omega))
    exact qOk_of (by rw [e1, qL_len]; exact c.1) (by rw [e1]; exact c.2)
theorem RT.wst {ρ : Nat → Nat} (h : RT ρ) {t i : Nat} (ht : t < 2) (hi : i < ρ (1 + t)) : RT (wS t i ρ) := by
  have hr := h.1.m ht
  refine ⟨h.1.wst ht (by omega), fun u hu => ?_⟩
  by_cases e : u = t
  · subst e; exact (h.2 u hu).wst h.1 hu hi
  · exact (h.2 u hu).congr (h.1.m hu) (fun j hj => wS_ne (by omega) (by omega))
theorem RT.wtT {t : Nat} (ht : t < 2) {ρ : Nat → Nat} (h : RT ρ) : ∀ n, n ≤ ρ (1 + t) → RT (waitsT t n ρ)
  | 0, _ => h
  | n + 1, hn => by
    have hr := h.1.m ht
    exact (RT.wtT ht h n (by omega)).wst ht (by rw [waitsT_ne (by omega) (by omega)]; omega)
theorem RT.waits {ρ : Nat → Nat} (h : RT ρ) : RT (waitsR ρ) := by
  have h0 := h.1.m (t := 0) (by decide)
  have h1 := RT.wtT (t := 0) (by decide) h (ρ 1) (Nat.le_refl _)
  have e : waitsT 0 (ρ 1) ρ (1 + 1) = ρ 2 := waitsT_ne (by omega) h0
  exact RT.wtT (t := 1) (by decide) h1 (ρ 2) (by rw [e]; exact Nat.le_refl _)
/-! all out: everybody who was out is on -/
theorem backs_all {t : Nat} (ht : t < 2) : ∀ (n : Nat) {ρ : Nat → Nat}, RT ρ → ρ (108 + t) ≤ n → backsR t n ρ (108 + t) = 0 ∧ ∀ i, i < ρ (1 + t) → backsR t n ρ (48 + 10 * t + i) = if ρ (48 + 10 * t + i) = 1 then 0 else ρ (48 + 10 * t + i)
  | 0, ρ, h, hn => by
    refine ⟨by show ρ (108 + t) = 0; omega, fun i hi => ?_⟩
    show ρ (48 + 10 * t + i) = _
    have hq : qL ρ t = [] := List.length_eq_zero_iff.mp (by rw [qL_len]; omega)
    have := (h.2 t ht).2.2.1 i hi
    rw [hq] at this
    rw [if_neg (fun q => by have := this.mp q; simp at this)]
  | n + 1, ρ, h, hn => by
    by_cases h0 : ρ (108 + t) = 0
    · have e : backsR t (n + 1) ρ = ρ := backsR_0 h0
      rw [e]
      refine ⟨h0, fun i hi => ?_⟩
      have hq : qL ρ t = [] := List.length_eq_zero_iff.mp (by rw [qL_len]; omega)
      have := (h.2 t ht).2.2.1 i hi
      rw [hq] at this
      rw [if_neg (fun q => by have := this.mp q; simp at this)]
    · have hlt := (qOk_back ht (h.1.q ht)).2 h0
      have hr := h.1.m ht
      have e1 : backR t ρ (1 + t) = ρ (1 + t) := backR_ne (h.1.q ht) (by omega) (by omega) (by omega)
      obtain ⟨a, b⟩ := backs_all ht n (h.back ht) (by omega)
      refine ⟨a, fun i hi => ?_⟩
      show backsR t n (backR t ρ) (48 + 10 * t + i) = _
      rw [b i (by rw [e1]; exact hi)]
      obtain ⟨rest, hrest⟩ := qL_head h0
      have hx : ρ (110 + 10 * t) ∈ qL ρ t := by rw [hrest]; exact List.mem_cons_self
      have hxs := (h.2 t ht).2.2.2.1 _ hx
      have hx1 := ((h.2 t ht).2.2.1 _ hxs).mpr hx
      have es : backR t ρ (48 + 10 * t + i) = if i = ρ (110 + 10 * t) then 0 else ρ (48 + 10 * t + i) := by
        unfold backR
        rw [if_neg h0]
        by_cases q : i = ρ (110 + 10 * t)
        · rw [if_pos q, q, va_at_eq]
        · rw [if_neg q, va_at_ne (by omega), leaveR_lo ht (by omega)]
      rw [es]
      by_cases q : i = ρ (110 + 10 * t)
      · rw [if_pos q, if_neg (by decide), q, if_pos hx1]
      · rw [if_neg q]
