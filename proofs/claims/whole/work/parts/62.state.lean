/-! ===== the class: a card ===== -/
theorem cd_ne {t i c : Nat} {ρ : Nat → Nat} (hR : RW ρ) (ht : t < 2) (hi : i < 10) {j : Nat} (h : j < 48 ∨ 130 ≤ j ∨ tmP (1 - t) j) : cd2 t i c ρ j = ρ j := by
  have hq := (hR.q ht).1
  have h1 : ∀ j, j ≠ 88 + (10 * t + i) → cd1 t i c ρ j = ρ j := fun j hj => by
    unfold cd1
    split
    · exact va_at_ne hj
    · rfl
  have hq1 : cd1 t i c ρ (108 + t) = ρ (108 + t) := h1 _ (by omega)
  unfold tmP at h
  unfold cd2
  split
  · rw [va_at_ne (by omega), va_at_ne (by omega), leaveR_ne (by omega) (by omega)]
    exact h1 _ (by omega)
  · exact h1 _ (by omega)
theorem TI.off {ρ σ : Nat → Nat} {t i v w : Nat} (h : TI ρ t) (ht : t < 2) (hr : ρ (1 + t) ≤ 10) (hi : i < ρ (1 + t)) (hs : ρ (48 + 10 * t + i) ≠ 2) (hv : (v = 3) ∨ (v = 4 ∧ w = 0))
    (e1 : σ (1 + t) = ρ (1 + t)) (eq : qL σ t = (qL ρ t).filter (· != i)) (es : ∀ j, j < ρ (1 + t) → σ (48 + 10 * t + j) = if j = i then v else ρ (48 + 10 * t + j)) (ew : ∀ j, j < ρ (1 + t) → σ (68 + 10 * t + j) = if j = i then w else ρ (68 + 10 * t + j)) : TI σ t := by
  obtain ⟨a, b, c, d, f, g⟩ := h
  refine ⟨by rw [e1]; exact a, by rw [eq]; exact b.filter _, fun j hj => ?_, fun x hx => ?_, ?_, fun j hj hj3 => ?_⟩
  · rw [e1] at hj
    rw [es j hj, eq, List.mem_filter]
    by_cases q : j = i
    · rw [if_pos q]; simp [q]; omega
    · rw [if_neg q, c j hj]; simp [q]
  · rw [eq] at hx
    rw [e1]
    exact d x (List.mem_filter.mp hx).1
  · rw [← f]
    exact cnt_up hi (by omega) hs e1 es
  · rw [e1] at hj
    rw [ew j hj]
    rw [es j hj] at hj3
    by_cases q : j = i
    · rw [if_pos q] at hj3 ⊢; omega
    · rw [if_neg q] at hj3 ⊢
      exact g j hj hj3
theorem RT.card2 {ρ : Nat → Nat} {t i c : Nat} (h : RT ρ) (ht : t < 2) (hi : i < ρ (1 + t)) (hs : ρ (48 + 10 * t + i) ≠ 2) : RT (cd2 t i c ρ) := by
  have hr := h.1.m ht
  have hq := (h.1.q ht).1
  have h1 : ∀ j, j ≠ 88 + (10 * t + i) → cd1 t i c ρ j = ρ j := fun j hj => by
    unfold cd1
    split
    · exact va_at_ne hj
    · rfl
  have R1 : RT (cd1 t i c ρ) := h.congr (fun j _ hj => h1 j (by omega))
  refine ⟨(cd2_ok h.1 ht (by omega)).1, fun u hu => ?_⟩
  by_cases q : u = t
  · subst q
    unfold cd2
    split
    · generalize hv : (if cdO u i c ρ = 1 then 3 else 4) = v
      generalize hw : (if cdO u i c ρ = 1 then 6 else 0) = w
      have hvw : v = 3 ∨ (v = 4 ∧ w = 0) := by
        rw [← hv, ← hw]; split <;> simp
      generalize cd1 u i c ρ = σ at *
      have s1 : σ (1 + u) = ρ (1 + u) := h1 _ (by omega)
      have l1 : leaveR u i σ (1 + u) = σ (1 + u) := leaveR_lo hu (by omega)
      refine TI.off (i := i) (v := v) (w := w) (R1.2 u hu) hu (by rw [s1]; exact hr) (by rw [s1]; exact hi) (by rw [h1 _ (by omega)]; exact hs) hvw ?_ ?_ (fun j hj => ?_) (fun j hj => ?_)
      · rw [va_at_ne (by omega), va_at_ne (by omega), l1]
      · rw [← qL_leave hu]
        have hq2 : leaveR u i σ (108 + u) ≤ 10 := by
          have := filter_take_le (qL σ u) (σ (108 + u)) i
          rw [List.take_of_length_le (by rw [qL_len]; exact Nat.le_refl _)] at this
          have e : leaveR u i σ (108 + u) = ((qL σ u).filter (· != i)).length := va_at_eq
          have := (R1.1.q hu).1
          omega
        exact qL_congr (by rw [va_at_ne (by omega), va_at_ne (by omega)]) (fun j hj => by rw [va_at_ne (by omega), va_at_ne (by omega)])
      · rw [s1] at hj
        rw [va_at_ne (by omega)]
        by_cases e : j = i
        · rw [if_pos e, e, show 48 + 10 * u + i = 48 + (10 * u + i) by omega, va_at_eq]
        · rw [if_neg e, va_at_ne (by omega), leaveR_lo hu (by omega)]
      · rw [s1] at hj
        by_cases e : j = i
        · rw [if_pos e, e, show 68 + 10 * u + i = 68 + (10 * u + i) by omega, va_at_eq]
        · rw [if_neg e, va_at_ne (by omega), va_at_ne (by omega), leaveR_lo hu (by omega)]
    · exact R1.2 u hu
  · have q' : u = 1 - t := by omega
    subst q'
    exact (h.2 _ hu).congr (h.1.m hu) (fun j hj => cd_ne h.1 ht (by omega) (Or.inr (Or.inr (by unfold tmP; omega))))
theorem cd3_lo {t i c : Nat} {ρ : Nat → Nat} {j : Nat} (ht : t < 2) (hj : j < 130) : cd3 t i c ρ j = allR t (cd2 t i c ρ) j := by
  unfold cd3
  split
  · unfold addR; exact va_at_ne (by omega)
  · rfl
theorem RT.card {ρ : Nat → Nat} {t i c : Nat} (h : RT ρ) (ht : t < 2) (hi : i < ρ (1 + t)) (hs : ρ (48 + 10 * t + i) ≠ 2) : RT (cardR t i c ρ) := by
  have h2 := (h.card2 (c := c) ht hi hs).all ht
  exact RT.line (h2.congr (fun j hj _ => cd3_lo ht hj))
theorem RT.change {ρ : Nat → Nat} {t f u : Nat} (h : RT ρ) (ht : t < 2) (hf : f < ρ (1 + t)) (hu : u < ρ (1 + t)) (hf0 : ρ (48 + 10 * t + f) = 0) (hu2 : ρ (48 + 10 * t + u) = 2) : RT (changeR t f u ρ) := by
  have hr := h.1.m ht
  have hfu : f ≠ u := fun q => by rw [q] at hf0; omega
  have e : ∀ j, j ≠ 48 + 10 * t + f → j ≠ 48 + 10 * t + u → va_up (va_up ρ (48 + 10 * t + f) 2) (48 + 10 * t + u) 0 j = ρ j := fun j h1 h2 => by rw [va_at_ne h2, va_at_ne h1]
  have eu : va_up (va_up ρ (48 + 10 * t + f) 2) (48 + 10 * t + u) 0 (48 + 10 * t + u) = 0 := va_at_eq
  have ef : va_up (va_up ρ (48 + 10 * t + f) 2) (48 + 10 * t + u) 0 (48 + 10 * t + f) = 2 := by rw [va_at_ne (by omega), va_at_eq]
  have key : RT (va_up (va_up ρ (48 + 10 * t + f) 2) (48 + 10 * t + u) 0) := by
    refine ⟨⟨by rw [e _ (by omega) (by omega)]; exact h.1.1, fun w hw => ?_⟩, fun w hw => ?_⟩
    · obtain ⟨a, b, c⟩ := h.1.2 w hw
      have c1 := c.1
      refine ⟨by rw [e _ (by omega) (by omega)]; exact a, fun i hi => ?_, ?_⟩
      · rw [e (68 + 10 * w + i) (by omega) (by omega)]
        by_cases q1 : 48 + 10 * w + i = 48 + 10 * t + u
        · rw [q1, eu]; exact ⟨by decide, (b i hi).2.1, by omega⟩
        · by_cases q2 : 48 + 10 * w + i = 48 + 10 * t + f
          · rw [q2, ef]; exact ⟨by decide, (b i hi).2.1, by omega⟩
          · rw [e _ q2 q1]; exact b i hi
      · have e1 : qL (va_up (va_up ρ (48 + 10 * t + f) 2) (48 + 10 * t + u) 0) w = qL ρ w := qL_congr (e _ (by omega) (by omega)) (fun j hj => e _ (by omega) (by omega))
        exact qOk_of (by rw [e1, qL_len]; exact c.1) (by rw [e1]; exact c.2)
    · by_cases q : w = t
      · subst q
        have h7 := (h.2 w hw).q7
        obtain ⟨a, b, c, d, g, gg⟩ := h.2 w hw
        have s1 : va_up (va_up ρ (48 + 10 * w + f) 2) (48 + 10 * w + u) 0 (1 + w) = ρ (1 + w) := e _ (by omega) (by omega)
        have e1 : qL (va_up (va_up ρ (48 + 10 * w + f) 2) (48 + 10 * w + u) 0) w = qL ρ w := qL_congr (e _ (by omega) (by omega)) (fun j hj => e _ (by omega) (by omega))
        refine ⟨by rw [s1]; exact a, by rw [e1]; exact b, fun j hj => ?_, fun x hx => by rw [e1] at hx; rw [s1]; exact d x hx, ?_, fun j hj hj3 => ?_⟩
        · rw [s1] at hj
          rw [e1, ← c j hj]
          by_cases q1 : j = u
          · rw [q1, eu]; omega
          · by_cases q2 : j = f
            · rw [q2, ef]; omega
            · rw [e _ (by omega) (by omega)]
        · rw [← g]
          unfold cntR
          rw [s1]
          -- one leaves, one comes
          have sw : ∀ n, sumR (fun i => if va_up (va_up ρ (48 + 10 * w + f) 2) (48 + 10 * w + u) 0 (48 + 10 * w + i) = 2 then 0 else 1) n + (if f < n then 1 else 0) = sumR (fun i => if ρ (48 + 10 * w + i) = 2 then 0 else 1) n + (if u < n then 1 else 0) := by
            intro n
            induction n with
            | zero => rfl
            | succ n ih =>
              unfold sumR
              by_cases q1 : n = u
              · rw [q1, eu, hu2]
                rw [q1] at ih
                by_cases q2 : f < u
                · simp [q2, show f < u + 1 by omega] at ih ⊢; omega
                · simp [q2, show ¬ f < u + 1 by omega] at ih ⊢; omega
              · by_cases q2 : n = f
                · rw [q2, ef, hf0]
                  rw [q2] at ih
                  by_cases q3 : u < f
                  · simp [q3, show u < f + 1 by omega] at ih ⊢; omega
                  · simp [q3, show ¬ u < f + 1 by omega] at ih ⊢; omega
                · rw [e _ (by omega) (by omega)]
                  have x1 : (if f < n + 1 then 1 else 0) = if f < n then 1 else 0 := by
                    by_cases z : f < n
                    · rw [if_pos z, if_pos (by omega)]
                    · rw [if_neg z, if_neg (by omega)]
                  have x2 : (if u < n + 1 then 1 else 0) = if u < n then 1 else 0 := by
                    by_cases z : u < n
                    · rw [if_pos z, if_pos (by omega)]
                    · rw [if_neg z, if_neg (by omega)]
                  rw [x1, x2]
                  omega
          have := sw (ρ (1 + w))
          rw [if_pos hf, if_pos hu] at this
          omega
        · rw [s1] at hj
          rw [e (68 + 10 * w + j) (by omega) (by omega)]
          by_cases q1 : j = u
          · rw [q1]; exact gg u hu (by omega)
          · by_cases q2 : j = f
            · rw [q2]; exact gg f hf (by omega)
            · rw [e _ (by omega) (by omega)] at hj3
              exact gg j hj hj3
      · exact (h.2 w hw).congr (h.1.m hw) (fun j hj => e _ (by omega) (by omega))
  exact RT.line (key.lo (Or.inl (by omega)))
theorem RT.half {ρ : Nat → Nat} (h : RT ρ) : RT (halfR ρ) := RT.line ((((((h.lo (Or.inl (by decide))).turn (by decide)).lo (Or.inl (by decide))).lo (Or.inl (by decide))).lo (Or.inl (by decide))).lo (Or.inl (by decide)))
theorem SdR.gr {M : xMem} {k t i v : Nat} {ρ σ : Nat → Nat} (hS : SdR M k t ρ) (hi : i < ρ (1 + t)) (hr : ρ (1 + t) ≤ 10) (hq : ρ (108 + t) ≤ 10) (hv : σ (88 + 10 * t + i) = v)
    (e : ∀ j, j ≠ 88 + 10 * t + i → tmP t j → σ j = ρ j) (ht : t < 2) : SdR (xwI M (k + 3) i (nI v)) k t σ := by
  obtain ⟨a, b, c, d, g⟩ := hS
  have x1 : σ (1 + t) = ρ (1 + t) := e _ (by omega) (by unfold tmP; omega)
  have x2 : σ (108 + t) = ρ (108 + t) := e _ (by omega) (by unfold tmP; omega)
  refine ⟨by rw [x1, xwI_c (by omega)]; exact a, by rw [x2, xwI_c (by omega)]; exact b, fun j hj => ?_, fun j hj hj' => ?_, fun j hj => ?_⟩
  · rw [x1] at hj
    rw [xwI_c (c := k + 1) (by omega), xwI_c (c := k + 2) (by omega), e (48 + 10 * t + j) (by omega) (by unfold tmP; omega), e (68 + 10 * t + j) (by omega) (by unfold tmP; omega)]
    refine ⟨(c j hj).1, (c j hj).2.1, ?_⟩
    by_cases q : j = i
    · subst q; rw [xwI_at, hv]
    · rw [xwI_ne (by omega), e _ (by omega) (by unfold tmP; omega)]; exact (c j hj).2.2
  · rw [x1] at hj
    rw [xwI_c (by omega)]; exact d j hj hj'
  · rw [x2] at hj
    rw [xwI_c (by omega), e _ (by omega) (by unfold tmP; omega)]; exact g j hj
theorem nI_rem2 {a : Nat} (h : a < 2147483648) : nI a - nI a / nI 2 * nI 2 = nI (a % 2) := pk_rem h (by decide) (by decide)
