theorem xwR_at (M : xMem) (k : Nat) (f : Nat → Int32) : (xwR M k f).1 k = f := by simp [xwR, va_up]
theorem xwR_ne {M : xMem} {k c : Nat} {f : Nat → Int32} (h : c ≠ k) : (xwR M k f).1 c = M.1 c := by simp [xwR, va_up, h]
theorem xwI_c {M : xMem} {k j c : Nat} {v : Int32} (h : c ≠ k) : (xwI M k j v).1 c = M.1 c := xwR_ne h
theorem Fi.wR {P : Nat → Prop} {M M1 : xMem} {k : Nat} {f : Nat → Int32} (h : Fi P M M1) (hk : P k) : Fi P M (xwR M1 k f) := by
  refine ⟨fun c hc => ?_, h.2⟩
  have e : c ≠ k := fun q => hc (q ▸ hk)
  rw [← h.1 c hc]
  exact xwR_ne e
/-- what a step on a side keeps: its own scalars but 'outs', other cells -/
def sdK (M M' : xMem) (k : Nat) : Prop := Fi (sdC k) M M' ∧ ∀ j, j ≠ 5 → M'.1 k j = M.1 k j
theorem sdK.trans {M M1 M2 : xMem} {k : Nat} (h1 : sdK M M1 k) (h2 : sdK M1 M2 k) : sdK M M2 k := ⟨h1.1.trans h2.1, fun j hj => (h2.2 j hj).trans (h1.2 j hj)⟩
theorem sdK.refl (M : xMem) (k : Nat) : sdK M M k := ⟨Fi.refl _ _, fun _ _ => rfl⟩
theorem s_leaveQueue {M : xMem} {k t i : Nat} {ρ : Nat → Nat} (hk : xkd k = 7) (hS : SdR M k t ρ) (ht : t < 2) (hR : RW ρ) (hi : i < 10) : ∃ M', fX7_leaveQueue k (nI i) M = some M' ∧ SdR M' k t (leaveR t i ρ) ∧ sdK M M' k := by
  obtain ⟨f, h1, h2⟩ := s_leave_l hk hS ht hR hi (fun v8 v9 M10 => xLt (xwI M10 k 5 v8) fun M11 => some M11)
  have hq := (hR.q ht).1
  have hr := hR.m ht
  refine ⟨xwI (xwR M (k + 4) f) k 5 (nI ((qL ρ t).filter (· != i)).length), ?_, ?_, ?_⟩
  · unfold fX7_leaveQueue
    rw [h1, eLt]
  · obtain ⟨a, b, c, d, g⟩ := hS
    have x1 : leaveR t i ρ (1 + t) = ρ (1 + t) := leaveR_lo ht (by omega)
    have x2 : leaveR t i ρ (108 + t) = ((qL ρ t).filter (· != i)).length := va_at_eq
    refine ⟨?_, ?_, fun j hj => ?_, fun j hj hj' => ?_, fun j hj => ?_⟩
    · rw [x1, xwI_ne (by omega), xwR_ne (by omega)]; exact a
    · rw [x2, xwI_at]
    · rw [x1] at hj
      rw [leaveR_lo ht (by omega), leaveR_lo ht (by omega), leaveR_lo ht (by omega), xwI_c (by omega), xwI_c (by omega), xwI_c (by omega), xwR_ne (by omega), xwR_ne (by omega), xwR_ne (by omega)]
      exact c j hj
    · rw [x1] at hj
      rw [xwI_c (by omega), xwR_ne (by omega)]
      exact d j hj hj'
    · rw [xwI_c (by omega), xwR_at]
      have hx := qL_at hj
      rw [qL_leave ht] at hx
      exact h2 j _ hx
  · refine ⟨((Fi.refl _ M).wR (by unfold sdC; omega)).wI (by unfold sdC; omega), fun j hj => ?_⟩
    rw [xwI_ne (Or.inr hj), xwR_ne (by omega)]
/-- one player's state is written -/
theorem SdR.st {M : xMem} {k t i v : Nat} {ρ σ : Nat → Nat} (hS : SdR M k t ρ) (hi : i < ρ (1 + t)) (hr : ρ (1 + t) ≤ 10) (hq : ρ (108 + t) ≤ 10) (hv : σ (48 + 10 * t + i) = v)
    (e : ∀ j, j ≠ 48 + 10 * t + i → (j = 1 + t ∨ j = 108 + t ∨ (48 + 10 * t ≤ j ∧ j < 58 + 10 * t) ∨ (68 + 10 * t ≤ j ∧ j < 78 + 10 * t) ∨ (88 + 10 * t ≤ j ∧ j < 98 + 10 * t) ∨ (110 + 10 * t ≤ j ∧ j < 120 + 10 * t)) → σ j = ρ j) (ht : t < 2) : SdR (xwI M (k + 1) i (nI v)) k t σ := by
  obtain ⟨a, b, c, d, g⟩ := hS
  have x1 : σ (1 + t) = ρ (1 + t) := e _ (by omega) (by omega)
  have x2 : σ (108 + t) = ρ (108 + t) := e _ (by omega) (by omega)
  refine ⟨by rw [x1, xwI_c (by omega)]; exact a, by rw [x2, xwI_c (by omega)]; exact b, fun j hj => ?_, fun j hj hj' => ?_, fun j hj => ?_⟩
  · rw [x1] at hj
    rw [xwI_c (c := k + 2) (by omega), xwI_c (c := k + 3) (by omega), e (68 + 10 * t + j) (by omega) (by omega), e (88 + 10 * t + j) (by omega) (by omega)]
    refine ⟨?_, (c j hj).2⟩
    by_cases q : j = i
    · subst q; rw [xwI_at, hv]
    · rw [xwI_ne (by omega), e _ (by omega) (by omega)]; exact (c j hj).1
  · rw [x1] at hj
    rw [xwI_ne (by omega)]; exact d j hj hj'
  · rw [x2] at hj
    rw [xwI_c (by omega), e _ (by omega) (by omega)]; exact g j hj
theorem SdR.wt {M : xMem} {k t i v : Nat} {ρ σ : Nat → Nat} (hS : SdR M k t ρ) (hi : i < ρ (1 + t)) (hr : ρ (1 + t) ≤ 10) (hq : ρ (108 + t) ≤ 10) (hv : σ (68 + 10 * t + i) = v)
    (e : ∀ j, j ≠ 68 + 10 * t + i → (j = 1 + t ∨ j = 108 + t ∨ (48 + 10 * t ≤ j ∧ j < 58 + 10 * t) ∨ (68 + 10 * t ≤ j ∧ j < 78 + 10 * t) ∨ (88 + 10 * t ≤ j ∧ j < 98 + 10 * t) ∨ (110 + 10 * t ≤ j ∧ j < 120 + 10 * t)) → σ j = ρ j) (ht : t < 2) : SdR (xwI M (k + 2) i (nI v)) k t σ := by
  obtain ⟨a, b, c, d, g⟩ := hS
  have x1 : σ (1 + t) = ρ (1 + t) := e _ (by omega) (by omega)
  have x2 : σ (108 + t) = ρ (108 + t) := e _ (by omega) (by omega)
  refine ⟨by rw [x1, xwI_c (by omega)]; exact a, by rw [x2, xwI_c (by omega)]; exact b, fun j hj => ?_, fun j hj hj' => ?_, fun j hj => ?_⟩
  · rw [x1] at hj
    rw [xwI_c (c := k + 1) (by omega), xwI_c (c := k + 3) (by omega), e (48 + 10 * t + j) (by omega) (by omega), e (88 + 10 * t + j) (by omega) (by omega)]
    refine ⟨(c j hj).1, ?_, (c j hj).2.2⟩
    by_cases q : j = i
    · subst q; rw [xwI_at, hv]
    · rw [xwI_ne (by omega), e _ (by omega) (by omega)]; exact (c j hj).2.1
  · rw [x1] at hj
    rw [xwI_c (by omega)]; exact d j hj hj'
  · rw [x2] at hj
    rw [xwI_c (by omega), e _ (by omega) (by omega)]; exact g j hj
theorem sdK.cell {M M1 : xMem} {k c j : Nat} {v : Int32} (h : sdK M M1 k) (h1 : k < c) (h2 : c < k + 5) : sdK M (xwI M1 c j v) k :=
  ⟨h.1.wI (by unfold sdC; omega), fun i hi => by rw [xwI_c (by omega)]; exact h.2 i hi⟩
theorem s_comeBack {M : xMem} {k t : Nat} {ρ : Nat → Nat} (hk : xkd k = 7) (hS : SdR M k t ρ) (ht : t < 2) (hR : RT ρ) : ∃ M', fX7_comeBack k M = some (nI (backN t ρ), M') ∧ SdR M' k t (backR t ρ) ∧ sdK M M' k := by
  obtain ⟨⟨e0, -, -, e3⟩, l1, -, -, l4⟩ := sd_rf hk
  have hq := hR.1.q ht
  have hq1 := hq.1
  have hr := hR.1.m ht
  by_cases h0 : ρ (108 + t) = 0
  · refine ⟨M, ?_, by rw [backR_0 h0]; exact hS, sdK.refl _ _⟩
    unfold fX7_comeBack
    rw [hS.2.1, h0]
    refine sT (by decide) ?_
    unfold backN
    rw [if_pos h0]
  · obtain ⟨rest, hrest⟩ := qL_head h0
    have hx : ρ (110 + 10 * t) ∈ qL ρ t := by rw [hrest]; exact List.mem_cons_self
    have hxs := (hR.2 t ht).2.2.2.1 _ hx
    obtain ⟨M1, f1, S1, K1⟩ := s_leaveQueue (i := ρ (110 + 10 * t)) hk hS ht hR.1 (by omega)
    have xq : leaveR t (ρ (110 + 10 * t)) ρ (108 + t) ≤ 10 := by
      have := filter_take_le (qL ρ t) (ρ (108 + t)) (ρ (110 + 10 * t))
      rw [List.take_of_length_le (by rw [qL_len]; exact Nat.le_refl _)] at this
      have e : leaveR t (ρ (110 + 10 * t)) ρ (108 + t) = ((qL ρ t).filter (· != ρ (110 + 10 * t))).length := va_at_eq
      omega
    have x1 : leaveR t (ρ (110 + 10 * t)) ρ (1 + t) = ρ (1 + t) := leaveR_lo ht (by omega)
    refine ⟨xwI M1 (k + 1) (ρ (110 + 10 * t)) (nI 0), ?_, ?_, K1.cell (by omega) (by omega)⟩
    · unfold fX7_comeBack
      rw [hS.2.1, e0, e3, l1, l4]
      refine sF (eN0 (by omega) h0) (sGb 0 rfl (by decide) (by decide) ?_)
      have hv : M.1 (k + 4) 0 = nI (ρ (110 + 10 * t)) := hS.2.2.2.2 0 (by omega)
      rw [eCl (by decide), hv, eLt, f1, eBv]
      refine sGb _ rfl (by omega) (by decide) ?_
      rw [eCl (by omega), eLt]
      unfold backN
      rw [if_neg h0]
    · refine S1.st (by rw [x1]; exact hxs) (by rw [x1]; exact hr) xq ?_ (fun j hj _ => ?_) ht
      · unfold backR
        rw [if_neg h0, va_at_eq]
      · unfold backR
        rw [if_neg h0, va_at_ne hj]
theorem s_putOff {M : xMem} {k t i : Nat} {ρ : Nat → Nat} (hk : xkd k = 7) (hS : SdR M k t ρ) (ht : t < 2) (hR : RW ρ) (hi : i < ρ (1 + t)) : ∃ M', fX7_putOff k (nI i) M = some M' ∧ SdR M' k t (va_up (va_up (leaveR t i ρ) (48 + (10 * t + i)) 3) (68 + (10 * t + i)) 6) ∧ sdK M M' k := by
  obtain ⟨⟨e0, e1, -, -⟩, l1, l2, -, -⟩ := sd_rf hk
  have hr := hR.m ht
  have hq1 := (hR.q ht).1
  obtain ⟨M1, f1, S1, K1⟩ := s_leaveQueue (i := i) hk hS ht hR (by omega)
  have xq : leaveR t i ρ (108 + t) ≤ 10 := by
    have := filter_take_le (qL ρ t) (ρ (108 + t)) i
    rw [List.take_of_length_le (by rw [qL_len]; exact Nat.le_refl _)] at this
    have e : leaveR t i ρ (108 + t) = ((qL ρ t).filter (· != i)).length := va_at_eq
    omega
  have x1 : leaveR t i ρ (1 + t) = ρ (1 + t) := leaveR_lo ht (by omega)
  refine ⟨xwI (xwI M1 (k + 1) i (nI 3)) (k + 2) i (nI 6), ?_, ?_, (K1.cell (by omega) (by omega)).cell (by omega) (by omega)⟩
  · unfold fX7_putOff
    rw [f1, eBv, e0, e1, l1, l2]
    refine sGb i rfl (by omega) (by decide) ?_
    rw [eCl (by omega), eLt]
    refine sGb i rfl (by omega) (by decide) ?_
    rfl
  · have S2 : SdR (xwI M1 (k + 1) i (nI 3)) k t (va_up (leaveR t i ρ) (48 + (10 * t + i)) 3) := by
      refine S1.st (by rw [x1]; exact hi) (by rw [x1]; exact hr) xq ?_ (fun j hj _ => va_at_ne (by omega)) ht
      rw [show 48 + 10 * t + i = 48 + (10 * t + i) by omega, va_at_eq]
    refine S2.wt (by rw [va_at_ne (by omega), x1]; exact hi) (by rw [va_at_ne (by omega), x1]; exact hr) (by rw [va_at_ne (by omega)]; exact xq) ?_ (fun j hj _ => va_at_ne (by omega)) ht
    rw [show 68 + 10 * t + i = 68 + (10 * t + i) by omega, va_at_eq]
theorem s_sendOff {M : xMem} {k t i : Nat} {ρ : Nat → Nat} (hk : xkd k = 7) (hS : SdR M k t ρ) (ht : t < 2) (hR : RW ρ) (hi : i < ρ (1 + t)) : ∃ M', fX7_sendOff k (nI i) M = some M' ∧ SdR M' k t (va_up (va_up (leaveR t i ρ) (48 + (10 * t + i)) 4) (68 + (10 * t + i)) 0) ∧ sdK M M' k := by
  obtain ⟨⟨e0, e1, -, -⟩, l1, l2, -, -⟩ := sd_rf hk
  have hr := hR.m ht
  have hq1 := (hR.q ht).1
  obtain ⟨M1, f1, S1, K1⟩ := s_leaveQueue (i := i) hk hS ht hR (by omega)
  have xq : leaveR t i ρ (108 + t) ≤ 10 := by
    have := filter_take_le (qL ρ t) (ρ (108 + t)) i
    rw [List.take_of_length_le (by rw [qL_len]; exact Nat.le_refl _)] at this
    have e : leaveR t i ρ (108 + t) = ((qL ρ t).filter (· != i)).length := va_at_eq
    omega
  have x1 : leaveR t i ρ (1 + t) = ρ (1 + t) := leaveR_lo ht (by omega)
  refine ⟨xwI (xwI M1 (k + 1) i (nI 4)) (k + 2) i (nI 0), ?_, ?_, (K1.cell (by omega) (by omega)).cell (by omega) (by omega)⟩
  · unfold fX7_sendOff
    rw [f1, eBv, e0, e1, l1, l2]
    refine sGb i rfl (by omega) (by decide) ?_
    rw [eCl (by omega), eLt]
    refine sGb i rfl (by omega) (by decide) ?_
    rfl
  · have S2 : SdR (xwI M1 (k + 1) i (nI 4)) k t (va_up (leaveR t i ρ) (48 + (10 * t + i)) 4) := by
      refine S1.st (by rw [x1]; exact hi) (by rw [x1]; exact hr) xq ?_ (fun j hj _ => va_at_ne (by omega)) ht
      rw [show 48 + 10 * t + i = 48 + (10 * t + i) by omega, va_at_eq]
    refine S2.wt (by rw [va_at_ne (by omega), x1]; exact hi) (by rw [va_at_ne (by omega), x1]; exact hr) (by rw [va_at_ne (by omega)]; exact xq) ?_ (fun j hj _ => va_at_ne (by omega)) ht
    rw [show 68 + 10 * t + i = 68 + (10 * t + i) by omega, va_at_eq]
