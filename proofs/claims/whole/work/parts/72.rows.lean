/-! ===== what holds of rows goes on ===== -/
theorem rd11_gr {r s b tk : Nat} {tl : List Nat} {ρ : Nat → Nat} (h : RT ρ) (hm : rdMay ρ r s tk tl) {j : Nat} (hj : 88 ≤ j) (hj2 : j < 108) : rd11 r s b tk tl ρ j = ρ j := by
  have h28 := h.1.1
  have hl := hm.len h
  have hm1 := hm.1
  have hr0 := h.1.m h28
  have hro := h.1.m (t := 1 - ρ 28) (by omega)
  have hx : ∀ x ∈ tl, x < 10 := fun x hx => by have := (hm.2.2.2.1 x hx).1; omega
  have hq := (h.2 _ h28).q7
  have e0 : recR r s b tk tl ρ (108 + (1 - ρ 28)) = ρ (108 + (1 - ρ 28)) := rec_lo (by omega)
  have Q1 := rd1_q (r := r) (s := s) (b := b) (tk := tk) h.1 hx (by omega)
  have e1 : rd1 r s b tk tl ρ j = ρ j := by
    unfold rd1; split
    · rw [outsR_ne (by omega) (by omega) (by omega) (by omega) tl hx (by omega)]; exact rec_lo (by omega)
    · exact rec_lo (by omega)
  have e2 : rd2 r s b tk tl ρ j = ρ j := by
    rw [← e1]; unfold rd2; split
    · exact outR_ne (by omega) (by omega) (by omega)
    · rfl
  have e3 : rd3 r s b tk tl ρ j = ρ j := by
    rw [← e2]; unfold rd3; split
    · unfold addR; exact va_at_ne (by omega)
    · rfl
  have e4 : rd4 r s b tk tl ρ j = ρ j := by
    rw [← e3]; unfold rd4; split
    · exact backsR_ne h28 (by omega) (by omega) (by omega) _ (rt3 h hm).1
    · rfl
  have e5 : rd5 r s b tk tl ρ j = ρ j := by
    rw [← e4]; unfold rd5; split
    · unfold addR; exact va_at_ne (by omega)
    · rfl
  have e6 : rd6 r s b tk tl ρ j = ρ j := by
    rw [← e5]; unfold rd6; split
    · unfold addR; exact va_at_ne (by split <;> omega)
    · rfl
  have e7 : rd7 r s b tk tl ρ j = ρ j := by
    rw [← e6]; unfold rd7; split
    · unfold addR; exact va_at_ne (by omega)
    · rfl
  have e8 : rd8 r s b tk tl ρ j = ρ j := by
    rw [← e7]; unfold rd8; split
    · exact backR_ne ((rt7 h hm).1.q (by omega)) (by omega) (by omega) (by omega)
    · rfl
  have R8' := (rt8' (b := b) h hm).1
  have e9 : rd9 r s b tk tl ρ j = ρ j := by
    unfold rd9
    rw [waitsR_ne (R8'.m (t := 0) (by decide)) (R8'.m (t := 1) (by decide)) (by omega), va_at_ne (by omega), e8]
  rw [← e9]
  unfold rd11
  rw [allR_ne (rt10 h hm).1 h28 (by omega) (by omega) (by omega) (by omega)]
  unfold rd10
  exact allR_ne (rt9 h hm).1 (by omega) (by omega) (by omega) (by omega) (by omega)
theorem rq_core {ρ : Nat → Nat} {k w : Nat} : rq (coreR ρ) k w = rq ρ k w := by
  unfold rq coreR
  rw [if_neg (by omega)]
/-- a raid that may be made: its numbers -/
def rdOK (ρ : Nat → Nat) (r s b tk : Nat) (tl : List Nat) : Prop := rdMay ρ r s tk tl ∧ r < 10 ∧ s < 5 ∧ b < 2 ∧ tk < 10 ∧ (s ≠ 3 → tk = 0) ∧ (s ≠ 1 → tl = []) ∧ (s = 2 → b = 0)
theorem RI.raid {ρ : Nat → Nat} {r s b tk : Nat} {tl : List Nat} (h : RI ρ) (hm : rdOK ρ r s b tk tl) (h25 : ρ 25 < 200) : RI (raidsR r s b tk tl ρ) := by
  obtain ⟨⟨hT, hB, hC, hG, hZ⟩, -⟩ := h
  obtain ⟨hm, hr, hs, hb, htk, h3, h1, hb2⟩ := hm
  have h28 := hT.1.1
  obtain ⟨z1, z2⟩ := raids_sc (b := b) hT hm hr
  have lo : ∀ j, j < 36 → j ≠ 25 → j ≠ 28 → j ≠ 29 → j ≠ 30 + ρ 28 → raidsR r s b tk tl ρ j = ρ j := fun j a1 a2 a3 a4 a5 => raids_lo hT hm hr a1 a2 a3 a4 a5
  have hc := rc_new hT hm hr hs hb htk h3 h1 hb2
  have n : ∀ w, w < 15 → _ := fun w hw => rq_new (b := b) hT hm hr hw
  have hown : ownR r s b tk tl ρ ≤ 13 := by
    have := hc.2.2.2.2.2.2.2.2.2.2.2.1
    rw [n 3 (by decide)] at this
    exact this
  have hoth : othR r s b tk tl ρ ≤ 4 := by
    have := hc.2.2.2.2.2.2.2.2.2.2.2.2.1
    rw [n 4 (by decide)] at this
    exact this
  have hsc : ∀ t, t < 2 → scR t (raidsR r s b tk tl ρ) = scR t ρ + if t = ρ 28 then ownR r s b tk tl ρ else othR r s b tk tl ρ := fun t ht => by
    by_cases q : t = ρ 28
    · rw [if_pos q, q]; exact z1
    · rw [if_neg q, show t = 1 - ρ 28 by omega]; exact z2
  obtain ⟨b1, b2, b3, b4, b5⟩ := hB
  have old : ∀ k, k < ρ 25 → ∀ w, w < 15 → rq (raidsR r s b tk tl ρ) k w = rq ρ k w := fun k hk w hw => rq_old hT hm hr hk hw
  refine ⟨⟨rtR hT hm, ⟨?_, ?_, ?_, ?_, fun t ht => ?_⟩, fun k hk => ?_, fun t ht => ?_, fun h0 => ?_⟩, fun _ => ⟨?_, ?_, ?_, fun t ht w hw => ?_⟩⟩
  · rw [raids_25]; omega
  · rw [lo 26 (by decide) (by decide) (by decide) (by decide) (by omega)]; exact b2
  · rw [lo 27 (by decide) (by decide) (by decide) (by decide) (by omega)]; exact b3
  · rw [raids_29]; exact Nat.le_refl _
  · obtain ⟨x1, x2, x3, x4, x5⟩ := b5 t ht
    rw [raids_25, lo 26 (by decide) (by decide) (by decide) (by decide) (by omega)]
    refine ⟨?_, ?_, ?_, ?_, fun i hi => ?_⟩
    · by_cases q : t = ρ 28
      · subst q
        rw [raids_em h28]
        split
        · rename_i c
          have : ρ (30 + ρ 28) ≠ 2 := fun q => by
            have := c.2
            unfold muR at this
            rw [if_pos q] at this
            omega
          omega
        · decide
      · rw [lo _ (by omega) (by omega) (by omega) (by omega) (by omega)]; exact x1
    · rw [lo _ (by omega) (by omega) (by omega) (by omega) (by omega)]; exact x2
    · rw [lo _ (by omega) (by omega) (by omega) (by omega) (by omega)]; exact x3
    · rw [hsc t ht]
      split <;> omega
    · rw [raids_core (by omega) (by omega) (by omega) (by omega) (by omega), rd11_gr hT hm (by omega) (by omega)]
      exact x5 i hi
  · rw [raids_25] at hk
    by_cases q : k = ρ 25
    · exact ⟨tk, tl, by rw [q]; exact hc⟩
    · obtain ⟨tk', tl', hh⟩ := hC k (by omega)
      exact ⟨tk', tl', hh.congr (old k (by omega)) (by rw [lo 26 (by decide) (by decide) (by decide) (by decide) (by omega)]; exact Nat.le_refl _)⟩
  · rw [hsc t ht, hG t ht, raids_25]
    show _ = gsum (raidsR r s b tk tl ρ) t (ρ 25) + gnq (raidsR r s b tk tl ρ) (ρ 25) t
    rw [gsum_cong (ρ := ρ) ht old]
    unfold gnq
    rw [n 0 (by decide), n 3 (by decide), n 4 (by decide), n (13 + t) (by omega)]
    rcases (show t = 0 ∨ t = 1 by omega) with rfl | rfl
    · simp only [if_true, Nat.reduceEqDiff, if_false, Nat.reduceAdd, Nat.add_zero]
      by_cases q : ρ 28 = 0
      · rw [if_pos q, if_pos q.symm]
      · rw [if_neg q, if_neg (fun z => q z.symm)]
    · simp only [if_true, Nat.reduceEqDiff, if_false, Nat.reduceAdd, Nat.add_zero]
      by_cases q : ρ 28 = 1
      · rw [if_pos q, if_pos q.symm]
      · rw [if_neg q, if_neg (fun z => q z.symm)]
  · rw [raids_25] at h0; omega
  · exact RI0.congr ⟨hT, ⟨b1, b2, b3, b4, b5⟩, hC, hG, hZ⟩ (fun j hj => core_raids hT hm hr hj) (fun k hk w hw => by rw [rq_core]; exact old k hk w hw)
  · rw [core_raids hT hm hr (by decide), raids_25]
  · rw [core_raids hT hm hr (by decide), lo 26 (by decide) (by decide) (by decide) (by decide) (by omega)]
  · rw [core_raids hT hm hr (by omega), raids_25, Nat.add_sub_cancel]
    exact pt_new hT hm hr hs hb htk h3 h1 hb2 ht hw
theorem RI0.line {ρ : Nat → Nat} (h : RI0 ρ) (h26 : ρ 26 < 40) : RI (lineR ρ) := by
  obtain ⟨hT, hB, hC, hG, hZ⟩ := h
  have e : ∀ j, j ≠ 26 → j ≠ 29 → lineR ρ j = ρ j := fun j a1 a2 => line_ne a1 a2
  have e26 : lineR ρ 26 = ρ 26 + 1 := by unfold lineR; rw [va_at_ne (by decide), va_at_eq]
  have e29 : lineR ρ 29 = 0 := by unfold lineR; rw [va_at_eq]
  have er : ∀ k w, rq (lineR ρ) k w = rq ρ k w := fun k w => e _ (by omega) (by omega)
  obtain ⟨b1, b2, b3, b4, b5⟩ := hB
  refine ⟨⟨hT.line, ⟨by rw [e _ (by decide) (by decide)]; exact b1, by rw [e26]; omega, by rw [e _ (by decide) (by decide)]; exact b3, by rw [e29]; decide, fun t ht => ?_⟩, fun k hk => ?_, fun t ht => ?_, fun h0 t ht => ?_⟩, fun q => by rw [e29] at q; omega⟩
  · obtain ⟨x1, x2, x3, x4, x5⟩ := b5 t ht
    rw [e _ (by omega) (by omega), e _ (by omega) (by omega), e _ (by omega) (by omega), e 25 (by decide) (by decide), e26, scR_congr (ρ := ρ) (fun k hk => e _ (by omega) (by omega))]
    refine ⟨x1, x2, x3, by omega, fun i hi => ?_⟩
    rw [e _ (by omega) (by omega)]
    have := x5 i hi
    omega
  · rw [e _ (by decide) (by decide)] at hk
    obtain ⟨tk, tl, hh⟩ := hC k hk
    exact ⟨tk, tl, hh.congr (fun w _ => er k w) (by rw [e26]; omega)⟩
  · rw [e 25 (by decide) (by decide), scR_congr (ρ := ρ) (fun k hk => e _ (by omega) (by omega)), gsum_cong ht (fun k _ w _ => er k w)]
    exact hG t ht
  · rw [e _ (by decide) (by decide)] at h0
    rw [e _ (by omega) (by omega)]
    exact hZ h0 t ht
theorem RI.change {ρ : Nat → Nat} {t f u : Nat} (h : RI ρ) (ht : t < 2) (hf : f < ρ (1 + t)) (hu : u < ρ (1 + t)) (hf0 : ρ (48 + 10 * t + f) = 0) (hu2 : ρ (48 + 10 * t + u) = 2) (h26 : ρ 26 < 40) (h32 : ρ (32 + t) < 5) : RI (changeR t f u ρ) := by
  obtain ⟨⟨hT, hB, hC, hG, hZ⟩, -⟩ := h
  have hTc := hT.change ht hf hu hf0 hu2
  have hm := hT.1.m ht
  have e : ∀ j, j ≠ 32 + t → j ≠ 48 + 10 * t + f → j ≠ 48 + 10 * t + u → addR (32 + t) 1 (va_up (va_up ρ (48 + 10 * t + f) 2) (48 + 10 * t + u) 0) j = ρ j := fun j a1 a2 a3 => by
    unfold addR
    rw [va_at_ne a1, va_at_ne a3, va_at_ne a2]
  have e32 : addR (32 + t) 1 (va_up (va_up ρ (48 + 10 * t + f) 2) (48 + 10 * t + u) 0) (32 + t) = ρ (32 + t) + 1 := by
    unfold addR
    rw [va_at_eq, va_at_ne (by omega), va_at_ne (by omega)]
  have hT1 : RT (addR (32 + t) 1 (va_up (va_up ρ (48 + 10 * t + f) 2) (48 + 10 * t + u) 0)) := hTc.congr (fun k hk hk2 => (line_ne (by omega) (by omega)).symm)
  obtain ⟨b1, b2, b3, b4, b5⟩ := hB
  have R0 : RI0 (addR (32 + t) 1 (va_up (va_up ρ (48 + 10 * t + f) 2) (48 + 10 * t + u) 0)) := by
    have er : ∀ k w, rq (addR (32 + t) 1 (va_up (va_up ρ (48 + 10 * t + f) 2) (48 + 10 * t + u) 0)) k w = rq ρ k w := fun k w => e _ (by omega) (by omega) (by omega)
    refine ⟨hT1, ⟨by rw [e _ (by omega) (by omega) (by omega)]; exact b1, by rw [e _ (by omega) (by omega) (by omega)]; exact b2, by rw [e _ (by omega) (by omega) (by omega)]; exact b3, by rw [e _ (by omega) (by omega) (by omega)]; exact b4, fun v hv => ?_⟩, fun k hk => ?_, fun v hv => ?_, fun h0 v hv => ?_⟩
    · obtain ⟨x1, x2, x3, x4, x5⟩ := b5 v hv
      rw [e (30 + v) (by omega) (by omega) (by omega), e (34 + v) (by omega) (by omega) (by omega), e 25 (by omega) (by omega) (by omega), e 26 (by omega) (by omega) (by omega), scR_congr (ρ := ρ) (fun k hk => e _ (by omega) (by omega) (by omega))]
      refine ⟨x1, ?_, x3, x4, fun i hi => by rw [e _ (by omega) (by omega) (by omega)]; exact x5 i hi⟩
      by_cases q : v = t
      · rw [q, e32]; omega
      · rw [e _ (by omega) (by omega) (by omega)]; exact x2
    · rw [e _ (by omega) (by omega) (by omega)] at hk
      obtain ⟨tk, tl, hh⟩ := hC k hk
      exact ⟨tk, tl, hh.congr (fun w _ => er k w) (by rw [e _ (by omega) (by omega) (by omega)]; exact Nat.le_refl _)⟩
    · rw [e 25 (by omega) (by omega) (by omega), scR_congr (ρ := ρ) (fun k hk => e _ (by omega) (by omega) (by omega)), gsum_cong hv (fun k _ w _ => er k w)]
      exact hG v hv
    · rw [e _ (by omega) (by omega) (by omega)] at h0
      rw [e _ (by omega) (by omega) (by omega)]
      exact hZ h0 v hv
  exact R0.line (by rw [e _ (by omega) (by omega) (by omega)]; exact h26)
theorem RI.half {ρ : Nat → Nat} (h : RI ρ) (h26 : ρ 26 < 40) (h27 : ρ 27 < 2) : RI (halfR ρ) := by
  obtain ⟨⟨hT, hB, hC, hG, hZ⟩, -⟩ := h
  generalize hσ : va_up (va_up (va_up (va_up (va_up (va_up ρ 27 (ρ 27 + 1)) 28 1) 30 0) 34 0) 31 0) 35 0 = σ
  have e : ∀ j, j ≠ 27 → j ≠ 28 → j ≠ 30 → j ≠ 31 → j ≠ 34 → j ≠ 35 → σ j = ρ j := fun j a1 a2 a3 a4 a5 a6 => by
    rw [← hσ, va_at_ne a6, va_at_ne a4, va_at_ne a5, va_at_ne a3, va_at_ne a2, va_at_ne a1]
  have e27 : σ 27 = ρ 27 + 1 := by rw [← hσ]; rfl
  have e30 : ∀ t, t < 2 → σ (30 + t) = 0 ∧ σ (34 + t) = 0 := fun t ht => by
    rcases (show t = 0 ∨ t = 1 by omega) with rfl | rfl <;> rw [← hσ] <;> exact ⟨rfl, rfl⟩
  have hT1 : RT σ := by
    rw [← hσ]
    exact (((((hT.lo (Or.inl (by decide))).turn (by decide)).lo (Or.inl (by decide))).lo (Or.inl (by decide))).lo (Or.inl (by decide))).lo (Or.inl (by decide))
  have er : ∀ k w, rq σ k w = rq ρ k w := fun k w => e _ (by omega) (by omega) (by omega) (by omega) (by omega) (by omega)
  obtain ⟨b1, b2, b3, b4, b5⟩ := hB
  have R0 : RI0 σ := by
    refine ⟨hT1, ⟨by rw [e _ (by decide) (by decide) (by decide) (by decide) (by decide) (by decide)]; exact b1, by rw [e _ (by decide) (by decide) (by decide) (by decide) (by decide) (by decide)]; exact b2, by rw [e27]; omega, by rw [e _ (by decide) (by decide) (by decide) (by decide) (by decide) (by decide)]; exact b4, fun v hv => ?_⟩, fun k hk => ?_, fun v hv => ?_, fun h0 v hv => ?_⟩
    · obtain ⟨x1, x2, x3, x4, x5⟩ := b5 v hv
      rw [(e30 v hv).1, (e30 v hv).2, e (32 + v) (by omega) (by omega) (by omega) (by omega) (by omega) (by omega), e 25 (by decide) (by decide) (by decide) (by decide) (by decide) (by decide), e 26 (by decide) (by decide) (by decide) (by decide) (by decide) (by decide), scR_congr (ρ := ρ) (fun k hk => e _ (by omega) (by omega) (by omega) (by omega) (by omega) (by omega))]
      exact ⟨by decide, x2, by decide, x4, fun i hi => by rw [e _ (by omega) (by omega) (by omega) (by omega) (by omega) (by omega)]; exact x5 i hi⟩
    · rw [e _ (by decide) (by decide) (by decide) (by decide) (by decide) (by decide)] at hk
      obtain ⟨tk, tl, hh⟩ := hC k hk
      exact ⟨tk, tl, hh.congr (fun w _ => er k w) (by rw [e _ (by decide) (by decide) (by decide) (by decide) (by decide) (by decide)]; exact Nat.le_refl _)⟩
    · rw [e 25 (by decide) (by decide) (by decide) (by decide) (by decide) (by decide), scR_congr (ρ := ρ) (fun k hk => e _ (by omega) (by omega) (by omega) (by omega) (by omega) (by omega)), gsum_cong hv (fun k _ w _ => er k w)]
      exact hG v hv
    · rw [e _ (by decide) (by decide) (by decide) (by decide) (by decide) (by decide)] at h0
      rw [e _ (by omega) (by omega) (by omega) (by omega) (by omega) (by omega)]
      exact hZ h0 v hv
  have : halfR ρ = lineR σ := by rw [← hσ]; rfl
  rw [this]
  exact R0.line (by rw [e _ (by decide) (by decide) (by decide) (by decide) (by decide) (by decide)]; exact h26)
theorem RI.review {ρ : Nat → Nat} {t won : Nat} (h : RI ρ) (ht : t < 2) (h29 : ρ 29 = 1) (h26 : ρ 26 < 40) : RI (reviewR t won ρ) := by
  obtain ⟨h0, h1⟩ := h
  obtain ⟨k0, k1, k2, -⟩ := h1 h29
  unfold reviewR
  split
  · exact k0.line (by rw [k2]; exact h26)
  · obtain ⟨hT, hB, hC, hG, hZ⟩ := h0
    have e : ∀ j, j ≠ 34 + t → va_up ρ (34 + t) 1 j = ρ j := fun j a => va_at_ne a
    have er : ∀ k w, rq (va_up ρ (34 + t) 1) k w = rq ρ k w := fun k w => e _ (by omega)
    obtain ⟨b1, b2, b3, b4, b5⟩ := hB
    have R0 : RI0 (va_up ρ (34 + t) 1) := by
      refine ⟨hT.lo (Or.inl (by omega)), ⟨by rw [e _ (by omega)]; exact b1, by rw [e _ (by omega)]; exact b2, by rw [e _ (by omega)]; exact b3, by rw [e _ (by omega)]; exact b4, fun v hv => ?_⟩, fun k hk => ?_, fun v hv => ?_, fun h0 v hv => ?_⟩
      · obtain ⟨x1, x2, x3, x4, x5⟩ := b5 v hv
        rw [e (30 + v) (by omega), e (32 + v) (by omega), e 25 (by omega), e 26 (by omega), scR_congr (ρ := ρ) (fun k hk => e _ (by omega))]
        refine ⟨x1, x2, ?_, x4, fun i hi => by rw [e _ (by omega)]; exact x5 i hi⟩
        by_cases q : v = t
        · rw [q, va_at_eq]; exact Nat.le_refl _
        · rw [e _ (by omega)]; exact x3
      · rw [e _ (by omega)] at hk
        obtain ⟨tk, tl, hh⟩ := hC k hk
        exact ⟨tk, tl, hh.congr (fun w _ => er k w) (by rw [e _ (by omega)]; exact Nat.le_refl _)⟩
      · rw [e 25 (by omega), scR_congr (ρ := ρ) (fun k hk => e _ (by omega)), gsum_cong hv (fun k _ w _ => er k w)]
        exact hG v hv
      · rw [e _ (by omega)] at h0
        rw [e _ (by omega)]
        exact hZ h0 v hv
    exact R0.line (by rw [e _ (by omega)]; exact h26)
