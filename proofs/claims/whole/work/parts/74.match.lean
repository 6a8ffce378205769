/-! ===== lines; the match and its row ===== -/
abbrev xLn : Type := (Nat × Nat × Nat × Nat × List Nat) ⊕ (Nat × Nat × Nat × Nat)
def codL : xLn → Nat
  | .inl (r, s, b, tk, tl) => rdC r s b tk tl
  | .inr (k, a, b, c) => k + 16 * a + 256 * b + 4096 * c
def appR : xLn → (Nat → Nat) → (Nat → Nat)
  | .inl (r, s, b, tk, tl), ρ => raidsR r s b tk tl ρ
  | .inr (k, a, b, c), ρ => if k = 1 then cardR a b c ρ else if k = 2 then changeR a b c ρ else if k = 3 then halfR ρ else reviewR a b ρ
def okL : xLn → (Nat → Nat) → Prop
  | .inl (r, s, b, tk, tl), ρ => rdOK ρ r s b tk tl ∧ ρ 25 < 200 ∧ (s = 3 → tk < ρ (1 + (1 - ρ 28)))
  | .inr (k, a, b, c), ρ => ρ 26 < 40 ∧ ((k = 1 ∧ a < 2 ∧ b < ρ (1 + a) ∧ c < 3 ∧ ρ (48 + 10 * a + b) ≠ 2) ∨ (k = 2 ∧ a < 2 ∧ b < ρ (1 + a) ∧ c < ρ (1 + a) ∧ ρ (48 + 10 * a + b) = 0 ∧ ρ (48 + 10 * a + c) = 2 ∧ ρ (32 + a) < 5) ∨ (k = 3 ∧ a = 0 ∧ b = 0 ∧ c = 0 ∧ ρ 27 < 2) ∨ (k = 4 ∧ a < 2 ∧ b < 2 ∧ c = 0 ∧ ρ 29 = 1))
theorem RI.app {ρ : Nat → Nat} {l : xLn} (h : RI ρ) (hl : okL l ρ) : RI (appR l ρ) := by
  rcases l with ⟨r, s, b, tk, tl⟩ | ⟨k, a, b, c⟩
  · exact h.raid hl.1 hl.2.1
  · obtain ⟨h26, ⟨rfl, x1, x2, x3, x4⟩ | ⟨rfl, x1, x2, x3, x4, x5, x6⟩ | ⟨rfl, x1, x2, x3, x4⟩ | ⟨rfl, x1, x2, x3, x4⟩⟩ := hl
    · exact h.card x1 x2 x4 h26
    · exact h.change x1 x2 x3 x4 x5 h26 x6
    · exact h.half h26 x4
    · exact h.review x1 x4 h26
theorem rev_25 {ρ : Nat → Nat} {t won : Nat} (h : RI ρ) (ht : t < 2) (h29 : ρ 29 = 1) : reviewR t won ρ 26 = ρ 26 + 1 ∧ (reviewR t won ρ 25 = if won = 1 then ρ 25 - 1 else ρ 25) := by
  obtain ⟨-, k1, k2, -⟩ := h.2 h29
  unfold reviewR
  split
  · refine ⟨?_, ?_⟩
    · unfold lineR; rw [va_at_ne (by decide), va_at_eq, k2]
    · rw [line_ne (by decide) (by decide)]; omega
  · refine ⟨?_, ?_⟩
    · unfold lineR; rw [va_at_ne (by decide), va_at_eq, va_at_ne (by omega)]
    · rw [line_ne (by decide) (by decide), va_at_ne (by omega)]
/-- each line counts -/
theorem app_cnt {ρ : Nat → Nat} {l : xLn} (h : RI ρ) (hl : okL l ρ) : ρ 25 + 2 * ρ 26 + 1 ≤ appR l ρ 25 + 2 * appR l ρ 26 := by
  rcases l with ⟨r, s, b, tk, tl⟩ | ⟨k, a, b, c⟩
  · obtain ⟨⟨hm, hr, -⟩, -⟩ := hl
    show _ ≤ raidsR r s b tk tl ρ 25 + 2 * raidsR r s b tk tl ρ 26
    have h28 := h.1.1.1.1
    rw [raids_25, raids_lo h.1.1 hm hr (by decide) (by decide) (by decide) (by decide) (by omega)]
    omega
  · obtain ⟨h26, ⟨rfl, x1, x2, x3, x4⟩ | ⟨rfl, x1, x2, x3, x4, x5, x6⟩ | ⟨rfl, x1, x2, x3, x4⟩ | ⟨rfl, x1, x2, x3, x4⟩⟩ := hl
    · have hm := h.1.1.1.m x1
      show _ ≤ cardR a b c ρ 25 + 2 * cardR a b c ρ 26
      rw [card_lo h.1.1.1 x1 (by omega) (by decide) (by omega), card_lo h.1.1.1 x1 (by omega) (by decide) (by omega), line_ne (by decide) (by decide)]
      unfold lineR
      rw [va_at_ne (by decide), va_at_eq]
      omega
    · show _ ≤ changeR a b c ρ 25 + 2 * changeR a b c ρ 26
      have e1 : changeR a b c ρ 25 = ρ 25 := by
        unfold changeR addR
        rw [line_ne (by decide) (by decide), va_at_ne (by omega), va_at_ne (by omega), va_at_ne (by omega)]
      have e2 : changeR a b c ρ 26 = ρ 26 + 1 := by
        unfold changeR lineR addR
        rw [va_at_ne (by decide), va_at_eq, va_at_ne (by omega), va_at_ne (by omega), va_at_ne (by omega)]
      omega
    · show _ ≤ halfR ρ 25 + 2 * halfR ρ 26
      have e1 : halfR ρ 25 = ρ 25 := rfl
      have e2 : halfR ρ 26 = ρ 26 + 1 := rfl
      omega
    · show _ ≤ reviewR a b ρ 25 + 2 * reviewR a b ρ 26
      obtain ⟨y1, y2⟩ := rev_25 (won := b) h x1 x4
      have := (h.2 x4).2.1
      rw [y1, y2]
      split <;> omega
/-- who plays doesn't change -/
theorem app_ros {ρ : Nat → Nat} {l : xLn} (h : RI ρ) (hl : okL l ρ) {j : Nat} (hj : j < 25) : appR l ρ j = ρ j := by
  rcases l with ⟨r, s, b, tk, tl⟩ | ⟨k, a, b, c⟩
  · obtain ⟨⟨hm, hr, -⟩, -⟩ := hl
    exact raids_lo h.1.1 hm hr (by omega) (by omega) (by omega) (by omega) (by omega)
  · obtain ⟨h26, ⟨rfl, x1, x2, x3, x4⟩ | ⟨rfl, x1, x2, x3, x4, x5, x6⟩ | ⟨rfl, x1, x2, x3, x4⟩ | ⟨rfl, x1, x2, x3, x4⟩⟩ := hl
    · have hm := h.1.1.1.m x1
      show cardR a b c ρ j = _
      rw [card_lo h.1.1.1 x1 (by omega) (by omega) (by omega), line_ne (by omega) (by omega)]
    · show changeR a b c ρ j = _
      unfold changeR addR
      rw [line_ne (by omega) (by omega), va_at_ne (by omega), va_at_ne (by omega), va_at_ne (by omega)]
    · show halfR ρ j = _
      unfold halfR
      rw [line_ne (by omega) (by omega), va_at_ne (by omega), va_at_ne (by omega), va_at_ne (by omega), va_at_ne (by omega), va_at_ne (by omega), va_at_ne (by omega)]
    · show reviewR a b ρ j = _
      unfold reviewR
      rw [line_ne (by omega) (by omega)]
      split
      · unfold coreR; rw [if_neg (by omega)]
      · rw [va_at_ne (by omega)]
/-- nothing lies beyond the row -/
theorem app_far {ρ : Nat → Nat} {l : xLn} (h : RI ρ) (hl : okL l ρ) {j : Nat} (hj : 3235 ≤ j) : appR l ρ j = ρ j := by
  have h28 := h.1.1.1.1
  have h25 := h.1.2.1.1
  rcases l with ⟨r, s, b, tk, tl⟩ | ⟨k, a, b, c⟩
  · obtain ⟨⟨hm, hr, -⟩, h25', -⟩ := hl
    show raidsR r s b tk tl ρ j = _
    rw [raids_hi h.1.1 hm hr (by omega), if_neg (by omega), if_neg (by omega), if_neg (by omega), if_neg (by omega), rec_far (by omega) h28]
    unfold aheadR
    rw [if_neg (by omega)]
  · obtain ⟨h26, ⟨rfl, x1, x2, x3, x4⟩ | ⟨rfl, x1, x2, x3, x4, x5, x6⟩ | ⟨rfl, x1, x2, x3, x4⟩ | ⟨rfl, x1, x2, x3, x4⟩⟩ := hl
    · have hm := h.1.1.1.m x1
      show cardR a b c ρ j = _
      rw [card_hi h.1.1.1 x1 (by omega) (by omega), if_neg (by omega)]; rfl
    · have hm := h.1.1.1.m x1
      show changeR a b c ρ j = _
      unfold changeR addR
      rw [line_ne (by omega) (by omega), va_at_ne (by omega), va_at_ne (by omega), va_at_ne (by omega)]
    · show halfR ρ j = _
      unfold halfR
      rw [line_ne (by omega) (by omega), va_at_ne (by omega), va_at_ne (by omega), va_at_ne (by omega), va_at_ne (by omega), va_at_ne (by omega), va_at_ne (by omega)]
    · show reviewR a b ρ j = _
      unfold reviewR
      rw [line_ne (by omega) (by omega)]
      split
      · unfold coreR; rw [if_neg (by omega)]
      · rw [va_at_ne (by omega)]
/-! what the match leaves as it was -/
def Fm (M M' : xMem) : Prop := (∀ c, c < 12 ∨ 60 ≤ c → M'.1 c = M.1 c) ∧ (∀ c, c ≠ 42 → M'.2.1 c = M.2.1 c) ∧ M'.2.2 = M.2.2
theorem Fm.refl (M : xMem) : Fm M M := ⟨fun _ _ => rfl, fun _ _ => rfl, rfl⟩
theorem Fm.trans {M M1 M2 : xMem} (h1 : Fm M M1) (h2 : Fm M1 M2) : Fm M M2 := ⟨fun c hc => (h2.1 c hc).trans (h1.1 c hc), fun c hc => (h2.2.1 c hc).trans (h1.2.1 c hc), h2.2.2.trans h1.2.2⟩
theorem Fm.ofFi {P : Nat → Prop} {M M' : xMem} (h : Fi P M M') (hP : ∀ c, P c → 12 ≤ c ∧ c < 60) : Fm M M' :=
  ⟨fun c hc => h.1 c (fun q => by have := hP c q; omega), fun c _ => by rw [h.2], by rw [h.2]⟩
/-- one raid's column -/
def ColR (M : xMem) (ρ : Nat → Nat) (k : Nat) : Prop :=
  (∀ w, w < 9 → M.1 (26 + w) k = nI (rq ρ k w)) ∧ M.1 35 k = nI (rq ρ k 10) ∧ M.1 36 k = nI (rq ρ k 11) ∧ M.1 37 k = nI (rq ρ k 9) ∧ M.1 38 k = nI (nTq ρ k) ∧ M.1 39 k = nI (pBq ρ k) ∧ M.1 40 k = nI (woq ρ k) ∧ M.1 41 k = nI (spq ρ k) ∧ ∃ tk tl, RcO ρ k tk tl ∧ M.2.1 42 k = lN (rdC (rq ρ k 1) (rq ρ k 2) (rq ρ k 6) tk tl)
def HsR (M : xMem) (ρ : Nat → Nat) : Prop :=
  M.1 24 5 = nI (ρ 25) ∧ (∀ k, k < ρ 25 → ColR M ρ k) ∧ (∀ k, k ≤ ρ 25 → M.1 43 k = nI (gsum ρ 0 k) - nI (gsum ρ 1 k)) ∧
  (∀ t i w, t < 2 → i < 10 → w < 7 → M.1 44 (taA t i w) = nI (tal ρ t i w)) ∧ ∀ t w, t < 2 → w < 6 → M.1 45 (ptA t w) = nI (ρ (36 + 6 * t + w))
def MR (M : xMem) (ρ : Nat → Nat) : Prop := StR M 12 ρ ∧ HsR M ρ ∧ (ρ 29 = 1 → StR M 46 (coreR ρ))
theorem ColR.keep {M M' : xMem} {ρ : Nat → Nat} {k : Nat} (h : ColR M ρ k) (e : ∀ c, 26 ≤ c → c < 42 → M'.1 c k = M.1 c k) (e2 : M'.2.1 42 k = M.2.1 42 k) : ColR M' ρ k := by
  unfold ColR
  rw [e 35 (by decide) (by decide), e 36 (by decide) (by decide), e 37 (by decide) (by decide), e 38 (by decide) (by decide), e 39 (by decide) (by decide), e 40 (by decide) (by decide), e 41 (by decide) (by decide), e2]
  exact ⟨fun w hw => by rw [e _ (by omega) (by omega)]; exact h.1 w hw, h.2⟩
theorem HsR.keep {M M' : xMem} {ρ : Nat → Nat} (h : HsR M ρ) (e : ∀ c, 24 ≤ c → c < 46 → M'.1 c = M.1 c) (e2 : M'.2.1 42 = M.2.1 42) : HsR M' ρ := by
  obtain ⟨a, b, c, d, f⟩ := h
  refine ⟨by rw [e 24 (by decide) (by decide)]; exact a, fun k hk => (b k hk).keep (fun c h1 h2 => by rw [e c (by omega) (by omega)]) (by rw [e2]), ?_, ?_, ?_⟩
  · rw [e 43 (by decide) (by decide)]; exact c
  · rw [e 44 (by decide) (by decide)]; exact d
  · rw [e 45 (by decide) (by decide)]; exact f
theorem ColR.row {M : xMem} {ρ σ : Nat → Nat} {k : Nat} (h : ColR M ρ k) (e : ∀ w, w < 13 → rq σ k w = rq ρ k w) (hR : ∀ tk tl, RcO ρ k tk tl → RcO σ k tk tl) : ColR M σ k := by
  obtain ⟨a1, a2, a3, a4, a5, a6, a7, a8, tk, tl, a9, a10⟩ := h
  obtain ⟨b1, b2, b3, b4⟩ := rq_cong e
  refine ⟨fun w hw => by rw [e w (by omega)]; exact a1 w hw, by rw [e 10 (by decide)]; exact a2, by rw [e 11 (by decide)]; exact a3, by rw [e 9 (by decide)]; exact a4, by rw [b1]; exact a5, by rw [b2]; exact a6, by rw [b3]; exact a7, by rw [b4 a9.1]; exact a8, tk, tl, hR tk tl a9, by rw [e 1 (by decide), e 2 (by decide), e 6 (by decide)]; exact a10⟩
theorem HsR.rc {M : xMem} {ρ : Nat → Nat} (h : HsR M ρ) {k : Nat} (hk : k < ρ 25) : ∃ tk tl, RcO ρ k tk tl := by
  obtain ⟨a1, a2, a3, a4, a5, a6, a7, a8, tk, tl, a9, a10⟩ := h.2.1 k hk
  exact ⟨tk, tl, a9⟩
theorem tal_cong {M : xMem} {ρ σ : Nat → Nat} (h : HsR M ρ) {n : Nat} (hn : n ≤ ρ 25) (e : ∀ k, k < n → ∀ w, w < 13 → rq σ k w = rq ρ k w) (t i w : Nat) : sumR (fun k => inq σ k t i w) n = sumR (fun k => inq ρ k t i w) n :=
  sumR_congr (fun k hk => by
    obtain ⟨tk, tl, hh⟩ := h.rc (show k < ρ 25 by omega)
    exact inq_cong (e k hk) hh.1)
theorem HsR.row {M : xMem} {ρ σ : Nat → Nat} (h : HsR M ρ) (e25 : σ 25 = ρ 25) (e26 : ρ 26 ≤ σ 26) (er : ∀ k, k < ρ 25 → ∀ w, w < 15 → rq σ k w = rq ρ k w) (ep : ∀ j, 36 ≤ j → j < 48 → σ j = ρ j) : HsR M σ := by
  obtain ⟨a, b, c, d, f⟩ := id h
  refine ⟨by rw [e25]; exact a, fun k hk => ?_, fun k hk => ?_, fun t i w ht hi hw => ?_, fun t w ht hw => by rw [ep _ (by omega) (by omega)]; exact f t w ht hw⟩
  · rw [e25] at hk
    exact (b k hk).row (fun w hw => er k hk w (by omega)) (fun tk tl q => q.congr (er k hk) e26)
  · rw [e25] at hk
    rw [gsum_cong (by decide) (fun k' hk' w hw => er k' (by omega) w hw), gsum_cong (by decide) (fun k' hk' w hw => er k' (by omega) w hw)]
    exact c k hk
  · rw [d t i w ht hi hw]
    unfold tal
    rw [e25, tal_cong h (Nat.le_refl _) (fun k hk w hw => er k hk w (by omega))]
theorem StR.row {M : xMem} {k : Nat} {ρ σ : Nat → Nat} (h : StR M k ρ) (hR : RW ρ) (e : ∀ j, j < 130 → σ j = ρ j) : StR M k σ := by
  obtain ⟨a, b, c, d, f⟩ := h
  refine ⟨by rw [e 28 (by decide)]; exact a, by rw [e 27 (by decide)]; exact b, by rw [e 26 (by decide)]; exact c, by rw [e 29 (by decide)]; exact d, fun t ht => ?_⟩
  obtain ⟨x1, x2, x3, x4, x5⟩ := f t ht
  refine ⟨x1.row (hR.m ht) (hR.q ht).1 (fun j hj => e j (by omega)), ?_, by rw [e _ (by omega)]; exact x3, by rw [e _ (by omega)]; exact x4, by rw [e _ (by omega)]; exact x5⟩
  rw [scR_congr (ρ := ρ) (fun k hk => e _ (by omega))]
  exact x2
