/-! ===== a card keeps what holds of a row ===== -/
section
variable {t i c : Nat} {ρ : Nat → Nat}
theorem card_hi (hR : RW ρ) (ht : t < 2) (hi : i < 10) {j : Nat} (hj : 130 ≤ j) : cardR t i c ρ j = ρ j + if (isAll t (cd2 t i c ρ) = true ∧ 0 < ρ 25) ∧ j = 235 + 15 * (ρ 25 - 1) + 13 + 1 - t then 2 else 0 := by
  have R2 := (cd2_ok (c := c) hR ht hi).1
  have e2 : allR t (cd2 t i c ρ) j = ρ j := by
    rw [allR_ne R2 ht (by omega) (by omega) (by omega) (by omega)]
    exact cd_ne hR ht hi (Or.inr (Or.inl hj))
  unfold cardR
  rw [line_ne (by omega) (by omega)]
  unfold cd3
  by_cases q : isAll t (cd2 t i c ρ) = true ∧ 0 < ρ 25
  · rw [if_pos q]
    unfold addR
    by_cases q2 : j = 235 + 15 * (ρ 25 - 1) + 13 + 1 - t
    · rw [if_pos ⟨q, q2⟩, ← q2, va_at_eq, e2]
    · rw [va_at_ne q2, if_neg (fun z => q2 z.2), e2]; rfl
  · rw [if_neg q, if_neg (fun z => q z.1), e2]; rfl
theorem card_gr (hR : RW ρ) (ht : t < 2) (hi : i < 10) {j : Nat} (h1 : 88 ≤ j) (h2 : j < 108) : cardR t i c ρ j ≤ ρ j + 1 := by
  have R2 := (cd2_ok (c := c) hR ht hi).1
  unfold cardR
  rw [line_ne (by omega) (by omega), cd3_lo ht (by omega), allR_ne R2 ht (by omega) (by omega) (by omega) (by omega)]
  have e1 : cd2 t i c ρ j = cd1 t i c ρ j := by
    unfold cd2
    split
    · rw [va_at_ne (by omega), va_at_ne (by omega), leaveR_lo ht (by omega)]
    · rfl
  rw [e1]
  unfold cd1
  split
  · unfold addR va_up
    split
    · rename_i q; rw [q]; exact Nat.le_refl _
    · omega
  · omega
theorem cd2_q (hR : RW ρ) (ht : t < 2) (hi : i < 10) {u : Nat} (hu : u < 2) (h0 : ρ (108 + u) = 0) : cd2 t i c ρ (108 + u) = 0 := by
  by_cases q : u = t
  · subst q
    have e : cd1 u i c ρ (108 + u) = 0 := by rw [(cd1_ok (c := c) hR hu hi).2 _ (by omega)]; exact h0
    unfold cd2
    split
    · rw [va_at_ne (by omega), va_at_ne (by omega)]
      unfold leaveR
      rw [va_at_eq]
      have : qL (cd1 u i c ρ) u = [] := List.length_eq_zero_iff.mp (by rw [qL_len]; exact e)
      rw [this]; rfl
    · exact e
  · rw [cd_ne hR ht hi (Or.inr (Or.inr (by unfold tmP; omega)))]
    exact h0
theorem cd_all (hR : RW ρ) (ht : t < 2) (hi : i < 10) (h0 : ρ (108 + t) = 0) : ¬ isAll t (cd2 t i c ρ) = true := by
  unfold isAll
  rw [cd2_q hR ht hi ht h0]
  simp
theorem card_rq (hR : RW ρ) (ht : t < 2) (hi : i < 10) {k w : Nat} (hw : w < 15) : rq (cardR t i c ρ) k w = rq ρ k w + if (isAll t (cd2 t i c ρ) = true ∧ 0 < ρ 25) ∧ k = ρ 25 - 1 ∧ w = 13 + (1 - t) then 2 else 0 := by
  unfold rq
  rw [card_hi hR ht hi (by omega)]
  congr 1
  by_cases q : (isAll t (cd2 t i c ρ) = true ∧ 0 < ρ 25)
  · by_cases q2 : k = ρ 25 - 1 ∧ w = 13 + (1 - t)
    · rw [if_pos ⟨q, by omega⟩, if_pos ⟨q, q2⟩]
    · rw [if_neg (fun z => q2 (by omega)), if_neg (fun z => q2 z.2)]
  · rw [if_neg (fun z => q z.1), if_neg (fun z => q z.1)]
theorem RcO.card (hR : RW ρ) (ht : t < 2) (hi : i < 10) {k tk : Nat} {tl : List Nat} (hh : RcO ρ k tk tl) : RcO (cardR t i c ρ) k tk tl := by
  have rqe : ∀ k w, w < 15 → _ := fun k w hw => card_rq (c := c) hR ht hi (k := k) (w := w) hw
  have e26 : cardR t i c ρ 26 = ρ 26 + 1 := by rw [card_lo hR ht hi (by omega) (by omega)]; unfold lineR; rw [va_at_ne (by decide), va_at_eq]
  have q : ∀ w, w < 13 → rq (cardR t i c ρ) k w = rq ρ k w := fun w hw => by
    rw [rqe k w (by omega), if_neg (by omega)]; rfl
  unfold RcO at hh ⊢
  rw [q 0 (by decide), q 1 (by decide), q 2 (by decide), q 3 (by decide), q 4 (by decide), q 5 (by decide), q 6 (by decide), q 7 (by decide), q 8 (by decide), q 9 (by decide), q 10 (by decide), q 11 (by decide), q 12 (by decide), rqe k 13 (by decide), rqe k 14 (by decide), e26]
  obtain ⟨a1, a2, a3, a4, a5, a6, a7, a8, a9, a10, a11, a12, a13, a14, a15, a16⟩ := hh
  refine ⟨a1, a2, a3, a4, a5, a6, a7, a8, a9, a10, a11, a12, a13, ?_, ?_, a16⟩
  · split <;> omega
  · split <;> omega
theorem RI.card (h : RI ρ) (ht : t < 2) (hi : i < ρ (1 + t)) (hs : ρ (48 + 10 * t + i) ≠ 2) (h26 : ρ 26 < 40) : RI (cardR t i c ρ) := by
  obtain ⟨⟨hT, hB, hC, hG, hZ⟩, -⟩ := h
  have hm := hT.1.m ht
  have hi10 : i < 10 := by omega
  have lo : ∀ j, j < 36 → cardR t i c ρ j = lineR ρ j := fun j hj => card_lo hT.1 ht hi10 (by omega) (by omega)
  have e25 : cardR t i c ρ 25 = ρ 25 := by rw [lo 25 (by decide), line_ne (by decide) (by decide)]
  have e26 : cardR t i c ρ 26 = ρ 26 + 1 := by rw [lo 26 (by decide)]; unfold lineR; rw [va_at_ne (by decide), va_at_eq]
  have e27 : cardR t i c ρ 27 = ρ 27 := by rw [lo 27 (by decide), line_ne (by decide) (by decide)]
  have e29 : cardR t i c ρ 29 = 0 := by rw [lo 29 (by decide)]; unfold lineR; rw [va_at_eq]
  have sc : ∀ u, u < 2 → _ := fun u hu => card_sc (c := c) hT.1 ht hi10 (u := u) hu
  have rqe : ∀ k w, w < 15 → _ := fun k w hw => card_rq (c := c) hT.1 ht hi10 (k := k) (w := w) hw
  have q13 : ∀ k w, w < 13 → rq (cardR t i c ρ) k w = rq ρ k w := fun k w hw => by
    rw [rqe k w (by omega), if_neg (by omega)]; rfl
  have hpos : isAll t (cd2 t i c ρ) = true → 0 < ρ 25 := fun q => by
    rcases Nat.eq_zero_or_pos (ρ 25) with z | z
    · exact absurd q (cd_all hT.1 ht hi10 (hZ z t ht))
    · exact z
  obtain ⟨b1, b2, b3, b4, b5⟩ := hB
  refine ⟨⟨hT.card ht hi hs, ⟨by rw [e25]; exact b1, by rw [e26]; omega, by rw [e27]; exact b3, by rw [e29]; decide, fun u hu => ?_⟩, fun k hk => ?_, fun u hu => ?_, fun h0 u hu => ?_⟩, fun q => by rw [e29] at q; omega⟩
  · obtain ⟨x1, x2, x3, x4, x5⟩ := b5 u hu
    rw [lo (30 + u) (by omega), lo (32 + u) (by omega), lo (34 + u) (by omega), line_ne (by omega) (by omega), line_ne (by omega) (by omega), line_ne (by omega) (by omega), sc u hu, e25, e26]
    refine ⟨x1, x2, x3, ?_, fun j hj => ?_⟩
    · split <;> omega
    · have := card_gr (c := c) hT.1 ht hi10 (j := 88 + 10 * u + j) (by omega) (by omega)
      have := x5 j hj
      omega
  · rw [e25] at hk
    obtain ⟨tk, tl, hh⟩ := hC k hk
    exact ⟨tk, tl, hh.card hT.1 ht hi10⟩
  · rw [sc u hu, hG u hu, e25]
    by_cases q : isAll t (cd2 t i c ρ) = true ∧ u = 1 - t
    · rw [if_pos q]
      have hp := hpos q.1
      obtain ⟨n, hn⟩ : ∃ n, ρ 25 = n + 1 := ⟨ρ 25 - 1, by omega⟩
      rw [hn]
      show sumR (fun k => gnq ρ k u) n + gnq ρ n u + 2 = sumR (fun k => gnq (cardR t i c ρ) k u) n + gnq (cardR t i c ρ) n u
      have ea : sumR (fun k => gnq (cardR t i c ρ) k u) n = sumR (fun k => gnq ρ k u) n := sumR_congr (fun k hk => gnq_cong hu (fun w hw => by rw [rqe k w hw, if_neg (by omega)]; rfl))
      have eb : gnq (cardR t i c ρ) n u = gnq ρ n u + 2 := by
        unfold gnq
        rw [q13 n 0 (by decide), q13 n 3 (by decide), q13 n 4 (by decide), rqe n (13 + u) (by omega), if_pos (c := (isAll t (cd2 t i c ρ) = true ∧ 0 < ρ 25) ∧ n = ρ 25 - 1 ∧ 13 + u = 13 + (1 - t)) ⟨⟨q.1, hp⟩, by omega, by rw [q.2]⟩]
        omega
      rw [ea, eb]
      omega
    · rw [if_neg q, Nat.add_zero]
      refine (sumR_congr (fun k hk => ?_)).symm
      unfold gnq
      rw [q13 k 0 (by decide), q13 k 3 (by decide), q13 k 4 (by decide), rqe k (13 + u) (by omega), if_neg (c := (isAll t (cd2 t i c ρ) = true ∧ 0 < ρ 25) ∧ k = ρ 25 - 1 ∧ 13 + u = 13 + (1 - t)) (fun z => q ⟨z.1.1, by omega⟩)]
      rfl
  · rw [e25] at h0
    have h1 := hZ h0 u hu
    have h2 := cd_all (c := c) hT.1 ht hi10 (hZ h0 t ht)
    rw [card_tm ht hu (by unfold tmP; omega)]
    unfold allR
    rw [if_neg h2]
    exact cd2_q hT.1 ht hi10 hu h1
end
