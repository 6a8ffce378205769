theorem scR_add {ρ : Nat → Nat} {u w j v : Nat} (hu : u < 2) (hw : w < 2) (hj : j < 6) : scR u (addR (36 + 6 * w + j) v ρ) = if u = w then scR u ρ + v else scR u ρ := by
  unfold scR addR
  simp only [sumR]
  rcases (show u = 0 ∨ u = 1 by omega) with rfl | rfl <;> rcases (show w = 0 ∨ w = 1 by omega) with rfl | rfl <;> rcases (show j = 0 ∨ j = 1 ∨ j = 2 ∨ j = 3 ∨ j = 4 ∨ j = 5 by omega) with rfl | rfl | rfl | rfl | rfl | rfl <;> simp [va_up] <;> omega
theorem scR_lo {ρ σ : Nat → Nat} {u : Nat} (hu : u < 2) (h : ∀ k, 36 ≤ k → k < 48 → σ k = ρ k) : scR u σ = scR u ρ := scR_congr (fun k hk => h _ (by omega) (by omega))
def ownR (r s b tk : Nat) (tl : List Nat) (ρ : Nat → Nat) : Nat := (if s = 1 then tl.length else 0) + (if b = 1 ∨ s = 2 then 1 else 0) + (if isAll (1 - ρ 28) (rd9 r s b tk tl ρ) then 2 else 0)
def othR (r s b tk : Nat) (tl : List Nat) (ρ : Nat → Nat) : Nat := (if otR s ρ = 1 then 1 else 0) + (if s = 3 ∧ pcn (mOn (1 - ρ 28) ρ) ≤ 3 then 1 else 0) + (if isAll (ρ 28) (rd10 r s b tk tl ρ) then 2 else 0)
theorem sc_all {ρ : Nat → Nat} (h : RW ρ) {t u : Nat} (ht : t < 2) (hu : u < 2) : scR u (allR t ρ) = scR u ρ + if isAll t ρ = true ∧ u = 1 - t then 2 else 0 := by
  unfold allR
  by_cases e : isAll t ρ = true
  · rw [if_pos e, scR_add hu (by omega) (by omega), scR_lo hu (fun k h1 h2 => backsR_ne ht (by omega) (by omega) (by omega) _ h)]
    by_cases e2 : u = 1 - t
    · rw [if_pos e2, if_pos ⟨e, e2⟩]
    · rw [if_neg e2, if_neg (fun q => e2 q.2)]; rfl
  · rw [if_neg e, if_neg (fun q => e q.1)]; rfl
section
variable {r s b tk : Nat} {tl : List Nat} {ρ : Nat → Nat}
theorem sc3 (hR : RW ρ) (ht : ∀ x ∈ tl, x < 10) (hr : r < 10) (hl : ρ (108 + (1 - ρ 28)) + tl.length ≤ 10) (hq : ρ (108 + ρ 28) < 10) {u : Nat} (hu : u < 2) : scR u (rd3 r s b tk tl ρ) = scR u ρ + if s = 1 ∧ u = ρ 28 then tl.length else 0 := by
  have h28 := hR.1
  have h2 := rd2_ok (s := s) (b := b) (tk := tk) hR ht hr hl hq
  have e2 : scR u (rd2 r s b tk tl ρ) = scR u ρ := scR_lo hu (fun k _ h => h2.2 k h)
  unfold rd3
  by_cases e : s = 1
  · rw [if_pos e, scR_add hu h28 (by decide), e2]
    by_cases e3 : u = ρ 28
    · rw [if_pos e3, if_pos ⟨e, e3⟩]
    · rw [if_neg e3, if_neg (fun q => e3 q.2)]; rfl
  · rw [if_neg e, if_neg (fun q => e q.1), e2]; rfl
theorem sc4 (h3 : RW (rd3 r s b tk tl ρ)) (h28 : ρ 28 < 2) {u : Nat} (hu : u < 2) : scR u (rd4 r s b tk tl ρ) = scR u (rd3 r s b tk tl ρ) := by
  unfold rd4
  split
  · exact scR_lo hu (fun k h1 h2 => backsR_ne h28 (by omega) (by omega) (by omega) _ h3)
  · rfl
theorem sc5 (h28 : ρ 28 < 2) {u : Nat} (hu : u < 2) : scR u (rd5 r s b tk tl ρ) = scR u (rd4 r s b tk tl ρ) + if (b = 1 ∨ s = 2) ∧ u = ρ 28 then 1 else 0 := by
  unfold rd5
  by_cases e : b = 1 ∨ s = 2
  · rw [if_pos e, scR_add hu h28 (by decide)]
    by_cases e3 : u = ρ 28
    · rw [if_pos e3, if_pos ⟨e, e3⟩]
    · rw [if_neg e3, if_neg (fun q => e3 q.2)]; rfl
  · rw [if_neg e, if_neg (fun q => e q.1)]; rfl
theorem sc6 (h28 : ρ 28 < 2) {u : Nat} (hu : u < 2) : scR u (rd6 r s b tk tl ρ) = scR u (rd5 r s b tk tl ρ) + if otR s ρ = 1 ∧ u = 1 - ρ 28 then 1 else 0 := by
  unfold rd6
  by_cases e : otR s ρ = 1
  · rw [if_pos e, scR_add hu (by omega) (by split <;> decide)]
    by_cases e3 : u = 1 - ρ 28
    · rw [if_pos e3, if_pos ⟨e, e3⟩]
    · rw [if_neg e3, if_neg (fun q => e3 q.2)]; rfl
  · rw [if_neg e, if_neg (fun q => e q.1)]; rfl
theorem sc7 (h28 : ρ 28 < 2) {u : Nat} (hu : u < 2) : scR u (rd7 r s b tk tl ρ) = scR u (rd6 r s b tk tl ρ) + if (s = 3 ∧ pcn (mOn (1 - ρ 28) ρ) ≤ 3) ∧ u = 1 - ρ 28 then 1 else 0 := by
  unfold rd7
  by_cases e : s = 3 ∧ pcn (mOn (1 - ρ 28) ρ) ≤ 3
  · rw [if_pos e, scR_add hu (by omega) (by decide)]
    by_cases e3 : u = 1 - ρ 28
    · rw [if_pos e3, if_pos ⟨e, e3⟩]
    · rw [if_neg e3, if_neg (fun q => e3 q.2)]; rfl
  · rw [if_neg e, if_neg (fun q => e q.1)]; rfl
theorem sc9 (h7 : RW (rd7 r s b tk tl ρ)) (h28 : ρ 28 < 2) {u : Nat} (hu : u < 2) : scR u (rd9 r s b tk tl ρ) = scR u (rd7 r s b tk tl ρ) := by
  have h8 : RW (va_up (rd8 r s b tk tl ρ) (235 + 15 * ρ 25 + 8) (rb8 r s b tk tl ρ)) := (rd8_ok h7 h28).up (Or.inr (by omega))
  refine scR_lo hu (fun k h1 h2 => ?_)
  unfold rd9
  rw [waitsR_ne (h8.m (t := 0) (by decide)) (h8.m (t := 1) (by decide)) (by omega), va_at_ne (by omega)]
  unfold rd8
  split
  · exact backR_ne (h7.q (by omega)) (by omega) (by omega) (by omega)
  · rfl
theorem sc11 (hR : RW ρ) (ht : ∀ x ∈ tl, x < 10) (hr : r < 10) (hl : ρ (108 + (1 - ρ 28)) + tl.length ≤ 10) (hq : ρ (108 + ρ 28) < 10) : scR (ρ 28) (rd11 r s b tk tl ρ) = scR (ρ 28) ρ + ownR r s b tk tl ρ ∧ scR (1 - ρ 28) (rd11 r s b tk tl ρ) = scR (1 - ρ 28) ρ + othR r s b tk tl ρ := by
  have h28 := hR.1
  have h2 := (rd2_ok (s := s) (b := b) (tk := tk) hR ht hr hl hq).1
  have h3 := rd3_ok h2 h28
  have h4 := rd4_ok h3 h28
  have h5 := rd5_ok h4 h28
  have h6 := rd6_ok h5 h28
  have h7 := rd7_ok h6 h28
  have h8 := rd8_ok h7 h28
  have h9 := rd9_ok h8
  have h10 := rd10_ok h9 h28
  have key : ∀ u, u < 2 → scR u (rd11 r s b tk tl ρ) = scR u ρ + (if s = 1 ∧ u = ρ 28 then tl.length else 0) + (if (b = 1 ∨ s = 2) ∧ u = ρ 28 then 1 else 0) + (if otR s ρ = 1 ∧ u = 1 - ρ 28 then 1 else 0) + (if (s = 3 ∧ pcn (mOn (1 - ρ 28) ρ) ≤ 3) ∧ u = 1 - ρ 28 then 1 else 0) + (if isAll (1 - ρ 28) (rd9 r s b tk tl ρ) = true ∧ u = 1 - (1 - ρ 28) then 2 else 0) + (if isAll (ρ 28) (rd10 r s b tk tl ρ) = true ∧ u = 1 - ρ 28 then 2 else 0) := by
    intro u hu
    unfold rd11
    rw [sc_all h10 h28 hu]
    have e10 : scR u (rd10 r s b tk tl ρ) = _ := sc_all h9 (t := 1 - ρ 28) (by omega) hu
    rw [e10, sc9 h7 h28 hu, sc7 h28 hu, sc6 h28 hu, sc5 h28 hu, sc4 h3 h28 hu, sc3 hR ht hr hl hq hu]
  refine ⟨?_, ?_⟩
  · rw [key _ h28]
    unfold ownR
    have n1 : ρ 28 ≠ 1 - ρ 28 := by omega
    have n2 : ρ 28 = 1 - (1 - ρ 28) := by omega
    simp only [n1, and_false, if_false, and_true, Nat.add_zero]
    rw [← n2]
    simp only [and_true]
    omega
  · rw [key _ (by omega)]
    unfold othR
    have n1 : ¬ (1 - ρ 28 = ρ 28) := by omega
    have n2 : ¬ (1 - ρ 28 = 1 - (1 - ρ 28)) := by omega
    simp only [n1, n2, and_false, if_false, and_true, Nat.add_zero]
    omega
end
