theorem sJw {α β : Type} {J : α → xMem → Option β} {B : (α → xMem → Option β) → Option β} {z : Option β} (v : α) (m : xMem) (h : ∀ J, B J = J v m) (k : J v m = z) : xLt J B = z := (h J).trans k
theorem sJx {β : Type} {J : xMem → Option β} {B : (xMem → Option β) → Option β} {z : Option β} (m : xMem) (h : ∀ J, B J = J m) (k : J m = z) : xLt J B = z := (h J).trans k
theorem otR_le (s : Nat) (ρ : Nat → Nat) : otR s ρ = 0 ∨ otR s ρ = 1 := by unfold otR; split <;> simp
theorem muR_le (ρ : Nat → Nat) : muR ρ = 0 ∨ muR ρ = 1 := by unfold muR; split <;> simp
theorem eN0 {a : Nat} (ha : a < 2147483648) (h : a ≠ 0) : ¬ nI a = 0 := by rw [eEq0 ha]; exact h
theorem nI00 : nI 0 = 0 := by decide
/-- what the raid does to the points, and that the steps can go on -/
theorem rd1_ok {r s b tk : Nat} {tl : List Nat} {ρ : Nat → Nat} (hR : RW ρ) (ht : ∀ x ∈ tl, x < 10) (hl : ρ (108 + (1 - ρ 28)) + tl.length ≤ 10) : RW (rd1 r s b tk tl ρ) ∧ ∀ k, k < 48 → rd1 r s b tk tl ρ k = ρ k := by
  have h28 := hR.1
  have h0 : RW (recR r s b tk tl ρ) := hR.congr (fun k hk _ => rec_lo hk)
  unfold rd1
  split
  · have e : recR r s b tk tl ρ (108 + (1 - ρ 28)) = ρ (108 + (1 - ρ 28)) := rec_lo (by omega)
    refine ⟨(outsR_ok (by omega) tl h0 ht (by rw [e]; exact hl)).1, fun k hk => ?_⟩
    rw [outsR_ne (by omega) (by omega) (by omega) (by omega) tl ht (by rw [e]; exact hl)]
    exact rec_lo (by omega)
  · exact ⟨h0, fun k hk => rec_lo (by omega)⟩
theorem rd1_q {r s b tk : Nat} {tl : List Nat} {ρ : Nat → Nat} (hR : RW ρ) (ht : ∀ x ∈ tl, x < 10) (hl : ρ (108 + (1 - ρ 28)) + tl.length ≤ 10) : rd1 r s b tk tl ρ (108 + ρ 28) = ρ (108 + ρ 28) := by
  have h28 := hR.1
  unfold rd1
  split
  · have e : recR r s b tk tl ρ (108 + (1 - ρ 28)) = ρ (108 + (1 - ρ 28)) := rec_lo (by omega)
    rw [outsR_ne (by omega) (by omega) (by omega) (by omega) tl ht (by rw [e]; exact hl)]
    exact rec_lo (by omega)
  · exact rec_lo (by omega)
theorem rd2_ok {r s b tk : Nat} {tl : List Nat} {ρ : Nat → Nat} (hR : RW ρ) (ht : ∀ x ∈ tl, x < 10) (hr : r < 10) (hl : ρ (108 + (1 - ρ 28)) + tl.length ≤ 10) (hq : ρ (108 + ρ 28) < 10) : RW (rd2 r s b tk tl ρ) ∧ ∀ k, k < 48 → rd2 r s b tk tl ρ k = ρ k := by
  have h28 := hR.1
  have h1 := rd1_ok (r := r) (s := s) (b := b) (tk := tk) hR ht hl
  have hq1 := rd1_q (r := r) (s := s) (b := b) (tk := tk) hR ht hl
  unfold rd2
  split
  · refine ⟨h1.1.out h28 hr (by omega), fun k hk => ?_⟩
    rw [outR_ne (by omega) (by omega) (by omega)]
    exact h1.2 k hk
  · exact h1
theorem rd3_ok {r s b tk : Nat} {tl : List Nat} {ρ : Nat → Nat} (h : RW (rd2 r s b tk tl ρ)) (ht : ρ 28 < 2) : RW (rd3 r s b tk tl ρ) := by
  unfold rd3
  split
  · exact h.add (by omega) (by omega)
  · exact h
theorem rd4_ok {r s b tk : Nat} {tl : List Nat} {ρ : Nat → Nat} (h : RW (rd3 r s b tk tl ρ)) (ht : ρ 28 < 2) : RW (rd4 r s b tk tl ρ) := by
  unfold rd4
  split
  · exact RW.backs ht _ h
  · exact h
theorem rd5_ok {r s b tk : Nat} {tl : List Nat} {ρ : Nat → Nat} (h : RW (rd4 r s b tk tl ρ)) (ht : ρ 28 < 2) : RW (rd5 r s b tk tl ρ) := by
  unfold rd5
  split
  · exact h.add (by omega) (by omega)
  · exact h
theorem rd6_ok {r s b tk : Nat} {tl : List Nat} {ρ : Nat → Nat} (h : RW (rd5 r s b tk tl ρ)) (ht : ρ 28 < 2) : RW (rd6 r s b tk tl ρ) := by
  unfold rd6
  split
  · exact h.add (by split <;> omega) (by split <;> omega)
  · exact h
theorem rd7_ok {r s b tk : Nat} {tl : List Nat} {ρ : Nat → Nat} (h : RW (rd6 r s b tk tl ρ)) (ht : ρ 28 < 2) : RW (rd7 r s b tk tl ρ) := by
  unfold rd7
  split
  · exact h.add (by omega) (by omega)
  · exact h
theorem rd8_ok {r s b tk : Nat} {tl : List Nat} {ρ : Nat → Nat} (h : RW (rd7 r s b tk tl ρ)) (ht : ρ 28 < 2) : RW (rd8 r s b tk tl ρ) := by
  unfold rd8
  split
  · exact h.back (by omega)
  · exact h
theorem rd9_ok {r s b tk : Nat} {tl : List Nat} {ρ : Nat → Nat} (h : RW (rd8 r s b tk tl ρ)) : RW (rd9 r s b tk tl ρ) := (h.up (Or.inr (by omega))).waits
theorem rd10_ok {r s b tk : Nat} {tl : List Nat} {ρ : Nat → Nat} (h : RW (rd9 r s b tk tl ρ)) (ht : ρ 28 < 2) : RW (rd10 r s b tk tl ρ) := h.all (by omega)
theorem rd11_ok {r s b tk : Nat} {tl : List Nat} {ρ : Nat → Nat} (h : RW (rd10 r s b tk tl ρ)) (ht : ρ 28 < 2) : RW (rd11 r s b tk tl ρ) := h.all ht
