/-! ===== the class: a side ===== -/
/-- the memory is as it was but for the ints of some cells -/
def Fi (P : Nat → Prop) (M M' : xMem) : Prop := (∀ c, ¬ P c → M'.1 c = M.1 c) ∧ M'.2 = M.2
theorem Fi.refl (P : Nat → Prop) (M : xMem) : Fi P M M := ⟨fun _ _ => rfl, rfl⟩
theorem Fi.trans {P : Nat → Prop} {M M1 M2 : xMem} (h1 : Fi P M M1) (h2 : Fi P M1 M2) : Fi P M M2 := ⟨fun c hc => (h2.1 c hc).trans (h1.1 c hc), h2.2.trans h1.2⟩
theorem Fi.mono {P Q : Nat → Prop} {M M' : xMem} (h : Fi P M M') (hPQ : ∀ c, P c → Q c) : Fi Q M M' := ⟨fun c hc => h.1 c (fun q => hc (hPQ c q)), h.2⟩
theorem Fi.wI {P : Nat → Prop} {M M1 : xMem} {k j : Nat} {v : Int32} (h : Fi P M M1) (hk : P k) : Fi P M (xwI M1 k j v) := by
  refine ⟨fun c hc => ?_, h.2⟩
  have e : c ≠ k := fun q => hc (q ▸ hk)
  rw [← h.1 c hc]
  simp only [xwI, xwR, va_up, if_neg e]
theorem sd_tab : ∀ k, k < 154 → xkd k = 7 → (xrf k 0 = k + 1 ∧ xrf k 1 = k + 2 ∧ xrf k 2 = k + 3 ∧ xrf k 3 = k + 4) ∧ xln (k + 1) = 10 ∧ xln (k + 2) = 10 ∧ xln (k + 3) = 10 ∧ xln (k + 4) = 10 := by decide +kernel
theorem sd_rf {k : Nat} (h : xkd k = 7) : (xrf k 0 = k + 1 ∧ xrf k 1 = k + 2 ∧ xrf k 2 = k + 3 ∧ xrf k 3 = k + 4) ∧ xln (k + 1) = 10 ∧ xln (k + 2) = 10 ∧ xln (k + 3) = 10 ∧ xln (k + 4) = 10 := sd_tab k (xkd_lt (by omega)) h
/-- a side (but for points, empties, changes, reviews) holds what a row says of a team -/
def SdR (M : xMem) (k t : Nat) (ρ : Nat → Nat) : Prop :=
  M.1 k 4 = nI (ρ (1 + t)) ∧ M.1 k 5 = nI (ρ (108 + t)) ∧
  (∀ i, i < ρ (1 + t) → M.1 (k + 1) i = nI (ρ (48 + 10 * t + i)) ∧ M.1 (k + 2) i = nI (ρ (68 + 10 * t + i)) ∧ M.1 (k + 3) i = nI (ρ (88 + 10 * t + i))) ∧
  (∀ i, ρ (1 + t) ≤ i → i < 10 → M.1 (k + 1) i = nI 2) ∧
  ∀ j, j < ρ (108 + t) → M.1 (k + 4) j = nI (ρ (110 + 10 * t + j))
theorem SdR.keep {M M' : xMem} {k t : Nat} {ρ : Nat → Nat} (h : SdR M k t ρ) (h0 : ∀ c, k ≤ c → c < k + 5 → M'.1 c = M.1 c) : SdR M' k t ρ := by
  unfold SdR
  rw [h0 k (by omega) (by omega), h0 (k + 1) (by omega) (by omega), h0 (k + 2) (by omega) (by omega), h0 (k + 3) (by omega) (by omega), h0 (k + 4) (by omega) (by omega)]
  exact h
theorem SdR.row {M : xMem} {k t : Nat} {ρ σ : Nat → Nat} (h : SdR M k t ρ) (hr : ρ (1 + t) ≤ 10) (hq : ρ (108 + t) ≤ 10) (e : ∀ j, j = 1 + t ∨ j = 108 + t ∨ (48 + 10 * t ≤ j ∧ j < 58 + 10 * t) ∨ (68 + 10 * t ≤ j ∧ j < 78 + 10 * t) ∨ (88 + 10 * t ≤ j ∧ j < 98 + 10 * t) ∨ (110 + 10 * t ≤ j ∧ j < 120 + 10 * t) → σ j = ρ j) : SdR M k t σ := by
  obtain ⟨a, b, c, d, f⟩ := h
  refine ⟨by rw [e _ (by omega)]; exact a, by rw [e _ (by omega)]; exact b, fun i hi => ?_, fun i hi hi' => ?_, fun j hj => ?_⟩
  · rw [e _ (by omega)] at hi
    rw [e _ (by omega), e _ (by omega), e _ (by omega)]
    exact c i hi
  · rw [e _ (by omega)] at hi
    exact d i hi hi'
  · rw [e _ (by omega)] at hj
    rw [e _ (by omega)]
    exact f j hj
theorem s_maskOf {M : xMem} {k t w : Nat} {ρ : Nat → Nat} (hk : xkd k = 7) (hS : SdR M k t ρ) (ht : t < 2) (hR : RW ρ) (hw : w < 5) : fX7_maskOf k (nI w) M = some (nI (mkP (fun i => ρ (48 + 10 * t + i) == w) (ρ (1 + t))), M) := by
  obtain ⟨⟨e0, -, -, -⟩, l1, -⟩ := sd_rf hk
  obtain ⟨a, b, c, d, f⟩ := hS
  have hr := hR.m ht
  unfold fX7_maskOf
  refine loopU (fun n i => fX7_maskOf_l4 k (nI w) _ n (nI (mkP (fun i => ρ (48 + 10 * t + i) == w) i)) (nI i) M) (ρ (1 + t)) _ (by omega) (fun n i hi => ?_) (fun n => ?_)
  · have h1 := ((hR.2 t ht).2.1 i (by omega)).1
    rw [fX7_maskOf_l4.eq_2, e0, l1, a]
    refine sF (by rw [eLe (by omega) (by omega)]; omega) (sF (by rw [eLe (by decide) (by omega)]; omega) (sGb i rfl (by omega) (by decide) ?_))
    rw [eCl (by omega), (c i hi).1]
    by_cases h : ρ (48 + 10 * t + i) = w
    · refine sT (by rw [h]) (sLe (b := nI (mkP (fun i => ρ (48 + 10 * t + i) == w) (i + 1))) ?_ (sLe (nI_1 i) rfl))
      rw [e_shl1 _ (by omega), e_orbit (mkP_lt _ _)]
      simp [mkP, h]
    · refine sF (by rw [eEq (by omega) (by omega)]; exact h) (sLe (nI_1 i) ?_)
      have e : mkP (fun i => ρ (48 + 10 * t + i) == w) (i + 1) = mkP (fun i => ρ (48 + 10 * t + i) == w) i := by simp [mkP, h]
      rw [e]
  · rw [fX7_maskOf_l4.eq_2, a]
    exact sT (by rw [eLe (by omega) (by omega)]; exact Nat.le_refl _) rfl
theorem e_bitC : ∀ v, v < 1024 → (fJ6_bitCount_0f7a4 (nI v) (fun _ _ => 0, fun _ _ => 0, false, fun _ => 0)).map (fun q => q.1) = some (nI (pcn v)) := by decide +kernel
