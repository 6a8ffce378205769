/-! ===== the class: a state is copied, a state begins ===== -/
theorem sGc {β : Type} {n l0 l1 : Nat} {F z : Option β} (hn : n < 2147483648) (h0 : n ≤ l0) (h1 : n ≤ l1) (k : F = z) : xGc (nI 0) (nI 0) (nI n) l0 l1 F = z := by
  unfold xGc
  rw [if_pos]
  · exact k
  · rw [eCl hn, eCl (by decide)]
    have hz : ¬ nI 0 < 0 := by decide
    refine ⟨hz, hz, nI_pos hn, by omega, by omega⟩
theorem sGd {β : Type} {P : Prop} [Decidable P] {F z : Option β} (h : P) (k : F = z) : xGd P F = z := by rw [eGd h]; exact k
theorem cpy_at {α : Type} {f g : Nat → α} {n j : Nat} (h : j < n) : va_cpy f g (Int32.toNatClampNeg (nI 0)) (Int32.toNatClampNeg (nI 0)) n j = f j := by
  unfold va_cpy
  rw [eCl (by decide), if_pos (by omega)]
  congr 1
  omega
theorem s_sdCopy {M : xMem} {k a : Nat} (hk : xkd k = 7) (ha : xkd a = 7) (hd : k + 5 ≤ a ∨ a + 5 ≤ k) (h9 : M.1 a 9 = nI 0 ∨ M.1 a 9 = nI 1) :
    ∃ M', fX7_copyFrom k a M = some M' ∧ Fi (sdC k) M M' ∧ (∀ d, d < 4 → ∀ i, i < 10 → M'.1 (k + 1 + d) i = M.1 (a + 1 + d) i) ∧ ∀ j, 4 ≤ j → j < 10 → M'.1 k j = M.1 a j := by
  obtain ⟨⟨e0, e1, e2, e3⟩, l1, l2, l3, l4⟩ := sd_rf hk
  obtain ⟨⟨g0, g1, g2, g3⟩, m1, m2, m3, m4⟩ := sd_rf ha
  have c10 : Int32.toNatClampNeg (nI 10) = 10 := eCl (by decide)
  generalize hM1 : xwR M (k + 1) (va_cpy (M.1 (a + 1)) (M.1 (k + 1)) (Int32.toNatClampNeg (nI 0)) (Int32.toNatClampNeg (nI 0)) 10) = M1
  generalize hM2 : xwR M1 (k + 2) (va_cpy (M1.1 (a + 2)) (M1.1 (k + 2)) (Int32.toNatClampNeg (nI 0)) (Int32.toNatClampNeg (nI 0)) 10) = M2
  generalize hM3 : xwR M2 (k + 3) (va_cpy (M2.1 (a + 3)) (M2.1 (k + 3)) (Int32.toNatClampNeg (nI 0)) (Int32.toNatClampNeg (nI 0)) 10) = M3
  generalize hM4 : xwR M3 (k + 4) (va_cpy (M3.1 (a + 4)) (M3.1 (k + 4)) (Int32.toNatClampNeg (nI 0)) (Int32.toNatClampNeg (nI 0)) 10) = M4
  have n1 : ∀ c, c ≠ k + 1 → M1.1 c = M.1 c := fun c h => by rw [← hM1]; exact xwR_ne h
  have n2 : ∀ c, c ≠ k + 2 → M2.1 c = M1.1 c := fun c h => by rw [← hM2]; exact xwR_ne h
  have n3 : ∀ c, c ≠ k + 3 → M3.1 c = M2.1 c := fun c h => by rw [← hM3]; exact xwR_ne h
  have n4 : ∀ c, c ≠ k + 4 → M4.1 c = M3.1 c := fun c h => by rw [← hM4]; exact xwR_ne h
  have F4 : Fi (sdC k) M M4 := by
    rw [← hM4, ← hM3, ← hM2, ← hM1]
    exact ((((Fi.refl _ M).wR (by unfold sdC; omega)).wR (by unfold sdC; omega)).wR (by unfold sdC; omega)).wR (by unfold sdC; omega)
  have a4 : M4.1 a = M.1 a := F4.1 a (by unfold sdC; omega)
  refine ⟨xwI (xwI (xwI (xwI (xwI (xwI M4 k 4 (M.1 a 4)) k 5 (M.1 a 5)) k 6 (M.1 a 6)) k 7 (M.1 a 7)) k 8 (M.1 a 8)) k 9 (M.1 a 9), ?_, ?_, ?_, ?_⟩
  · unfold fX7_copyFrom
    rw [e0, e1, e2, e3, g0, g1, g2, g3, l1, l2, l3, l4, m1, m2, m3, m4, c10]
    refine sGc (by decide) (by decide) (by decide) (sLe hM1 (sGc (by decide) (by decide) (by decide) (sLe hM2 (sGc (by decide) (by decide) (by decide) (sLe hM3 (sGc (by decide) (by decide) (by decide) (sLe hM4 ?_)))))))
    rw [a4]
    refine sLt ?_
    rw [xwI_c (c := a) (by omega), a4]
    refine sLt ?_
    rw [xwI_c (c := a) (by omega), xwI_c (c := a) (by omega), a4]
    refine sLt ?_
    rw [xwI_c (c := a) (by omega), xwI_c (c := a) (by omega), xwI_c (c := a) (by omega), a4]
    refine sLt ?_
    rw [xwI_c (c := a) (by omega), xwI_c (c := a) (by omega), xwI_c (c := a) (by omega), xwI_c (c := a) (by omega), a4]
    refine sLt ?_
    rw [xwI_c (c := a) (by omega), xwI_c (c := a) (by omega), xwI_c (c := a) (by omega), xwI_c (c := a) (by omega), xwI_c (c := a) (by omega), a4]
    refine sGd ?_ rfl
    rcases h9 with h | h <;> rw [h] <;> decide
  · exact (((((F4.wI (by unfold sdC; omega)).wI (by unfold sdC; omega)).wI (by unfold sdC; omega)).wI (by unfold sdC; omega)).wI (by unfold sdC; omega)).wI (by unfold sdC; omega)
  · intro d hd4 i hi
    rw [xwI_c (by omega), xwI_c (by omega), xwI_c (by omega), xwI_c (by omega), xwI_c (by omega), xwI_c (by omega)]
    rcases (show d = 0 ∨ d = 1 ∨ d = 2 ∨ d = 3 by omega) with rfl | rfl | rfl | rfl
    · rw [n4 _ (by omega), n3 _ (by omega), n2 _ (by omega), ← hM1]
      rw [show k + 1 + 0 = k + 1 by omega, xwR_at, cpy_at hi]
    · rw [n4 _ (by omega), n3 _ (by omega), ← hM2]
      rw [show k + 1 + 1 = k + 2 by omega, xwR_at, cpy_at hi, n1 _ (by omega)]
    · rw [n4 _ (by omega), ← hM3]
      rw [show k + 1 + 2 = k + 3 by omega, xwR_at, cpy_at hi, n2 _ (by omega), n1 _ (by omega)]
    · rw [← hM4]
      rw [show k + 1 + 3 = k + 4 by omega, xwR_at, cpy_at hi, n3 _ (by omega), n2 _ (by omega), n1 _ (by omega)]
  · intro j h1 h2
    rcases (show j = 4 ∨ j = 5 ∨ j = 6 ∨ j = 7 ∨ j = 8 ∨ j = 9 by omega) with rfl | rfl | rfl | rfl | rfl | rfl
    · rw [xwI_ne (by omega), xwI_ne (by omega), xwI_ne (by omega), xwI_ne (by omega), xwI_ne (by omega), xwI_at]
    · rw [xwI_ne (by omega), xwI_ne (by omega), xwI_ne (by omega), xwI_ne (by omega), xwI_at]
    · rw [xwI_ne (by omega), xwI_ne (by omega), xwI_ne (by omega), xwI_at]
    · rw [xwI_ne (by omega), xwI_ne (by omega), xwI_at]
    · rw [xwI_ne (by omega), xwI_at]
    · rw [xwI_at]
theorem s_copyFrom {M : xMem} {k a : Nat} {ρ : Nat → Nat} (hk : xkd k = 8) (ha : xkd a = 8) (hd : k ≠ a) (hS : StR M a ρ) (hR : RW ρ) (hB : BD ρ) : ∃ M', fX8_copyFrom k a M = some M' ∧ StR M' k ρ ∧ Fi (stC k) M M' := by
  obtain ⟨r1, r2, r3, r4⟩ := st_rf hk
  obtain ⟨p1, p2, p3, p4⟩ := st_rf ha
  have hk1 := st_is hk
  have ha1 := st_is ha
  have b9 : ∀ t, t < 2 → M.1 (a + 2 + 5 * t) 9 = nI 0 ∨ M.1 (a + 2 + 5 * t) 9 = nI 1 := fun t ht => by
    have h := (hB.2.2.2.2 t ht).2.2.1
    rw [(hS.2.2.2.2 t ht).2.2.2.2]
    rcases (show ρ (34 + t) = 0 ∨ ρ (34 + t) = 1 by omega) with e | e <;> rw [e]
    · exact Or.inl rfl
    · exact Or.inr rfl
  obtain ⟨M1, f1, F1, A1, B1⟩ := s_sdCopy (r4 0 (by decide)) (p4 0 (by decide)) (by omega) (b9 0 (by decide))
  have e1 : ∀ c, a ≤ c → c < a + 12 → M1.1 c = M.1 c := fun c h1 h2 => F1.1 c (by unfold sdC; omega)
  obtain ⟨M2, f2, F2, A2, B2⟩ := s_sdCopy (M := M1) (r4 1 (by decide)) (p4 1 (by decide)) (by omega) (by rw [e1 _ (by omega) (by omega)]; exact b9 1 (by decide))
  have e2 : ∀ c, a ≤ c → c < a + 12 → M2.1 c = M.1 c := fun c h1 h2 => by rw [F2.1 c (by unfold sdC; omega)]; exact e1 c h1 h2
  have A : ∀ t, t < 2 → ∀ d, d < 4 → ∀ i, i < 10 → M2.1 (k + 2 + 5 * t + 1 + d) i = M.1 (a + 2 + 5 * t + 1 + d) i := fun t ht d hd i hi => by
    rcases (show t = 0 ∨ t = 1 by omega) with rfl | rfl
    · rw [F2.1 _ (by unfold sdC; omega)]; exact A1 d hd i hi
    · rw [A2 d hd i hi, e1 _ (by omega) (by omega)]
  have B : ∀ t, t < 2 → ∀ j, 4 ≤ j → j < 10 → M2.1 (k + 2 + 5 * t) j = M.1 (a + 2 + 5 * t) j := fun t ht j h1 h2 => by
    rcases (show t = 0 ∨ t = 1 by omega) with rfl | rfl
    · rw [F2.1 _ (by unfold sdC; omega)]; exact B1 j h1 h2
    · rw [B2 j h1 h2, e1 _ (by omega) (by omega)]
  have F12 : Fi (stC k) M M2 := (F1.mono (fun c hc => by unfold sdC at hc; unfold stC; omega)).trans (F2.mono (fun c hc => by unfold sdC at hc; unfold stC; omega))
  refine ⟨xwI (xwI (xwI (xwI M2 k 1 (M.1 a 1)) k 2 (M.1 a 2)) k 3 (M.1 a 3)) k 4 (M.1 a 4), ?_, ?_, (((F12.wI (by unfold stC; omega)).wI (by unfold stC; omega)).wI (by unfold stC; omega)).wI (by unfold stC; omega)⟩
  · unfold fX8_copyFrom
    rw [r1, r2, p1, p2]
    refine sGb 0 rfl (by decide) (by decide) (sGb 0 rfl (by decide) (by decide) ?_)
    rw [eCl (by decide), r3 0 (by decide), p3 0 (by decide)]
    refine sBv f1 (sGb 1 rfl (by decide) (by decide) (sGb 1 rfl (by decide) (by decide) ?_))
    rw [eCl (by decide), r3 1 (by decide), p3 1 (by decide)]
    refine sBv f2 ?_
    rw [e2 a (by omega) (by omega)]
    refine sLt ?_
    rw [xwI_c (c := a) (by omega), e2 a (by omega) (by omega)]
    refine sLt ?_
    rw [xwI_c (c := a) (by omega), xwI_c (c := a) (by omega), e2 a (by omega) (by omega)]
    refine sLt ?_
    rw [xwI_c (c := a) (by omega), xwI_c (c := a) (by omega), xwI_c (c := a) (by omega), e2 a (by omega) (by omega)]
    refine sGd ?_ rfl
    have h := hB.2.2.2.1
    rw [hS.2.2.2.1]
    rcases (show ρ 29 = 0 ∨ ρ 29 = 1 by omega) with e | e <;> rw [e] <;> decide
  · refine ⟨?_, ?_, ?_, ?_, fun t ht => ?_⟩
    · rw [xwI_ne (by omega), xwI_ne (by omega), xwI_ne (by omega), xwI_at]; exact hS.1
    · rw [xwI_ne (by omega), xwI_ne (by omega), xwI_at]; exact hS.2.1
    · rw [xwI_ne (by omega), xwI_at]; exact hS.2.2.1
    · rw [xwI_at]; exact hS.2.2.2.1
    · obtain ⟨⟨a1, a2, a3, a4, a5⟩, b1, b2, b3, b4⟩ := hS.2.2.2.2 t ht
      have hm := hR.m ht
      have hq := (hR.q ht).1
      have nk : ∀ c, c ≠ k → (xwI (xwI (xwI (xwI M2 k 1 (M.1 a 1)) k 2 (M.1 a 2)) k 3 (M.1 a 3)) k 4 (M.1 a 4)).1 c = M2.1 c := fun c hc => by rw [xwI_c hc, xwI_c hc, xwI_c hc, xwI_c hc]
      rw [nk _ (by omega), B t ht 6 (by decide) (by decide), B t ht 7 (by decide) (by decide), B t ht 8 (by decide) (by decide), B t ht 9 (by decide) (by decide)]
      refine ⟨⟨?_, ?_, fun i hi => ?_, fun i hi hi' => ?_, fun j hj => ?_⟩, b1, b2, b3, b4⟩
      · rw [nk _ (by omega), B t ht 4 (by decide) (by decide)]; exact a1
      · rw [nk _ (by omega), B t ht 5 (by decide) (by decide)]; exact a2
      · rw [nk _ (by omega), nk _ (by omega), nk _ (by omega)]
        have x0 := A t ht 0 (by decide) i (by omega)
        have x1 := A t ht 1 (by decide) i (by omega)
        have x2 := A t ht 2 (by decide) i (by omega)
        have y := a3 i hi
        refine ⟨x0.trans y.1, x1.trans y.2.1, x2.trans y.2.2⟩
      · rw [nk _ (by omega)]
        exact (A t ht 0 (by decide) i (by omega)).trans (a4 i hi hi')
      · rw [nk _ (by omega)]
        exact (A t ht 3 (by decide) j (by omega)).trans (a5 j hj)
/-! a side and a state begin -/
def SdB (M : xMem) (k : Nat) (z : Int32) : Prop := M.1 k 4 = z ∧ (∀ j, 5 ≤ j → j < 10 → M.1 k j = nI 0) ∧ ∀ i, i < 10 → M.1 (k + 1) i = (if i < 7 then nI 0 else nI 2) ∧ M.1 (k + 2) i = nI 0 ∧ M.1 (k + 3) i = nI 0
theorem s_sdBegin {M : xMem} {k : Nat} {z : Int32} (hk : xkd k = 7) : ∃ M', fX7_begin k z M = some M' ∧ Fi (sdC k) M M' ∧ SdB M' k z := by
  obtain ⟨⟨e0, e1, e2, e3⟩, l1, l2, l3, l4⟩ := sd_rf hk
  generalize hM0 : xwI (xwI (xwI (xwI (xwI (xwI M k 4 z) k 5 (nI 0)) k 6 (nI 0)) k 7 (nI 0)) k 8 (nI 0)) k 9 (nI 0) = M0
  have F0 : Fi (sdC k) M M0 := by
    rw [← hM0]
    exact ((((((Fi.refl _ M).wI (by unfold sdC; omega)).wI (by unfold sdC; omega)).wI (by unfold sdC; omega)).wI (by unfold sdC; omega)).wI (by unfold sdC; omega)).wI (by unfold sdC; omega)
  have v4 : M0.1 k 4 = z := by
    rw [← hM0, xwI_ne (by omega), xwI_ne (by omega), xwI_ne (by omega), xwI_ne (by omega), xwI_ne (by omega), xwI_at]
  have v5 : ∀ j, 5 ≤ j → j < 10 → M0.1 k j = nI 0 := fun j h1 h2 => by
    rw [← hM0]
    rcases (show j = 5 ∨ j = 6 ∨ j = 7 ∨ j = 8 ∨ j = 9 by omega) with rfl | rfl | rfl | rfl | rfl
    · rw [xwI_ne (by omega), xwI_ne (by omega), xwI_ne (by omega), xwI_ne (by omega), xwI_at]
    · rw [xwI_ne (by omega), xwI_ne (by omega), xwI_ne (by omega), xwI_at]
    · rw [xwI_ne (by omega), xwI_ne (by omega), xwI_at]
    · rw [xwI_ne (by omega), xwI_at]
    · rw [xwI_at]
  have key : ∀ m, m ≤ 10 → ∃ M', Fi (sdC k) M0 M' ∧ M'.1 k = M0.1 k ∧ (∀ i, i < m → M'.1 (k + 1) i = (if i < 7 then nI 0 else nI 2) ∧ M'.1 (k + 2) i = nI 0 ∧ M'.1 (k + 3) i = nI 0) ∧ ∀ n, fX7_begin_l32 k z (fun _ M17 => some M17) (n + m) (nI 0) M0 = fX7_begin_l32 k z (fun _ M17 => some M17) n (nI m) M' := by
    intro m
    induction m with
    | zero => intro _; exact ⟨M0, Fi.refl _ _, rfl, fun i hi => by omega, fun n => rfl⟩
    | succ m ih =>
      intro hm
      obtain ⟨M1, F1, g1, a1, h1⟩ := ih (by omega)
      refine ⟨xwI (xwI (xwI M1 (k + 1) m (if m < 7 then nI 0 else nI 2)) (k + 2) m (nI 0)) (k + 3) m (nI 0), ((F1.wI (by unfold sdC; omega)).wI (by unfold sdC; omega)).wI (by unfold sdC; omega), by rw [xwI_c (by omega), xwI_c (by omega), xwI_c (by omega)]; exact g1, fun i hi => ?_, fun n => ?_⟩
      · rw [xwI_c (c := k + 1) (by omega), xwI_c (c := k + 1) (by omega), xwI_c (c := k + 2) (by omega)]
        by_cases q : i = m
        · subst q
          rw [xwI_at, xwI_at, xwI_at]
          exact ⟨rfl, rfl, rfl⟩
        · simp (disch := omega) only [xwI_ne]
          exact a1 i (by omega)
      · rw [show n + (m + 1) = n + 1 + m by omega, h1 (n + 1), fX7_begin_l32.eq_2, e0, e1, e2, l1, l2, l3]
        refine sF (by rw [eLe (by decide) (by omega)]; omega) ?_
        refine sJw (if m < 7 then nI 0 else nI 2) M1 (fun J => ?_) ?_
        · by_cases q : m < 7
          · exact sF (by rw [eLe (by decide) (by omega)]; omega) (by rw [if_pos q])
          · exact sT (by rw [eLe (by decide) (by omega)]; omega) (by rw [if_neg q])
        · refine sGb m rfl (by omega) (by decide) ?_
          rw [eCl (by omega)]
          exact sLt (sGb m rfl (by omega) (by decide) (sLt (sGb m rfl (by omega) (by decide) (sLt (sLe (nI_1 m) rfl)))))
  obtain ⟨M', F', g', a', h'⟩ := key 10 (by decide)
  refine ⟨M', ?_, F0.trans F', by rw [g']; exact v4, fun j h1 h2 => by rw [g']; exact v5 j h1 h2, a'⟩
  unfold fX7_begin
  refine sLt (sLt (sLt (sLt (sLt (sLe hM0 ?_)))))
  have e : xFU = 39989 + 1 + 10 := by decide
  rw [e, h', fX7_begin_l32.eq_2]
  exact sT (by decide) rfl
theorem ro_tab : ∀ c, c < 154 → xkd c = 5 → (xrf c 0 = c + 1 ∧ xrf c 1 = c + 2 ∧ xrf c 2 = c + 3) ∧ xln (c + 1) = 2 ∧ xln (c + 2) = 20 ∧ xln (c + 3) = 2 ∧ (c = 7 ∨ (63 < c ∧ c < 128)) ∧ 5 < c := by decide +kernel
theorem ro_rf {c : Nat} (h : xkd c = 5) : (xrf c 0 = c + 1 ∧ xrf c 1 = c + 2 ∧ xrf c 2 = c + 3) ∧ xln (c + 1) = 2 ∧ xln (c + 2) = 20 ∧ xln (c + 3) = 2 ∧ (c = 7 ∨ (63 < c ∧ c < 128)) ∧ 5 < c := ro_tab c (xkd_lt (by omega)) h
theorem s_sizeOf {M : xMem} {c t : Nat} (hc : xkd c = 5) (ht : t < 2) : fX5_sizeOf c (nI t) M = some (M.1 (c + 3) t, M) := by
  obtain ⟨⟨-, -, e2⟩, -, -, l3, -⟩ := ro_rf hc
  unfold fX5_sizeOf
  refine sLt ?_
  rw [e2, l3]
  rcases (show t = 0 ∨ t = 1 by omega) with rfl | rfl
  · exact sT (by decide) (sGb 0 rfl (by decide) (by decide) rfl)
  · exact sF (by decide) (sT rfl (sGb 1 rfl (by decide) (by decide) rfl))
def StB (M : xMem) (k : Nat) (z : Nat → Int32) : Prop := (∀ j, 1 ≤ j → j < 5 → M.1 k j = nI 0) ∧ ∀ t, t < 2 → SdB M (k + 2 + 5 * t) (z t)
theorem s_begin {M : xMem} {k c : Nat} (hk : xkd k = 8) (hc : xkd c = 5) : ∃ M', fX8_begin k c M = some M' ∧ Fi (stC k) M M' ∧ StB M' k (M.1 (c + 3)) := by
  obtain ⟨r1, r2, r3, r4⟩ := st_rf hk
  have hk1 := st_is hk
  obtain ⟨-, -, -, -, hcr, -⟩ := ro_rf hc
  obtain ⟨M1, f1, F1, S1⟩ := s_sdBegin (M := M) (z := M.1 (c + 3) 0) (r4 0 (by decide))
  have e1 : M1.1 (c + 3) = M.1 (c + 3) := F1.1 (c + 3) (by unfold sdC; omega)
  obtain ⟨M2, f2, F2, S2⟩ := s_sdBegin (M := M1) (z := M.1 (c + 3) 1) (r4 1 (by decide))
  have F12 : Fi (stC k) M M2 := (F1.mono (fun c hc => by unfold sdC at hc; unfold stC; omega)).trans (F2.mono (fun c hc => by unfold sdC at hc; unfold stC; omega))
  refine ⟨xwI (xwI (xwI (xwI M2 k 1 (nI 0)) k 2 (nI 0)) k 3 (nI 0)) k 4 (nI 0), ?_, (((F12.wI (by unfold stC; omega)).wI (by unfold stC; omega)).wI (by unfold stC; omega)).wI (by unfold stC; omega), fun j h1 h2 => ?_, fun t ht => ?_⟩
  · unfold fX8_begin
    rw [r1, r2]
    refine sGb 0 rfl (by decide) (by decide) (sBn (s_sizeOf hc (by decide)) ?_)
    rw [eCl (by decide), r3 0 (by decide)]
    refine sBv f1 (sGb 1 rfl (by decide) (by decide) (sBn (s_sizeOf hc (by decide)) ?_))
    rw [eCl (by decide), r3 1 (by decide), e1]
    exact sBv f2 rfl
  · rcases (show j = 1 ∨ j = 2 ∨ j = 3 ∨ j = 4 by omega) with rfl | rfl | rfl | rfl
    · rw [xwI_ne (by omega), xwI_ne (by omega), xwI_ne (by omega), xwI_at]
    · rw [xwI_ne (by omega), xwI_ne (by omega), xwI_at]
    · rw [xwI_ne (by omega), xwI_at]
    · rw [xwI_at]
  · have nk : ∀ c, c ≠ k → (xwI (xwI (xwI (xwI M2 k 1 (nI 0)) k 2 (nI 0)) k 3 (nI 0)) k 4 (nI 0)).1 c = M2.1 c := fun c hc => by rw [xwI_c hc, xwI_c hc, xwI_c hc, xwI_c hc]
    unfold SdB
    rw [nk _ (by omega), nk _ (by omega), nk _ (by omega), nk _ (by omega)]
    rcases (show t = 0 ∨ t = 1 by omega) with rfl | rfl
    · rw [F2.1 _ (by unfold sdC; omega), F2.1 _ (by unfold sdC; omega), F2.1 _ (by unfold sdC; omega), F2.1 _ (by unfold sdC; omega)]
      exact S1
    · exact S2
