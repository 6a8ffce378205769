def cd1 (t i c : Nat) (ρ : Nat → Nat) : Nat → Nat := if c = 0 then addR (88 + (10 * t + i)) 1 ρ else ρ
def cdO (t i c : Nat) (ρ : Nat → Nat) : Nat := if c = 1 ∨ (c = 0 ∧ (ρ (88 + (10 * t + i)) + 1) % 2 = 0) then 1 else 0
def cd2 (t i c : Nat) (ρ : Nat → Nat) : Nat → Nat := if cdO t i c ρ = 1 ∨ c = 2 then va_up (va_up (leaveR t i (cd1 t i c ρ)) (48 + (10 * t + i)) (if cdO t i c ρ = 1 then 3 else 4)) (68 + (10 * t + i)) (if cdO t i c ρ = 1 then 6 else 0) else cd1 t i c ρ
def cd3 (t i c : Nat) (ρ : Nat → Nat) : Nat → Nat := if isAll t (cd2 t i c ρ) ∧ 0 < ρ 25 then addR (235 + 15 * (ρ 25 - 1) + 13 + 1 - t) 2 (allR t (cd2 t i c ρ)) else allR t (cd2 t i c ρ)
/-- A CARD -/
def cardR (t i c : Nat) (ρ : Nat → Nat) : Nat → Nat := lineR (cd3 t i c ρ)
theorem cd1_ok {t i c : Nat} {ρ : Nat → Nat} (hR : RW ρ) (ht : t < 2) (hi : i < 10) : RW (cd1 t i c ρ) ∧ ∀ k, k < 88 ∨ 108 ≤ k → cd1 t i c ρ k = ρ k := by
  unfold cd1
  split
  · have e : ∀ k, k < 88 ∨ 108 ≤ k → addR (88 + (10 * t + i)) 1 ρ k = ρ k := fun k hk => va_at_ne (by omega)
    refine ⟨?_, e⟩
    refine ⟨by rw [e _ (by omega)]; exact hR.1, fun u hu => ?_⟩
    obtain ⟨a, b, c⟩ := hR.2 u hu
    have c1 := c.1
    refine ⟨by rw [e _ (by omega)]; exact a, fun j hj => by rw [e _ (by omega), e _ (by omega)]; exact b j hj, ?_⟩
    have e1 : qL (addR (88 + (10 * t + i)) 1 ρ) u = qL ρ u := qL_congr (e _ (by omega)) (fun j hj => e _ (by omega))
    exact qOk_of (by rw [e1, qL_len]; exact c.1) (by rw [e1]; exact c.2)
  · exact ⟨hR, fun _ _ => rfl⟩
theorem leaveR_lo {ρ : Nat → Nat} {t i k : Nat} (ht : t < 2) (hk : k < 108) : leaveR t i ρ k = ρ k := leaveR_ne (by omega) (by omega)
theorem qL_leave_o {ρ : Nat → Nat} {t u i : Nat} (hq : ρ (108 + t) ≤ 10) (hq' : ρ (108 + u) ≤ 10) (ht : t < 2) (hu : u < 2) (h : u ≠ t) : qL (leaveR t i ρ) u = qL ρ u :=
  qL_congr (leaveR_ne (by omega) (by omega)) (fun j hj => leaveR_ne (by omega) (by omega))
theorem cd2_ok {t i c : Nat} {ρ : Nat → Nat} (hR : RW ρ) (ht : t < 2) (hi : i < 10) : RW (cd2 t i c ρ) ∧ ∀ k, k < 48 → cd2 t i c ρ k = ρ k := by
  obtain ⟨h1, l1⟩ := cd1_ok (c := c) hR ht hi
  unfold cd2
  split
  · generalize hv : (if cdO t i c ρ = 1 then 3 else 4) = v
    generalize hw : (if cdO t i c ρ = 1 then 6 else 0) = w
    have hvw : (v = 3 ∧ w = 6) ∨ (v = 4 ∧ w = 0) := by
      rw [← hv, ← hw]; split <;> simp
    generalize cd1 t i c ρ = σ at *
    have e : ∀ k, k ≠ 48 + (10 * t + i) → k ≠ 68 + (10 * t + i) → va_up (va_up (leaveR t i σ) (48 + (10 * t + i)) v) (68 + (10 * t + i)) w k = leaveR t i σ k := fun k h1 h2 => by rw [va_at_ne h2, va_at_ne h1]
    refine ⟨⟨by rw [e _ (by omega) (by omega), leaveR_lo ht (by omega)]; exact h1.1, fun u hu => ?_⟩, fun k hk => by rw [e _ (by omega) (by omega), leaveR_lo ht (by omega)]; exact l1 k (by omega)⟩
    obtain ⟨a, b, cc⟩ := h1.2 u hu
    have c1 := cc.1
    have c2 := (h1.q ht).1
    refine ⟨by rw [e _ (by omega) (by omega), leaveR_lo ht (by omega)]; exact a, fun j hj => ?_, ?_⟩
    · by_cases e1 : u = t ∧ j = i
      · obtain ⟨rfl, rfl⟩ := e1
        have x1 : va_up (va_up (leaveR u j σ) (48 + (10 * u + j)) v) (68 + (10 * u + j)) w (48 + 10 * u + j) = v := by
          rw [va_at_ne (by omega), show 48 + 10 * u + j = 48 + (10 * u + j) by omega, va_at_eq]
        have x2 : va_up (va_up (leaveR u j σ) (48 + (10 * u + j)) v) (68 + (10 * u + j)) w (68 + 10 * u + j) = w := by
          rw [show 68 + 10 * u + j = 68 + (10 * u + j) by omega, va_at_eq]
        rw [x1, x2]
        omega
      · rw [e _ (by omega) (by omega), e _ (by omega) (by omega), leaveR_lo ht (by omega), leaveR_lo ht (by omega)]
        exact b j hj
    · have e3 : qL (va_up (va_up (leaveR t i σ) (48 + (10 * t + i)) v) (68 + (10 * t + i)) w) u = qL (leaveR t i σ) u := qL_congr (e _ (by omega) (by omega)) (fun j hj => e _ (by omega) (by omega))
      by_cases e1 : u = t
      · subst e1
        rw [qL_leave hu] at e3
        exact qOk_of (by rw [e3]; exact Nat.le_trans (List.length_filter_le _ _) (by rw [qL_len]; exact c1)) (fun x hx => by rw [e3] at hx; exact cc.2 x (List.mem_filter.mp hx).1)
      · rw [qL_leave_o c2 c1 ht hu e1] at e3
        exact qOk_of (by rw [e3, qL_len]; exact c1) (by rw [e3]; exact cc.2)
  · exact ⟨h1, fun k hk => l1 k (by omega)⟩
theorem lN_rem {a : Nat} (h : a < 9223372036854775808) : lN a - lN a / lN 2 * lN 2 = lN (a % 2) := pk_lRem h (by decide) (by decide)
theorem e_cards {M : xMem} {ρ : Nat → Nat} {t i c : Nat} (hR : RW ρ) (ht : t < 2) (hi : i < 10) (hc : c < 3) (h25 : ρ 25 ≤ 200) (hg : ρ (88 + (10 * t + i)) < 1000) : fX11_cards 146 (nI t) (nI i) (nI c) (nwS M ρ) = some (nwS M (cardR t i c ρ)) := by
  obtain ⟨R1, l1⟩ := cd1_ok (c := c) hR ht hi
  obtain ⟨R2, l2⟩ := cd2_ok (c := c) hR ht hi
  have q1 := (R1.q ht)
  have c25 : allR t (cd2 t i c ρ) 25 = ρ 25 := by rw [allR_ne R2 ht (by omega) (by omega) (by omega) (by omega)]; exact l2 25 (by decide)
  unfold fX11_cards
  refine sLe (b := nI (10 * t + i)) (by rw [pk_mul, nI_add]) ?_
  refine sJx (nwS M (cd1 t i c ρ)) (fun J => ?_) ?_
  · by_cases e : c = 0
    · refine sT (by rw [e]; decide) (sGn (88 + (10 * t + i)) (nI_add _ _) (by omega) (sGn (88 + (10 * t + i)) (nI_add _ _) (by omega) ?_))
      refine sWn (88 + (10 * t + i)) (ρ (88 + (10 * t + i)) + 1) rfl (eCl2 (by omega)) (by rw [nwS_w, nwS_at, eCl2 (by omega), lf_at, lN_add]) ?_
      unfold cd1 addR
      rw [if_pos e]
    · refine sF (eN0 (by omega) e) ?_
      unfold cd1
      rw [if_neg e]
  refine sJw (nI (cdO t i c ρ)) (nwS M (cd1 t i c ρ)) (fun J => ?_) ?_
  · by_cases e1 : c = 1
    · refine sT (by rw [e1]) ?_
      unfold cdO
      rw [if_pos (Or.inl e1)]
    · refine sF (by rw [eEq (by omega) (by decide)]; exact e1) ?_
      by_cases e : c = 0
      · refine sT (by rw [e]; decide) (sGn (88 + (10 * t + i)) (nI_add _ _) (by omega) ?_)
        have ec : cd1 t i c ρ (88 + (10 * t + i)) = ρ (88 + (10 * t + i)) + 1 := by unfold cd1 addR; rw [if_pos e, va_at_eq]
        rw [nwS_w, nwS_at, eCl2 (by omega), lf_at, ec, lN_rem (by omega)]
        have hm : (ρ (88 + (10 * t + i)) + 1) % 2 < 2 := Nat.mod_lt _ (by decide)
        by_cases e2 : (ρ (88 + (10 * t + i)) + 1) % 2 = 0
        · refine sT (by rw [eCmp0, e2]) ?_
          unfold cdO
          rw [if_pos (Or.inr ⟨e, e2⟩)]
        · refine sF (by rw [eCmp0, eLE (by omega) (by decide)]; exact e2) ?_
          unfold cdO
          rw [if_neg (by omega)]
      · refine sF (eN0 (by omega) e) ?_
        unfold cdO
        rw [if_neg (by omega)]
  have hcd : cdO t i c ρ = 0 ∨ cdO t i c ρ = 1 := by unfold cdO; split <;> simp
  refine sJx (nwS M (cd2 t i c ρ)) (fun J => ?_) ?_
  · have key : ∀ J : xMem → Option xMem, cdO t i c ρ = 1 ∨ c = 2 → (xBv (fX11_leavesOuts 146 (nI t) (nI i) (nwS M (cd1 t i c ρ))) fun M17 => xLt (fun (s18 : Int64) (M19 : xMem) => (xGb ((nI 48) + nI (10 * t + i)) (xln (xnw M17)) (xLt (xwL M19 (xnw M17) (Int32.toNatClampNeg ((nI 48) + nI (10 * t + i))) s18) fun M21 => xLt (fun (s22 : Int64) (M23 : xMem) => (xGb ((nI 68) + nI (10 * t + i)) (xln (xnw M21)) (xLt (xwL M23 (xnw M21) (Int32.toNatClampNeg ((nI 68) + nI (10 * t + i))) s22) fun M25 => J M25) : Option (xMem))) fun J122 => if nI (cdO t i c ρ) = 0 then (J122 (lN 0) M21) else (J122 (lN 6) M21)) : Option (xMem))) fun J100 => if nI (cdO t i c ρ) = 0 then (J100 (lN 4) M17) else (J100 (lN 3) M17)) = J (nwS M (cd2 t i c ρ)) := by
      intro J hcase
      refine sBv (e_leavesOuts ht hi q1.1 (fun j hj => qOk_at q1 hj)) ?_
      refine sJw (lN (if cdO t i c ρ = 1 then 3 else 4)) (nwS M (leaveR t i (cd1 t i c ρ))) (fun J => ?_) ?_
      · rcases hcd with e | e
        · exact sT (by rw [e]; decide) (by rw [if_neg (by omega)])
        · exact sF (by rw [e]; decide) (by rw [if_pos e])
      refine sGn (48 + (10 * t + i)) (nI_add _ _) (by omega) ?_
      refine sWn (48 + (10 * t + i)) (if cdO t i c ρ = 1 then 3 else 4) rfl (eCl2 (by omega)) rfl ?_
      refine sJw (lN (if cdO t i c ρ = 1 then 6 else 0)) (nwS M (va_up (leaveR t i (cd1 t i c ρ)) (48 + (10 * t + i)) (if cdO t i c ρ = 1 then 3 else 4))) (fun J => ?_) ?_
      · rcases hcd with e | e
        · exact sT (by rw [e]; decide) (by rw [if_neg (by omega), if_neg (by omega)])
        · exact sF (by rw [e]; decide) (by rw [if_pos e, if_pos e])
      refine sGn (68 + (10 * t + i)) (nI_add _ _) (by omega) ?_
      refine sWn (68 + (10 * t + i)) (if cdO t i c ρ = 1 then 6 else 0) rfl (eCl2 (by omega)) rfl ?_
      unfold cd2
      rw [if_pos hcase]
    rw [eLt]
    rcases hcd with e | e
    · refine sT (by rw [e]; decide) ?_
      by_cases e2 : c = 2
      · exact sT (by rw [e2]) (key J (Or.inr e2))
      · refine sF (by rw [eEq (by omega) (by decide)]; exact e2) ?_
        unfold cd2
        rw [if_neg (by omega)]
    · exact sF (by rw [e]; decide) (key J (Or.inl e))
  refine sBn (e_allOutOf ht (R2.m ht) (R2.s ht) (R2.q ht)) ?_
  refine sJx (nwS M (cd3 t i c ρ)) (fun J => ?_) ?_
  · by_cases e : isAll t (cd2 t i c ρ) = true
    · rw [if_pos e]
      refine sF (by decide) (sGn 25 rfl (by decide) ?_)
      rw [nwS_w, nwS_at, eCl (by decide), lf_at, c25]
      by_cases e2 : ρ 25 = 0
      · refine sT (by rw [eCmpLe, eLLe (by omega) (by decide)]; omega) ?_
        unfold cd3
        rw [if_neg (by omega)]
      · refine sF (by rw [eCmpLe, eLLe (by omega) (by decide)]; omega) ?_
        refine sBn (a := nI (ρ 25)) (M := nwS M (allR t (cd2 t i c ρ))) (by rw [e_get (by decide), c25]) ?_
        rw [eSub (by omega), pk_mul, nI_add, nI_add, nI_add, eSub (by omega)]
        refine sGb (235 + 15 * (ρ 25 - 1) + 13 + 1 - t) rfl (by rw [xlnw]; omega) (by rw [xlnw]; decide) (sGb (235 + 15 * (ρ 25 - 1) + 13 + 1 - t) rfl (by rw [xlnw]; omega) (by rw [xlnw]; decide) ?_)
        refine sWn (235 + 15 * (ρ 25 - 1) + 13 + 1 - t) (allR t (cd2 t i c ρ) (235 + 15 * (ρ 25 - 1) + 13 + 1 - t) + 2) rfl (eCl (by omega)) (by rw [nwS_at, eCl (by omega), lf_at, lN_add]) ?_
        unfold cd3 addR
        rw [if_pos ⟨e, by omega⟩]
    · rw [if_neg e]
      refine sT (by decide) ?_
      unfold cd3
      rw [if_neg (fun q => e q.1)]
  exact sBv e_lineComes rfl
