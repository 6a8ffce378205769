/-! ===== the other lines on rows ===== -/
def lineR (ρ : Nat → Nat) : Nat → Nat := va_up (va_up ρ 26 (ρ 26 + 1)) 29 0
theorem e_lineComes {M : xMem} {ρ : Nat → Nat} : fX11_lineComes 146 (nwS M ρ) = some (nwS M (lineR ρ)) := by
  unfold fX11_lineComes
  refine sGn 26 rfl (by decide) (sGn 26 rfl (by decide) ?_)
  refine sWn 26 (ρ 26 + 1) rfl (eCl (by decide)) (by rw [nwS_w, nwS_at, eCl (by decide), lf_at, lN_add]) ?_
  refine sGn 29 rfl (by decide) ?_
  exact sWn 29 0 rfl (eCl (by decide)) rfl rfl
def changeR (t f u : Nat) (ρ : Nat → Nat) : Nat → Nat := lineR (addR (32 + t) 1 (va_up (va_up ρ (48 + 10 * t + f) 2) (48 + 10 * t + u) 0))
theorem e_changesOver {M : xMem} {ρ : Nat → Nat} {t f u : Nat} (ht : t < 2) (hf : f < 10) (hu : u < 10) : fX11_changesOver 146 (nI t) (nI f) (nI u) (nwS M ρ) = some (nwS M (changeR t f u ρ)) := by
  unfold fX11_changesOver
  rw [pk_mul]
  refine sGn (48 + 10 * t + f) (nI_add3 _ _ _) (by omega) ?_
  refine sWn (48 + 10 * t + f) 2 rfl (eCl3 (by omega)) rfl ?_
  refine sGn (48 + 10 * t + u) (nI_add3 _ _ _) (by omega) ?_
  refine sWn (48 + 10 * t + u) 0 rfl (eCl3 (by omega)) rfl ?_
  refine sGn (32 + t) (nI_add _ _) (by omega) (sGn (32 + t) (nI_add _ _) (by omega) ?_)
  refine sWn (32 + t) (va_up (va_up ρ (48 + 10 * t + f) 2) (48 + 10 * t + u) 0 (32 + t) + 1) rfl (eCl2 (by omega)) (by rw [nwS_w, nwS_at, eCl2 (by omega), lf_at, lN_add]) ?_
  exact sBv e_lineComes rfl
def halfR (ρ : Nat → Nat) : Nat → Nat := lineR (va_up (va_up (va_up (va_up (va_up (va_up ρ 27 (ρ 27 + 1)) 28 1) 30 0) 34 0) 31 0) 35 0)
theorem e_halves {M : xMem} {ρ : Nat → Nat} : fX11_halves 146 (nwS M ρ) = some (nwS M (halfR ρ)) := by
  unfold fX11_halves
  refine sGn 27 rfl (by decide) (sGn 27 rfl (by decide) ?_)
  refine sWn 27 (ρ 27 + 1) rfl (eCl (by decide)) (by rw [nwS_w, nwS_at, eCl (by decide), lf_at, lN_add]) ?_
  refine sGn 28 rfl (by decide) ?_
  refine sWn 28 1 rfl (eCl (by decide)) rfl ?_
  have hL := loopU (fun n i => fX11_halves_l21 146 (fun _ M12 => xBv (fX11_lineComes 146 M12) fun M13 => some M13) n (nI i) (nwS M (if i = 0 then va_up (va_up ρ 27 (ρ 27 + 1)) 28 1 else if i = 1 then va_up (va_up (va_up (va_up ρ 27 (ρ 27 + 1)) 28 1) 30 0) 34 0 else va_up (va_up (va_up (va_up (va_up (va_up ρ 27 (ρ 27 + 1)) 28 1) 30 0) 34 0) 31 0) 35 0))) 2 (some (nwS M (halfR ρ))) (by decide) (fun n i hi => ?_) (fun n => ?_)
  · exact hL
  · rcases (show i = 0 ∨ i = 1 by omega) with rfl | rfl
    · rw [fX11_halves_l21.eq_2]
      refine sF (by decide) (sGn 30 (by decide) (by decide) (sWn 30 0 rfl (by decide) rfl (sGn 34 (by decide) (by decide) (sWn 34 0 rfl (by decide) rfl ?_))))
      rfl
    · rw [fX11_halves_l21.eq_2]
      refine sF (by decide) (sGn 31 (by decide) (by decide) (sWn 31 0 rfl (by decide) rfl (sGn 35 (by decide) (by decide) (sWn 35 0 rfl (by decide) rfl ?_))))
      rfl
  · rw [fX11_halves_l21.eq_2]
    exact sT (by decide) (sBv e_lineComes rfl)
def coreR (ρ : Nat → Nat) : Nat → Nat := fun k => if 25 ≤ k ∧ k < 130 then ρ (k + 105) else ρ k
def reviewR (t won : Nat) (ρ : Nat → Nat) : Nat → Nat := lineR (if won = 1 then coreR ρ else va_up ρ (34 + t) 1)
theorem e_reviews {M : xMem} {ρ : Nat → Nat} {t won : Nat} (ht : t < 2) (hw : won < 2) : fX11_reviews 146 (nI t) (nI won) (nwS M ρ) = some (nwS M (reviewR t won ρ)) := by
  unfold fX11_reviews
  rcases (show won = 0 ∨ won = 1 by omega) with rfl | rfl
  · have e2 : xFU = 39999 + 1 := by decide
    rw [e2, fX11_reviews_l2.eq_2]
    refine sF (by decide) (sT (by decide) ?_)
    refine sJx (nwS M (va_up ρ (34 + t) 1)) (fun J => ?_) ?_
    · refine sT (by decide) (sGn (34 + t) (nI_add _ _) (by omega) ?_)
      exact sWn (34 + t) 1 rfl (eCl2 (by omega)) rfl rfl
    · exact sBv e_lineComes rfl
  · have hL := loopU (fun n k => fX11_reviews_l2 146 (nI t) (nI 1) (fun _ M6 => xLt (fun (M7 : xMem) => (xBv (fX11_lineComes 146 M7) fun M8 => some M8 : Option xMem)) fun J51 => if nI 1 = 0 then (xGb (nI 34 + nI t) (xln (xnw M6)) (xLt (xwL M6 (xnw M6) (Int32.toNatClampNeg (nI 34 + nI t)) (lN 1)) fun M10 => J51 M10)) else (J51 M6)) n (nI k) (nwS M (fun j => if 25 ≤ j ∧ j < 25 + k then ρ (j + 105) else ρ j))) 105 (some (nwS M (reviewR t 1 ρ))) (by decide) (fun n k hk => ?_) (fun n => ?_)
    · have e : (fun j => if 25 ≤ j ∧ j < 25 + 0 then ρ (j + 105) else ρ j) = ρ := by
        funext j
        rw [if_neg (by omega)]
      rw [e] at hL
      exact hL
    · rw [fX11_reviews_l2.eq_2]
      refine sF (by rw [eLe (by decide) (by omega)]; omega) (sF (by decide) ?_)
      refine sGn (130 + k) (nI_add _ _) (by omega) (sGn (25 + k) (nI_add _ _) (by omega) ?_)
      refine sWn (25 + k) (ρ (130 + k)) rfl (eCl2 (by omega)) (by rw [nwS_w, nwS_at, eCl2 (by omega), lf_at, if_neg (by omega)]) ?_
      refine sLe (nI_1 k) ?_
      congr 2
      funext j
      by_cases h : j = 25 + k
      · subst h
        rw [va_at_eq, if_pos (by omega)]
        congr 1
        omega
      · rw [va_at_ne h]
        by_cases h2 : 25 ≤ j ∧ j < 25 + k
        · rw [if_pos h2, if_pos (by omega)]
        · rw [if_neg h2, if_neg (by omega)]
    · rw [fX11_reviews_l2.eq_2]
      refine sT (by decide) ?_
      refine sJx (nwS M (coreR ρ)) (fun J => sF (by decide) rfl) ?_
      exact sBv e_lineComes rfl
