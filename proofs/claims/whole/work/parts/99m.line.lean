/-! ===== the model reads lines ===== -/
section
variable {tp : List Nat} {M : xMem} {σ : Nat → Nat} {st : PS} {n : Nat → List Nat}
theorem m_readHalf (hl : tp.length ≤ 2000) (hb : ∀ b ∈ tp, b < 256) (hI : RI σ) (h : MS tp M σ st) : ∃ M', fX11_readHalf 146 M = some M' ∧ MS tp M' (appS σ (xSemi tp (xHalf tp σ st).1) (xHalf tp σ st).2) (xSemi tp (xHalf tp σ st).1) ∧ Fx M M' := by
  unfold fX11_readHalf xHalf
  have h27 := hI.1.2.1.2.2.1
  obtain ⟨M1, f1, k1, F1⟩ := m_can h (b := if ovR σ = 0 then 1 else 0) (ite01 _)
  obtain ⟨M2, f2, k2, F2⟩ := m_passes hl hb k1 4 (i := 11) (by decide) (by decide)
  obtain ⟨M3, k3, F3, J3⟩ := m_semi (β := xMem) hb k2
  obtain ⟨M4, f4, k4, F4⟩ := k3.play (l := .inr (3, 0, 0, 0)) (f := fun M => fX11_halves 146 M) (fun T e => by
    have := e_halves (M := M3) (ρ := σ)
    rw [k3.2.1.nw] at this
    exact this)
  refine ⟨M4, ?_, k4, ((F1.trans F2).trans F3).fx.trans F4⟩
  refine sBn (q_isOver h.2.1 h27) (sJw (nI (if ovR σ = 0 then 1 else 0)) M (fun J => ?_) (sBv f1 (sBv f2 (sBn (m_good k2) ?_))))
  · have : ovR σ < 2 := ite01 _
    rcases (show ovR σ = 0 ∨ ovR σ = 1 by omega) with e | e <;> rw [e] <;> rfl
  · exact (J3 _).trans f4
theorem m_readReview (hl : tp.length ≤ 2000) (hb : ∀ b ∈ tp, b < 256) (hI : RI σ) (hn : nmR n σ) (h : MS tp M σ st) : ∃ M', fX11_readReview 146 M = some M' ∧ MS tp M' (appS σ (xSemi tp (xReview tp n σ st).1) (xReview tp n σ st).2) (xSemi tp (xReview tp n σ st).1) ∧ Fx M M' := by
  have ht := xTm_lt (tp := tp) (n := n) (xPass tp 5 st)
  obtain ⟨M1, f1, k1, F1⟩ := m_passes hl hb h 5 (i := 12) (by decide) (by decide)
  obtain ⟨M2, f2, k2, F2⟩ := m_teamHere hl hb hn k1
  unfold fX11_readReview xReview rvA rvB
  simp only
  generalize hq : xTm tp n (xPass tp 5 st) = q at *
  obtain ⟨s1, t⟩ := q
  simp only at *
  obtain ⟨M3, f3, k3, F3⟩ := m_can k2 (b := if σ 26 < 40 ∧ caR t σ = 1 then 1 else 0) (ite01 _)
  obtain ⟨M4, k4, F4, J4⟩ := m_advG (β := xMem) hl hb k3
  generalize xAd tp (xCan (if σ 26 < 40 ∧ caR t σ = 1 then 1 else 0) s1) = s4 at *
  have w7 := m_isWord hl k4 7 (i := 14) (by decide) (by decide)
  have w8 := m_isWord hl k4 8 (i := 15) (by decide) (by decide)
  have l7 := xW_lt tp 7 s4
  have l8' := xW_lt tp 8 s4
  -- won or lost
  have wl : ∃ M5, MS tp M5 σ (wlF tp s4) ∧ Fe M4 M5 ∧ ∀ J : xMem → Option xMem, (if nI (gd s4) = 0 then (J M4) else (if nI (xW tp 7 s4) = 0 then (xBn (fX11_isWord 146 15 M4) fun r27 M28 => if r27 = 0 then (xBv (fX11_errs 146 (nI 1) (M28.1 146 14) M28) fun M29 => J M29) else (J M28)) else (J M4))) = J M5 := by
    cases s4 with
    | inl b => exact ⟨M4, by unfold wlF; split <;> exact k4, Fe.refl _, fun J => sT g0 rfl⟩
    | inr T =>
      rcases l7 with e | e
      · rcases l8' with e' | e'
        · obtain ⟨M5, f5, k5, F5⟩ := m_errs k4 (f := 1) (by decide) (by decide)
          refine ⟨M5, ?_, F5, fun J => sF g1 (sT (by rw [e]; decide) (sBn w8 (sT (by rw [e']; decide) (sBv f5 rfl))))⟩
          unfold wlF; rw [if_neg (by omega)]; exact k5
        · refine ⟨M4, ?_, Fe.refl _, fun J => sF g1 (sT (by rw [e]; decide) (sBn w8 (sF (by rw [e']; decide) rfl)))⟩
          unfold wlF; rw [if_pos (by omega)]; exact k4
      · refine ⟨M4, ?_, Fe.refl _, fun J => sF g1 (sF (by rw [e]; decide) rfl)⟩
        unfold wlF; rw [if_pos (by omega)]; exact k4
  obtain ⟨M5, k5, F5, J5⟩ := wl
  obtain ⟨M6, k6, F6, J6⟩ := m_advG (β := xMem) hl hb k5
  obtain ⟨M7, k7, F7, J7⟩ := m_semi (β := xMem) hb k6
  obtain ⟨M8, f8, k8, F8⟩ := k7.play (l := .inr (4, t, xW tp 7 s4, 0)) (f := fun M => fX11_reviews 146 (nI t) (nI (xW tp 7 s4)) M) (fun T e => by
    have := e_reviews (M := M7) (ρ := σ) (t := t) (won := xW tp 7 s4) ht (by omega)
    rw [k7.2.1.nw] at this
    exact this)
  refine ⟨M8, ?_, k8, ((((((F1.trans F2).trans F3).trans F4).trans F5).trans F6).trans F7).fx.trans F8⟩
  refine sBv f1 (sBn f2 (sBn (q_canReview k2.2.1 hI.1.2.1 ht) (sBv f3 (sBn (m_good k3) (sLt ?_)))))
  refine (J4 _).trans (sBn w7 (sBn (m_good k4) (sLt ?_)))
  refine (J5 _).trans (sBn (m_good k5) (sLt ?_))
  refine (J6 _).trans (sBn (m_good k6) (sLt ?_))
  exact (J7 _).trans f8
theorem m_readCard (hl : tp.length ≤ 2000) (hb : ∀ b ∈ tp, b < 256) (hI : RI σ) (hn : nmR n σ) (hs : shR σ) (h26 : ∀ T, st = .inr T → σ 26 < 40) (h : MS tp M σ st) : ∃ M', fX11_readCard 146 M = some M' ∧ MS tp M' (appS σ (xSemi tp (xCard tp n σ st).1) (xCard tp n σ st).2) (xSemi tp (xCard tp n σ st).1) ∧ Fx M M' := by
  have ht := xTm_lt (tp := tp) (n := n) (xPass tp 2 st)
  have h27 := hI.1.2.1.2.2.1
  have hR := hI.1.1.1
  have hB := hI.1.2.1
  have ok := fun T h26 e => card_ok (tp := tp) (σ := σ) (n := n) (st := st) (T := T) h26 e
  obtain ⟨M1, f1, k1, F1⟩ := m_passes hl hb h 2 (i := 9) (by decide) (by decide)
  obtain ⟨M2, f2, k2, F2⟩ := m_teamRead hl hb hn k1
  have gs : ∀ T, (xCard tp n σ st).1 = .inr T → ∃ T', st = .inr T' := by
    intro T e
    unfold xCard cdA cdB cdC at e
    obtain ⟨T1, e1⟩ := xAd_inr e
    obtain ⟨-, e2⟩ := xCan_inr e1
    have e3 : ∃ s4, cWF tp s4 = .inr T1 ∧ s4 = _ := ⟨_, e2, rfl⟩
    obtain ⟨s4, e4, e5⟩ := e3
    have e6 : s4 = .inr T1 := by
      unfold cWF at e4
      split at e4
      · cases s4 with
        | inl b => exact e4
        | inr T' => exact absurd e4 (by simp [xE])
      · exact e4
    rw [e6] at e5
    obtain ⟨T2, e7⟩ := xAd_inr e5.symm
    obtain ⟨-, e8⟩ := xCan_inr e7
    obtain ⟨e9, -⟩ := xOne_inr e8
    obtain ⟨T3, e10⟩ := xAd_inr e9
    have e11 := xTm_inr e10
    obtain ⟨T4, e12, -⟩ := xPass_inr e11
    exact ⟨T4, e12⟩
  unfold xCard cdA cdB cdC at *
  unfold fX11_readCard
  simp only at *
  generalize hq : xTm tp n (xPass tp 2 st) = q at *
  obtain ⟨s1, t⟩ := q
  simp only at *
  have h1 := (hR.2 t ht).1.1
  have h10 := hR.m ht
  obtain ⟨M3, f3, k3, F3⟩ := m_oneHere ht hs k2
  have hi := xOne_lt (tp := tp) (t := t) (σ := σ) (xAd tp s1) h1
  generalize xOne tp σ t (xAd tp s1) = o at *
  obtain ⟨s2, i⟩ := o
  simp only at *
  have hst := ((hR.2 t ht).2.1 i (by omega)).1
  have io := q_isOf k3.2.1 ht (show i < 10 by omega)
  generalize hx : σ (48 + 10 * t + i) = x at *
  obtain ⟨M4, f4, k4, F4⟩ := m_can k3 (b := if ovR σ = 0 ∧ x ≠ 2 ∧ x ≠ 4 then 1 else 0) (ite01 _)
  obtain ⟨M5, k5, F5, J5⟩ := m_advG (β := xMem) hl hb k4
  generalize xAd tp (xCan (if ovR σ = 0 ∧ x ≠ 2 ∧ x ≠ 4 then 1 else 0) s2) = s4 at *
  have w0 := m_isWord hl k5 9 (i := 21) (by decide) (by decide)
  have w1 := m_isWord hl k5 10 (i := 22) (by decide) (by decide)
  have w2 := m_isWord hl k5 11 (i := 23) (by decide) (by decide)
  have l0 := xW_lt tp 9 s4
  have l1 := xW_lt tp 10 s4
  have l2 := xW_lt tp 11 s4
  have cc : ∀ J : Int32 → xMem → Option xMem, (if nI (xW tp 9 s4) = 0 then (xBn (fX11_isWord 146 22 M5) fun r38 M39 => if r38 = 0 then (xBn (fX11_isWord 146 23 M39) fun r40 M41 => if r40 = 0 then (J (-1) M41) else (J (nI 2) M41)) else (J (nI 1) M39)) else (J (nI 0) M5)) = J (if cW tp s4 = 3 then -1 else nI (cW tp s4)) M5 := by
    intro J
    unfold cW
    rcases l0 with e | e
    · refine sT (by rw [e]; decide) (sBn w1 ?_)
      rcases l1 with e1 | e1
      · refine sT (by rw [e1]; decide) (sBn w2 ?_)
        rcases l2 with e2 | e2
        · rw [e, e1, e2]; exact sT (by decide) rfl
        · rw [e, e1, e2]; exact sF (by decide) rfl
      · rw [e, e1]; exact sF (by decide) rfl
    · rw [e]; exact sF (by decide) rfl
  have c3 : cW tp s4 ≤ 3 := by
    unfold cW
    split
    · omega
    · split
      · omega
      · split <;> omega
  have ex : ∃ M6, MS tp M6 σ (cWF tp s4) ∧ Fe M5 M6 ∧ ∀ J : xMem → Option xMem, (if (if cW tp s4 = 3 then (-1 : Int32) else nI (cW tp s4)) = (-1) then (xBv (fX11_errs 146 (nI 1) (M5.1 146 14) M5) fun M37 => J M37) else (J M5)) = J M6 := by
    unfold cWF
    by_cases e : cW tp s4 = 3
    · obtain ⟨M6, f6, k6, F6⟩ := m_errs k5 (f := 1) (by decide) (by decide)
      rw [if_pos e, if_pos e]
      exact ⟨M6, k6, F6, fun J => sT rfl (sBv f6 rfl)⟩
    · rw [if_neg e, if_neg e]
      exact ⟨M5, k5, Fe.refl _, fun J => sF (m1_ne (by omega)) rfl⟩
  obtain ⟨M6, k6, F6, J6⟩ := ex
  obtain ⟨M7, f7, k7, F7⟩ := m_can k6 (b := if x = 3 ∧ cW tp s4 ≠ 2 then 0 else 1) (by split <;> decide)
  obtain ⟨M8, k8, F8, J8⟩ := m_advG (β := xMem) hl hb k7
  obtain ⟨M9, k9, F9, J9⟩ := m_semi (β := xMem) hb k8
  obtain ⟨M0, f0, k0, F0⟩ := k9.play (l := .inr (1, t, i, cW tp s4)) (f := fun M => fX11_cards 146 (nI t) (nI i) (if cW tp s4 = 3 then -1 else nI (cW tp s4)) M) (fun T e => by
    have e1 := xSemi_inr e
    obtain ⟨T', e2⟩ := gs T e1
    have h40 := h26 T' e2
    obtain ⟨-, c2⟩ := ok T h40 e1
    rw [if_neg (by omega)]
    have hg := (hB.2.2.2.2 t ht).2.2.2.2 i (by omega)
    have := e_cards (M := M9) (ρ := σ) (t := t) (i := i) (c := cW tp s4) hR ht (by omega) c2 hB.1 (by rw [show 88 + (10 * t + i) = 88 + 10 * t + i by omega]; omega)
    rw [k9.2.1.nw] at this
    exact this)
  refine ⟨M0, ?_, k0, ((((((((F1.trans F2).trans F3).trans F4).trans F5).trans F6).trans F7).trans F8).trans F9).fx.trans F0⟩
  refine sBv f1 (sBn f2 (sBn f3 (sBn io (sBn (q_isOver k3.2.1 h27) (sJw (nI (if ovR σ = 0 ∧ x ≠ 2 ∧ x ≠ 4 then 1 else 0)) M3 (fun J => ?_) (sBv f4 (sBn (m_good k4) (sLt ?_))))))))
  · have : ovR σ < 2 := ite01 _
    rcases (show ovR σ = 0 ∨ ovR σ = 1 by omega) with e | e <;> rcases (show x = 0 ∨ x = 1 ∨ x = 2 ∨ x = 3 ∨ x = 4 by omega) with rfl | rfl | rfl | rfl | rfl <;> rw [e] <;> rfl
  · refine (J5 _).trans ?_
    refine sBn w0 (sJw _ _ cc (sLt ?_))
    refine (J6 _).trans (sJw (nI (if x = 3 ∧ cW tp s4 ≠ 2 then 0 else 1)) M6 (fun J => ?_) (sBv f7 (sBn (m_good k7) (sLt ?_))))
    · have v1 : ¬ (x = 3 ∧ cW tp s4 ≠ 2) → nI (if x = 3 ∧ cW tp s4 ≠ 2 then 0 else 1) = nI 1 := fun y => by rw [if_neg y]
      have v0 : (x = 3 ∧ cW tp s4 ≠ 2) → nI (if x = 3 ∧ cW tp s4 ≠ 2 then 0 else 1) = nI 0 := fun y => by rw [if_pos y]
      by_cases x3 : x = 3
      · refine sLt (sT (by rw [x3]) ?_)
        by_cases e2 : cW tp s4 = 2
        · rw [v1 (fun y => y.2 e2)]; exact sT (by rw [e2]; decide) rfl
        · rw [v0 ⟨x3, e2⟩]
          refine sF ?_ rfl
          by_cases e3 : cW tp s4 = 3
          · rw [if_pos e3]; decide
          · rw [if_neg e3, nI_eq (by omega) (by decide)]; exact e2
      · rw [v1 (fun y => x3 y.1)]
        exact sLt (sF (by rw [nI_eq (by omega) (by decide)]; exact x3) rfl)
    · refine (J8 _).trans (sBn (m_good k8) (sLt ?_))
      exact (J9 _).trans f0
theorem m_readChange (hl : tp.length ≤ 2000) (hb : ∀ b ∈ tp, b < 256) (hI : RI σ) (hn : nmR n σ) (hs : shR σ) (h : MS tp M σ st) : ∃ M', fX11_readChange 146 M = some M' ∧ MS tp M' (appS σ (xSemi tp (xChange tp n σ st).1) (xChange tp n σ st).2) (xSemi tp (xChange tp n σ st).1) ∧ Fx M M' := by
  have ht := xTm_lt (tp := tp) (n := n) (xPass tp 3 st)
  have h27 := hI.1.2.1.2.2.1
  have hR := hI.1.1.1
  have hB := hI.1.2.1
  obtain ⟨M1, f1, k1, F1⟩ := m_passes hl hb h 3 (i := 10) (by decide) (by decide)
  obtain ⟨M2, f2, k2, F2⟩ := m_teamRead hl hb hn k1
  unfold xChange chA chB chC at *
  unfold fX11_readChange
  simp only at *
  generalize hq : xTm tp n (xPass tp 3 st) = q at *
  obtain ⟨s1, t⟩ := q
  simp only at *
  have h1 := (hR.2 t ht).1.1
  have h10 := hR.m ht
  have h5 := (hB.2.2.2.2 t ht).2.1
  obtain ⟨M3, f3, k3, F3⟩ := m_oneHere ht hs k2
  have hi := xOne_lt (tp := tp) (t := t) (σ := σ) (xAd tp s1) h1
  generalize xOne tp σ t (xAd tp s1) = o at *
  obtain ⟨s2, i⟩ := o
  simp only at *
  have hst := ((hR.2 t ht).2.1 i (by omega)).1
  have io := q_isOf k3.2.1 ht (show i < 10 by omega)
  have hcl : clR t i σ < 2 := ite01 _
  obtain ⟨M4, f4, k4, F4⟩ := m_can k3 (b := clR t i σ) hcl
  obtain ⟨M5, k5, F5, J5⟩ := m_advG (β := xMem) hl hb k4
  obtain ⟨M6, f6, k6, F6⟩ := m_passes hl hb k5 6 (i := 13) (by decide) (by decide)
  obtain ⟨M7, f7, k7, F7⟩ := m_oneHere ht hs k6
  have hj := xOne_lt (tp := tp) (t := t) (σ := σ) (xPass tp 6 (xAd tp (xCan (clR t i σ) s2))) h1
  generalize xOne tp σ t (xPass tp 6 (xAd tp (xCan (clR t i σ) s2))) = o2 at *
  obtain ⟨s7, j⟩ := o2
  simp only at *
  have hst2 := ((hR.2 t ht).2.1 j (by omega)).1
  have jo := q_isOf k7.2.1 ht (show j < 10 by omega)
  obtain ⟨M8, f8, k8, F8⟩ := m_can k7 (b := if σ (48 + 10 * t + j) = 2 then 1 else 0) (ite01 _)
  obtain ⟨M9, k9, F9, J9⟩ := m_advG (β := xMem) hl hb k8
  obtain ⟨Ma, ka, Fa, Ja⟩ := m_semi (β := xMem) hb k9
  obtain ⟨Mb, fb, kb, Fb⟩ := ka.play (l := .inr (2, t, i, j)) (f := fun M => fX11_changesOver 146 (nI t) (nI i) (nI j) M) (fun T e => by
    have := e_changesOver (M := Ma) (ρ := σ) (t := t) (f := i) (u := j) ht (by omega) (by omega)
    rw [ka.2.1.nw] at this
    exact this)
  refine ⟨Mb, ?_, kb, (((((((((F1.trans F2).trans F3).trans F4).trans F5).trans F6).trans F7).trans F8).trans F9).trans Fa).fx.trans Fb⟩
  refine sBv f1 (sBn f2 (sBn f3 (sBn (q_isOver k3.2.1 h27) (sJw (nI (clR t i σ)) M3 (fun J => ?_) (sBv f4 (sBn (m_good k4) (sLt ?_)))))))
  · unfold clR
    have : ovR σ < 2 := ite01 _
    rcases (show ovR σ = 0 ∨ ovR σ = 1 by omega) with e | e
    · rw [e]
      refine sLt (sT (by decide) (sBn io ?_))
      by_cases e2 : σ (48 + 10 * t + i) = 0
      · rw [e2]
        refine sT (by decide) (sGb (32 + t) (nI_add _ _) (by rw [xlnw]; omega) (by rw [xlnw]; decide) ?_)
        have r3 : M3.2.1 (xnw M3) = lf σ := k3.2.1
        rw [nI_add, eCl (by omega), r3, lf_at]
        by_cases e3 : σ (32 + t) < 5
        · rw [iN1 ⟨rfl, e3, rfl⟩]
          exact sF (by rw [eCmpGe, eLLe (by omega) (by omega)]; omega) rfl
        · rw [iN0 (fun y => e3 y.2.1)]
          exact sT (by rw [eCmpGe, eLLe (by omega) (by omega)]; omega) rfl
      · rw [iN0 (fun y => e2 y.2.2)]
        exact sF (eN0 (by omega) (by omega)) rfl
    · rw [e, iN0 (fun y => by have := y.1; omega)]
      exact sLt (sF (by decide) rfl)
  · refine (J5 _).trans (sBv f6 (sBn f7 (sBn jo (sJw (nI (if σ (48 + 10 * t + j) = 2 then 1 else 0)) M7 (fun J => ?_) (sBv f8 (sBn (m_good k8) (sLt ?_)))))))
    · by_cases e : σ (48 + 10 * t + j) = 2
      · rw [if_pos e, e]; exact sT rfl rfl
      · rw [if_neg e]; exact sF (by rw [nI_eq (by omega) (by decide)]; exact e) rfl
    · refine (J9 _).trans (sBn (m_good k9) (sLt ?_))
      exact (Ja _).trans fb
end
