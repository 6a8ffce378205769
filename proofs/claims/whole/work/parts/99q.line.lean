/-! ===== the model reads a line, and lines ===== -/
def lnO (σ : Nat → Nat) (st : PS) : PS := if σ 26 = 40 then xE 7 st else st
def lnF (tp : List Nat) (n : Nat → List Nat) (σ : Nat → Nat) (st : PS) : PL :=
  if xW tp 1 st = 1 then xRaid tp σ st else if xW tp 2 st = 1 then xCard tp n σ (lnO σ st) else if xW tp 3 st = 1 then xChange tp n σ (lnO σ st) else if xW tp 4 st = 1 then xHalf tp σ (lnO σ st) else if xW tp 5 st = 1 then xReview tp n σ (lnO σ st) else (xE 1 st, .inl (0, 0, 0, 0, []))
section
variable {tp : List Nat} {n : Nat → List Nat} {σ : Nat → Nat}
theorem xSemi_inl (b : Nat × Nat) : xSemi tp (.inl b) = .inl b := by unfold xSemi; split <;> rfl
theorem xAd_inl (b : Nat × Nat) : xAd tp (.inl b) = .inl b := rfl
theorem xCan_inl (c : Nat) (b : Nat × Nat) : xCan c (.inl b) = .inl b := by unfold xCan; split <;> rfl
theorem xTm_inl (b : Nat × Nat) : xTm tp n (.inl b) = (.inl b, 0) := rfl
theorem xOne_inl (t : Nat) (b : Nat × Nat) : xOne tp σ t (.inl b) = (.inl b, 0) := rfl
theorem xW_inl (j : Nat) (b : Nat × Nat) : xW tp j (.inl b) = 0 := rfl
theorem half_inl (b : Nat × Nat) : (xHalf tp σ (.inl b)).1 = .inl b := by unfold xHalf; rw [xCan_inl, xPass_inl]
theorem wlF_inl (b : Nat × Nat) : wlF tp (.inl b) = .inl b := by unfold wlF; split <;> rfl
theorem rvB_inl (t : Nat) (b : Nat × Nat) : (rvB tp t (.inl b)).1 = .inl b := by unfold rvB; rw [wlF_inl, xAd_inl]
theorem rvA_inl (t : Nat) (b : Nat × Nat) : (rvA tp σ (.inl b, t)).1 = .inl b := by unfold rvA; rw [xCan_inl, xAd_inl, rvB_inl]
theorem review_inl (b : Nat × Nat) : (xReview tp n σ (.inl b)).1 = .inl b := by unfold xReview; rw [xPass_inl, xTm_inl, rvA_inl]
theorem cWF_inl (b : Nat × Nat) : cWF tp (.inl b) = .inl b := by unfold cWF; split <;> rfl
theorem cdC_inl (t i : Nat) (b : Nat × Nat) : (cdC tp σ t i (.inl b)).1 = .inl b := by unfold cdC; rw [cWF_inl, xCan_inl, xAd_inl]
theorem cdB_inl (t i : Nat) (b : Nat × Nat) : (cdB tp σ t (.inl b, i)).1 = .inl b := by unfold cdB; rw [xCan_inl, xAd_inl, cdC_inl]
theorem cdA_inl (t : Nat) (b : Nat × Nat) : (cdA tp σ (.inl b, t)).1 = .inl b := by unfold cdA; rw [xAd_inl, xOne_inl, cdB_inl]
theorem card_inl (b : Nat × Nat) : (xCard tp n σ (.inl b)).1 = .inl b := by unfold xCard; rw [xPass_inl, xTm_inl, cdA_inl]
theorem chC_inl (t f i : Nat) (b : Nat × Nat) : (chC tp σ t f (.inl b, i)).1 = .inl b := by unfold chC; rw [xCan_inl, xAd_inl]
theorem chB_inl (t i : Nat) (b : Nat × Nat) : (chB tp σ t (.inl b, i)).1 = .inl b := by unfold chB; rw [xCan_inl, xAd_inl, xPass_inl, xOne_inl, chC_inl]
theorem chA_inl (t : Nat) (b : Nat × Nat) : (chA tp σ (.inl b, t)).1 = .inl b := by unfold chA; rw [xAd_inl, xOne_inl, chB_inl]
theorem change_inl (b : Nat × Nat) : (xChange tp n σ (.inl b)).1 = .inl b := by unfold xChange; rw [xPass_inl, xTm_inl, chA_inl]
theorem W_ne {T : TK} {j k : Nat} (h : xW tp j (.inr T) = 1) (hjk : j ≠ k) : xW tp k (.inr T) = 0 := by
  have e : wd tp T = j := ite_1 h
  show (if wd tp T = k then 1 else 0) = 0
  rw [if_neg (by omega)]
theorem lnO_inr {st : PS} {T : TK} (hI : RI σ) (e : lnO σ st = .inr T) : σ 26 < 40 ∧ st = .inr T := by
  unfold lnO at e
  have := hI.1.2.1.2.1
  by_cases z : σ 26 = 40
  · rw [if_pos z] at e; exact absurd e xE_inr
  · rw [if_neg z] at e; exact ⟨by omega, e⟩
theorem m_readLine (hl : tp.length ≤ 2000) (hb : ∀ b ∈ tp, b < 256) (hI : RI σ) (hn : nmR n σ) (hs : shR σ) {M : xMem} {T : TK} (h : MS tp M σ (.inr T)) : ∃ M', fX11_readLine 146 M = some M' ∧ MS tp M' (appS σ (xSemi tp (lnF tp n σ (.inr T)).1) (lnF tp n σ (.inr T)).2) (xPassS tp 59 (xSemi tp (lnF tp n σ (.inr T)).1)) ∧ Fx M M' := by
  have h26 := hI.1.2.1.2.1
  have i1 : ∀ {N : xMem} {s : PS}, MS tp N σ s → fX11_isWord 146 8 N = some (nI (xW tp 1 s), N) := fun h => m_isWord hl h 1 (by decide) (by decide)
  have i2 : ∀ {N : xMem} {s : PS}, MS tp N σ s → fX11_isWord 146 9 N = some (nI (xW tp 2 s), N) := fun h => m_isWord hl h 2 (by decide) (by decide)
  have i3 : ∀ {N : xMem} {s : PS}, MS tp N σ s → fX11_isWord 146 10 N = some (nI (xW tp 3 s), N) := fun h => m_isWord hl h 3 (by decide) (by decide)
  have i4 : ∀ {N : xMem} {s : PS}, MS tp N σ s → fX11_isWord 146 11 N = some (nI (xW tp 4 s), N) := fun h => m_isWord hl h 4 (by decide) (by decide)
  have i5 : ∀ {N : xMem} {s : PS}, MS tp N σ s → fX11_isWord 146 12 N = some (nI (xW tp 5 s), N) := fun h => m_isWord hl h 5 (by decide) (by decide)
  have r0 : M.2.1 (xnw M) = lf σ := h.2.1
  -- room for another line
  have room : ∃ M0, MS tp M0 σ (lnO σ (.inr T)) ∧ Fe M M0 ∧ ∀ J : xMem → Option xMem, (xGb (nI 26) (xln (xnw M)) (if (lg_cmp (M.2.1 (xnw M) (Int32.toNatClampNeg (nI 26))) (lN 40)) = 0 then (xBv (fX11_errs 146 (nI 7) (M.1 146 14) M) fun M25 => J  M25) else (J  M))) = J M0 := by
    unfold lnO
    by_cases e : σ 26 = 40
    · obtain ⟨M0, f0, k0, F0⟩ := m_errs h (f := 7) (by decide) (by decide)
      rw [if_pos e]
      refine ⟨M0, k0, F0, fun J => sGb 26 rfl (by rw [xlnw]; decide) (by rw [xlnw]; decide) ?_⟩
      rw [eCl (by decide), r0, lf_at]
      exact sT (by rw [eCmp0, e]) (sBv f0 rfl)
    · rw [if_neg e]
      refine ⟨M, h, Fe.refl M, fun J => sGb 26 rfl (by rw [xlnw]; decide) (by rw [xlnw]; decide) ?_⟩
      rw [eCl (by decide), r0, lf_at]
      exact sF (by rw [eCmp0, eLE (by omega) (by decide)]; exact e) rfl
  obtain ⟨M0, k0, F0, J0⟩ := room
  have wlt := fun j => xW_lt tp j (.inr T)
  -- the code behind the count of lines
  let B : xMem → Option xMem := fun M5 => (xBn (fX11_isWord 146 8 M5) fun r6 M7 => xLt (fun  (M8 : xMem) => (xBv (fX11_passesByte 146 (nI 59) M8) fun M9 => some M9 : Option (xMem))) fun J159 => if r6 = 0 then (xBn (fX11_isWord 146 9 M7) fun r10 M11 => if r10 = 0 then (xBn (fX11_isWord 146 10 M11) fun r12 M13 => if r12 = 0 then (xBn (fX11_isWord 146 11 M13) fun r14 M15 => if r14 = 0 then (xBn (fX11_isWord 146 12 M15) fun r16 M17 => if r16 = 0 then (xBv (fX11_errs 146 (nI 1) (M17.1 146 14) M17) fun M18 => J159  M18) else (xBv (fX11_readReview 146 M17) fun M19 => J159  M19)) else (xBv (fX11_readHalf 146 M15) fun M20 => J159  M20)) else (xBv (fX11_readChange 146 M13) fun M21 => J159  M21)) else (xBv (fX11_readCard 146 M11) fun M22 => J159  M22)) else (xBv (fX11_readRaid 146 M7) fun M23 => J159  M23))
  have fin : ∀ {N : xMem} {s : PS} {ρ : Nat → Nat}, MS tp N ρ s → Fx M N → ∀ z : xMem → Option xMem, (∀ P, fX11_passesByte 146 (nI 59) N = some P → z N = some P) → ∃ M', z N = some M' ∧ MS tp M' ρ (xPassS tp 59 s) ∧ Fx M M' := by
    intro N s ρ k F z hz
    obtain ⟨P, f, k', F'⟩ := m_passesByte hl hb k (c := 59) (by decide)
    exact ⟨P, hz P f, k', F.trans F'.fx⟩
  -- a line of another kind that has no room
  have full : ∀ b, lnO σ (.inr T) = .inl b → ∃ M', B M0 = some M' ∧ MS tp M' σ (.inl b) ∧ Fx M M' := by
    intro b e
    rw [e] at k0
    obtain ⟨M1, f1, k1, F1⟩ := m_errs k0 (f := 1) (by decide) (by decide)
    have k1' : MS tp M1 σ (.inl b) := k1
    obtain ⟨M2, f2, k2, F2⟩ := m_passesByte hl hb k1' (c := 59) (by decide)
    rw [xPassS_inl] at k2
    refine ⟨M2, ?_, k2, ((F0.trans F1).trans F2).fx⟩
    refine sBn (i1 k0) (sLt (sT (by rw [xW_inl]; decide) (sBn (i2 k0) (sT (by rw [xW_inl]; decide) (sBn (i3 k0) (sT (by rw [xW_inl]; decide) (sBn (i4 k0) (sT (by rw [xW_inl]; decide) (sBn (i5 k0) (sT (by rw [xW_inl]; decide) ?_)))))))))) 
    exact sBv f1 (sBv f2 rfl)
  have one : ∀ j, (j = 2 ∨ j = 3 ∨ j = 4 ∨ j = 5) → xW tp j (.inr T) = 1 → fX11_readLine 146 M = B M0 := by
    intro j hj w
    have wn : ∀ k, k ≠ j → xW tp k (.inr T) = 0 := fun k hk => W_ne w (fun y => hk y.symm)
    unfold fX11_readLine
    refine sBn (i2 h) (sLt ?_)
    refine Eq.trans (b := (xLt (fun (M5 : xMem) => B M5) fun J70 => if nI 1 = 0 then (J70 M) else (xGb (nI 26) (xln (xnw M)) (if (lg_cmp (M.2.1 (xnw M) (Int32.toNatClampNeg (nI 26))) (lN 40)) = 0 then (xBv (fX11_errs 146 (nI 7) (M.1 146 14) M) fun M25 => J70  M25) else (J70  M))))) ?_ (sLt (sF (by decide) (J0 _)))
    rcases hj with rfl | rfl | rfl | rfl
    · rw [w]; exact sF (by decide) rfl
    · rw [wn 2 (by decide)]; refine sT (by decide) (sBn (i3 h) ?_); rw [w]; exact sF (by decide) rfl
    · rw [wn 2 (by decide)]; refine sT (by decide) (sBn (i3 h) ?_); rw [wn 3 (by decide)]; refine sT (by decide) (sBn (i4 h) ?_); rw [w]; exact sF (by decide) rfl
    · rw [wn 2 (by decide)]; refine sT (by decide) (sBn (i3 h) ?_); rw [wn 3 (by decide)]; refine sT (by decide) (sBn (i4 h) ?_); rw [wn 4 (by decide)]; refine sT (by decide) (sBn (i5 h) ?_); rw [w]; exact sF (by decide) rfl
  -- a raid, or none of the five words
  have zero : (∀ j, j = 2 ∨ j = 3 ∨ j = 4 ∨ j = 5 → xW tp j (.inr T) = 0) → fX11_readLine 146 M = B M := by
    intro w
    unfold fX11_readLine
    refine sBn (i2 h) (sLt ?_)
    rw [w 2 (by decide)]; refine sT (by decide) (sBn (i3 h) ?_)
    rw [w 3 (by decide)]; refine sT (by decide) (sBn (i4 h) ?_)
    rw [w 4 (by decide)]; refine sT (by decide) (sBn (i5 h) ?_)
    rw [w 5 (by decide)]; exact sT (by decide) (sLt (sT (by decide) rfl))
  rcases wlt 1 with w1 | w1
  rotate_left
  · have eF : lnF tp n σ (.inr T) = xRaid tp σ (.inr T) := by unfold lnF; rw [if_pos w1]
    rw [eF, zero (fun j hj => W_ne w1 (by omega))]
    obtain ⟨M1, f1, k1, F1⟩ := m_readRaid hl hb hI hs h
    obtain ⟨M2, f2, k2, F2⟩ := m_passesByte hl hb k1 (c := 59) (by decide)
    refine ⟨M2, sBn (i1 h) (sLt (sF (by rw [w1]; decide) (sBv f1 (sBv f2 rfl)))), k2, F1.trans F2.fx⟩
  have n1 : ¬ xW tp 1 (.inr T) = 1 := by omega
  rcases wlt 2 with w2 | w2
  rotate_left
  · have eF : lnF tp n σ (.inr T) = xCard tp n σ (lnO σ (.inr T)) := by unfold lnF; rw [if_neg n1, if_pos w2]
    rw [eF, one 2 (by decide) w2]
    cases e : lnO σ (.inr T) with
    | inl b =>
      rw [card_inl, xSemi_inl, xPassS_inl]
      exact full b e
    | inr T' =>
      obtain ⟨l40, eT⟩ := lnO_inr hI e
      have eT' : T = T' := by simpa using eT
      subst eT'
      rw [e] at k0
      obtain ⟨M1, f1, k1, F1⟩ := m_readCard hl hb hI hn hs (fun _ _ => l40) k0
      obtain ⟨M2, f2, k2, F2⟩ := m_passesByte hl hb k1 (c := 59) (by decide)
      exact ⟨M2, sBn (i1 k0) (sLt (sT (by rw [w1]; decide) (sBn (i2 k0) (sF (by rw [w2]; decide) (sBv f1 (sBv f2 rfl)))))), k2, (F0.fx.trans F1).trans F2.fx⟩
  have n2 : ¬ xW tp 2 (.inr T) = 1 := by omega
  rcases wlt 3 with w3 | w3
  rotate_left
  · have eF : lnF tp n σ (.inr T) = xChange tp n σ (lnO σ (.inr T)) := by unfold lnF; rw [if_neg n1, if_neg n2, if_pos w3]
    rw [eF, one 3 (by decide) w3]
    cases e : lnO σ (.inr T) with
    | inl b =>
      rw [change_inl, xSemi_inl, xPassS_inl]
      exact full b e
    | inr T' =>
      obtain ⟨l40, eT⟩ := lnO_inr hI e
      have eT' : T = T' := by simpa using eT
      subst eT'
      rw [e] at k0
      obtain ⟨M1, f1, k1, F1⟩ := m_readChange hl hb hI hn hs k0
      obtain ⟨M2, f2, k2, F2⟩ := m_passesByte hl hb k1 (c := 59) (by decide)
      exact ⟨M2, sBn (i1 k0) (sLt (sT (by rw [w1]; decide) (sBn (i2 k0) (sT (by rw [w2]; decide) (sBn (i3 k0) (sF (by rw [w3]; decide) (sBv f1 (sBv f2 rfl)))))))), k2, (F0.fx.trans F1).trans F2.fx⟩
  have n3 : ¬ xW tp 3 (.inr T) = 1 := by omega
  rcases wlt 4 with w4 | w4
  rotate_left
  · have eF : lnF tp n σ (.inr T) = xHalf tp σ (lnO σ (.inr T)) := by unfold lnF; rw [if_neg n1, if_neg n2, if_neg n3, if_pos w4]
    rw [eF, one 4 (by decide) w4]
    cases e : lnO σ (.inr T) with
    | inl b =>
      rw [half_inl, xSemi_inl, xPassS_inl]
      exact full b e
    | inr T' =>
      obtain ⟨l40, eT⟩ := lnO_inr hI e
      have eT' : T = T' := by simpa using eT
      subst eT'
      rw [e] at k0
      obtain ⟨M1, f1, k1, F1⟩ := m_readHalf hl hb hI k0
      obtain ⟨M2, f2, k2, F2⟩ := m_passesByte hl hb k1 (c := 59) (by decide)
      exact ⟨M2, sBn (i1 k0) (sLt (sT (by rw [w1]; decide) (sBn (i2 k0) (sT (by rw [w2]; decide) (sBn (i3 k0) (sT (by rw [w3]; decide) (sBn (i4 k0) (sF (by rw [w4]; decide) (sBv f1 (sBv f2 rfl)))))))))), k2, (F0.fx.trans F1).trans F2.fx⟩
  have n4 : ¬ xW tp 4 (.inr T) = 1 := by omega
  rcases wlt 5 with w5 | w5
  rotate_left
  · have eF : lnF tp n σ (.inr T) = xReview tp n σ (lnO σ (.inr T)) := by unfold lnF; rw [if_neg n1, if_neg n2, if_neg n3, if_neg n4, if_pos w5]
    rw [eF, one 5 (by decide) w5]
    cases e : lnO σ (.inr T) with
    | inl b =>
      rw [review_inl, xSemi_inl, xPassS_inl]
      exact full b e
    | inr T' =>
      obtain ⟨l40, eT⟩ := lnO_inr hI e
      have eT' : T = T' := by simpa using eT
      subst eT'
      rw [e] at k0
      obtain ⟨M1, f1, k1, F1⟩ := m_readReview hl hb hI hn k0
      obtain ⟨M2, f2, k2, F2⟩ := m_passesByte hl hb k1 (c := 59) (by decide)
      exact ⟨M2, sBn (i1 k0) (sLt (sT (by rw [w1]; decide) (sBn (i2 k0) (sT (by rw [w2]; decide) (sBn (i3 k0) (sT (by rw [w3]; decide) (sBn (i4 k0) (sT (by rw [w4]; decide) (sBn (i5 k0) (sF (by rw [w5]; decide) (sBv f1 (sBv f2 rfl)))))))))))), k2, (F0.fx.trans F1).trans F2.fx⟩
  have eF : lnF tp n σ (.inr T) = (xE 1 (.inr T), .inl (0, 0, 0, 0, [])) := by unfold lnF; rw [if_neg n1, if_neg n2, if_neg n3, if_neg n4, if_neg (by omega)]
  rw [eF, zero (fun j hj => by rcases hj with rfl | rfl | rfl | rfl <;> assumption)]
  obtain ⟨M1, f1, k1, F1⟩ := m_errs h (f := 1) (by decide) (by decide)
  have k1' : MS tp M1 σ (.inl (1, T.1)) := k1
  obtain ⟨M2, f2, k2, F2⟩ := m_passesByte hl hb k1' (c := 59) (by decide)
  rw [xPassS_inl] at k2
  refine ⟨M2, sBn (i1 h) (sLt (sT (by rw [w1]; decide) (sBn (i2 h) (sT (by rw [w2]; decide) (sBn (i3 h) (sT (by rw [w3]; decide) (sBn (i4 h) (sT (by rw [w4]; decide) (sBn (i5 h) (sT (by rw [w5]; decide) (sBv f1 (sBv f2 rfl)))))))))))), ?_, (F1.trans F2).fx⟩
  show MS tp M2 (appS σ (xSemi tp (.inl (1, T.1))) _) (xPassS tp 59 (xSemi tp (.inl (1, T.1))))
  rw [xSemi_inl, xPassS_inl]
  exact k2
end
