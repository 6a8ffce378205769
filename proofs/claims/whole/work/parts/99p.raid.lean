/-! ===== the model reads a raid ===== -/
section
variable {tp : List Nat} {σ : Nat → Nat}
theorem rdOk.fe {M M' : xMem} {r s b tk : Nat} {tl : List Nat} (h : rdOk M r s b tk tl) (hF : Fe M M') : rdOk M' r s b tk tl := h.of (hF.1 149 (by decide)) (fun j hj => hF.2.1 j (by omega))
def rdG (M : xMem) (q : PL) : Prop := ∀ T, q.1 = .inr T → ∃ r s b tk tl, q.2 = .inl (r, s, b, tk, tl) ∧ rdOk M r s b tk tl
theorem m_rdRes (hl : tp.length ≤ 2000) (hb : ∀ b ∈ tp, b < 256) (hI : RI σ) (hs : shR σ) {M : xMem} {s2 : PS} {r : Nat} (hr : r < 10) (h : MS tp M σ s2) (h4 : M.1 146 4 = nI r) (h6 : M.1 146 6 = nI 0) (h8 : M.1 146 8 = nI 0) : ∃ M1 M', fX11_eats 146 16 M = some (nI (xW tp 12 s2), M1) ∧ (∀ J : xMem → Option xMem, (if nI (xW tp 12 s2) = 0 then (xBn (fX11_eats 146 17 M1) fun r32 M33 => if r32 = 0 then (xBn (fX11_isWord 146 18 M33) fun r34 M35 => if r34 = 0 then (xBn (fX11_eats 146 19 M35) fun r36 M37 => if r36 = 0 then (xBn (fX11_eats 146 20 M37) fun r38 M39 => if r38 = 0 then (xBv (fX11_errs 146 (nI 1) (M39.1 146 14) M39) fun M40 => J  M40) else (xLt (xwI M39 146 5 (nI 4)) fun M41 => J  M41)) else (xLt (xwI M37 146 5 (nI 3)) fun M42 => xBn (fX11_oneHere 146 (nI (1 - σ 28)) M42) fun r43 M44 => xLt (xwI M44 146 9 r43) fun M45 => xBn (fX11_isOf 146 (nI (1 - σ 28)) (M45.1 146 9) M45) fun r46 M47 => xLt (fun (s48 : Int32) (M49 : xMem) => (xBv (fX11_can 146 s48 M49) fun M50 => xBn (fX11_good 146 M50) fun r51 M52 => xLt (fun  (M53 : xMem) => (xBv (fX11_readBonus 146 M53) fun M54 => J  M54 : Option (xMem))) fun J224 => if r51 = 0 then (J224  M52) else (xBv (fX11_advance 146 M52) fun M55 => J224  M55) : Option (xMem))) fun J210 => if r46 = 0 then (J210 (nI 1) M47) else (J210 (nI 0) M47))) else (xLt (xwI M35 146 5 (nI 2)) fun M56 => xBv (fX11_readBonus 146 M56) fun M57 => xLt (xwI M57 146 6 (nI 0)) fun M58 => J  M58)) else (xLt (xwI M33 146 5 (nI 1)) fun M59 => xBv (fX11_readTouched 146 (nI (1 - σ 28)) M59) fun M60 => J  M60)) else (xLt (xwI M1 146 5 (nI 0)) fun M61 => J  M61)) = J M') ∧ MS tp M' σ (rdV tp σ r s2).1 ∧ rdG M' (rdV tp σ r s2) ∧ Fx M M' := by
  have hT := hI.1.1
  have hR := hT.1
  have h28 := hR.1
  obtain ⟨M1, f1, k1, F1⟩ := m_eats hl hb h 12 (i := 16) (by decide) (by decide)
  have tl0 : ∀ {N : xMem}, N.1 146 8 = nI 0 → tlOk N [] := fun e => ⟨by decide, e, fun j x hj => by simp at hj, fun x hx => by simp at hx⟩
  rcases xW_lt tp 12 s2 with w0 | w0
  rotate_left
  · rw [xEat_1 w0] at k1
    refine ⟨M1, xwI M1 146 5 (nI 0), f1, fun J => sF (by rw [w0]; decide) rfl, ?_, ?_, F1.fx.trans (Fx.w (by decide))⟩
    · unfold rdV; rw [if_pos w0]; exact k1.wI (by decide)
    · intro T _
      refine ⟨r, 0, 0, 0, [], by unfold rdV; rw [if_pos w0], ?_, ?_, ?_, fun y => by omega, tl0 ?_, hr, by omega, by omega, by omega⟩
      · rw [xwI_ne (Or.inr (by decide)), F1.2.1 4 (by omega)]; exact h4
      · exact xwI_at _ _ _ _
      · rw [xwI_ne (Or.inr (by decide)), F1.2.1 6 (by omega)]; exact h6
      · rw [xwI_ne (Or.inr (by decide)), F1.2.1 8 (by omega)]; exact h8
  rw [xEat_0 w0] at k1
  obtain ⟨M2, f2, k2, F2⟩ := m_eats hl hb k1 13 (i := 17) (by decide) (by decide)
  have w0' : ¬ xW tp 12 s2 = 1 := by omega
  rcases xW_lt tp 13 s2 with w1 | w1
  rotate_left
  · rw [xEat_1 w1] at k2
    have h3 : MS tp (xwI M2 146 5 (nI 1)) σ (xAd tp s2) := k2.wI (by decide)
    obtain ⟨M4, f4, k4, t4, F4⟩ := m_rdTouched hl hb hI hs (u := 1 - σ 28) (by omega) 11 [] (xAd tp s2) (xwI M2 146 5 (nI 1)) xFU rfl (by decide) ⟨List.nodup_nil, fun x hx => absurd hx (by simp)⟩ h3 (tl0 (by rw [xwI_ne (Or.inr (by decide)), F2.2.1 8 (by omega), F1.2.1 8 (by omega)]; exact h8)) (by rw [xwI_ne (Or.inr (by decide)), F2.2.1 6 (by omega), F1.2.1 6 (by omega)]; exact h6)
    have eV : rdV tp σ r s2 = rdL1 r (thL tp σ (1 - σ 28) 11 [] (xAd tp s2)) := by unfold rdV; rw [if_neg w0', if_pos w1]
    obtain ⟨a1, a2, a3⟩ := thL_ok (tp := tp) (σ := σ) hT (show 1 - σ 28 < 2 by omega) 11 [] (xAd tp s2) rfl ⟨List.nodup_nil, fun x hx => absurd hx (by simp)⟩
    rw [eV]
    refine ⟨M1, M4, f1, fun J => sT (by rw [w0]; decide) (sBn f2 (sF (by rw [w1]; decide) (sLt (sBv f4 rfl)))), k4, ?_, ((F1.trans F2).fx.trans (Fx.w (by decide))).trans F4.fx⟩
    intro T y
    obtain ⟨b1, b2⟩ := t4 T y
    refine ⟨r, 1, _, 0, _, rfl, ?_, ?_, b2, fun y => by omega, b1, hr, by omega, a3, by omega⟩
    · rw [F4.2.1 4 (by omega), xwI_ne (Or.inr (by decide)), F2.2.1 4 (by omega), F1.2.1 4 (by omega)]; exact h4
    · rw [F4.2.1 5 (by omega)]; exact xwI_at _ _ _ _
  rw [xEat_0 w1] at k2
  have w1' : ¬ xW tp 13 s2 = 1 := by omega
  have i2 := m_isWord hl k2 14 (i := 18) (by decide) (by decide)
  rcases xW_lt tp 14 s2 with w2 | w2
  rotate_left
  · have h3 : MS tp (xwI M2 146 5 (nI 2)) σ s2 := k2.wI (by decide)
    obtain ⟨M4, f4, k4, F4, -⟩ := m_readBonus hl hb hR h3
    have eV : rdV tp σ r s2 = (xBon tp σ s2, .inl (r, 2, 0, 0, [])) := by unfold rdV; rw [if_neg w0', if_neg w1', if_pos w2]
    rw [eV]
    refine ⟨M1, xwI M4 146 6 (nI 0), f1, fun J => sT (by rw [w0]; decide) (sBn f2 (sT (by rw [w1]; decide) (sBn i2 (sF (by rw [w2]; decide) (sLt (sBv f4 rfl)))))), k4.wI (by decide), ?_, (((F1.trans F2).fx.trans (Fx.w (by decide))).trans F4.f8.fx).trans (Fx.w (by decide))⟩
    intro T _
    refine ⟨r, 2, 0, 0, [], rfl, ?_, ?_, xwI_at _ _ _ _, fun y => by omega, tl0 ?_, hr, by omega, by omega, by omega⟩
    · rw [xwI_ne (Or.inr (by decide)), F4.2.1 4 (by omega), xwI_ne (Or.inr (by decide)), F2.2.1 4 (by omega), F1.2.1 4 (by omega)]; exact h4
    · rw [xwI_ne (Or.inr (by decide)), F4.2.1 5 (by omega)]; exact xwI_at _ _ _ _
    · rw [xwI_ne (Or.inr (by decide)), F4.2.1 8 (by omega), xwI_ne (Or.inr (by decide)), F2.2.1 8 (by omega), F1.2.1 8 (by omega)]; exact h8
  have w2' : ¬ xW tp 14 s2 = 1 := by omega
  obtain ⟨M3, f3, k3, F3⟩ := m_eats hl hb k2 15 (i := 19) (by decide) (by decide)
  rcases xW_lt tp 15 s2 with w3 | w3
  rotate_left
  · rw [xEat_1 w3] at k3
    have hu : 1 - σ 28 < 2 := by omega
    have o1 := (hR.2 _ hu).1.1
    have o10 := hR.m hu
    have h4' : MS tp (xwI M3 146 5 (nI 3)) σ (xAd tp s2) := k3.wI (by decide)
    obtain ⟨M4, f4, k4, F4⟩ := m_oneHere hu hs h4'
    have hi := xOne_lt (tp := tp) (t := 1 - σ 28) (σ := σ) (xAd tp s2) o1
    have eV : rdV tp σ r s2 = rdL3 r (tkV tp σ (1 - σ 28) (xOne tp σ (1 - σ 28) (xAd tp s2))) := by unfold rdV; rw [if_neg w0', if_neg w1', if_neg w2', if_pos w3]
    rw [eV]
    unfold tkV thB
    generalize ho : xOne tp σ (1 - σ 28) (xAd tp s2) = o at *
    obtain ⟨s4, i⟩ := o
    simp only at *
    have hst := ((hR.2 _ hu).2.1 i (by omega)).1
    have k5 : MS tp (xwI M4 146 9 (nI i)) σ s4 := k4.wI (by decide)
    have io := q_isOf k5.2.1 hu (show i < 10 by omega)
    have eb : (if σ (48 + 10 * (1 - σ 28) + i) = 0 ∧ i ∉ ([] : List Nat) then 1 else 0) = if σ (48 + 10 * (1 - σ 28) + i) = 0 then 1 else 0 := by
      by_cases z : σ (48 + 10 * (1 - σ 28) + i) = 0
      · rw [if_pos z, if_pos ⟨z, by simp⟩]
      · rw [if_neg z, if_neg (fun y => z y.1)]
    obtain ⟨M6, f6, k6, F6'⟩ := m_can k5 (b := if σ (48 + 10 * (1 - σ 28) + i) = 0 then 1 else 0) (ite01 _)
    obtain ⟨M7, k7, F7, J7⟩ := m_advG (β := xMem) hl hb k6
    obtain ⟨M8, f8, k8, F8', b8⟩ := m_readBonus hl hb hR k7
    rw [eb]
    have G : F6 (xwI M4 146 9 (nI i)) M8 := (F6'.trans F7).f6.trans F8'
    refine ⟨M1, M8, f1, fun J => sT (by rw [w0]; decide) (sBn f2 (sT (by rw [w1]; decide) (sBn i2 (sT (by rw [w2]; decide) (sBn f3 (sF (by rw [w3]; decide) (sLt (sBn f4 (sLt ?_))))))))), k8, ?_, ((((((F1.trans F2).trans F3).fx.trans (Fx.w (by decide))).trans F4.fx)).trans (Fx.w (by decide))).trans G.f8.fx⟩
    · rw [xwI_at]
      refine sBn io (sJw (nI (if σ (48 + 10 * (1 - σ 28) + i) = 0 then 1 else 0)) (xwI M4 146 9 (nI i)) (fun J => ?_) (sBv f6 (sBn (m_good k6) (sLt ?_))))
      · by_cases z : σ (48 + 10 * (1 - σ 28) + i) = 0
        · rw [if_pos z, z]; exact sT (by decide) rfl
        · rw [if_neg z]; exact sF (eN0 (by omega) z) rfl
      · exact (J7 _).trans (sBv f8 rfl)
    · intro T _
      refine ⟨r, 3, _, i, [], rfl, ?_, ?_, ?_, fun _ => ?_, tl0 ?_, hr, by omega, xW_le _ _, by omega⟩
      · rw [G.2.1 4 (by omega), xwI_ne (Or.inr (by decide)), F4.2.1 4 (by omega), xwI_ne (Or.inr (by decide)), F3.2.1 4 (by omega), F2.2.1 4 (by omega), F1.2.1 4 (by omega)]; exact h4
      · rw [G.2.1 5 (by omega), xwI_ne (Or.inr (by decide)), F4.2.1 5 (by omega)]; exact xwI_at _ _ _ _
      · rw [b8, F7.2.1 6 (by omega), F6'.2.1 6 (by omega), xwI_ne (Or.inr (by decide)), F4.2.1 6 (by omega), xwI_ne (Or.inr (by decide)), F3.2.1 6 (by omega), F2.2.1 6 (by omega), F1.2.1 6 (by omega), h6]
        show _ = nI (xW tp 14 (xAd tp (xCan (if σ (48 + 10 * (1 - σ 28) + i) = 0 then 1 else 0) s4)))
        rcases xW_lt tp 14 (xAd tp (xCan (if σ (48 + 10 * (1 - σ 28) + i) = 0 then 1 else 0) s4)) with w | w
        · rw [w]; rfl
        · rw [w]; rfl
      · rw [G.2.1 9 (by omega)]; exact xwI_at _ _ _ _
      · rw [G.2.1 8 (by omega), xwI_ne (Or.inr (by decide)), F4.2.1 8 (by omega), xwI_ne (Or.inr (by decide)), F3.2.1 8 (by omega), F2.2.1 8 (by omega), F1.2.1 8 (by omega)]; exact h8
  rw [xEat_0 w3] at k3
  have w3' : ¬ xW tp 15 s2 = 1 := by omega
  obtain ⟨M4, f4, k4, F4⟩ := m_eats hl hb k3 16 (i := 20) (by decide) (by decide)
  rcases xW_lt tp 16 s2 with w4 | w4
  rotate_left
  · rw [xEat_1 w4] at k4
    have eV : rdV tp σ r s2 = (xAd tp s2, .inl (r, 4, 0, 0, [])) := by unfold rdV; rw [if_neg w0', if_neg w1', if_neg w2', if_neg w3', if_pos w4]
    rw [eV]
    refine ⟨M1, xwI M4 146 5 (nI 4), f1, fun J => sT (by rw [w0]; decide) (sBn f2 (sT (by rw [w1]; decide) (sBn i2 (sT (by rw [w2]; decide) (sBn f3 (sT (by rw [w3]; decide) (sBn f4 (sF (by rw [w4]; decide) rfl)))))))), k4.wI (by decide), ?_, (((F1.trans F2).trans F3).trans F4).fx.trans (Fx.w (by decide))⟩
    intro T _
    refine ⟨r, 4, 0, 0, [], rfl, ?_, xwI_at _ _ _ _, ?_, fun y => by omega, tl0 ?_, hr, by omega, by omega, by omega⟩
    · rw [xwI_ne (Or.inr (by decide)), F4.2.1 4 (by omega), F3.2.1 4 (by omega), F2.2.1 4 (by omega), F1.2.1 4 (by omega)]; exact h4
    · rw [xwI_ne (Or.inr (by decide)), F4.2.1 6 (by omega), F3.2.1 6 (by omega), F2.2.1 6 (by omega), F1.2.1 6 (by omega)]; exact h6
    · rw [xwI_ne (Or.inr (by decide)), F4.2.1 8 (by omega), F3.2.1 8 (by omega), F2.2.1 8 (by omega), F1.2.1 8 (by omega)]; exact h8
  rw [xEat_0 w4] at k4
  obtain ⟨M5, f5, k5, F5⟩ := m_errs k4 (f := 1) (by decide) (by decide)
  have eV : rdV tp σ r s2 = (xE 1 s2, .inl (r, 0, 0, 0, [])) := by unfold rdV; rw [if_neg w0', if_neg w1', if_neg w2', if_neg w3', if_neg (by omega)]
  rw [eV]
  exact ⟨M1, M5, f1, fun J => sT (by rw [w0]; decide) (sBn f2 (sT (by rw [w1]; decide) (sBn i2 (sT (by rw [w2]; decide) (sBn f3 (sT (by rw [w3]; decide) (sBn f4 (sT (by rw [w4]; decide) (sBv f5 rfl))))))))), k5, fun T y => absurd y xE_inr, ((((F1.trans F2).trans F3).trans F4).trans F5).fx⟩
theorem m_readRaid (hl : tp.length ≤ 2000) (hb : ∀ b ∈ tp, b < 256) (hI : RI σ) (hs : shR σ) {M : xMem} {st : PS} (h : MS tp M σ st) : ∃ M', fX11_readRaid 146 M = some M' ∧ MS tp M' (appS σ (xSemi tp (xRaid tp σ st).1) (xRaid tp σ st).2) (xSemi tp (xRaid tp σ st).1) ∧ Fx M M' := by
  have hT := hI.1.1
  have hR := hT.1
  have h28 := hR.1
  have hB := hI.1.2.1
  have h25 := hB.1
  have h27 := hB.2.2.1
  unfold fX11_readRaid xRaid
  have r0 : M.2.1 (xnw M) = lf σ := h.2.1
  have s0 : ∃ M0, MS tp M0 σ (if σ 25 = 200 then xE 7 st else st) ∧ Fe M M0 ∧ ∀ J : xMem → Option xMem, (if (lg_cmp (M.2.1 (xnw M) (Int32.toNatClampNeg (nI 25))) (lN 200)) = 0 then (xBv (fX11_errs 146 (nI 7) (M.1 146 14) M) fun M66 => J  M66) else (J  M)) = J M0 := by
    rw [eCl (by decide), r0, lf_at]
    by_cases e : σ 25 = 200
    · obtain ⟨M0, f0, k0, F0⟩ := m_errs h (f := 7) (by decide) (by decide)
      rw [if_pos e]
      exact ⟨M0, k0, F0, fun J => sT (by rw [eCmp0, e]) (sBv f0 rfl)⟩
    · rw [if_neg e]
      exact ⟨M, h, Fe.refl M, fun J => sF (by rw [eCmp0, eLE (by omega) (by decide)]; exact e) rfl⟩
  obtain ⟨M0, k0, F0, J0⟩ := s0
  obtain ⟨M1, f1, k1, F1⟩ := m_passes hl hb k0 1 (i := 8) (by decide) (by decide)
  obtain ⟨M2, f2, k2, F2⟩ := m_oneHere h28 hs k1
  have hr := xOne_lt (tp := tp) (t := σ 28) (σ := σ) (xPass tp 1 (if σ 25 = 200 then xE 7 st else st)) (hR.2 _ h28).1.1
  have h10 := hR.m h28
  have okk := fun T (h25 : σ 25 < 200) e => rdU_ok (tp := tp) (T := T) (o := xOne tp σ (σ 28) (xPass tp 1 (if σ 25 = 200 then xE 7 st else st))) hI h25 hr e
  have gs : ∀ T, (rdU tp σ (xOne tp σ (σ 28) (xPass tp 1 (if σ 25 = 200 then xE 7 st else st)))).1 = .inr T → σ 25 < 200 := by
    intro T e
    obtain ⟨T1, e1⟩ := rdU_inr hI e
    obtain ⟨e2, -⟩ := xOne_inr e1
    obtain ⟨T2, e3, -⟩ := xPass_inr e2
    by_cases z : σ 25 = 200
    · rw [if_pos z] at e3; exact absurd e3 xE_inr
    · omega
  unfold rdU at *
  generalize xOne tp σ (σ 28) (xPass tp 1 (if σ 25 = 200 then xE 7 st else st)) = o at *
  obtain ⟨s1, r⟩ := o
  simp only at *
  have hst := ((hR.2 _ h28).2.1 r (by omega)).1
  have k3 : MS tp (xwI M2 146 4 (nI r)) σ s1 := k2.wI (by decide)
  obtain ⟨M4, f4, k4, F4⟩ := m_can k3 (b := if ovR σ = 0 ∧ σ (48 + 10 * σ 28 + r) = 0 then 1 else 0) (ite01 _)
  obtain ⟨M5, k5, F5, J5⟩ := m_advG (β := xMem) hl hb k4
  generalize xAd tp (xCan (if ovR σ = 0 ∧ σ (48 + 10 * σ 28 + r) = 0 then 1 else 0) s1) = s2 at *
  let M6 := xwI (xwI (xwI M5 146 8 (nI 0)) 146 9 (-1)) 146 6 (nI 0)
  have k6 : MS tp M6 σ s2 := ((k5.wI (by decide)).wI (by decide)).wI (by decide)
  obtain ⟨M7, M8, f7, J8, k8, g8, F8'⟩ := m_rdRes hl hb hI hs (r := r) (by omega) k6
    (by show (xwI (xwI (xwI M5 146 8 (nI 0)) 146 9 (-1)) 146 6 (nI 0)).1 146 4 = _
        rw [xwI_ne (Or.inr (by decide)), xwI_ne (Or.inr (by decide)), xwI_ne (Or.inr (by decide)), F5.2.1 4 (by omega), F4.2.1 4 (by omega)]; exact xwI_at _ _ _ _)
    (xwI_at _ _ _ _)
    (by show (xwI (xwI (xwI M5 146 8 (nI 0)) 146 9 (-1)) 146 6 (nI 0)).1 146 8 = _
        rw [xwI_ne (Or.inr (by decide)), xwI_ne (Or.inr (by decide))]; exact xwI_at _ _ _ _)
  obtain ⟨M9, k9, F9, J9⟩ := m_semi (β := xMem) hb k8
  obtain ⟨Ma, fa, ka, Fa⟩ := k9.play (l := (rdV tp σ r s2).2) (f := fun M => fX11_raids 146 M) (fun T e => by
    have e1 := xSemi_inr e
    obtain ⟨r', s, b, tk, tl, e2, e3⟩ := g8 T e1
    have hlt := gs T e1
    have ok := okk T hlt e1
    rw [e2] at ok ⊢
    have := e_raids (M := M9) (ρ := σ) hR (e3.fe F9) hlt (by have := ok.1.1.len hT; omega) (hT.q9 h28) (hB.2.2.2.2 _ h28).1
    rw [k9.2.1.nw] at this
    exact this)
  refine ⟨Ma, ?_, ka, (((((((((F0.trans F1).trans F2).fx.trans (Fx.w (by decide))).trans (F4.trans F5).fx).trans (Fx.w (by decide))).trans (Fx.w (by decide))).trans (Fx.w (by decide))).trans F8').trans F9.fx).trans Fa⟩
  refine sGb 25 rfl (by rw [xlnw]; decide) (by rw [xlnw]; decide) (sLt ((J0 _).trans ?_))
  refine sBv f1 (sBn (q_get k1.2.1 (by decide)) (sLe (b := nI (1 - σ 28)) (by rw [eSub (by omega)]) (sBn f2 (sLt (sBn (q_isOver k3.2.1 h27) (sJw (nI (if ovR σ = 0 ∧ σ (48 + 10 * σ 28 + r) = 0 then 1 else 0)) (xwI M2 146 4 (nI r)) (fun J => ?_) (sBv f4 (sBn (m_good k4) (sLt ?_)))))))))
  · have : ovR σ < 2 := ite01 _
    rw [xwI_at]
    rcases (show ovR σ = 0 ∨ ovR σ = 1 by omega) with e | e
    · rw [e]
      refine sLt (sT (by decide) (sBn (q_isOf k3.2.1 h28 (by omega)) ?_))
      by_cases z : σ (48 + 10 * σ 28 + r) = 0
      · rw [iN1 ⟨rfl, z⟩, z]; exact sT (by decide) rfl
      · rw [iN0 (fun y => z y.2)]; exact sF (eN0 (by omega) z) rfl
    · rw [e, iN0 (fun y => by have := y.1; omega)]
      exact sLt (sF (by decide) rfl)
  · refine (J5 _).trans (sLt (sLt (sLt (sBn f7 (sLt ?_)))))
    refine (J8 _).trans (sBn (m_good k8) (sLt ?_))
    exact (J9 _).trans fa
end
