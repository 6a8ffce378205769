theorem card_lo {ρ : Nat → Nat} {t i c : Nat} (h : RW ρ) (ht : t < 2) (hi : i < 10) {j : Nat} (hj : j < 48) (h0 : j ≠ 36 + 6 * (1 - t) + 4) : cardR t i c ρ j = lineR ρ j := by
  have R2 := (cd2_ok (c := c) h ht hi).1
  have key : ∀ j, j < 48 → j ≠ 36 + 6 * (1 - t) + 4 → cd3 t i c ρ j = ρ j := fun j hj h0 => by
    rw [cd3_lo ht (by omega), allR_ne R2 ht h0 (by omega) (by omega) (by omega), cd_ne h ht hi (Or.inl hj)]
  unfold cardR lineR
  by_cases h29 : j = 29
  · subst h29; rw [va_at_eq, va_at_eq]
  · rw [va_at_ne h29, va_at_ne h29]
    by_cases h26 : j = 26
    · subst h26
      rw [va_at_eq, va_at_eq, key _ (by decide) (by omega)]
    · rw [va_at_ne h26, va_at_ne h26, key _ hj h0]
theorem card_sc {ρ : Nat → Nat} {t i c : Nat} (h : RW ρ) (ht : t < 2) (hi : i < 10) {u : Nat} (hu : u < 2) : scR u (cardR t i c ρ) = scR u ρ + if isAll t (cd2 t i c ρ) = true ∧ u = 1 - t then 2 else 0 := by
  have R2 := (cd2_ok (c := c) h ht hi).1
  have e1 : scR u (cardR t i c ρ) = scR u (allR t (cd2 t i c ρ)) := scR_lo hu (fun j h1 h2 => by
    unfold cardR
    rw [line_ne (by omega) (by omega), cd3_lo ht (by omega)])
  rw [e1, sc_all R2 ht hu, scR_lo (ρ := ρ) hu (fun j h1 h2 => cd_ne h ht hi (Or.inl h2))]
theorem card_tm {ρ : Nat → Nat} {t i c u : Nat} (ht : t < 2) (hu : u < 2) {j : Nat} (hj : tmP u j) : cardR t i c ρ j = allR t (cd2 t i c ρ) j := by
  unfold tmP at hj
  unfold cardR
  rw [line_ne (by omega) (by omega), cd3_lo ht (by omega)]
theorem s_showCard {M : xMem} {k t i c : Nat} {ρ : Nat → Nat} (hk : xkd k = 8) (hS : StR M k ρ) (hR : RT ρ) (hB : BD ρ) (ht : t < 2) (hi : i < ρ (1 + t)) (hc : c < 3) (hs : ρ (48 + 10 * t + i) ≠ 2) :
    ∃ M', fX8_showCard k (nI t) (nI i) (nI c) M = some (nI (if isAll t (cd2 t i c ρ) then 1 else 0), M') ∧ StR M' k (cardR t i c ρ) ∧ Fi (stC k) M M' := by
  have hm := hR.1.m ht
  have hi10 : i < 10 := by omega
  have hq := (hR.1.q ht).1
  obtain ⟨a, b, cc, kd7⟩ := st_rf hk
  obtain ⟨⟨-, -, e2, -⟩, -, -, l3, -⟩ := sd_rf (kd7 t ht)
  obtain ⟨M1, f1, S1, F1⟩ := hS.note hk hR.1
  obtain ⟨x1, x2, x3, x4, x5⟩ := S1.2.2.2.2 t ht
  have hg := (hB.2.2.2.2 t ht).2.2.2.2 i hi10
  have h26 := hB.2.1
  have x1' : SdR M1 (k + 2 + 5 * t) t ρ := x1.row (by rw [line_ne (by omega) (by omega)]; exact hm) (by rw [line_ne (by omega) (by omega)]; exact hq) (fun j hj => (line_ne (by omega) (by omega)).symm)
  have R1 := (cd1_ok (c := c) hR.1 ht hi10).1
  have n1 : ∀ j, j ≠ 88 + (10 * t + i) → cd1 t i c ρ j = ρ j := fun j hj => by
    unfold cd1
    split
    · exact va_at_ne hj
    · rfl
  have RT2 := hR.card2 (c := c) ht hi hs
  -- the greens
  obtain ⟨M2, H2, S2, K2⟩ : ∃ M2, (∀ J : xMem → Option (Int32 × xMem), (if nI c = 0 then (xGb (nI i) (xln (k + 2 + 5 * t + 3)) (xGb (nI i) (xln (k + 2 + 5 * t + 3)) (xLt (xwI M1 (k + 2 + 5 * t + 3) (Int32.toNatClampNeg (nI i)) ((M1.1 (k + 2 + 5 * t + 3) (Int32.toNatClampNeg (nI i))) + (nI 1))) fun M15 => J M15))) else J M1) = J M2) ∧ SdR M2 (k + 2 + 5 * t) t (cd1 t i c ρ) ∧ sdK M1 M2 (k + 2 + 5 * t) := by
    by_cases e : c = 0
    · refine ⟨xwI M1 (k + 2 + 5 * t + 3) i (nI (ρ (88 + 10 * t + i) + 1)), fun J => ?_, ?_, (sdK.refl _ _).cell (by omega) (by omega)⟩
      · refine sT (by rw [e]; decide) ?_
        rw [l3]
        refine sGb i rfl hi10 (by decide) (sGb i rfl hi10 (by decide) ?_)
        rw [eCl (by omega), (x1'.2.2.1 i hi).2.2, nI_add]
        rfl
      · refine x1'.gr hi hm hq ?_ (fun j hj _ => n1 j (by omega)) ht
        unfold cd1 addR
        rw [if_pos e, show 88 + 10 * t + i = 88 + (10 * t + i) by omega, va_at_eq]
    · refine ⟨M1, fun J => sF (eN0 (by omega) e) rfl, ?_, sdK.refl _ _⟩
      have : cd1 t i c ρ = ρ := by unfold cd1; rw [if_neg e]
      rw [this]
      exact x1'
  have s1 : cd1 t i c ρ (1 + t) = ρ (1 + t) := n1 _ (by omega)
  -- off
  obtain ⟨M3, H3, S3, K3⟩ : ∃ M3, (∀ J : xMem → Option (Int32 × xMem), (if nI c = (nI 2) then (xBv (fX7_sendOff (k + 2 + 5 * t) (nI i) M2) fun M12 => J M12) else (xLt (fun  (M9 : xMem) => (xBv (fX7_putOff (k + 2 + 5 * t) (nI i) M9) fun M10 => J  M10 : Option (Int32 × xMem))) fun J58 => if nI c = (nI 1) then (J58  M2) else (xGb (nI i) (xln (k + 2 + 5 * t + 3)) (if ((M2.1 (k + 2 + 5 * t + 3) (Int32.toNatClampNeg (nI i))) - (M2.1 (k + 2 + 5 * t + 3) (Int32.toNatClampNeg (nI i))) / (nI 2) * (nI 2)) = 0 then (J58  M2) else (J  M2))))) = J M3) ∧ SdR M3 (k + 2 + 5 * t) t (cd2 t i c ρ) ∧ sdK M2 M3 (k + 2 + 5 * t) := by
    obtain ⟨Ma, fa, Sa, Ka⟩ := s_sendOff (kd7 t ht) S2 ht R1 (i := i) (by rw [s1]; exact hi)
    obtain ⟨Mb, fb, Sb, Kb⟩ := s_putOff (kd7 t ht) S2 ht R1 (i := i) (by rw [s1]; exact hi)
    by_cases e : c = 2
    · have ho : cdO t i c ρ = 0 := by unfold cdO; rw [if_neg (by omega)]
      refine ⟨Ma, fun J => sT (by rw [e]) (sBv fa rfl), ?_, Ka⟩
      unfold cd2
      rw [if_pos (Or.inr e), if_neg (by omega), if_neg (by omega)]
      exact Sa
    · have step : cdO t i c ρ = 1 → SdR Mb (k + 2 + 5 * t) t (cd2 t i c ρ) := fun ho => by
        unfold cd2
        rw [if_pos (Or.inl ho), if_pos ho, if_pos ho]
        exact Sb
      by_cases e1 : c = 1
      · have ho : cdO t i c ρ = 1 := by unfold cdO; rw [if_pos (Or.inl e1)]
        refine ⟨Mb, fun J => sF (by rw [eEq (by omega) (by decide)]; exact e) (sLt (sT (by rw [e1]) (sBv fb rfl))), step ho, Kb⟩
      · have e0 : c = 0 := by omega
        have hgv : M2.1 (k + 2 + 5 * t + 3) i = nI (ρ (88 + (10 * t + i)) + 1) := by
          have := (S2.2.2.1 i (by rw [s1]; exact hi)).2.2
          rw [this]
          unfold cd1 addR
          rw [if_pos e0, show 88 + 10 * t + i = 88 + (10 * t + i) by omega, va_at_eq]
        rw [show 88 + 10 * t + i = 88 + (10 * t + i) by omega] at hg
        have hmod : (ρ (88 + (10 * t + i)) + 1) % 2 < 2 := Nat.mod_lt _ (by decide)
        by_cases e3 : (ρ (88 + (10 * t + i)) + 1) % 2 = 0
        · have ho : cdO t i c ρ = 1 := by unfold cdO; rw [if_pos (Or.inr ⟨e0, e3⟩)]
          refine ⟨Mb, fun J => ?_, step ho, Kb⟩
          refine sF (by rw [eEq (by omega) (by decide)]; exact e) (sLt (sF (by rw [eEq (by omega) (by decide)]; exact e1) ?_))
          rw [l3]
          refine sGb i rfl hi10 (by decide) ?_
          rw [eCl (by omega), hgv, nI_rem2 (by omega), e3]
          exact sT (by decide) (sBv fb rfl)
        · have ho : cdO t i c ρ = 0 := by unfold cdO; rw [if_neg (by omega)]
          refine ⟨M2, fun J => ?_, ?_, sdK.refl _ _⟩
          · refine sF (by rw [eEq (by omega) (by decide)]; exact e) (sLt (sF (by rw [eEq (by omega) (by decide)]; exact e1) ?_))
            rw [l3]
            refine sGb i rfl hi10 (by decide) ?_
            rw [eCl (by omega), hgv, nI_rem2 (by omega)]
            exact sF (eN0 (by omega) e3) rfl
          · unfold cd2
            rw [if_neg (by omega)]
            exact S2
  obtain ⟨M4, f4, S4, K4⟩ := s_standUp (kd7 t ht) S3 ht RT2
  have K14 := (K2.trans K3).trans K4
  have RA := RT2.all ht
  have F14 : Fi (stC k) M M4 := (F1.mono (fun c hc => by unfold stC; omega)).trans (K14.1.mono (fun c hc => by unfold sdC at hc; unfold stC; omega))
  have ho2 : 1 - t < 2 := by omega
  -- the state behind it, points aside
  have k0 : M4.1 k = M1.1 k := K14.1.1 k (by unfold sdC; omega)
  have other : SdR M4 (k + 2 + 5 * (1 - t)) (1 - t) (cardR t i c ρ) := by
    have := (S1.2.2.2.2 _ ho2).1
    refine (this.keep (fun c h1 h2 => K14.1.1 c (by unfold sdC; omega))).row (by rw [line_ne (by omega) (by omega)]; exact hR.1.m ho2) (by rw [line_ne (by omega) (by omega)]; exact (hR.1.q ho2).1) (fun j hj => ?_)
    rw [card_tm (u := 1 - t) ht ho2 hj, line_ne (by omega) (by omega), allR_ne RT2.1 ht (by omega) (by omega) (by omega) (by omega)]
    exact cd_ne hR.1 ht hi10 (Or.inr (Or.inr hj))
  have mine : SdR M4 (k + 2 + 5 * t) t (cardR t i c ρ) := S4.row (RA.1.m ht) (RA.1.q ht).1 (fun j hj => card_tm ht ht hj)
  have fin : ∀ M5 : xMem, M5.1 k = M4.1 k → SdR M5 (k + 2 + 5 * t) t (cardR t i c ρ) → SdR M5 (k + 2 + 5 * (1 - t)) (1 - t) (cardR t i c ρ) → (∀ j, j ≠ 5 → M5.1 (k + 2 + 5 * t) j = M1.1 (k + 2 + 5 * t) j) → (∀ j, j ≠ 6 → M5.1 (k + 2 + 5 * (1 - t)) j = M1.1 (k + 2 + 5 * (1 - t)) j) → M5.1 (k + 2 + 5 * (1 - t)) 6 = nI (scR (1 - t) (cardR t i c ρ)) → StR M5 k (cardR t i c ρ) := by
    intro M5 h0 h1 h2 h3 h4 h5
    have cl : ∀ j, j < 36 → cardR t i c ρ j = lineR ρ j := fun j hj => card_lo hR.1 ht hi10 (by omega) (by omega)
    refine ⟨?_, ?_, ?_, ?_, fun u hu => ?_⟩
    · rw [h0, k0, cl _ (by decide)]; exact S1.1
    · rw [h0, k0, cl _ (by decide)]; exact S1.2.1
    · rw [h0, k0, cl _ (by decide)]; exact S1.2.2.1
    · rw [h0, k0, cl _ (by decide)]; exact S1.2.2.2.1
    · by_cases q : u = t
      · subst q
        rw [h3 6 (by decide), h3 7 (by decide), h3 8 (by decide), h3 9 (by decide), cl _ (by omega), cl _ (by omega), cl _ (by omega)]
        refine ⟨h1, ?_, x3, x4, x5⟩
        rw [card_sc hR.1 hu hi10 hu, if_neg (by omega), x2, scR_lo (ρ := ρ) hu (fun j h1 h2 => line_ne (by omega) (by omega))]; rfl
      · have q' : u = 1 - t := by omega
        subst q'
        obtain ⟨y1, y2, y3, y4, y5⟩ := S1.2.2.2.2 _ hu
        rw [h4 7 (by decide), h4 8 (by decide), h4 9 (by decide), cl _ (by omega), cl _ (by omega), cl _ (by omega)]
        exact ⟨h2, h5, y3, y4, y5⟩
  have oth : ∀ j, M4.1 (k + 2 + 5 * (1 - t)) j = M1.1 (k + 2 + 5 * (1 - t)) j := fun j => by rw [K14.1.1 _ (by unfold sdC; omega)]
  have sc1 : M1.1 (k + 2 + 5 * (1 - t)) 6 = nI (scR (1 - t) ρ) := by
    rw [(S1.2.2.2.2 _ ho2).2.1, scR_lo (ρ := ρ) ho2 (fun j h1 h2 => line_ne (by omega) (by omega))]
  have start : fX8_showCard k (nI t) (nI i) (nI c) M = (xBn (fX7_standUp (k + 2 + 5 * t) M3) fun r5 M6 => if r5 = 0 then (some ((nI 0), M6)) else (xGb ((nI 1) - (nI t)) (xln (xrf k 0)) (xLt (xwI M6 (xrf (xrf k 0) (Int32.toNatClampNeg ((nI 1) - (nI t)))) 6 ((M6.1 (xrf (xrf k 0) (Int32.toNatClampNeg ((nI 1) - (nI t)))) 6) + (nI 2))) fun M8 => some ((nI 1), M8)))) := by
    unfold fX8_showCard
    rw [a, b]
    refine sGb t rfl ht (by decide) (sBv f1 ?_)
    rw [eCl (by omega), cc t ht, e2]
    refine sJx M2 H2 ?_
    exact sJx M3 H3 rfl
  rw [start, f4, eBn]
  by_cases e : isAll t (cd2 t i c ρ) = true
  · rw [if_pos e]
    refine ⟨xwI M4 (k + 2 + 5 * (1 - t)) 6 (nI (scR (1 - t) ρ + 2)), ?_, ?_, F14.wI (by unfold stC; omega)⟩
    · refine sF (by decide) ?_
      rw [a, b, eSub (by omega)]
      refine sGb (1 - t) rfl ho2 (by decide) ?_
      rw [eCl (by omega), cc _ ho2, oth, sc1, nI_add]
      rfl
    · refine fin _ (xwI_c (by omega)) (mine.keep (fun c h1 h2 => xwI_c (by omega))) (other.fld (by decide)) (fun j hj => ?_) (fun j hj => ?_) ?_
      · rw [xwI_c (by omega)]; exact K14.2 j hj
      · rw [xwI_ne (Or.inr hj)]; exact oth j
      · rw [xwI_at, card_sc hR.1 ht hi10 ho2, if_pos ⟨e, rfl⟩]
  · rw [if_neg e]
    refine ⟨M4, sT (by decide) rfl, fin M4 rfl mine other K14.2 (fun j _ => oth j) ?_, F14⟩
    rw [oth, sc1, card_sc hR.1 ht hi10 ho2, if_neg (fun q => e q.1)]; rfl
