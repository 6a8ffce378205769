/-! ===== the class: a line is applied ===== -/
theorem m_tab : xrf 5 0 = 6 ∧ xrf 5 1 = 12 ∧ xrf 5 2 = 24 ∧ xrf 5 3 = 46 ∧ xrf 5 4 = 58 ∧ xrf 6 0 = 7 ∧ xrf 6 1 = 11 ∧ xrf 12 0 = 13 ∧ xln 13 = 2 ∧ xrf 13 0 = 14 ∧ xrf 13 1 = 19 ∧ xln 11 = 280 := by decide +kernel
theorem m50 : xrf 5 0 = 6 := m_tab.1
theorem m51 : xrf 5 1 = 12 := m_tab.2.1
theorem m52 : xrf 5 2 = 24 := m_tab.2.2.1
theorem m53 : xrf 5 3 = 46 := m_tab.2.2.2.1
theorem m54 : xrf 5 4 = 58 := m_tab.2.2.2.2.1
theorem m60 : xrf 6 0 = 7 := m_tab.2.2.2.2.2.1
theorem m61 : xrf 6 1 = 11 := m_tab.2.2.2.2.2.2.1
theorem StR.fi {P : Nat → Prop} {M M' : xMem} {k : Nat} {ρ : Nat → Nat} (h : StR M k ρ) (hF : Fi P M M') (hP : ∀ c, P c → c < k ∨ k + 12 ≤ c) : StR M' k ρ := h.keep (fun c h1 h2 => hF.1 c (fun q => by have := hP c q; omega))
theorem HsR.fi {P : Nat → Prop} {M M' : xMem} {ρ : Nat → Nat} (h : HsR M ρ) (hF : Fi P M M') (hP : ∀ c, P c → c < 24 ∨ 46 ≤ c) : HsR M' ρ := h.keep (fun c h1 h2 => hF.1 c (fun q => by have := hP c q; omega)) (by rw [hF.2])
set_option maxRecDepth 4000 in
theorem m_raid {M : xMem} {ρ : Nat → Nat} {r s b tk : Nat} {tl : List Nat} (h : MR M ρ) (hI : RI ρ) (hm : rdOK ρ r s b tk tl) (h25 : ρ 25 < 200) : ∃ M', fX2_makeRaid 5 (lN (rdC r s b tk tl)) M = some M' ∧ MR M' (raidsR r s b tk tl ρ) ∧ Fm M M' ∧ M'.1 12 5 = nI (ownR r s b tk tl ρ) := by
  obtain ⟨hS, hH, -⟩ := h
  have hI' := hI.raid hm h25
  obtain ⟨⟨hT, hB, -, -, -⟩, -⟩ := id hI
  obtain ⟨hmay, hr, hs, hb, htk, h3, h1, hb2⟩ := hm
  have h28 := hT.1.1
  have hl := hmay.len hT
  have hro := hT.1.m (t := 1 - ρ 28) (by omega)
  have hx : ∀ x ∈ tl, x < 10 := fun x hx => by have := (hmay.2.2.2.1 x hx).1; omega
  have hem := (hB.2.2.2.2 (ρ 28) h28).1
  obtain ⟨M1, f1, P1, F1⟩ := s_unpack (M := M) kd58 hr hs hb htk (by omega) hx h1
  have S1 : StR M1 12 ρ := hS.fi F1 (fun c hc => by omega)
  obtain ⟨M2, f2, A2, F2⟩ := s_copyFrom kd46 kd12 (by decide) S1 hT.1 hB
  have S2 : StR M2 12 ρ := S1.fi F2 (fun c hc => by unfold stC at hc; omega)
  have P2 : PlF M2 58 r s b tk tl := P1.keep (fun c hc => F2.1 c (by unfold stC; omega))
  obtain ⟨M3, f3, S3, F3, o5, o6, o7, o8⟩ := s_play kd12 kd58 S2 P2.1 hT hmay hb2 hem
  have A3 : StR M3 46 ρ := A2.fi F3 (fun c hc => by unfold stC at hc; omega)
  have P3 : PlF M3 58 r s b tk tl := P2.keep (fun c hc => F3.1 c (by unfold stC; omega))
  have H3 : HsR M3 ρ := ((hH.fi F1 (fun c hc => by omega)).fi F2 (fun c hc => by unfold stC at hc; omega)).fi F3 (fun c hc => by unfold stC at hc; omega)
  obtain ⟨M4, f4, n4, z4, c4, q4, p4, r4, l4, t4, g4⟩ := s_write A3 hT hem P3 H3.1 h25 S3 o5 o6 o7 o8 (fun _ => htk)
  have FF : Fm M M4 := (((Fm.ofFi F1 (fun c hc => by omega)).trans (Fm.ofFi F2 (fun c hc => by unfold stC at hc; omega))).trans (Fm.ofFi F3 (fun c hc => by unfold stC at hc; omega))).trans ⟨fun c hc => n4 c (by omega), q4, r4⟩
  have hc := rc_new hT hmay hr hs hb htk h3 h1 hb2
  have nw : ∀ w, w < 15 → _ := fun w hw => rq_new (b := b) hT hmay hr hw
  have old : ∀ k, k < ρ 25 → ∀ w, w < 15 → rq (raidsR r s b tk tl ρ) k w = rq ρ k w := fun k hk w hw => rq_old hT hmay hr hk hw
  obtain ⟨wo, sp⟩ := wo_new (b := b) hT hmay hr
  have hnT := hc.nT
  have hpB := hc.pB
  rw [nw 6 (by decide), nw 2 (by decide)] at hpB
  have lo : ∀ j, j < 36 → j ≠ 25 → j ≠ 28 → j ≠ 29 → j ≠ 30 + ρ 28 → raidsR r s b tk tl ρ j = ρ j := fun j a1 a2 a3 a4 a5 => raids_lo hT hmay hr a1 a2 a3 a4 a5
  refine ⟨M4, ?_, ⟨S3.keep (fun c h1 h2 => n4 c (by omega)), ⟨by rw [raids_25]; exact z4, fun k hk => ?_, fun k hk => ?_, fun t i w ht hi hw => ?_, fun t w ht hw => ?_⟩, fun _ => ?_⟩, FF, by rw [n4 12 (by decide)]; exact o5⟩
  · unfold fX2_makeRaid
    rw [m54, m53, m51, m52]
    exact sBv f1 (sBv f2 (sBv f3 (sBv f4 rfl)))
  · rw [raids_25] at hk
    by_cases q : k = ρ 25
    · subst q
      have cc : ∀ w, w < 16 → M4.1 (26 + w) (ρ 25) = wrV r s b tk tl ρ w := fun w hw => by rw [c4 w hw, if_pos rfl]
      refine ⟨fun w hw => ?_, ?_, ?_, ?_, ?_, ?_, ?_, ?_, tk, tl, hc, ?_⟩
      · rw [cc w (by omega), nw w (by omega)]
        rcases (show w = 0 ∨ w = 1 ∨ w = 2 ∨ w = 3 ∨ w = 4 ∨ w = 5 ∨ w = 6 ∨ w = 7 ∨ w = 8 by omega) with rfl | rfl | rfl | rfl | rfl | rfl | rfl | rfl | rfl <;> rfl
      · rw [nw 10 (by decide)]; exact cc 9 (by decide)
      · rw [nw 11 (by decide)]; exact cc 10 (by decide)
      · rw [nw 9 (by decide)]; exact cc 11 (by decide)
      · rw [hnT]; exact cc 12 (by decide)
      · rw [hpB]; exact cc 13 (by decide)
      · rw [wo]; exact cc 14 (by decide)
      · rw [sp]; exact cc 15 (by decide)
      · rw [p4, if_pos rfl, nw 1 (by decide), nw 2 (by decide), nw 6 (by decide)]
        rfl
    · have hk' : k < ρ 25 := by omega
      refine ((H3.2.1 k hk').keep (M' := M4) (fun c a1 a2 => ?_) (by rw [p4, if_neg q])).row (fun w hw => old k hk' w (by omega)) (fun tk' tl' q => q.congr (old k hk') (by rw [lo 26 (by decide) (by decide) (by decide) (by decide) (by omega)]; exact Nat.le_refl _))
      rw [show c = 26 + (c - 26) by omega, c4 (c - 26) (by omega), if_neg q]
  · rw [raids_25] at hk
    rw [l4]
    by_cases q : k = ρ 25 + 1
    · rw [if_pos q, q]
      have e0 := hI'.1.2.2.2.1 0 (by decide)
      have e1 := hI'.1.2.2.2.1 1 (by decide)
      rw [raids_25] at e0 e1
      rw [e0, e1]
    · rw [if_neg q, H3.2.2.1 k (by omega), gsum_cong (σ := raidsR r s b tk tl ρ) (by decide) (fun k' hk' w hw => old k' (by omega) w hw), gsum_cong (σ := raidsR r s b tk tl ρ) (by decide) (fun k' hk' w hw => old k' (by omega) w hw)]
  · rw [t4, addL_at, sum_bkT ht h28 hr hi hw (fun e => by unfold setV; rw [if_pos e]; exact htk), H3.2.2.2.1 t i w ht hi hw]
    unfold tal
    rw [raids_25]
    show _ = nI (sumR (fun k => inq (raidsR r s b tk tl ρ) k t i w) (ρ 25) + inq (raidsR r s b tk tl ρ) (ρ 25) t i w)
    rw [tal_cong H3 (Nat.le_refl _) (fun k hk w hw => old k hk w (by omega)), ← nI_add]
    congr 1
    unfold inq
    rw [hnT, hpB, wo, sp, nw 0 (by decide), nw 1 (by decide), nw 2 (by decide), nw 5 (by decide), nI01, Int32.one_mul]
    rfl
  · rw [g4, addL_at, sum_bkP ht h28 hw (by omega), H3.2.2.2.2 t w ht hw, pt_new hT hmay hr hs hb htk h3 h1 hb2 ht hw, ← nI_add]
    congr 1
    unfold ptq
    rw [hnT, hpB, wo, sp, nw 0 (by decide), nw 2 (by decide), nw 9 (by decide), nI01, Int32.one_mul]
    rfl
  · refine (A3.keep (fun c h1 h2 => n4 c (by omega))).row hT.1 (fun j hj => core_raids hT hmay hr hj)
theorem card_pt {t i c : Nat} {ρ : Nat → Nat} (hR : RW ρ) (ht : t < 2) (hi : i < 10) {u w : Nat} (hu : u < 2) (hw : w < 6) : cardR t i c ρ (36 + 6 * u + w) = ρ (36 + 6 * u + w) + if isAll t (cd2 t i c ρ) = true ∧ u = 1 - t ∧ w = 4 then 2 else 0 := by
  have R2 := (cd2_ok (c := c) hR ht hi).1
  unfold cardR
  rw [line_ne (by omega) (by omega), cd3_lo ht (by omega)]
  unfold allR
  by_cases q : isAll t (cd2 t i c ρ) = true
  · rw [if_pos q, addR_pt hw (by decide), backsR_ne ht (by omega) (by omega) (by omega) _ R2, cd_ne hR ht hi (Or.inl (by omega))]
    congr 1
    by_cases q2 : u = 1 - t ∧ w = 4
    · rw [if_pos ⟨q2.1.symm, q2.2.symm⟩, if_pos ⟨q, q2⟩]
    · rw [if_neg (fun z => q2 ⟨z.1.symm, z.2.symm⟩), if_neg (fun z => q2 z.2)]
  · rw [if_neg q, if_neg (fun z => q z.1), cd_ne hR ht hi (Or.inl (by omega))]; rfl
theorem m_card {M : xMem} {ρ : Nat → Nat} {t i c : Nat} (h : MR M ρ) (hI : RI ρ) (ht : t < 2) (hi : i < ρ (1 + t)) (hc : c < 3) (hs : ρ (48 + 10 * t + i) ≠ 2) (h26 : ρ 26 < 40) : ∃ M', fX2_makeCard 5 (nI t) (nI i) (nI c) M = some M' ∧ MR M' (cardR t i c ρ) ∧ Fm M M' := by
  obtain ⟨hS, hH, -⟩ := h
  have hI' : RI (cardR t i c ρ) := hI.card ht hi hs h26
  obtain ⟨⟨hT, hB, -, -, -⟩, -⟩ := id hI
  have hm := hT.1.m ht
  have hi10 : i < 10 := by omega
  have b25 := hB.1
  obtain ⟨M1, f1, S1, F1⟩ := s_showCard kd12 hS hT hB ht hi hc hs
  have H1 : HsR M1 ρ := hH.fi F1 (fun c hc => by unfold stC at hc; omega)
  have FM1 : Fm M M1 := Fm.ofFi F1 (fun c hc => by unfold stC at hc; omega)
  have e25 : cardR t i c ρ 25 = ρ 25 := by rw [card_lo hT.1 ht hi10 (by decide) (by omega), line_ne (by decide) (by decide)]
  have e29 : cardR t i c ρ 29 = 0 := by rw [card_lo hT.1 ht hi10 (by decide) (by omega)]; unfold lineR; rw [va_at_eq]
  have rqe : ∀ k w, w < 15 → _ := fun k w hw => card_rq (c := c) hT.1 ht hi10 (k := k) (w := w) hw
  have q13 : ∀ k w, w < 13 → rq (cardR t i c ρ) k w = rq ρ k w := fun k w hw => by
    rw [rqe k w (by omega), if_neg (by omega)]; rfl
  have tals : ∀ t' i' w', tal (cardR t i c ρ) t' i' w' = tal ρ t' i' w' := fun t' i' w' => by
    unfold tal
    rw [e25, tal_cong H1 (Nat.le_refl _) (fun k hk w hw => q13 k w hw)]
  have cols : ∀ {M' : xMem}, (∀ c, 26 ≤ c → c < 42 → M'.1 c = M1.1 c) → M'.2.1 42 = M1.2.1 42 → ∀ k, k < ρ 25 → ColR M' (cardR t i c ρ) k := fun {M'} a1 a2 k hk => ((H1.2.1 k hk).keep (fun c x1 x2 => by rw [a1 c x1 x2]) (by rw [a2])).row (fun w hw => q13 k w hw) (fun tk tl q => q.card hT.1 ht hi10)
  by_cases q : isAll t (cd2 t i c ρ) = true
  · rw [if_pos q] at f1
    have hl := s_setLead (M := xT M1 (M1.1 44) (ad1 (M1.1 45) (ptA (1 - t) 4) (nI 2))) (σ := cardR t i c ρ) (K := ρ 25) (S1.keep (fun c h1 h2 => xT_ne (by omega) (by omega))) (by rw [xT_ne (by decide) (by decide)]; exact H1.1) (by omega)
    have hp : fX1_noteCardAllOut 24 (nI t) M1 = some (xT M1 (M1.1 44) (ad1 (M1.1 45) (ptA (1 - t) 4) (nI 2))) := by
      unfold fX1_noteCardAllOut
      rw [eSub (by omega)]
      have := s_addPart (M := M1) (f := M1.1 44) (g := M1.1 45) (t := 1 - t) (w := 4) (v := nI 2) (by omega) (by decide)
      rw [← xT_self] at this
      rw [this, eBv]
    refine ⟨xwI (xT M1 (M1.1 44) (ad1 (M1.1 45) (ptA (1 - t) 4) (nI 2))) 43 (ρ 25) (nI (scR 0 (cardR t i c ρ)) - nI (scR 1 (cardR t i c ρ))), ?_, ⟨S1.keep (fun c h1 h2 => by rw [xwI_c (by omega), xT_ne (by omega) (by omega)]), ⟨?_, ?_, ?_, ?_, ?_⟩, fun z => by rw [e29] at z; omega⟩, ?_⟩
    · unfold fX2_makeCard
      rw [m51, m52, f1, eBn]
      exact sF (by decide) (sBv hp (sBv hl rfl))
    · rw [e25, xwI_c (by decide), xT_ne (by decide) (by decide)]; exact H1.1
    · intro k hk
      rw [e25] at hk
      refine cols ?_ ?_ k hk
      · intro c a1 a2
        rw [xwI_c (by omega), xT_ne (by omega) (by omega)]
      · rfl
    · intro k hk
      rw [e25] at hk
      by_cases z : k = ρ 25
      · subst z
        have e0 := hI'.1.2.2.2.1 0 (by decide)
        have e1 := hI'.1.2.2.2.1 1 (by decide)
        rw [e25] at e0 e1
        rw [xwI_at, e0, e1]
      · rw [xwI_ne (Or.inr z), xT_ne (by decide) (by decide), H1.2.2.1 k hk]
        have key : ∀ u, u < 2 → gsum (cardR t i c ρ) u k = gsum ρ u k := fun u hu => gsum_cong hu (fun k' hk' w hw => by rw [rqe k' w hw, if_neg (by omega)]; rfl)
        rw [key 0 (by decide), key 1 (by decide)]
    · intro t' i' w' a1 a2 a3
      rw [xwI_c (by decide), xT_44, tals]
      exact H1.2.2.2.1 t' i' w' a1 a2 a3
    · intro t' w' a1 a2
      rw [xwI_c (by decide), xT_45, card_pt hT.1 ht hi10 a1 a2]
      unfold ad1 upd
      by_cases z : t' = 1 - t ∧ w' = 4
      · obtain ⟨z1, z2⟩ := z
        subst z1 z2
        rw [if_pos rfl, if_pos ⟨q, rfl, rfl⟩, H1.2.2.2.2 _ _ a1 a2, nI_add]
      · rw [if_neg (by unfold ptA; omega), if_neg (fun y => z y.2)]
        exact H1.2.2.2.2 t' w' a1 a2
    · refine FM1.trans ⟨fun c hc => by rw [xwI_c (by omega), xT_ne (by omega) (by omega)], fun c hc => rfl, rfl⟩
  · rw [if_neg q] at f1
    refine ⟨M1, ?_, ⟨S1, ⟨by rw [e25]; exact H1.1, fun k hk => by rw [e25] at hk; exact cols (fun _ _ _ => rfl) rfl k hk, fun k hk => ?_, fun t' i' w' a1 a2 a3 => by rw [tals]; exact H1.2.2.2.1 t' i' w' a1 a2 a3, fun t' w' a1 a2 => ?_⟩, fun z => by rw [e29] at z; omega⟩, FM1⟩
    · unfold fX2_makeCard
      rw [m51, m52, f1, eBn]
      exact sT (by decide) rfl
    · rw [e25] at hk
      have key : ∀ u, u < 2 → gsum (cardR t i c ρ) u k = gsum ρ u k := fun u hu => gsum_cong hu (fun k' hk' w hw => by rw [rqe k' w hw, if_neg (fun z => q z.1.1)]; rfl)
      rw [key 0 (by decide), key 1 (by decide)]
      exact H1.2.2.1 k hk
    · rw [card_pt hT.1 ht hi10 a1 a2, if_neg (fun z => q z.1)]
      exact H1.2.2.2.2 t' w' a1 a2
