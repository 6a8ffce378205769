/-! ===== most, needs ===== -/
theorem bz_of {ρ : Nat → Nat} (hR : RW ρ) {t : Nat} (ht : t < 2) : pcn (mOn t ρ) = 0 ↔ mOn t ρ = 0 := by
  have hmo := mOn_lt (ρ := ρ) (t := t) (hR.m ht)
  constructor
  · intro q
    by_cases z : mOn t ρ = 0
    · exact z
    · have := (pcn_step _ hmo z).1
      omega
  · intro q; rw [q]; exact pcn_0
theorem hP132 : ∀ c, (132 ≤ c ∧ c < 146) → 126 ≤ c ∧ c < 146 := fun c q => by omega
theorem Fi.pl {M M' : xMem} (h : Fi (fun c => c = 144 ∨ c = 145) M M') : Fi (fun c => 132 ≤ c ∧ c < 146) M M' := h.mono (fun c q => by omega)
theorem Fi.st {M M' : xMem} (h : Fi (stC 132) M M') : Fi (fun c => 132 ≤ c ∧ c < 146) M M' := h.mono (fun c q => by unfold stC at q; omega)
theorem s_most : STEP (fX10_most 0) (fX11_most 146) := by
  intro M hM
  obtain ⟨a, hs, tp, fk, fp, ou, hC, hR⟩ := id hM
  rcases hC.1.q hR.1 hR.2.1 with ⟨ha, h⟩ | ⟨hn, h⟩
  · have hT := h.2.2.2.1.1.1
    have h28 := hT.1.1
    have hn25 := h.n25
    by_cases q : ovR (rowT a) = 0 ∧ rowT a 25 < 200 ∧ mOn (rowT a 28) (rowT a) ≠ 0
    · obtain ⟨q0, q1, q2⟩ := q
      obtain ⟨hok, hl7, hx10⟩ := gr_may hT q2 1
      have hlt := fOn_lt.2 q2
      have hm1 := h.rw.m h28
      obtain ⟨Mc, f2, s2, F2⟩ := s_copyFrom kd132' kd12 (by decide) h.2.2.1.1 h.rw h.bd
      obtain ⟨Mp, f3, F3, p3⟩ := c_planAll (r := fOn (rowT a 28) (rowT a)) s2 hT (by omega) hl7
      have s2' : StR Mp 132 (rowT a) := s2.keep (fun c u v => F3.1 c (fun q => by omega))
      obtain ⟨M1, f4, s4, F4, o5, -, -, -⟩ := s_play kd132' kd144 s2' p3 hT hok.1 hok.2.2.2.2.2.2.2 (h.bd.2.2.2.2 _ h28).1
      have F := (F2.st.trans F3.pl).trans F4.st
      have h1 := h.fi F hP132
      have hC1 := hC.fi F hP132
      have hR1 := hR.fi F hP132
      have cl : fX10_most 0 M = some (nI (ownR (fOn (rowT a 28) (rowT a)) (grS 1 (rowT a)) (grB 1 (rowT a)) 0 (grL 1 (rowT a)) (rowT a)), M1) := by
        unfold fX10_most
        rw [x02, m51, x06, x07]
        refine sBn (c_told h) (sF (by decide) (sBn (s_leastOn kd12 h.2.2.1.1 h.rw) (sBn (c_isOver h) ?_)))
        rw [q0]
        refine sT (by decide) ?_
        rw [c_roomR h, eBn, iN1 q1]
        have elo : loR (rowT a) = nI (fOn (rowT a 28) (rowT a)) := by unfold loR; rw [if_neg q2]
        rw [elo]
        refine sF (by decide) (sF (m1_ne (by omega)) (sBv f2 (sBv f3 (sBv f4 ?_))))
        rw [o5]
      have mp : ∀ z, (xBn (fX11_standing 146 M1) fun r10 M11 => if r10 = 0 then (some ((nI 0), M11)) else (xBv (fX11_copies 146 M11) fun M12 => xBv (fX11_greatest 146 (nI 1) M12) fun M13 => xBn (fX11_get 146 (nI 25) M13) fun r14 M15 => xBn (fX11_rec 146 (r14 - (nI 1)) (nI 3) M15) fun r16 M17 => xLt (xwW M17 false) fun M18 => some (r16, M18))) = z → fX11_most 146 M1 = z := by
        intro z hz
        unfold fX11_most
        refine sBn h1.there (sF (by decide) (sBn (m_isOver h1) ?_))
        rw [q0]
        refine sT (by decide) (sGb 25 rfl (by rw [xlnw]; decide) (by rw [xlnw]; decide) ?_)
        rw [h1.tm, eCl (by decide), lf_at]
        refine sF (by rw [eCmp0, eLE (by omega) (by decide)]; omega) ?_
        rw [q_get h1.tm (by decide), eBn, q_firstOn h1.tm h.rw h28, eBn, if_neg q2]
        exact sF (m1_ne (by omega)) hz
      by_cases q3 : mOn (1 - rowT a 28) (rowT a) = 0
      · have eg := (gr_len h.rw).1
        rw [(bz_of h.rw (by omega)).2 q3] at eg
        have el : grL 1 (rowT a) = [] := List.eq_nil_of_length_eq_zero eg
        have es : grS 1 (rowT a) = 0 := by unfold grS; rw [if_pos eg]
        have eb : grB 1 (rowT a) = 0 := by unfold grB; rw [if_neg (by omega)]
        have hna := (NA.td ha).1 (1 - rowT a 28) (by omega)
        have hq0 : rowT a (108 + (1 - rowT a 28)) = 0 := by
          unfold isAll at hna
          have z : mkP (fun i => rowT a (48 + 10 * (1 - rowT a 28) + i) == 0) (rowT a (1 + (1 - rowT a 28))) = 0 := q3
          rw [z] at hna
          simpa using hna
        rw [es, eb, el, own_0 hT (by omega) hq0] at cl
        refine ⟨nI 0, M1, M1, cl, mp _ ?_, a, hs, tp, fk, fp, ou, hC1, hR1⟩
        refine sBn (q_standing h1.tm h.rw) (sT ?_ rfl)
        rw [(bz_of h.rw (by omega)).2 q3]
        decide
      · obtain ⟨α, a1, a2, a3⟩ := MQm.far hR1 ha
        have ecp := e_copies h1.mq.1.2 a1 a3 a2
        generalize hM3 : xwW (xwQ M1 148 (lf (rowT a))) true = M3 at ecp
        have t3 : TM M3 (rowT a) := by rw [← hM3]; exact xwQ_at M1 148 (lf (rowT a))
        have fa3 : Fa M1 M3 := by rw [← hM3]; exact (Fa.q _ _).trans (Fa.w _ _)
        have n3 : xnw M3 = 148 := by rw [← hM3]; rfl
        obtain ⟨M4, g1, g2⟩ := e_greatest (f := 1) t3 hT (by decide) q2 q1 (h.bd.2.2.2.2 _ h28).1
        have n4 : xnw M4 = 148 := by unfold xnw at n3 ⊢; rw [g2.2.2]; exact n3
        have u := q_own (b := grB 1 (rowT a)) (M := nwS M4 (grR 1 (rowT a))) hT hok.1 hok.2.1 q1 TM.of_nw
        obtain ⟨u1, u2, -⟩ := u
        have fa4 : Fa M1 (xwW (nwS M4 (grR 1 (rowT a))) false) := by
          refine (fa3.trans g2.fa).trans (Fa.trans (M1 := nwS M4 (grR 1 (rowT a))) ?_ (Fa.w _ _))
          unfold nwS
          rw [n4]
          exact Fa.q _ _
        have far : ∀ j, 3235 ≤ j → grR 1 (rowT a) j = 0 := fun j hj => by
          have hl : okL (.inl (fOn (rowT a 28) (rowT a), grS 1 (rowT a), grB 1 (rowT a), 0, grL 1 (rowT a))) (rowT a) := ⟨hok, q1, fun e => by exfalso; unfold grS at e; split at e <;> omega⟩
          have := app_far h.2.2.2.1 hl hj
          rw [a3 j hj] at this
          exact this
        have e148 : (xwW (nwS M4 (grR 1 (rowT a))) false).2.1 148 = lf (grR 1 (rowT a)) := by
          show (nwS M4 _).2.1 148 = _
          rw [← n4]
          exact nwS_at M4 _
        refine ⟨_, M1, xwW (nwS M4 (grR 1 (rowT a))) false, cl, mp _ ?_, a, hs, tp, fk, fp, ou, hC1.fd fa4.fd, hR1.fa fa4 rfl e148 far⟩
        have hpc := pcn_le _ (mOn_lt (ρ := rowT a) (t := 1 - rowT a 28) (h.rw.m (by omega)))
        refine sBn (q_standing h1.tm h.rw) (sF (eN0 (by omega) (fun z => q3 ((bz_of h.rw (by omega)).1 z))) ?_)
        rw [ecp, eBv, g1, eBv, u1, eBn, eSub (by omega), Nat.add_sub_cancel, u2, eBn]
        rfl
    · refine ⟨-1, M, M, ?_, ?_, hM⟩
      · unfold fX10_most
        rw [x02, m51, x06, x07]
        refine sBn (c_told h) (sF (by decide) (sBn (s_leastOn kd12 h.2.2.1.1 h.rw) (sBn (c_isOver h) ?_)))
        rcases ovR_le (rowT a) with q0 | q0
        · rw [q0]
          refine sT (by decide) ?_
          rw [c_roomR h, eBn]
          by_cases q1 : rowT a 25 < 200
          · rw [iN1 q1]
            refine sF (by decide) (sT ?_ rfl)
            unfold loR
            rw [if_pos]
            by_cases z : mOn (rowT a 28) (rowT a) = 0
            · exact z
            · exact absurd ⟨q0, q1, z⟩ q
          · rw [iN0 q1]
            exact sT (by decide) rfl
        · rw [q0]
          exact sF (by decide) rfl
      · unfold fX11_most
        refine sBn h.there (sF (by decide) (sBn (m_isOver h) ?_))
        rcases ovR_le (rowT a) with q0 | q0
        · rw [q0]
          refine sT (by decide) (sGb 25 rfl (by rw [xlnw]; decide) (by rw [xlnw]; decide) ?_)
          rw [h.tm, eCl (by decide), lf_at]
          by_cases q1 : rowT a 25 < 200
          · refine sF (by rw [eCmp0, eLE (by omega) (by decide)]; omega) ?_
            have z : mOn (rowT a 28) (rowT a) = 0 := by
              by_cases z : mOn (rowT a 28) (rowT a) = 0
              · exact z
              · exact absurd ⟨q0, q1, z⟩ q
            rw [q_get h.tm (by decide), eBn, q_firstOn h.tm h.rw h28, eBn, if_pos z]
            exact sT rfl rfl
          · exact sT (by rw [eCmp0, eLE (by omega) (by decide)]; omega) rfl
        · rw [q0]
          exact sF (by decide) rfl
  · refine ⟨-2, M, M, ?_, ?_, hM⟩
    · unfold fX10_most
      rw [x02]
      exact sBn (c_untold h) (sT (by decide) rfl)
    · unfold fX11_most
      exact sBn (m_nothere h) (sT (by decide) rfl)
/-! needs -/
def nxR (f : Nat) (σ : Nat → Nat) : Nat → Nat := va_up (grR f σ) 25 0
def ndV (t : Nat) : Nat → (Nat → Nat) → Nat → Int32
  | 0, _, _ => -1
  | n + 1, σ, m => if scR (1 - t) σ < scR t σ then nI m else if mOn (σ 28) σ = 0 then -1 else if σ 28 = t then (if m = 50 then -1 else ndV t n (nxR 1 σ) (m + 1)) else ndV t n (nxR 0 σ) m
def ND (σ : Nat → Nat) (k : Nat) : Prop := RT σ ∧ σ 25 = 0 ∧ σ 27 < 2 ∧ (∀ t, t < 2 → σ (30 + t) < 3 ∧ scR t σ ≤ 5000 + 20 * k) ∧ ∀ j, 3235 ≤ j → σ j = 0
theorem ND.nx {σ : Nat → Nat} {k : Nat} (h : ND σ k) (hm : mOn (σ 28) σ ≠ 0) (f : Nat) : ND (nxR f σ) (k + 1) ∧ nxR f σ 28 = 1 - σ 28 := by
  obtain ⟨hT, h25, h27, hb, hf⟩ := h
  have h28 := hT.1.1
  obtain ⟨hok, hl7, hx10⟩ := gr_may hT hm f
  have en : ∀ j, j ≠ 25 → nxR f σ j = grR f σ j := fun j hj => va_at_ne hj
  have sc := raids_sc (b := grB f σ) hT hok.1 hok.2.1
  have o1 : ownR (fOn (σ 28) σ) (grS f σ) (grB f σ) 0 (grL f σ) σ ≤ 13 := by
    unfold ownR
    split <;> split <;> split <;> omega
  have o2 : othR (fOn (σ 28) σ) (grS f σ) (grB f σ) 0 (grL f σ) σ ≤ 4 := by
    unfold othR
    split <;> split <;> split <;> omega
  have esc : ∀ t, t < 2 → scR t (nxR f σ) = scR t (grR f σ) := fun t ht => scR_congr (fun k hk => en _ (by omega))
  refine ⟨⟨?_, va_at_eq, ?_, fun t ht => ⟨?_, ?_⟩, fun j hj => ?_⟩, ?_⟩
  · exact (rtR hT hok.1).lo (Or.inl (by decide))
  · rw [en 27 (by decide)]
    unfold grR
    rw [raids_lo hT hok.1 hok.2.1 (by decide) (by decide) (by decide) (by decide) (by omega)]
    exact h27
  · rw [en _ (by omega)]
    unfold grR
    by_cases q : t = σ 28
    · rw [q, raids_em h28]
      split
      · have h3 := (hb (σ 28) h28).1
        have hmu : muR σ = 0 := by
          rename_i z; exact z.2
        unfold muR at hmu
        have := ite_0 hmu
        omega
      · omega
    · rw [raids_lo hT hok.1 hok.2.1 (by omega) (by omega) (by omega) (by omega) (by omega)]
      exact (hb t ht).1
  · rw [esc t ht]
    have hb1 := (hb t ht).2
    unfold grR
    by_cases q : t = σ 28
    · rw [q, sc.1]; rw [q] at hb1; omega
    · rw [show t = 1 - σ 28 by omega, sc.2]; rw [show t = 1 - σ 28 by omega] at hb1; omega
  · rw [en _ (by omega)]
    unfold grR
    rw [raids_hi hT hok.1 hok.2.1 (by omega), if_neg (by omega), if_neg (by omega), if_neg (by omega), if_neg (by omega), rec_far (by omega) h28]
    unfold aheadR
    rw [if_neg (by omega)]
    exact hf j hj
  · rw [en 28 (by decide)]
    exact raids_28
theorem StR.c25 {M : xMem} {k v : Nat} {ρ : Nat → Nat} (h : StR M k ρ) (hR : RW ρ) : StR M k (va_up ρ 25 v) := by
  have e : ∀ j, j ≠ 25 → va_up ρ 25 v j = ρ j := fun j hj => va_at_ne hj
  obtain ⟨a, b, c, d, f⟩ := h
  refine ⟨by rw [e 28 (by decide)]; exact a, by rw [e 27 (by decide)]; exact b, by rw [e 26 (by decide)]; exact c, by rw [e 29 (by decide)]; exact d, fun t ht => ?_⟩
  obtain ⟨x1, x2, x3, x4, x5⟩ := f t ht
  refine ⟨x1.row (hR.m ht) (hR.q ht).1 (fun j hj => e j (by omega)), ?_, by rw [e _ (by omega)]; exact x3, by rw [e _ (by omega)]; exact x4, by rw [e _ (by omega)]; exact x5⟩
  rw [scR_congr (ρ := ρ) (fun k hk => e _ (by omega))]
  exact x2
theorem s_isOver' {M : xMem} {k : Nat} {ρ : Nat → Nat} (hS : StR M k ρ) (h27 : ρ 27 ≤ 2) : fX8_isOver k M = some (nI (ovR ρ), M) := by
  unfold fX8_isOver ovR
  rw [hS.2.1]
  by_cases e : ρ 27 = 2
  · exact sF (by rw [eLtI (by omega) (by decide)]; omega) (by rw [if_pos e])
  · exact sT (by rw [eLtI (by omega) (by decide)]; omega) (by rw [if_neg e])
theorem ld_le {x y : Nat} (hx : x < 1000000) (hy : y < 1000000) : (nI x - nI y ≤ 0) = (x ≤ y) := by
  apply propext
  rw [Int32.le_iff_toInt_le, pk_sub_toInt (by omega) (by omega), Int32.toInt_zero]
  omega
theorem c_needsL {t : Nat} (ht : t < 2) : ∀ (n k : Nat) (M : xMem) (σ : Nat → Nat) (m F : Nat), n + k = 103 → n < F → ND σ k → StR M 132 σ → m ≤ 50 → ∃ M', fX10_needs_l29 0 (nI t) (fun (v17 : Int32) (v18 : Int32) (M19 : xMem) => some ((-1), M19)) F (nI m) (nI k) M = some (ndV t n σ m, M') ∧ Fi (fun c => 132 ≤ c ∧ c < 146) M M' := by
  intro n
  induction n with
  | zero =>
    intro k M σ m F h1 h2 h3 h4 h5
    obtain ⟨F, rfl⟩ : ∃ q, F = q + 1 := ⟨F - 1, by omega⟩
    refine ⟨M, ?_, Fi.refl _ M⟩
    rw [fX10_needs_l29.eq_2]
    exact sT (by rw [eLtI (by omega) (by omega)]; omega) rfl
  | succ n ih =>
    intro k M σ m F h1 h2 h3 h4 h5
    obtain ⟨F, rfl⟩ : ∃ q, F = q + 1 := ⟨F - 1, by omega⟩
    obtain ⟨hT, h25, h27, hb, hf⟩ := id h3
    have h28 := hT.1.1
    have b1 := (hb t ht).2
    have b2 := (hb (1 - t) (by omega)).2
    have hov : ovR σ = 0 := by unfold ovR; rw [if_neg (by omega)]
    rw [fX10_needs_l29.eq_2, x06, x07]
    unfold ndV
    by_cases q : scR (1 - t) σ < scR t σ
    · refine ⟨M, ?_, Fi.refl _ M⟩
      rw [if_pos q]
      exact sF (by rw [eLtI (by omega) (by omega)]; omega) (sBn (s_leadOf kd132' h4 ht) (sF (by rw [ld_le (by omega) (by omega)]; omega) rfl))
    · rw [if_neg q]
      have pre : ∀ z, (if loR σ = (-1) then (some ((-1 : Int32), M)) else (xLt (fun (v10 : Int32) (M11 : xMem) => (xBv (fX8_play 132 144 M11) fun M12 => xLt (nI k + nI 1) fun x13 => fX10_needs_l29 0 (nI t) (fun (v17 : Int32) (v18 : Int32) (M19 : xMem) => some ((-1), M19)) F v10 x13 M12 : Option (Int32 × xMem))) fun J120 => if (M.1 132 1) = nI t then (if nI m = (nI 50) then (some ((-1), M)) else (xLt (nI m + nI 1) fun x14 => xBv (fX10_planAllTouched 0 132 (loR σ) M) fun M15 => J120 x14 M15)) else (xBv (fX4_begin 144 (loR σ) (nI 0) M) fun M16 => J120 (nI m) M16))) = z → (if (nI 102) < nI k then (some ((-1), M)) else (xBn (fX8_leadOf 132 (nI t) M) fun r4 M5 => if r4 ≤ 0 then (xBn (fX8_leastOn 132 M5) fun r6 M7 => xBn (fX8_isOver 132 M7) fun r8 M9 => if r8 = 0 then (if r6 = (-1) then (some ((-1), M9)) else (xLt (fun (v10 : Int32) (M11 : xMem) => (xBv (fX8_play 132 144 M11) fun M12 => xLt (nI k + nI 1) fun x13 => fX10_needs_l29 0 (nI t) (fun (v17 : Int32) (v18 : Int32) (M19 : xMem) => some ((-1), M19)) F v10 x13 M12 : Option (Int32 × xMem))) fun J120 => if (M9.1 132 1) = nI t then (if nI m = (nI 50) then (some ((-1), M9)) else (xLt (nI m + nI 1) fun x14 => xBv (fX10_planAllTouched 0 132 r6 M9) fun M15 => J120 x14 M15)) else (xBv (fX4_begin 144 r6 (nI 0) M9) fun M16 => J120 (nI m) M16))) else (some ((-1), M9))) else (some (nI m, M5)))) = z := by
        intro z hz
        refine sF (by rw [eLtI (by omega) (by omega)]; omega) (sBn (s_leadOf kd132' h4 ht) (sT (by rw [ld_le (by omega) (by omega)]; omega) (sBn (s_leastOn kd132' h4 hT.1) (sBn (s_isOver' h4 (by omega)) ?_))))
        rw [hov]
        exact sT (by decide) hz
      by_cases q2 : mOn (σ 28) σ = 0
      · refine ⟨M, ?_, Fi.refl _ M⟩
        rw [if_pos q2]
        refine pre _ (sT ?_ rfl)
        unfold loR
        rw [if_pos q2]
      · rw [if_neg q2]
        have hlt := fOn_lt.2 q2
        have hm1 := hT.1.m h28
        have elo : loR σ = nI (fOn (σ 28) σ) := by unfold loR; rw [if_neg q2]
        rw [elo] at pre
        have hne : ¬ nI (fOn (σ 28) σ) = (-1 : Int32) := m1_ne (by omega)
        by_cases q3 : σ 28 = t
        · rw [if_pos q3]
          by_cases q4 : m = 50
          · refine ⟨M, ?_, Fi.refl _ M⟩
            rw [if_pos q4]
            refine pre _ (sF hne (sLt (sT (by rw [h4.1, q3]) (sT (by rw [q4]) rfl))))
          · rw [if_neg q4]
            obtain ⟨hok, hl7, hx10⟩ := gr_may hT q2 1
            obtain ⟨Mp, f3, F3, p3⟩ := c_planAll (r := fOn (σ 28) σ) h4 hT (by omega) hl7
            have s2' : StR Mp 132 σ := h4.keep (fun c u v => F3.1 c (fun q => by omega))
            obtain ⟨M1, f4, s4, F4, -⟩ := s_play kd132' kd144 s2' p3 hT hok.1 hok.2.2.2.2.2.2.2 (hb _ h28).1
            obtain ⟨d1, d2⟩ := h3.nx q2 1
            obtain ⟨M', e, F'⟩ := ih (k + 1) M1 (nxR 1 σ) (m + 1) F (by omega) (by omega) d1 (s4.c25 (rtR hT hok.1).1) (by omega)
            refine ⟨M', ?_, (F3.pl.trans F4.st).trans F'⟩
            refine pre _ (sF hne (sLt (sT (by rw [h4.1, q3]) (sF (by rw [eEq (by omega) (by decide)]; exact q4) (sLe (nI_add m 1) (sBv f3 (sBv f4 (sLe (nI_add k 1) e))))))))
        · rw [if_neg q3]
          obtain ⟨hok, hl7, hx10⟩ := gr_may hT q2 0
          have el : grL 0 σ = [] := rfl
          have es : grS 0 σ = 0 := rfl
          have eb : grB 0 σ = 0 := rfl
          rw [el, es, eb] at hok
          obtain ⟨Mp, f3, a0, a1, a2, a3, a4, F3⟩ := s_plBegin (M := M) (p := 144) (r := nI (fOn (σ 28) σ)) (s := nI 0)
          have p3 : PlR Mp 144 (fOn (σ 28) σ) 0 0 0 [] := ⟨a0, a1, fun q => absurd q (by decide), a3, a4, fun j x q => by simp at q, fun _ => rfl, by omega, by decide, by decide, by decide⟩
          have s2' : StR Mp 132 σ := h4.keep (fun c u v => F3.1 c (fun q => by omega))
          obtain ⟨M1, f4, s4, F4, -⟩ := s_play kd132' kd144 s2' p3 hT hok.1 (fun _ => rfl) (hb _ h28).1
          obtain ⟨d1, d2⟩ := h3.nx q2 0
          obtain ⟨M', e, F'⟩ := ih (k + 1) M1 (nxR 0 σ) m F (by omega) (by omega) d1 (s4.c25 (rtR hT hok.1).1) h5
          refine ⟨M', ?_, ((Fi.pl F3).trans F4.st).trans F'⟩
          refine pre _ (sF hne (sLt (sF (by rw [h4.1, eEq (by omega) (by omega)]; exact q3) (sBv f3 (sBv f4 (sLe (nI_add k 1) e))))))
theorem nw_of_fs {M M' : xMem} (h : Fs M M') : xnw M' = xnw M := by unfold xnw; rw [h.2.2]
theorem m_needL {t : Nat} (ht : t < 2) : ∀ (n k : Nat) (M : xMem) (σ : Nat → Nat) (m d F : Nat), n + k = 103 → n < F → ND σ k → TM M σ → xnw M = 148 → d < 2 → m = (k + d) / 2 → (σ 28 = t ↔ (k + d) % 2 = 1) → k + d ≤ 101 → ∃ M' σ', fX11_needed_l10 146 (nI t) (fun (v21 : Int32) (M22 : xMem) => some (v21, M22)) F (nI m) M = some (ndV t n σ m, M') ∧ Fa M M' ∧ M'.2.1 148 = lf σ' ∧ (∀ j, 3235 ≤ j → σ' j = 0) := by
  intro n
  induction n with
  | zero => intro k M σ m d F h1 h2 h3 h4 h5 h6 h7 h8 h9; omega
  | succ n ih =>
    intro k M σ m d F h1 h2 h3 h4 h5 h6 h7 h8 h9
    obtain ⟨F, rfl⟩ : ∃ q, F = q + 1 := ⟨F - 1, by omega⟩
    obtain ⟨hT, h25, h27, hb, hf⟩ := id h3
    have h28 := hT.1.1
    have b1 := (hb t ht).2
    have b2 := (hb (1 - t) (by omega)).2
    have h148 : M.2.1 148 = lf σ := by rw [← h5]; exact h4
    rw [fX11_needed_l10.eq_2]
    unfold ndV
    by_cases q : scR (1 - t) σ < scR t σ
    · refine ⟨M, σ, ?_, Fs.fa (Fs.refl M), h148, hf⟩
      rw [if_pos q, q_scoreOf h4 ht, eBn, eSub (by omega), q_scoreOf h4 (by omega), eBn]
      exact sT (by rw [eLtI (by omega) (by omega)]; exact q) rfl
    · rw [if_neg q, q_scoreOf h4 ht, eBn, eSub (by omega), q_scoreOf h4 (by omega), eBn, if_neg (show ¬ nI (scR (1 - t) σ) < nI (scR t σ) by rw [eLtI (by omega) (by omega)]; exact q), q_get h4 (by decide), eBn, q_firstOn h4 hT.1 h28, eBn]
      by_cases q2 : mOn (σ 28) σ = 0
      · refine ⟨M, σ, ?_, Fs.fa (Fs.refl M), h148, hf⟩
        rw [if_pos q2, if_pos q2]
        exact sT rfl rfl
      · rw [if_neg q2, if_neg q2]
        have hlt := fOn_lt.2 q2
        have hm1 := hT.1.m h28
        have hne : ¬ nI (fOn (σ 28) σ) = (-1 : Int32) := m1_ne (by omega)
        have go : ∀ f m', f < 2 → (f = 1 ↔ σ 28 = t) → m' = (k + 1 + d) / 2 → m + f = m' → k + 1 + d ≤ 101 → ∃ M' σ', (xBv (fX11_greatest 146 (nI f) M) fun M18 => xGb (nI 25) (xln (xnw M18)) (xLt (xwL M18 (xnw M18) (Int32.toNatClampNeg (nI 25)) (lN 0)) fun M20 => fX11_needed_l10 146 (nI t) (fun (v21 : Int32) (M22 : xMem) => some (v21, M22)) F (nI m') M20)) = some (ndV t n (nxR f σ) m', M') ∧ Fa M M' ∧ M'.2.1 148 = lf σ' ∧ (∀ j, 3235 ≤ j → σ' j = 0) := by
          intro f m' hf2 hft hm' hmm hk
          obtain ⟨M4, g1, g2⟩ := e_greatest (f := f) h4 hT hf2 q2 (by omega) (hb _ h28).1
          have n4 : xnw M4 = 148 := by rw [nw_of_fs g2]; exact h5
          obtain ⟨d1, d2⟩ := h3.nx q2 f
          obtain ⟨M', σ', e, F', e1, e2⟩ := ih (k + 1) (nwS M4 (nxR f σ)) (nxR f σ) m' d F (by omega) (by omega) d1 TM.of_nw (by rw [nwS_w]; exact n4) h6 hm' (by rw [d2]; omega) hk
          have fa4 : Fa M (nwS M4 (nxR f σ)) := by
            refine g2.fa.trans ?_
            unfold nwS
            rw [n4]
            exact Fa.q _ _
          refine ⟨M', σ', ?_, fa4.trans F', e1, e2⟩
          rw [g1, eBv]
          refine sGn 25 rfl (by decide) ?_
          refine sWn 25 0 rfl (eCl (by decide)) rfl ?_
          exact e
        by_cases q3 : σ 28 = t
        · rw [if_pos q3]
          by_cases q4 : m = 50
          · refine ⟨M, σ, ?_, Fs.fa (Fs.refl M), h148, hf⟩
            rw [if_pos q4]
            refine sF hne (sGb 28 rfl (by rw [xlnw]; decide) (by rw [xlnw]; decide) ?_)
            rw [h4, eCl (k := 28) (by decide), lf_at, eI2L (n := t) (by omega)]
            refine sJw (nI 1) M (fun J => sT (by rw [eCmp0, q3]) rfl) (sLt (sF (by decide) (sT (by rw [q4]) rfl)))
          · rw [if_neg q4]
            obtain ⟨M', σ', e, r⟩ := go 1 (m + 1) (by decide) ⟨fun _ => q3, fun _ => rfl⟩ (by have := h8.1 q3; omega) rfl (by have := h8.1 q3; omega)
            refine ⟨M', σ', ?_, r⟩
            refine sF hne (sGb 28 rfl (by rw [xlnw]; decide) (by rw [xlnw]; decide) ?_)
            rw [h4, eCl (k := 28) (by decide), lf_at, eI2L (n := t) (by omega)]
            refine sJw (nI 1) M (fun J => sT (by rw [eCmp0, q3]) rfl) (sJx M (fun J => sF (by decide) (sF (by rw [eEq (by omega) (by decide)]; exact q4) rfl)) ?_)
            refine sJw (nI 1) M (fun J => sF (by decide) rfl) (sLe (nI_add m 1) e)
        · rw [if_neg q3]
          obtain ⟨M', σ', e, r⟩ := go 0 m (by decide) ⟨fun q => absurd q (by decide), fun q => absurd q q3⟩ (by have : ¬ (k + d) % 2 = 1 := fun z => q3 (h8.2 z); omega) rfl (by have : ¬ (k + d) % 2 = 1 := fun z => q3 (h8.2 z); omega)
          refine ⟨M', σ', ?_, r⟩
          refine sF hne (sGb 28 rfl (by rw [xlnw]; decide) (by rw [xlnw]; decide) ?_)
          rw [h4, eCl (k := 28) (by decide), lf_at, eI2L (n := t) (by omega)]
          refine sJw (nI 0) M (fun J => sF (by rw [eCmp0, eLE (by omega) (by omega)]; exact q3) rfl) (sJx M (fun J => sT (by decide) rfl) ?_)
          refine sJw (nI 0) M (fun J => sT (by decide) rfl) (sLe (nI_add m 0) e)
theorem s_needs {x : Int32} : STEP (fX10_needs 0 x) (fX11_needs 146 x) := by
  intro M hM
  obtain ⟨a, hs, tp, fk, fp, ou, hC, hR⟩ := id hM
  rcases hC.1.q hR.1 hR.2.1 with ⟨ha, h⟩ | ⟨hn, h⟩
  · have hT := h.2.2.2.1.1.1
    have h28 := hT.1.1
    by_cases q0 : tmQ x
    · obtain ⟨t, ht, rfl⟩ := id q0
      have hbt := h.bd.2.2.2.2
      have hb1 := (hbt t ht).2.2.2.1
      have hb2 := (hbt (1 - t) (by omega)).2.2.2.1
      have hb25 := h.bd.1
      have hb26 := h.bd.2.1
      have hb27 := h.bd.2.2.1
      obtain ⟨Mc, f2, s2, F2⟩ := s_copyFrom kd132' kd12 (by decide) h.2.2.1.1 h.rw h.bd
      have hcl : ∀ M1 v, fX10_needs_l29 0 (nI t) (fun (v17 : Int32) (v18 : Int32) (M19 : xMem) => some ((-1), M19)) xFU (nI 0) (nI 0) Mc = some (v, M1) → fX10_needs 0 (nI t) M = some (v, M1) := by
        intro M1 v e
        unfold fX10_needs
        rw [x02, m51, x06]
        exact sBn ((c_team h).1 q0) (sF (by decide) (sBv f2 e))
      rcases ovR_le (rowT a) with q1 | q1
      · have h27 : rowT a 27 < 2 := by
          unfold ovR at q1
          have := ite_0 q1
          omega
        have hfar : ∀ j, 3235 ≤ j → rowT a j = 0 := fun j hj => by rw [← rowX_td ha]; exact rowX_far (Or.inl ha) hj
        have en : ∀ j, j ≠ 25 → va_up (rowT a) 25 0 j = rowT a j := fun j hj => va_at_ne hj
        have esc : ∀ u, u < 2 → scR u (va_up (rowT a) 25 0) = scR u (rowT a) := fun u hu => scR_congr (fun k hk => en _ (by omega))
        have hnd : ND (va_up (rowT a) 25 0) 0 := by
          refine ⟨hT.lo (Or.inl (by decide)), va_at_eq, by rw [en 27 (by decide)]; exact h27, fun u hu => ⟨by rw [en _ (by omega)]; exact (hbt u hu).1, ?_⟩, fun j hj => by rw [en _ (by omega)]; exact hfar j hj⟩
          rw [esc u hu]
          have := (hbt u hu).2.2.2.1
          omega
        obtain ⟨M1, e, F1⟩ := c_needsL ht 103 0 Mc (va_up (rowT a) 25 0) 0 xFU (by decide) (by rw [xFU_eq]; decide) hnd (s2.c25 h.rw) (by decide)
        have F := F2.st.trans F1
        have h1 := h.fi F hP132
        have hC1 := hC.fi F hP132
        have hR1 := hR.fi F hP132
        by_cases q2 : scR (1 - t) (rowT a) < scR t (rowT a)
        · have ev : ndV t 103 (va_up (rowT a) 25 0) 0 = nI 0 := by
            unfold ndV
            rw [esc t ht, esc (1 - t) (by omega), if_pos q2]
          rw [ev] at e
          refine ⟨nI 0, M1, M1, hcl _ _ e, ?_, a, hs, tp, fk, fp, ou, hC1, hR1⟩
          unfold fX11_needs
          refine sBn ((m_team h1).1 q0) (sF (by decide) ?_)
          rw [q_scoreOf h1.tm ht, eBn, eSub (by omega), q_scoreOf h1.tm (by omega), eBn]
          exact sF (by rw [eLe (by omega) (by omega)]; omega) rfl
        · obtain ⟨α, a1, a2, a3⟩ := MQm.far hR1 ha
          have ecp := e_copies h1.mq.1.2 a1 a3 a2
          generalize hM3 : xwW (xwQ M1 148 (lf (rowT a))) true = M3 at ecp
          have t3 : TM M3 (rowT a) := by rw [← hM3]; exact xwQ_at M1 148 (lf (rowT a))
          have fa3 : Fa M1 M3 := by rw [← hM3]; exact (Fa.q _ _).trans (Fa.w _ _)
          have n3 : xnw M3 = 148 := by rw [← hM3]; rfl
          have fa4 : Fa M3 (nwS M3 (va_up (rowT a) 25 0)) := by
            unfold nwS
            rw [n3]
            exact Fa.q _ _
          obtain ⟨M5, σ', e5, F5, e6, e7⟩ := m_needL ht 103 0 (nwS M3 (va_up (rowT a) 25 0)) (va_up (rowT a) 25 0) 0 (if rowT a 28 = t then 1 else 0) xFU (by decide) (by rw [xFU_eq]; decide) hnd TM.of_nw (by rw [nwS_w]; exact n3) (by split <;> decide) (by split <;> decide) (by rw [en 28 (by decide)]; split <;> simp_all) (by split <;> decide)
          have fa6 : Fa M1 (xwW M5 false) := ((fa3.trans fa4).trans F5).trans (Fa.w _ _)
          refine ⟨_, M1, xwW M5 false, hcl _ _ e, ?_, a, hs, tp, fk, fp, ou, hC1.fd fa6.fd, hR1.fa fa6 rfl e6 e7⟩
          unfold fX11_needs
          refine sBn ((m_team h1).1 q0) (sF (by decide) ?_)
          rw [q_scoreOf h1.tm ht, eBn, eSub (by omega), q_scoreOf h1.tm (by omega), eBn]
          refine sT (by rw [eLe (by omega) (by omega)]; omega) (sBn (m_isOver h1) ?_)
          rw [q1]
          refine sT (by decide) (sBv ecp (sBn (a := ndV t 103 (va_up (rowT a) 25 0) 0) (M := M5) ?_ rfl))
          unfold fX11_needed
          have e3 := t3.nw
          rw [← e3]
          refine sGn 25 rfl (by decide) ?_
          refine sWn 25 0 rfl (eCl (by decide)) rfl ?_
          exact e5
      · have e : fX10_needs_l29 0 (nI t) (fun (v17 : Int32) (v18 : Int32) (M19 : xMem) => some ((-1), M19)) xFU (nI 0) (nI 0) Mc = some (if scR (1 - t) (rowT a) < scR t (rowT a) then nI 0 else -1, Mc) := by
          rw [show xFU = 39999 + 1 from rfl, fX10_needs_l29.eq_2, x06]
          refine sF (by decide) (sBn (s_leadOf kd132' s2 ht) ?_)
          by_cases q2 : scR (1 - t) (rowT a) < scR t (rowT a)
          · rw [if_pos q2]
            exact sF (by rw [ld_le (by omega) (by omega)]; omega) rfl
          · rw [if_neg q2]
            refine sT (by rw [ld_le (by omega) (by omega)]; omega) (sBn (s_leastOn kd132' s2 h.rw) (sBn (s_isOver' s2 hb27) ?_))
            rw [q1]
            exact sF (by decide) rfl
        have h1 := h.fi F2.st hP132
        refine ⟨_, Mc, Mc, hcl _ _ e, ?_, a, hs, tp, fk, fp, ou, hC.fi F2.st hP132, hR.fi F2.st hP132⟩
        unfold fX11_needs
        refine sBn ((m_team h1).1 q0) (sF (by decide) ?_)
        rw [q_scoreOf h1.tm ht, eBn, eSub (by omega), q_scoreOf h1.tm (by omega), eBn]
        by_cases q2 : scR (1 - t) (rowT a) < scR t (rowT a)
        · rw [if_pos (c := scR (1 - t) (rowT a) < scR t (rowT a)) q2]
          exact sF (by rw [eLe (by omega) (by omega)]; omega) rfl
        · rw [if_neg (c := scR (1 - t) (rowT a) < scR t (rowT a)) q2]
          refine sT (by rw [eLe (by omega) (by omega)]; omega) (sBn (m_isOver h1) ?_)
          rw [q1]
          exact sF (by decide) rfl
    · refine ⟨-2, M, M, ?_, ?_, hM⟩
      · unfold fX10_needs
        exact sBn ((c_team h).2 q0) (sT (by decide) rfl)
      · unfold fX11_needs
        exact sBn ((m_team h).2 q0) (sT (by decide) rfl)
  · refine ⟨-2, M, M, ?_, ?_, hM⟩
    · unfold fX10_needs
      exact sBn (c_noteam h) (sT (by decide) rfl)
    · unfold fX11_needs
      exact sBn (m_noteam h) (sT (by decide) rfl)
