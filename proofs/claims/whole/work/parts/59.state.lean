/-! what the raid leaves of a row below 130 -/
section
variable {r s b tk : Nat} {tl : List Nat} {ρ : Nat → Nat}
theorem raids_core {j : Nat} (h1 : j < 130) (h2 : j ≠ 25) (h3 : j ≠ 28) (h4 : j ≠ 29) (h5 : j ≠ 30 + ρ 28) : raidsR r s b tk tl ρ j = rd11 r s b tk tl ρ j := by
  unfold raidsR rd12
  rw [va_at_ne h4, va_at_ne h2, va_at_ne h3, va_at_ne h5, va_at_ne (by omega), va_at_ne (by omega), va_at_ne (by omega)]
theorem raids_lo (h : RT ρ) (hm : rdMay ρ r s tk tl) (hr : r < 10) {j : Nat} (h1 : j < 36) (h2 : j ≠ 25) (h3 : j ≠ 28) (h4 : j ≠ 29) (h5 : j ≠ 30 + ρ 28) : raidsR r s b tk tl ρ j = ρ j := by
  have h28 := h.1.1
  rw [raids_core (by omega) h2 h3 h4 h5]
  have := hm.len h
  have hro := h.1.m (t := 1 - ρ 28) (by omega)
  exact rd11_lo h.1 (fun x hx => by have := (hm.2.2.2.1 x hx).1; omega) hr (by omega) (by have := (h.2 _ h28).q7; omega) h1
theorem raids_25 : raidsR r s b tk tl ρ 25 = ρ 25 + 1 := by
  unfold raidsR
  rw [va_at_ne (by decide), va_at_eq]
theorem raids_28 : raidsR r s b tk tl ρ 28 = 1 - ρ 28 := by
  unfold raidsR
  rw [va_at_ne (by decide), va_at_ne (by decide), va_at_eq]
theorem raids_29 : raidsR r s b tk tl ρ 29 = 1 := by
  unfold raidsR
  rw [va_at_eq]
theorem raids_em (h : ρ 28 < 2) : raidsR r s b tk tl ρ (30 + ρ 28) = if s = 0 ∧ muR ρ = 0 then ρ (30 + ρ 28) + 1 else 0 := by
  unfold raidsR
  rw [va_at_ne (by omega), va_at_ne (by omega), va_at_ne (by omega), va_at_eq]
theorem raids_sc (h : RT ρ) (hm : rdMay ρ r s tk tl) (hr : r < 10) : scR (ρ 28) (raidsR r s b tk tl ρ) = scR (ρ 28) ρ + ownR r s b tk tl ρ ∧ scR (1 - ρ 28) (raidsR r s b tk tl ρ) = scR (1 - ρ 28) ρ + othR r s b tk tl ρ := by
  have h28 := h.1.1
  have hl := hm.len h
  have hro := h.1.m (t := 1 - ρ 28) (by omega)
  have := sc11 (r := r) (s := s) (b := b) (tk := tk) (tl := tl) h.1 (fun x hx => by have := (hm.2.2.2.1 x hx).1; omega) hr (by omega) (by have := (h.2 _ h28).q7; omega)
  rw [scR_lo (ρ := rd11 r s b tk tl ρ) h28 (fun k h1 h2 => raids_core (by omega) (by omega) (by omega) (by omega) (by omega)), scR_lo (ρ := rd11 r s b tk tl ρ) (u := 1 - ρ 28) (by omega) (fun k h1 h2 => raids_core (by omega) (by omega) (by omega) (by omega) (by omega))]
  exact this
end
theorem St0.sfld {k t u j : Nat} {v : Int32} {ρ : Nat → Nat} {M : xMem} (hS : St0 M k t ρ) (hu : u < 2) (hj : 6 ≤ j) : St0 (xwI M (k + 2 + 5 * u) j v) k t ρ := by
  refine ⟨by rw [xwI_c (by omega)]; exact hS.1, fun w hw => ?_⟩
  obtain ⟨a, b, c, d, f⟩ := hS.2 w hw
  refine ⟨?_, ?_, fun i hi => ?_, fun i hi hi' => ?_, fun i hi => ?_⟩
  · rw [xwI_ne (by omega)]; exact a
  · rw [xwI_ne (by omega)]; exact b
  · rw [xwI_c (by omega), xwI_c (by omega), xwI_c (by omega)]; exact c i hi
  · rw [xwI_c (by omega)]; exact d i hi hi'
  · rw [xwI_c (by omega)]; exact f i hi
theorem sd_eq {k u : Nat} (hu : u < 2) {M : xMem} {j : Nat} {v : Int32} {w : Nat} (hw : w < 2) (i : Nat) : (xwI M (k + 2 + 5 * u) j v).1 (k + 2 + 5 * w) i = if w = u ∧ i = j then v else M.1 (k + 2 + 5 * w) i := by
  by_cases h : w = u ∧ i = j
  · obtain ⟨rfl, rfl⟩ := h
    rw [xwI_at, if_pos ⟨rfl, rfl⟩]
  · rw [if_neg h, xwI_ne (by omega)]
theorem s_play {M : xMem} {k p r s b tk : Nat} {tl : List Nat} {ρ : Nat → Nat} (hk : xkd k = 8) (hp : xkd p = 4) (hS : StR M k ρ) (hP : PlR M p r s b tk tl) (hR : RT ρ) (hm : rdMay ρ r s tk tl) (hb : s = 2 → b = 0) (he : ρ (30 + ρ 28) < 3) :
    ∃ M', fX8_play k p M = some M' ∧ StR M' k (raidsR r s b tk tl ρ) ∧ Fi (stC k) M M' ∧ M'.1 k 5 = nI (ownR r s b tk tl ρ) ∧ M'.1 k 6 = nI (othR r s b tk tl ρ) ∧ M'.1 k 7 = nI (rb8 r s b tk tl ρ) ∧ M'.1 k 8 = nI (ra11 r s b tk tl ρ) := by
  have ht := hR.1.1
  have ho : 1 - ρ 28 < 2 := by omega
  have hkk := st_is hk
  obtain ⟨-, -, pr⟩ := pl_rf hp
  have hs := hP.2.2.2.2.2.2.2.2.1
  have hb2 : b < 2 := hP.2.2.2.2.2.2.2.2.2.1
  have hr : r < 10 := hP.2.2.2.2.2.2.2.1
  have S0 : St0 M k (ρ 28) ρ := ⟨hS.1, fun u hu => (hS.2.2.2.2 u hu).1⟩
  have S1 : St0 (xwI (xwI (xwI M k 5 (nI (b + if s = 2 then 1 else 0))) k 6 (nI 0)) k 7 (nI 0)) k (ρ 28) ρ := ((S0.fld (by decide)).fld (by decide)).fld (by decide)
  have P1 : PlR (xwI (xwI (xwI M k 5 (nI (b + if s = 2 then 1 else 0))) k 6 (nI 0)) k 7 (nI 0)) p r s b tk tl := hP.keep (fun c hc => by rw [xwI_c (by omega), xwI_c (by omega), xwI_c (by omega)])
  have K0 : stK k M (xwI (xwI (xwI M k 5 (nI (b + if s = 2 then 1 else 0))) k 6 (nI 0)) k 7 (nI 0)) := (((stK.refl k M).fld).fld).fld
  obtain ⟨M1, F1, T1, K1, a5, a6, a7, a4⟩ := s_play1 hk hp S1 P1 hR hm (by rw [xwI_ne (by omega), xwI_ne (by omega), xwI_at]) (by rw [xwI_ne (by omega), xwI_at]) (by rw [xwI_at])
  have K01 := K0.trans K1
  have b4 : ∀ j, j < 5 → M1.1 k j = M.1 k j := fun j hj => by rw [a4 j hj, xwI_ne (by omega), xwI_ne (by omega), xwI_ne (by omega)]
  have P2 : PlR M1 p r s b tk tl := P1.keep (fun c hc => K1.1.1 c (by unfold stC; omega))
  -- the empties
  have eem : M1.1 (k + 2 + 5 * ρ 28) 7 = nI (ρ (30 + ρ 28)) := by rw [K01.2 _ ht 7 (by decide)]; exact (hS.2.2.2.2 _ ht).2.2.1
  generalize hev : (if s = 0 ∧ muR ρ = 0 then ρ (30 + ρ 28) + 1 else 0) = ev
  have T2 : St0 (xwI M1 (k + 2 + 5 * ρ 28) 7 (nI ev)) k (ρ 28) (rd8 r s b tk tl ρ) := T1.sfld ht (by decide)
  have T2' : St0 (xwI M1 (k + 2 + 5 * ρ 28) 7 (nI ev)) k (ρ 28) (va_up (rd8 r s b tk tl ρ) (235 + 15 * ρ 25 + 8) (rb8 r s b tk tl ρ)) := T2.row (rt8 hR hm).1 (fun j h1 h2 => va_at_ne (by omega))
  obtain ⟨M3, F3, T3, K3, e3⟩ := s_passBoth hk ht T2' (rt8' hR hm).1
  have R9 := rt9 (b := b) hR hm
  have R10 := rt10 (b := b) hR hm
  obtain ⟨M4, f4, T4, K4, g4, g5, g6, g8⟩ := s_settle (ρ := rd9 r s b tk tl ρ) hk ht T3 R9 R10
  have R11 := rt11 (b := b) hR hm
  -- the fields of the state then
  have c0 : ∀ j, M3.1 k j = M1.1 k j := fun j => by rw [e3, xwI_c (by omega)]
  have d5 : M4.1 k 5 = nI (ownR r s b tk tl ρ) := by
    rw [g5, c0, a5, nI_add]
    unfold ownR
    congr 1
    have hbs : (b + if s = 2 then 1 else 0) = if b = 1 ∨ s = 2 then 1 else 0 := by
      by_cases e : s = 2
      · rw [if_pos e, if_pos (Or.inr e), hb e]
      · rw [if_neg e]
        by_cases e1 : b = 1
        · rw [if_pos (Or.inl e1), e1]
        · rw [if_neg (by omega)]; omega
    rw [hbs]
    omega
  have d6 : M4.1 k 6 = nI (othR r s b tk tl ρ) := by
    rw [g6, c0, a6, nI_add]
    rfl
  have d7 : M4.1 k 7 = nI (rb8 r s b tk tl ρ) := by rw [g4 7 (by omega), c0, a7]
  have d8 : M4.1 k 8 = nI (ra11 r s b tk tl ρ) := by rw [g8]; rfl
  have dlo : ∀ j, j < 5 → M4.1 k j = M.1 k j := fun j hj => by rw [g4 j (by omega), c0, b4 j hj]
  -- the fields of the sides then
  have sd : ∀ u, u < 2 → ∀ j, j ≠ 5 → M4.1 (k + 2 + 5 * u) j = if u = ρ 28 ∧ j = 7 then nI ev else M.1 (k + 2 + 5 * u) j := fun u hu j hj => by
    rw [K4.2 u hu j hj, K3.2 u hu j hj, sd_eq ht hu, K01.2 u hu j hj]
  have Kall : stK k M (xwI M1 (k + 2 + 5 * ρ 28) 7 (nI ev)) → True := fun _ => trivial
  have Fall : Fi (stC k) M M4 := ((K01.1.wI (by unfold stC; omega)).trans K3.1).trans K4.1
  obtain ⟨z1, z2⟩ := raids_sc (b := b) hR hm hr
  generalize hv1 : scR (ρ 28) ρ + ownR r s b tk tl ρ = v1 at z1
  generalize hv2 : scR (1 - ρ 28) ρ + othR r s b tk tl ρ = v2 at z2
  refine ⟨xwI (xwI (xwI (xwI M4 (k + 2 + 5 * ρ 28) 6 (nI v1)) (k + 2 + 5 * (1 - ρ 28)) 6 (nI v2)) k 1 (nI (1 - ρ 28))) k 4 (nI 1), ?_, ?_, (((Fall.wI (by unfold stC; omega)).wI (by unfold stC; omega)).wI (by unfold stC; omega)).wI (by unfold stC; omega), ?_, ?_, ?_, ?_⟩
  · unfold fX8_play
    refine sBn (s_home hk hS.1 ht) (sBn (s_away hk hS.1 ht) (sBn (s_isRaiderLost hk hS hP ht he) ?_))
    refine sJw (nI (if s = 2 then 1 else 0)) M (fun J => ?_) ?_
    · rw [hP.2.1]
      by_cases e : s = 2
      · exact sT (by rw [e]) (by rw [if_pos e])
      · exact sF (by rw [eEq (by omega) (by decide)]; exact e) (by rw [if_neg e])
    rw [hP.2.2.2.1, nI_add]
    refine sLt (sLt (sLt ?_))
    refine (F1 _).trans ?_
    refine sJw (nI ev) M1 (fun J => ?_) ?_
    · refine sLt ?_
      rw [P2.2.1, eem, nI_add, ← hev]
      by_cases e : s = 0
      · refine sT (by rw [e]; decide) ?_
        rcases muR_le ρ with h | h
        · have : otR s ρ = 0 := by unfold otR; rw [if_neg (by omega)]
          rw [this]
          exact sT (by decide) (by rw [if_pos ⟨e, h⟩])
        · have : otR s ρ = 1 := by unfold otR; rw [if_pos (Or.inr (Or.inr ⟨e, h⟩))]
          rw [this]
          exact sF (by decide) (by rw [if_neg (by omega)])
      · exact sF (eN0 (by omega) e) (by rw [if_neg (fun q => e q.1)])
    refine sLt ((F3 _).trans (sBv f4 ?_))
    rw [sd _ ht 6 (by decide), if_neg (by omega), (hS.2.2.2.2 _ ht).2.1, d5, nI_add, hv1]
    refine sLt ?_
    rw [xwI_c (c := k + 2 + 5 * (1 - ρ 28)) (by omega), xwI_c (c := k) (by omega), d6, sd _ ho 6 (by decide), if_neg (by omega), (hS.2.2.2.2 _ ho).2.1, nI_add, hv2]
    refine sLt ?_
    rw [xwI_c (by omega), xwI_c (by omega), dlo 1 (by decide), hS.1, eSub (by omega)]
    rfl
  · have T5 : St0 M4 k (ρ 28) (rd11 r s b tk tl ρ) := T4
    refine ⟨?_, ?_, ?_, ?_, fun u hu => ?_⟩
    · rw [raids_28, xwI_ne (by omega), xwI_at]
    · rw [raids_lo hR hm hr (by decide) (by decide) (by decide) (by decide) (by omega), xwI_ne (by omega), xwI_ne (by omega), xwI_c (by omega), xwI_c (by omega), dlo 2 (by decide)]; exact hS.2.1
    · rw [raids_lo hR hm hr (by decide) (by decide) (by decide) (by decide) (by omega), xwI_ne (by omega), xwI_ne (by omega), xwI_c (by omega), xwI_c (by omega), dlo 3 (by decide)]; exact hS.2.2.1
    · rw [raids_29, xwI_at]
    · have T6 : St0 (xwI (xwI M4 (k + 2 + 5 * ρ 28) 6 (nI v1)) (k + 2 + 5 * (1 - ρ 28)) 6 (nI v2)) k (ρ 28) (rd11 r s b tk tl ρ) := (T5.sfld ht (by decide)).sfld ho (by decide)
      refine ⟨?_, ?_, ?_, ?_, ?_⟩
      · refine ((T6.2 u hu).keep (fun c h1 h2 => by rw [xwI_c (by omega), xwI_c (by omega)])).row (R11.1.m hu) (R11.1.q hu).1 (fun j hj => raids_core (by omega) (by omega) (by omega) (by omega) (by omega))
      · rw [xwI_c (by omega), xwI_c (by omega), sd_eq ho hu, sd_eq ht hu]
        by_cases q : u = ρ 28
        · rw [if_neg (by omega), if_pos ⟨q, rfl⟩, q, z1]
        · have q' : u = 1 - ρ 28 := by omega
          rw [if_pos ⟨q', rfl⟩, q', z2]
      · rw [xwI_c (by omega), xwI_c (by omega), sd_eq ho hu, sd_eq ht hu, if_neg (by omega), if_neg (by omega), sd u hu 7 (by decide)]
        by_cases q : u = ρ 28
        · rw [if_pos ⟨q, rfl⟩, q, raids_em ht, hev]
        · rw [if_neg (fun z => q z.1), raids_lo hR hm hr (by omega) (by omega) (by omega) (by omega) (by omega)]
          exact (hS.2.2.2.2 u hu).2.2.1
      · rw [xwI_c (by omega), xwI_c (by omega), sd_eq ho hu, sd_eq ht hu, if_neg (by omega), if_neg (by omega), sd u hu 8 (by decide), if_neg (by omega), raids_lo hR hm hr (by omega) (by omega) (by omega) (by omega) (by omega)]
        exact (hS.2.2.2.2 u hu).2.2.2.1
      · rw [xwI_c (by omega), xwI_c (by omega), sd_eq ho hu, sd_eq ht hu, if_neg (by omega), if_neg (by omega), sd u hu 9 (by decide), if_neg (by omega), raids_lo hR hm hr (by omega) (by omega) (by omega) (by omega) (by omega)]
        exact (hS.2.2.2.2 u hu).2.2.2.2
  · rw [xwI_ne (by omega), xwI_ne (by omega), xwI_c (by omega), xwI_c (by omega)]; exact d5
  · rw [xwI_ne (by omega), xwI_ne (by omega), xwI_c (by omega), xwI_c (by omega)]; exact d6
  · rw [xwI_ne (by omega), xwI_ne (by omega), xwI_c (by omega), xwI_c (by omega)]; exact d7
  · rw [xwI_ne (by omega), xwI_ne (by omega), xwI_c (by omega), xwI_c (by omega)]; exact d8
