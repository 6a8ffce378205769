theorem i_sub (x y : Nat) : nI (x + y) + (-1 : Int32) * nI y = nI x := by
  rw [← nI_add, Int32.neg_mul, Int32.one_mul, Int32.add_assoc, Int32.add_right_neg, Int32.add_zero]
theorem StR.k12 {M M' : xMem} {ρ : Nat → Nat} {k : Nat} (h : StR M k ρ) (e : ∀ c, k ≤ c → c < k + 12 → M'.1 c = M.1 c) : StR M' k ρ := h.keep e
theorem m_drop {M : xMem} {ρ : Nat → Nat} (hH : HsR M ρ) (hI : RI ρ) (h29 : ρ 29 = 1) : ∃ M', fX1_dropLatest 24 M = some M' ∧ HsR M' (coreR ρ) ∧ Fm M M' ∧ (∀ c, c < 24 ∨ 46 ≤ c → M'.1 c = M.1 c) := by
  obtain ⟨k0, k1, k2, k3⟩ := hI.2 h29
  have b25 := hI.1.2.1.1
  obtain ⟨n, hn⟩ : ∃ n, ρ 25 = n + 1 := ⟨ρ 25 - 1, by omega⟩
  have hcn : coreR ρ 25 = n := by omega
  obtain ⟨a1, a2, a3, a4, a5, a6, a7, a8, tk, tl, hc, a10⟩ := hH.2.1 n (by omega)
  have hset := hc.set
  have hpB := hc.pB
  have hnT := hc.nT
  generalize hM1 : xwI M 24 5 (nI n) = M1
  have n1 : ∀ c, c ≠ 24 → M1.1 c = M.1 c := fun c hc => by rw [← hM1, xwI_c hc]
  have hC : CoR M1 n (rq ρ n 0) (rq ρ n 1) (rq ρ n 2) (rq ρ n 5) (nTq ρ n) (pBq ρ n) (woq ρ n) (spq ρ n) (rq ρ n 9) := by
    unfold CoR
    rw [n1 26 (by decide), n1 27 (by decide), n1 28 (by decide), n1 31 (by decide), n1 37 (by decide), n1 38 (by decide), n1 39 (by decide), n1 40 (by decide), n1 41 (by decide)]
    exact ⟨a1 0 (by decide), a1 1 (by decide), a1 2 (by decide), a1 5 (by decide), a5, a6, a7, a8, a4⟩
  have htm := hc.1
  have hr := hc.2.1
  have hs := hc.2.2.1
  have hao : rq ρ n 9 < 4 := hc.2.2.2.2.2.2.2.1
  have htk : tk < 10 := hc.2.2.2.2.2.2.2.2.2.2.2.2.2.2.2.2.2.2.2.2.1
  have hbk := s_book (M := M1) (sg := -1) (f := M1.1 44) (g := M1.1 45) hC (by omega) htm hr hs (fun e => by rw [hset.1 e]; exact htk) (fun e => (hset.2 e).2) (by unfold spq; split <;> decide) (by unfold woq; split <;> decide) hao
  rw [← xT_self, n1 44 (by decide), n1 45 (by decide)] at hbk
  have hst3 : rq ρ n 2 = 3 → rq ρ n 5 < 10 := fun e => by rw [hset.1 e]; exact htk
  generalize hlT : bkT (-1) (rq ρ n 0) (rq ρ n 1) (rq ρ n 2) (rq ρ n 5) (nTq ρ n) (pBq ρ n) (woq ρ n) (spq ρ n) = lT at hbk
  generalize hlP : bkP (-1) (rq ρ n 0) (rq ρ n 2) (nTq ρ n) (pBq ρ n) (woq ρ n) (spq ρ n) (rq ρ n 9) = lP at hbk
  refine ⟨xT M1 (addL (M.1 44) lT) (addL (M.1 45) lP), ?_, ⟨?_, fun k hk => ?_, fun k hk => ?_, fun t i w ht hi hw => ?_, fun t w ht hw => ?_⟩, ⟨fun c hc => ?_, fun c hc => ?_, ?_⟩, fun c hc => ?_⟩
  · unfold fX1_dropLatest
    rw [hH.1]
    have hpos : ¬ nI (ρ 25) ≤ 0 := by
      rw [eZ, eLe (by omega) (by decide)]; omega
    refine sF hpos ?_
    rw [eSub (by omega), show ρ 25 - 1 = n by omega]
    refine sLe hM1 ?_
    have e5 : M1.1 24 5 = nI n := by rw [← hM1, xwI_at]
    rw [e5]
    exact sBv hbk rfl
  · rw [xT_ne (by decide) (by decide), ← hM1, xwI_at, hcn]
  · rw [hcn] at hk
    exact ((hH.2.1 k (by omega)).keep (fun c x1 x2 => by rw [xT_ne (by omega) (by omega), n1 c (by omega)]) (by rw [xT_2, ← hM1]; rfl)).row (fun w hw => rq_core) (fun tk tl q => q.congr (fun w hw => rq_core) (by rw [k2]; exact Nat.le_refl _))
  · rw [hcn] at hk
    rw [xT_ne (by decide) (by decide), n1 43 (by decide), hH.2.2.1 k (by omega), gsum_cong (σ := coreR ρ) (ρ := ρ) (by decide) (fun k' _ w _ => rq_core), gsum_cong (σ := coreR ρ) (ρ := ρ) (by decide) (fun k' _ w _ => rq_core)]
  · rw [xT_44, addL_at, hH.2.2.2.1 t i w ht hi hw, ← hlT, sum_bkT ht htm hr hi hw hst3]
    unfold tal
    rw [hcn, hn, tal_cong (σ := coreR ρ) hH (n := n) (by omega) (fun k _ w _ => rq_core)]
    exact i_sub _ _
  · rw [xT_45, addL_at, hH.2.2.2.2 t w ht hw, ← hlP, sum_bkP ht htm hw (by rw [hnT, hpB]; omega), k3 t ht w hw, hn, Nat.add_sub_cancel]
    exact i_sub _ _
  · rw [xT_ne (by omega) (by omega), n1 c (by omega)]
  · rw [xT_2, ← hM1]; rfl
  · rw [xT_2, ← hM1]; rfl
  · rw [xT_ne (by omega) (by omega), n1 c (by omega)]
theorem m_review {M : xMem} {ρ : Nat → Nat} {t won : Nat} (h : MR M ρ) (hI : RI ρ) (ht : t < 2) (hw : won < 2) (h29 : ρ 29 = 1) (h26 : ρ 26 < 40) : ∃ M', fX2_makeReview 5 (nI t) (nI won) M = some M' ∧ MR M' (reviewR t won ρ) ∧ Fm M M' := by
  obtain ⟨hS, hH, hA⟩ := h
  have hA := hA h29
  obtain ⟨k0, k1, k2, k3⟩ := hI.2 h29
  have l29 : ∀ σ : Nat → Nat, lineR σ 29 = 0 := fun σ => by unfold lineR; rw [va_at_eq]
  have l26 : ∀ σ : Nat → Nat, lineR σ 26 = σ 26 + 1 := fun σ => by unfold lineR; rw [va_at_ne (by decide), va_at_eq]
  rcases (show won = 0 ∨ won = 1 by omega) with rfl | rfl
  · have e : reviewR t 0 ρ = lineR (va_up ρ (34 + t) 1) := rfl
    have hT := hI.1.1
    have ne : ∀ j, j ≠ 34 + t → va_up ρ (34 + t) 1 j = ρ j := fun j hj => va_at_ne hj
    have S1 : StR (xwI M (12 + 2 + 5 * t) 9 (nI 1)) 12 (va_up ρ (34 + t) 1) := by
      obtain ⟨a, b, c, d, f⟩ := hS
      refine ⟨by rw [xwI_c (by omega), ne _ (by omega)]; exact a, by rw [xwI_c (by omega), ne _ (by omega)]; exact b, by rw [xwI_c (by omega), ne _ (by omega)]; exact c, by rw [xwI_c (by omega), ne _ (by omega)]; exact d, fun u hu => ?_⟩
      obtain ⟨x1, x2, x3, x4, x5⟩ := f u hu
      have x1' : SdR M (12 + 2 + 5 * u) u (va_up ρ (34 + t) 1) := x1.row (hT.1.m hu) (hT.1.q hu).1 (fun j hj => ne j (by omega))
      have sc : scR u (va_up ρ (34 + t) 1) = scR u ρ := scR_congr (fun k hk => ne _ (by omega))
      by_cases q : u = t
      · subst q
        refine ⟨x1'.fld (by decide), by rw [xwI_ne (by omega), sc]; exact x2, by rw [xwI_ne (by omega), ne _ (by omega)]; exact x3, by rw [xwI_ne (by omega), ne _ (by omega)]; exact x4, by rw [xwI_at, va_at_eq]⟩
      · refine ⟨x1'.keep (fun c h1 h2 => xwI_c (by omega)), by rw [xwI_c (by omega), sc]; exact x2, by rw [xwI_c (by omega), ne _ (by omega)]; exact x3, by rw [xwI_c (by omega), ne _ (by omega)]; exact x4, by rw [xwI_c (by omega), ne _ (by omega)]; exact x5⟩
    have hRW : RW (va_up ρ (34 + t) 1) := hT.1.up (Or.inl (by omega))
    obtain ⟨M2, f2, S2, F2⟩ := S1.note kd12 hRW
    have F12 : Fm M M2 := (Fm.ofFi ((Fi.refl (fun c => c = 12 + 2 + 5 * t) M).wI rfl) (fun c hc => by omega)).trans (Fm.ofFi F2 (fun c hc => by omega))
    refine ⟨M2, ?_, ⟨S2, ?_, fun z => by rw [e, l29] at z; omega⟩, F12⟩
    · unfold fX2_makeReview
      rw [m51, m52, m53]
      refine sLt (sT (by decide) ?_)
      have e0 : xrf 12 0 = 13 := m_tab.2.2.2.2.2.2.2.1
      have e1 : xrf 13 t = 12 + 2 + 5 * t := by
        rcases (show t = 0 ∨ t = 1 by omega) with rfl | rfl
        · exact m_tab.2.2.2.2.2.2.2.2.2.1
        · exact m_tab.2.2.2.2.2.2.2.2.2.2.1
      rw [e0, m_tab.2.2.2.2.2.2.2.2.1]
      refine sGb t rfl ht (by decide) ?_
      rw [eCl (by omega), e1]
      exact sLt (sBv f2 rfl)
    · rw [e]
      have H2 : HsR M2 ρ := (hH.keep (M' := xwI M (12 + 2 + 5 * t) 9 (nI 1)) (fun c h1 h2 => xwI_c (by omega)) rfl).fi F2 (fun c hc => by omega)
      exact H2.row (by rw [line_ne (by decide) (by decide), ne _ (by omega)]) (by rw [l26, ne _ (by omega)]; omega) (fun k hk w hw => by unfold rq; rw [line_ne (by omega) (by omega), ne _ (by omega)]) (fun j h1 h2 => by rw [line_ne (by omega) (by omega), ne _ (by omega)])
  · have e : reviewR t 1 ρ = lineR (coreR ρ) := rfl
    obtain ⟨M1, f1, S1, F1⟩ := s_copyFrom kd12 kd46 (by decide) hA k0.1.1 k0.2.1
    have H1 : HsR M1 ρ := hH.fi F1 (fun c hc => by unfold stC at hc; omega)
    obtain ⟨M2, f2, H2, F2, n2⟩ := m_drop H1 hI h29
    have S2 : StR M2 12 (coreR ρ) := S1.keep (fun c h1 h2 => n2 c (by omega))
    obtain ⟨M3, f3, S3, F3⟩ := S2.note kd12 k0.1.1
    refine ⟨M3, ?_, ⟨S3, ?_, fun z => by rw [e, l29] at z; omega⟩, ((Fm.ofFi F1 (fun c hc => by unfold stC at hc; omega)).trans F2).trans (Fm.ofFi F3 (fun c hc => by omega))⟩
    · unfold fX2_makeReview
      rw [m51, m52, m53]
      exact sLt (sF (by decide) (sBv f1 (sBv f2 (sBv f3 rfl))))
    · rw [e]
      exact (H2.fi F3 (fun c hc => by omega)).row (line_ne (by decide) (by decide)) (by rw [l26]; omega) (fun k hk w hw => line_ne (by omega) (by omega)) (fun j h1 h2 => line_ne (by omega) (by omega))
theorem m_apply {M : xMem} {ρ : Nat → Nat} {l : xLn} (h : MR M ρ) (hI : RI ρ) (hl : okL l ρ) : ∃ M', fX2_apply 5 (lN (codL l)) M = some M' ∧ MR M' (appR l ρ) ∧ Fm M M' ∧ ∀ r s b tk tl, l = .inl (r, s, b, tk, tl) → M'.1 12 5 = nI (ownR r s b tk tl ρ) := by
  rcases l with ⟨r, s, b, tk, tl⟩ | ⟨k, a, b, c⟩
  · obtain ⟨hm, h25, -⟩ := hl
    obtain ⟨M', f', R', F', o'⟩ := m_raid h hI hm h25
    obtain ⟨hmay, hr, hs, hb, htk, h3, h1, hb2⟩ := hm
    have h28 := hI.1.1.1.1
    have hl7 := hmay.len hI.1.1
    have hro := hI.1.1.1.m (t := 1 - ρ 28) (by omega)
    have hx : ∀ x ∈ tl, x < 10 := fun x hx => by have := (hmay.2.2.2.1 x hx).1; omega
    have hC := rdC_lt hr hs hb htk (show tl.length ≤ 7 by omega) hx
    have hC' : rdC r s b tk tl < 2 ^ 63 := Nat.lt_of_lt_of_le hC (by decide)
    refine ⟨M', ?_, R', F', fun r' s' b' tk' tl' e => by cases e; exact o'⟩
    show fX2_apply 5 (lN (rdC r s b tk tl)) M = some M'
    unfold fX2_apply
    refine sBn (e_part hC' (by decide)) (sBn (e_part hC' (by decide)) (sBn (e_part hC' (by decide)) (sBn (e_part hC' (by decide)) ?_)))
    have e0 : rdC r s b tk tl / 16 ^ 0 % 16 = 0 := by unfold rdC; omega
    rw [e0]
    exact sT rfl (sBv f' rfl)
  · have hT := hI.1.1
    have hk : k < 16 ∧ a < 16 ∧ b < 16 ∧ c < 16 ∧ 1 ≤ k ∧ k ≤ 4 := by
      obtain ⟨h26, ⟨rfl, x1, x2, x3, x4⟩ | ⟨rfl, x1, x2, x3, x4, x5, x6⟩ | ⟨rfl, x1, x2, x3, x4⟩ | ⟨rfl, x1, x2, x3, x4⟩⟩ := hl
      · have := hT.1.m x1; omega
      · have := hT.1.m x1; omega
      · omega
      · omega
    obtain ⟨y0, y1, y2, y3, y4, y5⟩ := hk
    have hC' : k + 16 * a + 256 * b + 4096 * c < 2 ^ 63 := by omega
    have start : ∀ {z : Option xMem}, (if nI k = nI 0 then (xBv (fX2_makeRaid 5 (lN (codL (.inr (k, a, b, c)))) M) fun M10 => some M10) else (if nI k = nI 1 then (xBv (fX2_makeCard 5 (nI a) (nI b) (nI c) M) fun M12 => some M12) else (if nI k = nI 2 then (xBv (fX8_exchange (xrf 5 1) (nI a) (nI b) (nI c) M) fun M14 => some M14) else (if nI k = nI 3 then (xBv (fX8_endHalf (xrf 5 1) M) fun M16 => some M16) else (xLt (fun (s17 : Int32) (M18 : xMem) => (xBv (fX2_makeReview 5 (nI a) s17 M18) fun M19 => some M19 : Option (xMem))) fun J114 => if nI b = (nI 1) then (J114 (nI 1) M) else (J114 (nI 0) M)))))) = z → fX2_apply 5 (lN (codL (.inr (k, a, b, c)))) M = z := fun {z} q => by
      show fX2_apply 5 (lN (k + 16 * a + 256 * b + 4096 * c)) M = z
      unfold fX2_apply
      refine sBn (a := nI a) (M := M) (by rw [e_part hC' (by decide), show (k + 16 * a + 256 * b + 4096 * c) / 16 ^ 1 % 16 = a by omega]) ?_
      refine sBn (a := nI b) (M := M) (by rw [e_part hC' (by decide), show (k + 16 * a + 256 * b + 4096 * c) / 16 ^ 2 % 16 = b by omega]) ?_
      refine sBn (a := nI c) (M := M) (by rw [e_part hC' (by decide), show (k + 16 * a + 256 * b + 4096 * c) / 16 ^ 3 % 16 = c by omega]) ?_
      refine sBn (a := nI k) (M := M) (by rw [e_part hC' (by decide), show (k + 16 * a + 256 * b + 4096 * c) / 16 ^ 0 % 16 = k by omega]) ?_
      exact q
    have nx : ∀ M' : xMem, ∀ r s b' tk tl, (Sum.inr (k, a, b, c) : xLn) = .inl (r, s, b', tk, tl) → M'.1 12 5 = nI (ownR r s b' tk tl ρ) := fun M' r s b' tk tl e => by cases e
    have hist : ∀ {M' : xMem} {σ : Nat → Nat}, HsR M ρ → Fi (stC 12) M M' → σ 25 = ρ 25 → ρ 26 ≤ σ 26 → (∀ k, k < ρ 25 → ∀ w, w < 15 → rq σ k w = rq ρ k w) → (∀ j, 36 ≤ j → j < 48 → σ j = ρ j) → HsR M' σ := fun {M' σ} q F a1 a2 a3 a4 => (q.fi F (fun c hc => by unfold stC at hc; omega)).row a1 a2 a3 a4
    obtain ⟨h26, ⟨rfl, x1, x2, x3, x4⟩ | ⟨rfl, x1, x2, x3, x4, x5, x6⟩ | ⟨rfl, x1, x2, x3, x4⟩ | ⟨rfl, x1, x2, x3, x4⟩⟩ := hl
    · obtain ⟨M', f', R', F'⟩ := m_card (c := c) h hI x1 x2 x3 x4 h26
      exact ⟨M', start (sF (by decide) (sT rfl (sBv f' rfl))), R', F', nx M'⟩
    · have hm := hT.1.m x1
      obtain ⟨M', f', R', F'⟩ := s_exchange kd12 h.1 hT.1 x1 x2 x3
      have e29 : changeR a b c ρ 29 = 0 := by unfold changeR lineR; rw [va_at_eq]
      have ne : ∀ j, j ≠ 26 → j ≠ 29 → j ≠ 32 + a → j ≠ 48 + 10 * a + b → j ≠ 48 + 10 * a + c → changeR a b c ρ j = ρ j := fun j a1 a2 a3 a4 a5 => by
        unfold changeR addR
        rw [line_ne a1 a2, va_at_ne a3, va_at_ne a5, va_at_ne a4]
      have e26 : changeR a b c ρ 26 = ρ 26 + 1 := by
        unfold changeR addR lineR
        rw [va_at_ne (by decide), va_at_eq, va_at_ne (by omega), va_at_ne (by omega), va_at_ne (by omega)]
      refine ⟨M', start (sF (by decide) (sF (by decide) (sT rfl ?_))), ⟨R', hist (σ := changeR a b c ρ) h.2.1 F' (ne _ (by omega) (by omega) (by omega) (by omega) (by omega)) (by omega) (fun k hk w hw => ne _ (by omega) (by omega) (by omega) (by omega) (by omega)) (fun j h1 h2 => ne _ (by omega) (by omega) (by omega) (by omega) (by omega)), fun z => by
        have z' : changeR a b c ρ 29 = 1 := z
        omega⟩, Fm.ofFi F' (fun c hc => by unfold stC at hc; omega), nx M'⟩
      rw [m51]
      exact sBv f' rfl
    · obtain ⟨M', f', R', F'⟩ := s_endHalf kd12 h.1 hT.1
      have e29 : halfR ρ 29 = 0 := rfl
      have e26 : halfR ρ 26 = ρ 26 + 1 := rfl
      have ne : ∀ j, 36 ≤ j → halfR ρ j = ρ j := fun j a1 => by
        unfold halfR
        rw [line_ne (by omega) (by omega), va_at_ne (by omega), va_at_ne (by omega), va_at_ne (by omega), va_at_ne (by omega), va_at_ne (by omega), va_at_ne (by omega)]
      refine ⟨M', start (sF (by decide) (sF (by decide) (sF (by decide) (sT rfl ?_)))), ⟨R', hist (σ := halfR ρ) h.2.1 F' rfl (by omega) (fun k hk w hw => ne _ (by omega)) (fun j h1 h2 => ne _ h1), fun z => by
        have z' : halfR ρ 29 = 1 := z
        omega⟩, Fm.ofFi F' (fun c hc => by unfold stC at hc; omega), nx M'⟩
      rw [m51]
      exact sBv f' rfl
    · obtain ⟨M', f', R', F'⟩ := m_review (won := b) h hI x1 x2 x4 h26
      refine ⟨M', start (sF (by decide) (sF (by decide) (sF (by decide) (sF (by decide) (sJw (nI b) M (fun J => ?_) (sBv f' rfl)))))), R', F', nx M'⟩
      rcases (show b = 0 ∨ b = 1 by omega) with rfl | rfl
      · exact sF (by decide) rfl
      · exact sT rfl rfl
