/-! ===== teams are read: the model ===== -/
section
variable {tp : List Nat} {n : Nat → List Nat} {t : Nat}
theorem m_shirts (hl : tp.length ≤ 2000) (hb : ∀ b ∈ tp, b < 256) (ht : t < 2) (p2 : Int32) : ∀ (k : Nat) (s : Nat → List Nat) (M : xMem) (st : PS) (F : Nat), (s t).length + k = 11 → k ≤ F → SOK s → MS tp M (begR n s) st → ∃ M', fX11_readTeam_l71 146 (nI t) p2 (fun  (M47 : xMem) => xBn (fX11_good 146 M47) fun r48 M49 => xLt (fun  (M50 : xMem) => (xBv (fX11_passesByte 146 (nI 59) M50) fun M51 => some M51 : Option (xMem))) fun J260 => if r48 = 0 then (J260  M49) else (if (M49.1 146 15) = (nI 3) then (if (M49.1 146 16) = (nI 59) then (xBn (fX11_many 146 (nI t) M49) fun r52 M53 => if (nI 7) ≤ r52 then (J260  M53) else (xBv (fX11_errs 146 (nI 6) (M53.1 146 14) M53) fun M54 => J260  M54)) else (J260  M49)) else (J260  M49))) F M = some M' ∧ MS tp M' (begR n (shL tp n t k s st).2) (shL tp n t k s st).1 ∧ Fx M M' := by
  intro k
  induction k with
  | zero =>
    intro s M st F h1 h2 hS h
    exact absurd (hS t ht).1 (by omega)
  | succ k ih =>
    intro s M st F h1 h2 hS h
    obtain ⟨F, rfl⟩ : ∃ q, F = q + 1 := ⟨F - 1, by omega⟩
    have h10 := (hS t ht).1
    have hsh := hS.sh (n := n)
    obtain ⟨M1, f1, k1, F1⟩ := m_shirtHere h
    have hle := xSh_le tp st
    have out : ∀ {M2 : xMem} {b : Nat × Nat}, MS tp M2 (begR n s) (.inl b) → ∀ (X : xMem → Option xMem), (xBn (fX11_good 146 M2) fun r21 M22 => if r21 = 0 then (some M22) else X M22) = some M2 := by
      intro M2 b hb2 X
      rw [m_good hb2, eBn]
      exact sT g0 rfl
    rw [fX11_readTeam_l71.eq_2, f1, eBn, m_good k1, eBn]
    unfold shL
    have hx : xNew tp (begR n s) t st = (match xSh tp st with | (.inr T, v) => newF (begR n s) t T v | (.inl b, _) => (.inl b, 0)) := rfl
    cases e : xSh tp st with
    | mk p v =>
      rw [e] at k1 hx hle
      simp only at k1 hx hle
      cases p with
      | inl b =>
        simp only at hx
        rw [hx]
        refine ⟨M1, sLt (sT g0 (sBn (m_good k1) (sLt (sT g0 (out k1 _))))), k1, F1.fx⟩
      | inr T =>
        simp only at hx
        have hv := xSh_1 e
        have hfs : fX11_findShirt 146 (nI t) (nI v) M1 = some (if fsI (begR n s) t v < begR n s (1 + t) then nI (fsI (begR n s) t v) else -1, M1) := by
          rw [q_findShirt k1.2.1 ht (hsh t ht).1 (hsh t ht).2 (by omega), fsh_eq (hsh t ht).1]
        unfold newF at hx
        by_cases q : fsI (begR n s) t v < begR n s (1 + t)
        · rw [if_pos q] at hx hfs
          rw [hx]
          obtain ⟨M2, f2, k2, F2⟩ := m_errs k1 (f := 3) (by decide) (by decide)
          have k2' : MS tp M2 (begR n s) (.inl (3, T.1)) := k2
          refine ⟨M2, sLt (sF g1 (sBn hfs (sF (m1_ne (by have := (hsh t ht).1; omega)) (sBv f2 (sBn (m_good k2') (sLt (sT g0 (out k2' _)))))))), k2, (F1.trans F2).fx⟩
        · rw [if_neg q] at hx hfs
          have mm : ∀ {M2 : xMem}, TM M2 (begR n s) → fX11_many 146 (nI t) M2 = some (nI (s t).length, M2) := fun hT => by rw [q_many hT ht, beg_1 ht]
          by_cases q2 : begR n s (1 + t) = 10
          · rw [if_pos q2] at hx
            rw [hx]
            rw [beg_1 ht] at q2
            obtain ⟨M2, f2, k2, F2⟩ := m_errs k1 (f := 6) (by decide) (by decide)
            have k2' : MS tp M2 (begR n s) (.inl (6, T.1)) := k2
            refine ⟨M2, sLt (sF g1 (sBn hfs (sT rfl (sBn (m_good k1) (sLt (sF g1 (sBn (mm k1.2.1) (sT (by rw [q2]) (sBv f2 (out k2' _)))))))))), k2, (F1.trans F2).fx⟩
          · rw [if_neg q2] at hx
            rw [hx]
            rw [beg_1 ht] at q2
            simp only
            generalize hL : (s t).length = L at *
            -- the row grows
            have hrow : begR n (upS s t (s t ++ [v])) = va_up (va_up (va_up (begR n s) (5 + 10 * t + L) v) (48 + 10 * t + L) (if L < 7 then 0 else 2)) (1 + t) (L + 1) := by
              rw [begR_add ht (by omega), hL]
            have kN : MS tp (nwS M1 (begR n (upS s t (s t ++ [v])))) (begR n (upS s t (s t ++ [v]))) (.inr T) := k1.nw
            obtain ⟨M2, f2, k2, F2⟩ := m_adv hl hb kN
            obtain ⟨M3, f3, k3, F3⟩ := m_eatsByte hl hb k2 (c := 44) (by decide)
            have FX : Fx M M3 := ((F1.fx.trans (Fx.nw k1.2.2.1)).trans F2.fx).trans F3.fx
            have hl' : (upS s t (s t ++ [v]) t).length = L + 1 := by rw [upS_t, List.length_append, hL]; rfl
            have key : ∃ M4, (if nI (xS tp 44 (xAd tp (.inr T))) = 0 then (fun  (M47 : xMem) => xBn (fX11_good 146 M47) fun r48 M49 => xLt (fun  (M50 : xMem) => (xBv (fX11_passesByte 146 (nI 59) M50) fun M51 => some M51 : Option (xMem))) fun J260 => if r48 = 0 then (J260  M49) else (if (M49.1 146 15) = (nI 3) then (if (M49.1 146 16) = (nI 59) then (xBn (fX11_many 146 (nI t) M49) fun r52 M53 => if (nI 7) ≤ r52 then (J260  M53) else (xBv (fX11_errs 146 (nI 6) (M53.1 146 14) M53) fun M54 => J260  M54)) else (J260  M49)) else (J260  M49))) M3 else fX11_readTeam_l71 146 (nI t) p2 (fun  (M47 : xMem) => xBn (fX11_good 146 M47) fun r48 M49 => xLt (fun  (M50 : xMem) => (xBv (fX11_passesByte 146 (nI 59) M50) fun M51 => some M51 : Option (xMem))) fun J260 => if r48 = 0 then (J260  M49) else (if (M49.1 146 15) = (nI 3) then (if (M49.1 146 16) = (nI 59) then (xBn (fX11_many 146 (nI t) M49) fun r52 M53 => if (nI 7) ≤ r52 then (J260  M53) else (xBv (fX11_errs 146 (nI 6) (M53.1 146 14) M53) fun M54 => J260  M54)) else (J260  M49)) else (J260  M49))) F M3) = some M4 ∧ MS tp M4 (begR n (if xS tp 44 (xAd tp (.inr T)) = 1 then shL tp n t k (upS s t (s t ++ [v])) (xAd tp (xAd tp (.inr T))) else (shE tp (xAd tp (.inr T)) (L + 1), upS s t (s t ++ [v]))).2) (if xS tp 44 (xAd tp (.inr T)) = 1 then shL tp n t k (upS s t (s t ++ [v])) (xAd tp (xAd tp (.inr T))) else (shE tp (xAd tp (.inr T)) (L + 1), upS s t (s t ++ [v]))).1 ∧ Fx M M4 := by
              rcases xS_lt tp 44 (xAd tp (.inr T)) with y | y
              · rw [xEatS_0 y] at k3
                rw [if_neg (show ¬ xS tp 44 (xAd tp (.inr T)) = 1 by omega)]
                obtain ⟨M4, e4, k4, F4⟩ := m_shE (t := t) (n := n) (s := upS s t (s t ++ [v])) hl hb ht (by omega) k3
                rw [hl'] at k4
                exact ⟨M4, sT (by rw [y]; decide) e4, k4, FX.trans F4.fx⟩
              · rw [xEatS_1 y] at k3
                rw [if_pos y]
                obtain ⟨u1, u2, u3, u4⟩ := xNew_1 (n := n) (s := s) (t := t) (st := st) (T := T) (v := v) ht hS (by
                  unfold xNew
                  rw [e]
                  simp only
                  unfold newF
                  rw [if_neg q, if_neg (by rw [beg_1 ht, hL]; exact q2)])
                obtain ⟨M4, e4, k4, F4⟩ := ih (upS s t (s t ++ [v])) M3 (xAd tp (xAd tp (.inr T))) F (by omega) (by omega) (hS.add ht u4 u1 u2 u3) k3
                exact ⟨M4, sF (by rw [y]; decide) e4, k4, FX.trans F4⟩
            obtain ⟨M4, e4, k4, F4⟩ := key
            refine ⟨M4, ?_, k4, F4⟩
            refine sLt (sF g1 (sBn hfs (sT rfl (sBn (m_good k1) (sLt (sF g1 (sBn (mm k1.2.1) (sF (by rw [eEq (by omega) (by decide)]; exact q2) (sBn (m_good k1) (sF g1 ?_))))))))))
            have e3 := k1.2.1.nw
            rw [← e3]
            refine sBn (e_many ht) ?_
            rw [beg_1 ht, hL, pk_mul, nI_add, nI_add]
            refine sGn (5 + 10 * t + L) rfl (by omega) (sWn (5 + 10 * t + L) v rfl (eCl (by omega)) (eI2L (by omega)) ?_)
            have e1 : va_up (begR n s) (5 + 10 * t + L) v (1 + t) = L := by rw [va_at_ne (by omega), beg_1 ht, hL]
            refine sBn (e_many ht) (sBn (e_many ht) ?_)
            rw [e1]
            refine sJw (lN (if L < 7 then 0 else 2)) (nwS M1 (va_up (begR n s) (5 + 10 * t + L) v)) (fun J => ?_) ?_
            · by_cases z : L < 7
              · rw [if_pos z]; exact sF (by rw [eLe (by decide) (by omega)]; omega) rfl
              · rw [if_neg z]; exact sT (by rw [eLe (by decide) (by omega)]; omega) rfl
            · rw [nI_add, nI_add]
              refine sGn (48 + 10 * t + L) rfl (by omega) (sWn (48 + 10 * t + L) (if L < 7 then 0 else 2) rfl (eCl (by omega)) rfl ?_)
              rw [nI_add]
              refine sGn (1 + t) rfl (by omega) (sGn (1 + t) rfl (by omega) (sWn (1 + t) (L + 1) rfl (eCl (by omega)) ?_ ?_))
              · rw [nwS_w, nwS_at, eCl (by omega), lf_at, va_at_ne (by omega), e1, lN_add]
              · rw [← hrow]
                exact sBv f2 (sBn f3 e4)
theorem begR_nm {n s : Nat → List Nat} {t : Nat} {l : List Nat} (ht : t < 2) : begR (upS n t l) s = va_up (begR n s) (3 + t) (p27 l) := by
  funext j
  by_cases e : j = 3 + t
  · rw [e, va_at_eq, beg_nm ht, upS_t]
  · rw [va_at_ne e]
    rcases Nat.lt_or_ge j 3 with z | z
    · exact begR_n (Or.inl z)
    · rcases Nat.lt_or_ge j 5 with z2 | z2
      · obtain ⟨u, hu, h⟩ : ∃ u, u < 2 ∧ j = 3 + u := ⟨j - 3, by omega, by omega⟩
        rw [h, beg_nm hu, beg_nm hu, upS_o (by omega)]
      · exact begR_n (Or.inr z2)
theorem m_readTeam (hl : tp.length ≤ 2000) (hb : ∀ b ∈ tp, b < 256) (ht : t < 2) {s : Nat → List Nat} {M : xMem} {st : PS} (hS : SOK s) (hs0 : s t = []) (hn0 : t = 1 → ∀ T, st = .inr T → nmOK (n 0)) (h : MS tp M (begR n s) st) : ∃ M', fX11_readTeam 146 (nI t) M = some M' ∧ MS tp M' (begR (xTeam tp t n s st).2.1 (xTeam tp t n s st).2.2) (xTeam tp t n s st).1 ∧ Fx M M' := by
  obtain ⟨M1, f1, k1, F1⟩ := m_passes hl hb h 0 (i := 7) (by decide) (by decide)
  obtain ⟨M2, f2, k2, F2⟩ := m_nameHere hl hb k1
  have hok : ∀ T, (xNm tp (xPass tp 0 st)).1 = .inr T → nmOK (xNm tp (xPass tp 0 st)).2 ∧ ∃ T', st = .inr T' := by
    intro T e
    cases hp : xPass tp 0 st with
    | inl b => rw [hp] at e; exact absurd e (by simp [xNm])
    | inr T' =>
      rw [hp] at e
      have hT : TkO tp T' := by rw [hp] at k1; exact k1.2.2.2.1
      refine ⟨?_, ?_⟩
      · unfold xNm at e ⊢
        by_cases q : T'.2.1 = 1 ∧ T'.2.2 - T'.1 ≤ 6 ∧ wd tp T' = 17
        · simp only [if_pos q]
          exact xNm_ok hT q
        · simp only [if_neg q] at e
          exact absurd e (by simp)
      · cases st with
        | inl b => exact absurd hp (by simp [xPass, xW, xE])
        | inr T2 => exact ⟨T2, rfl⟩
  have hnil : ∀ b, (xNm tp (xPass tp 0 st)).1 = .inl b → (xNm tp (xPass tp 0 st)).2 = [] := by
    intro b e
    cases hp : xPass tp 0 st with
    | inl b' => rfl
    | inr T' =>
      rw [hp] at e
      unfold xNm at e ⊢
      by_cases q : T'.2.1 = 1 ∧ T'.2.2 - T'.1 ≤ 6 ∧ wd tp T' = 17
      · simp only [if_pos q] at e
        exact absurd e (by simp)
      · simp only [if_neg q]
  unfold xTeam
  simp only
  generalize xNm tp (xPass tp 0 st) = r at *
  obtain ⟨s2, l⟩ := r
  simp only at k2 f2 hok hnil ⊢
  -- the same name again
  have same : ∃ M3, MS tp M3 (begR n s) (if t = 1 ∧ n 0 = l then xE 3 s2 else s2) ∧ Fe M2 M3 ∧ ∀ J : xMem → Option xMem, (if nI (gd s2) = 0 then (J M2) else (if nI t = (nI 1) then (xGb (nI 3) (xln (xnw M2)) (if (lg_cmp (M2.2.1 (xnw M2) (Int32.toNatClampNeg (nI 3))) (Int32.toInt64 (nI (p27 l)))) = 0 then (xBv (fX11_errs 146 (nI 3) (M2.1 146 14) M2) fun M57 => J M57) else (J M2))) else (J M2))) = J M3 := by
    cases s2 with
    | inl b =>
      refine ⟨M2, ?_, Fe.refl _, fun J => sT g0 rfl⟩
      have : (if t = 1 ∧ n 0 = l then xE 3 (.inl b) else (.inl b : PS)) = .inl b := by split <;> rfl
      rw [this]; exact k2
    | inr T =>
      obtain ⟨ho, T', hst⟩ := hok T rfl
      by_cases t1 : t = 1
      · have h0 := hn0 t1 T' hst
        have d := (p27_at ho (i := 0) (by decide)).2
        have d0 := (p27_at h0 (i := 0) (by decide)).2
        have r0 : M2.2.1 (xnw M2) = lf (begR n s) := k2.2.1
        have e3 : begR n s 3 = p27 (n 0) := beg_nm (t := 0) (by decide)
        by_cases z : n 0 = l
        · obtain ⟨M3, f3, k3, F3⟩ := m_errs k2 (f := 3) (by decide) (by decide)
          rw [if_pos ⟨t1, z⟩]
          refine ⟨M3, k3, F3, fun J => sF g1 (sT (by rw [t1]) (sGb 3 rfl (by rw [xlnw]; decide) (by rw [xlnw]; decide) ?_))⟩
          rw [r0, eCl (by decide), lf_at, e3, eI2L (n := p27 l) (by omega)]
          exact sT (by rw [eCmp0, z]) (sBv f3 rfl)
        · rw [if_neg (fun y => z y.2)]
          refine ⟨M2, k2, Fe.refl _, fun J => sF g1 (sT (by rw [t1]) (sGb 3 rfl (by rw [xlnw]; decide) (by rw [xlnw]; decide) ?_))⟩
          rw [r0, eCl (by decide), lf_at, e3, eI2L (n := p27 l) (by omega)]
          exact sF (by rw [eCmp0, eLE (by omega) (by omega), p27_inj h0 ho]; exact z) rfl
      · rw [if_neg (fun y => t1 y.1)]
        exact ⟨M2, k2, Fe.refl _, fun J => sF g1 (sF (by rw [eEq (by omega) (by decide)]; exact t1) rfl)⟩
  obtain ⟨M3, k3, F3, J3⟩ := same
  generalize (if t = 1 ∧ n 0 = l then xE 3 s2 else s2) = s3 at *
  have k4 : MS tp (nwS M3 (begR (upS n t l) s)) (begR (upS n t l) s) s3 := k3.nw
  obtain ⟨M5, k5, F5, J5⟩ := m_advG (β := xMem) hl hb k4
  obtain ⟨M6, f6, k6, F6⟩ := m_passesByte hl hb k5 (c := 58) (by decide)
  obtain ⟨M7, f7, k7, F7⟩ := m_shirts (n := upS n t l) hl hb ht (nI (p27 l)) 11 s M6 _ xFU (by rw [hs0]; rfl) (by rw [xFU_eq]; decide) hS k6
  refine ⟨M7, ?_, k7, ((((F1.trans F2).trans F3).fx.trans (Fx.nw k3.2.2.1)).trans (F5.trans F6).fx).trans F7⟩
  unfold fX11_readTeam
  refine sBv f1 (sBn f2 ?_)
  rw [m_good k2, eBn]
  refine sJx M3 J3 ?_
  have e3 := k3.2.1.nw
  rw [← e3]
  have hp27 : p27 l < 2147483648 := by
    cases s2 with
    | inl b => rw [hnil b rfl]; decide
    | inr T =>
      have := (p27_at (hok T rfl).1 (i := 0) (by decide)).2
      omega
  rw [nI_add]
  refine sGn (3 + t) rfl (by omega) (sWn (3 + t) (p27 l) rfl (eCl (by omega)) (eI2L hp27) ?_)
  rw [← begR_nm ht, m_good k4, eBn]
  refine sJx M5 J5 (sBv f6 f7)
end
