/-! ===== the model's parser: names, shirts, bonus ===== -/
section
variable {tp : List Nat} {M : xMem} {σ : Nat → Nat} {st : PS}
def xOwn (tp : List Nat) : PS → Nat
  | .inr T => if wd tp T = 17 then 0 else 1
  | .inl _ => 0
theorem ownW_1 {tp : List Nat} {st : PS} {j : Nat} (hj : j < 17) (e : xW tp j st = 1) : xOwn tp st = 1 := by
  cases st with
  | inl b => exact absurd e (by show ¬ 0 = 1; decide)
  | inr T =>
    have e' : wd tp T = j := ite_1 e
    show (if wd tp T = 17 then 0 else 1) = 1
    rw [if_neg (by omega)]
theorem ownW_0 {tp : List Nat} {st : PS} (h : ∀ j, j < 17 → xW tp j st = 0) : xOwn tp st = 0 := by
  cases st with
  | inl b => rfl
  | inr T =>
    have hle := wd_le tp T
    show (if wd tp T = 17 then 0 else 1) = 0
    rcases Nat.lt_or_ge (wd tp T) 17 with z | z
    · exact absurd rfl (ite_0 (h (wd tp T) z))
    · rw [if_pos (by omega)]
theorem m_isOwn (hl : tp.length ≤ 2000) (h : MS tp M σ st) : fX11_isOwn 146 M = some (nI (xOwn tp st), M) := by
  have w : ∀ j i, j < 17 → ms j = i → fX11_isWord 146 i M = some (nI (xW tp j st), M) := fun j i hj hi => m_isWord hl h j hj hi
  unfold fX11_isOwn
  refine sBn (w 0 7 (by decide) (by decide)) (sLt ?_)
  rcases xW_lt tp 0 st with e0 | e0
  rotate_left
  · exact sF (by rw [e0]; decide) (sF (by decide) (by rw [ownW_1 (by decide) e0]))
  refine sT (by rw [e0]; decide) (sBn (w 1 8 (by decide) (by decide)) ?_)
  rcases xW_lt tp 1 st with e1 | e1
  rotate_left
  · exact sF (by rw [e1]; decide) (sF (by decide) (by rw [ownW_1 (by decide) e1]))
  refine sT (by rw [e1]; decide) (sBn (w 2 9 (by decide) (by decide)) ?_)
  rcases xW_lt tp 2 st with e2 | e2
  rotate_left
  · exact sF (by rw [e2]; decide) (sF (by decide) (by rw [ownW_1 (by decide) e2]))
  refine sT (by rw [e2]; decide) (sBn (w 3 10 (by decide) (by decide)) ?_)
  rcases xW_lt tp 3 st with e3 | e3
  rotate_left
  · exact sF (by rw [e3]; decide) (sF (by decide) (by rw [ownW_1 (by decide) e3]))
  refine sT (by rw [e3]; decide) (sBn (w 4 11 (by decide) (by decide)) ?_)
  rcases xW_lt tp 4 st with e4 | e4
  rotate_left
  · exact sF (by rw [e4]; decide) (sF (by decide) (by rw [ownW_1 (by decide) e4]))
  refine sT (by rw [e4]; decide) (sBn (w 5 12 (by decide) (by decide)) ?_)
  rcases xW_lt tp 5 st with e5 | e5
  rotate_left
  · exact sF (by rw [e5]; decide) (sF (by decide) (by rw [ownW_1 (by decide) e5]))
  refine sT (by rw [e5]; decide) (sBn (w 6 13 (by decide) (by decide)) ?_)
  rcases xW_lt tp 6 st with e6 | e6
  rotate_left
  · exact sF (by rw [e6]; decide) (sF (by decide) (by rw [ownW_1 (by decide) e6]))
  refine sT (by rw [e6]; decide) (sBn (w 7 14 (by decide) (by decide)) ?_)
  rcases xW_lt tp 7 st with e7 | e7
  rotate_left
  · exact sF (by rw [e7]; decide) (sF (by decide) (by rw [ownW_1 (by decide) e7]))
  refine sT (by rw [e7]; decide) (sBn (w 8 15 (by decide) (by decide)) ?_)
  rcases xW_lt tp 8 st with e8 | e8
  rotate_left
  · exact sF (by rw [e8]; decide) (sF (by decide) (by rw [ownW_1 (by decide) e8]))
  refine sT (by rw [e8]; decide) (sT (by decide) (sBn (w 12 16 (by decide) (by decide)) ?_))
  rcases xW_lt tp 12 st with e12 | e12
  rotate_left
  · exact sF (by rw [e12]; decide) (by rw [ownW_1 (by decide) e12])
  refine sT (by rw [e12]; decide) (sBn (w 13 17 (by decide) (by decide)) ?_)
  rcases xW_lt tp 13 st with e13 | e13
  rotate_left
  · exact sF (by rw [e13]; decide) (by rw [ownW_1 (by decide) e13])
  refine sT (by rw [e13]; decide) (sBn (w 14 18 (by decide) (by decide)) ?_)
  rcases xW_lt tp 14 st with e14 | e14
  rotate_left
  · exact sF (by rw [e14]; decide) (by rw [ownW_1 (by decide) e14])
  refine sT (by rw [e14]; decide) (sBn (w 15 19 (by decide) (by decide)) ?_)
  rcases xW_lt tp 15 st with e15 | e15
  rotate_left
  · exact sF (by rw [e15]; decide) (by rw [ownW_1 (by decide) e15])
  refine sT (by rw [e15]; decide) (sBn (w 16 20 (by decide) (by decide)) ?_)
  rcases xW_lt tp 16 st with e16 | e16
  rotate_left
  · exact sF (by rw [e16]; decide) (by rw [ownW_1 (by decide) e16])
  refine sT (by rw [e16]; decide) (sBn (w 9 21 (by decide) (by decide)) ?_)
  rcases xW_lt tp 9 st with e9 | e9
  rotate_left
  · exact sF (by rw [e9]; decide) (by rw [ownW_1 (by decide) e9])
  refine sT (by rw [e9]; decide) (sBn (w 10 22 (by decide) (by decide)) ?_)
  rcases xW_lt tp 10 st with e10 | e10
  rotate_left
  · exact sF (by rw [e10]; decide) (by rw [ownW_1 (by decide) e10])
  refine sT (by rw [e10]; decide) (sBn (w 11 23 (by decide) (by decide)) ?_)
  rcases xW_lt tp 11 st with e11 | e11
  rotate_left
  · exact sF (by rw [e11]; decide) (by rw [ownW_1 (by decide) e11])
  refine sT (by rw [e11]; decide) ?_
  rw [ownW_0]
  intro j hj
  rcases (show j = 0 ∨ j = 1 ∨ j = 2 ∨ j = 3 ∨ j = 4 ∨ j = 5 ∨ j = 6 ∨ j = 7 ∨ j = 8 ∨ j = 9 ∨ j = 10 ∨ j = 11 ∨ j = 12 ∨ j = 13 ∨ j = 14 ∨ j = 15 ∨ j = 16 by omega) with rfl | rfl | rfl | rfl | rfl | rfl | rfl | rfl | rfl | rfl | rfl | rfl | rfl | rfl | rfl | rfl | rfl <;> assumption
theorem p27_nil : p27 [] = 0 := by decide
theorem xNm_ok {tp : List Nat} {T : TK} (hT : TkO tp T) (q : T.2.1 = 1 ∧ T.2.2 - T.1 ≤ 6 ∧ wd tp T = 17) : nmOK (ltr (sg tp T)) := by
  have h1 := hT.b.2.2.2.2.2.1 (by omega)
  exact ltr_ok (by rw [sg_len hT]; omega) (by rw [sg_len hT]; exact q.2.1) (sgL hT q.1)
theorem m_nameHere (hl : tp.length ≤ 2000) (hb : ∀ b ∈ tp, b < 256) (h : MS tp M σ st) : ∃ M', fX11_nameHere 146 M = some (nI (p27 (xNm tp st).2), M') ∧ MS tp M' σ (xNm tp st).1 ∧ Fe M M' := by
  have bad : ∀ {M2 : xMem} {b : Nat × Nat}, MS tp M2 σ (.inl b) → fX11_nameHere_l49 146 (fun (v11 : Int32) (v12 : Int32) (M13 : xMem) => some (v11, M13)) xFU (nI 0) (nI 0) M2 = some (nI 0, M2) := by
    intro M2 b hb2
    rw [show xFU = 39999 + 1 from rfl, fX11_nameHere_l49.eq_2, m_good hb2, eBn]
    exact sF (by decide) (sT g0 rfl)
  unfold fX11_nameHere
  rw [m_good h, eBn]
  cases st with
  | inl b =>
    refine ⟨M, sLt (sT g0 ?_), h, Fe.refl M⟩
    have e : (xNm tp (.inl b)).2 = [] := rfl
    rw [e, p27_nil]
    exact bad h
  | inr T =>
    obtain ⟨b1, b2, b3, t1, t2, t3, t4⟩ := id h
    have hB := t1.b
    by_cases q : T.2.1 = 1 ∧ T.2.2 - T.1 ≤ 6 ∧ wd tp T = 17
    · have e : xNm tp (.inr T) = (.inr T, ltr (sg tp T)) := by unfold xNm; simp only [if_pos q]
      rw [e]
      refine ⟨M, sLt (sF g1 (sLt ?_)), h, Fe.refl M⟩
      rw [t4.2.2.1, t4.1, t4.2.1, eSub (by omega)]
      refine sT (by rw [q.1]) (sF (by rw [eLtI (by decide) (by omega)]; omega) ?_)
      rw [m_isOwn hl h, eBn]
      have eo : xOwn tp (.inr T) = 0 := by unfold xOwn; simp only [q.2.2, if_true]
      rw [eo]
      refine sT (by decide) ?_
      have hsl := sg_len t1
      have hlen : (ltr (sg tp T)).length = T.2.2 - T.1 := by unfold ltr; rw [List.length_map, hsl]
      refine loopU (fun n k => fX11_nameHere_l49 146 (fun (v11 : Int32) (v12 : Int32) (M13 : xMem) => some (v11, M13)) n (nI (p27k (ltr (sg tp T)) k)) (nI k) M) 6 _ (by decide) (fun n k hk => ?_) (fun n => ?_)
      · rw [fX11_nameHere_l49.eq_2, m_good h, eBn, t4.1, t4.2.1, nI_add T.1 k, x14610, l150]
        refine sF (by rw [eLe (by omega) (by omega)]; omega) (sF g1 ?_)
        refine sJw (nI ((ltr (sg tp T)).getD k 0)) M (fun J => ?_) (sLe (b := nI (p27k (ltr (sg tp T)) (k + 1))) (by rw [p27k_succ, pk_mul, nI_add]) (sLe (nI_1 k) rfl))
        by_cases z : T.2.2 ≤ T.1 + k
        · refine sT (by rw [eLe (by omega) (by omega)]; exact z) ?_
          rw [List.getD_eq_getElem?_getD, List.getElem?_eq_none (by omega)]
          rfl
        · have hg1 := List.getElem?_eq_getElem (show k < (sg tp T).length by omega)
          have hgt := hg1
          rw [sg_at (by omega)] at hgt
          have hbL := sgL t1 q.1 _ (List.mem_of_getElem? hg1)
          unfold isL at hbL
          refine sF (by rw [eLe (by omega) (by omega)]; exact z) (sGb (T.1 + k) rfl (by omega) (by decide) ?_)
          rw [eCl (by omega), b1.2 _ _ hgt, bI_lt (by omega), eSub (by omega), nI_add, List.getD_eq_getElem?_getD, ltr_at hg1]
          show J (nI ((sg tp T)[k] - 97 + 1)) M = J (nI ((sg tp T)[k] - 96)) M
          rw [show (sg tp T)[k] - 97 + 1 = (sg tp T)[k] - 96 by omega]
      · rw [fX11_nameHere_l49.eq_2]
        exact sT (by decide) rfl
    · have e : xNm tp (.inr T) = (.inl (1, T.1), []) := by unfold xNm; simp only [if_neg q]
      rw [e]
      obtain ⟨M2, f2, k2, F2⟩ := m_errs h (f := 1) (by decide) (by decide)
      have k2' : MS tp M2 σ (.inl (1, T.1)) := k2
      refine ⟨M2, sLt (sF g1 ?_), k2, F2⟩
      rw [t4.2.2.1, t4.1, t4.2.1, eSub (by omega)]
      show _ = some (nI (p27 []), M2)
      rw [p27_nil]
      by_cases k1 : T.2.1 = 1
      · refine sLt (sT (by rw [k1]) ?_)
        by_cases h6 : T.2.2 - T.1 ≤ 6
        · refine sF (by rw [eLtI (by decide) (by omega)]; omega) ?_
          rw [m_isOwn hl h, eBn]
          have eo : xOwn tp (.inr T) = 1 := by
            unfold xOwn
            simp only [show ¬ wd tp T = 17 from fun z => q ⟨k1, h6, z⟩, if_false]
          rw [eo]
          exact sF (by decide) (sBv f2 (bad k2'))
        · exact sT (by rw [eLtI (by decide) (by omega)]; omega) (sBv f2 (bad k2'))
      · exact sLt (sF (by rw [eEq (by omega) (by decide)]; exact k1) (sBv f2 (bad k2')))
/-- names as the row holds them -/
def nmR (n : Nat → List Nat) (σ : Nat → Nat) : Prop := ∀ t, t < 2 → σ (3 + t) = p27 (n t) ∧ nmOK (n t)
theorem xTm_lt {tp : List Nat} {n : Nat → List Nat} (st : PS) : (xTm tp n st).2 < 2 := by
  unfold xTm
  split
  · unfold tmF
    split
    · exact (by decide : 0 < 2)
    · split
      · exact (by decide : 1 < 2)
      · exact (by decide : 0 < 2)
  · exact (by decide : 0 < 2)
theorem m_teamHere (hl : tp.length ≤ 2000) (hb : ∀ b ∈ tp, b < 256) {n : Nat → List Nat} (hn : nmR n σ) (h : MS tp M σ st) : ∃ M', fX11_teamHere 146 M = some (nI (xTm tp n st).2, M') ∧ MS tp M' σ (xTm tp n st).1 ∧ Fe M M' := by
  obtain ⟨M1, f1, k1, F1⟩ := m_nameHere hl hb h
  unfold fX11_teamHere
  rw [f1, eBn]
  have hok : ∀ T, (xNm tp st).1 = .inr T → nmOK (xNm tp st).2 := by
    intro T e
    cases st with
    | inl b => exact absurd e (by simp [xNm])
    | inr T' =>
      unfold xNm at e ⊢
      by_cases q : T'.2.1 = 1 ∧ T'.2.2 - T'.1 ≤ 6 ∧ wd tp T' = 17
      · simp only [if_pos q] at e ⊢
        exact xNm_ok h.2.2.2.1 q
      · simp only [if_neg q] at e
        exact absurd e (by simp)
  unfold xTm
  generalize xNm tp st = r at *
  obtain ⟨s1, l⟩ := r
  cases s1 with
  | inl b =>
    simp only
    refine ⟨M1, ?_, k1, F1⟩
    rw [show xFU = 39999 + 1 from rfl, fX11_teamHere_l7.eq_2, m_good k1, eBn]
    refine sF (by decide) (sT g0 ?_)
    obtain ⟨M2, f2, k2, F2⟩ := m_errs k1 (f := 4) (by decide) (by decide)
    unfold fX11_errs
    rw [m_good k1, eBn]
    exact sBv (sT g0 rfl) rfl
  | inr T =>
    simp only
    have ho := hok T rfl
    simp only at ho
    have h0 := hn 0 (by decide)
    have h1 := hn 1 (by decide)
    have d := (p27_at ho (i := 0) (by decide)).2
    have d0 := (p27_at h0.2 (i := 0) (by decide)).2
    have d1 := (p27_at h1.2 (i := 0) (by decide)).2
    unfold tmF
    rw [show xFU = 39997 + 1 + 1 + 1 from rfl, fX11_teamHere_l7.eq_2, m_good k1, eBn, eI2L (n := p27 l) (by omega)]
    have r0 : M1.2.1 (xnw M1) = lf σ := k1.2.1
    by_cases z0 : n 0 = l
    · rw [if_pos z0]
      refine ⟨M1, sF (by decide) (sF g1 (sGb 3 (by decide) (by rw [xlnw]; decide) (by rw [xlnw]; decide) ?_)), k1, F1⟩
      rw [show (nI 3 + nI 0) = nI 3 by decide, eCl (by decide), r0, lf_at]
      refine sT ?_ rfl
      rw [eCmp0, show σ 3 = p27 (n 0) from h0.1, z0]
    · rw [if_neg z0]
      have s0 : ¬ lg_cmp (M1.2.1 (xnw M1) (Int32.toNatClampNeg (nI 3 + nI 0))) (lN (p27 l)) = 0 := by
        rw [show (nI 3 + nI 0) = nI 3 by decide, eCl (by decide), r0, lf_at, eCmp0, show σ 3 = p27 (n 0) from h0.1, eLE (by omega) (by omega), p27_inj h0.2 ho]
        exact z0
      by_cases z1 : n 1 = l
      · rw [if_pos z1]
        refine ⟨M1, sF (by decide) (sF g1 (sGb 3 (by decide) (by rw [xlnw]; decide) (by rw [xlnw]; decide) (sF s0 (sLe (b := nI 1) (by decide) ?_)))), k1, F1⟩
        rw [fX11_teamHere_l7.eq_2, m_good k1, eBn, eI2L (n := p27 l) (by omega)]
        refine sF (by decide) (sF g1 (sGb 4 (by decide) (by rw [xlnw]; decide) (by rw [xlnw]; decide) (sT ?_ rfl)))
        rw [show (nI 3 + nI 1) = nI 4 by decide, eCl (by decide), r0, lf_at, eCmp0, show σ 4 = p27 (n 1) from h1.1, z1]
      · rw [if_neg z1]
        have s1 : ¬ lg_cmp (M1.2.1 (xnw M1) (Int32.toNatClampNeg (nI 3 + nI 1))) (lN (p27 l)) = 0 := by
          rw [show (nI 3 + nI 1) = nI 4 by decide, eCl (by decide), r0, lf_at, eCmp0, show σ 4 = p27 (n 1) from h1.1, eLE (by omega) (by omega), p27_inj h1.2 ho]
          exact z1
        obtain ⟨M2, f2, k2, F2⟩ := m_errs k1 (f := 4) (by decide) (by decide)
        refine ⟨M2, sF (by decide) (sF g1 (sGb 3 (by decide) (by rw [xlnw]; decide) (by rw [xlnw]; decide) (sF s0 (sLe (b := nI 1) (by decide) ?_)))), k2, F1.trans F2⟩
        rw [fX11_teamHere_l7.eq_2, m_good k1, eBn, eI2L (n := p27 l) (by omega)]
        refine sF (by decide) (sF g1 (sGb 4 (by decide) (by rw [xlnw]; decide) (by rw [xlnw]; decide) (sF s1 (sLe (b := nI 2) (by decide) ?_))))
        rw [fX11_teamHere_l7.eq_2]
        exact sT (by decide) (sBv f2 rfl)
theorem m_teamRead (hl : tp.length ≤ 2000) (hb : ∀ b ∈ tp, b < 256) {n : Nat → List Nat} (hn : nmR n σ) (h : MS tp M σ st) : ∃ M', fX11_teamRead 146 M = some (nI (xTm tp n st).2, M') ∧ MS tp M' σ (xAd tp (xTm tp n st).1) ∧ Fe M M' := by
  obtain ⟨M1, f1, k1, F1⟩ := m_teamHere hl hb hn h
  unfold fX11_teamRead
  rw [f1, eBn, m_good k1, eBn]
  obtain ⟨M2, k2, F2, J2⟩ := m_advG (β := Int32 × xMem) hl hb k1
  exact ⟨M2, J2 (fun M5 => some (nI (xTm tp n st).2, M5)), k2, F1.trans F2⟩
theorem m_shirtHere (h : MS tp M σ st) : ∃ M', fX11_shirtHere 146 M = some (nI (xSh tp st).2, M') ∧ MS tp M' σ (xSh tp st).1 ∧ Fe M M' := by
  have bad : ∀ {M2 : xMem} {b : Nat × Nat}, MS tp M2 σ (.inl b) → ∀ z, (some ((nI 0 : Int32), M2) = z) → (xBn (fX11_good 146 M2) fun r4 M5 => xLt (fun  (M6 : xMem) => (xBn (fX11_good 146 M6) fun r7 M8 => if r7 = 0 then (some ((nI 0), M8)) else (some ((M8.1 146 16), M8)) : Option (Int32 × xMem))) fun J55 => if r4 = 0 then (J55  M5) else (xBn (fX11_in (Int32.toInt64 (M5.1 146 16)) (lN 1) (lN 99) M5) fun r9 M10 => if r9 = 0 then (xBv (fX11_errs 146 (nI 2) (M10.1 146 14) M10) fun M11 => J55  M11) else (J55  M10))) = z := by
    intro M2 b hb2 z hz
    rw [m_good hb2, eBn]
    refine sLt (sT g0 ?_)
    refine sBn (m_good hb2) (sT g0 hz)
  unfold fX11_shirtHere
  rw [m_good h, eBn]
  cases st with
  | inl b => exact ⟨M, sLt (sT g0 (bad h _ rfl)), h, Fe.refl M⟩
  | inr T =>
    obtain ⟨b1, b2, b3, t1, t2, t3, t4⟩ := id h
    have hB := t1.b
    rw [t4.2.2.1]
    by_cases k2 : T.2.1 = 2
    · have e16 := t4.2.2.2.1 k2
      have hnv := nv_ok (l := sg tp T) (fun c hc => kd_2.1 (by rw [sg_mem t1 hc]; exact k2))
      by_cases q : 1 ≤ nvC (sg tp T) ∧ nvC (sg tp T) ≤ 99
      · have e : xSh tp (.inr T) = (.inr T, nvC (sg tp T)) := by unfold xSh; simp only [if_pos k2, if_pos q]
        rw [e]
        have env : nvM (sg tp T) = nvC (sg tp T) := by omega
        rw [env] at e16
        refine ⟨M, sLt (sF g1 (sT (by rw [k2]) (sBn (m_good h) (sLt (sF g1 ?_))))), h, Fe.refl M⟩
        rw [e16]
        refine sBn ((m_within (by decide) (by decide)).1 ⟨_, q.1, q.2, rfl⟩) (sF (by decide) ?_)
        refine sBn (m_good h) (sF g1 ?_)
        rw [e16]
      · have e : xSh tp (.inr T) = (.inl (2, T.1), 0) := by unfold xSh; simp only [if_pos k2, if_neg q]
        rw [e]
        obtain ⟨M2, f2, kk, F2⟩ := m_errs h (f := 2) (by decide) (by decide)
        have kk' : MS tp M2 σ (.inl (2, T.1)) := kk
        refine ⟨M2, sLt (sF g1 (sT (by rw [k2]) (sBn (m_good h) (sLt (sF g1 ?_))))), kk, F2⟩
        rw [e16]
        refine sBn ((m_within (by decide) (by decide)).2 ?_) (sT (by decide) (sBv f2 (sBn (m_good kk') (sT g0 rfl))))
        rintro ⟨n, u1, u2, e3⟩
        rw [nI_eq (by omega) (by omega)] at e3
        omega
    · have e : xSh tp (.inr T) = (.inl (1, T.1), 0) := by unfold xSh; simp only [if_neg k2]
      rw [e]
      obtain ⟨M2, f2, kk, F2⟩ := m_errs h (f := 1) (by decide) (by decide)
      have kk' : MS tp M2 σ (.inl (1, T.1)) := kk
      exact ⟨M2, sLt (sF g1 (sF (by rw [eEq (by omega) (by decide)]; exact k2) (sBv f2 (bad kk' _ rfl)))), kk, F2⟩
theorem xSh_le (tp : List Nat) (st : PS) : (xSh tp st).2 ≤ 99 := by
  unfold xSh
  split
  · split
    · split
      · rename_i q; exact q.2
      · exact Nat.zero_le _
    · exact Nat.zero_le _
  · exact Nat.zero_le _
/-- what the row must hold so that shirts can be looked for -/
def shR (σ : Nat → Nat) : Prop := ∀ t, t < 2 → σ (1 + t) ≤ 10 ∧ ∀ i, i < σ (1 + t) → σ (5 + 10 * t + i) ≤ 99
theorem xOne_lt {tp : List Nat} {t : Nat} (st : PS) (h1 : 1 ≤ σ (1 + t)) : (xOne tp σ t st).2 < σ (1 + t) := by
  unfold xOne
  split
  · unfold oneF
    split
    · assumption
    · exact h1
  · exact h1
theorem m_oneHere {t : Nat} (ht : t < 2) (hs : shR σ) (h : MS tp M σ st) : ∃ M', fX11_oneHere 146 (nI t) M = some (nI (xOne tp σ t st).2, M') ∧ MS tp M' σ (xOne tp σ t st).1 ∧ Fe M M' := by
  obtain ⟨M1, f1, k1, F1⟩ := m_shirtHere h
  have hle := xSh_le tp st
  obtain ⟨s1, s2⟩ := hs t ht
  unfold fX11_oneHere
  rw [f1, eBn, q_findShirt k1.2.1 ht s1 s2 (by omega), eBn, fsh_eq s1, m_good k1, eBn]
  unfold xOne
  generalize xSh tp st = r at *
  obtain ⟨p1, v⟩ := r
  cases p1 with
  | inl b =>
    simp only
    exact ⟨M1, sLt (sT g0 (sBn (m_good k1) (sT g0 rfl))), k1, F1⟩
  | inr T =>
    simp only
    unfold oneF
    by_cases q : fsI σ t v < σ (1 + t)
    · rw [if_pos q, if_pos q]
      exact ⟨M1, sLt (sF g1 (sF (m1_ne (by omega)) (sBn (m_good k1) (sF g1 rfl)))), k1, F1⟩
    · rw [if_neg q, if_neg q]
      obtain ⟨M2, f2, k2, F2⟩ := m_errs k1 (f := 4) (by decide) (by decide)
      have k2' : MS tp M2 σ (.inl (4, T.1)) := k2
      exact ⟨M2, sLt (sF g1 (sT rfl (sBv f2 (sBn (m_good k2') (sT g0 rfl))))), k2, F1.trans F2⟩
/-- a bonus behind it -/
def xBon (tp : List Nat) (σ : Nat → Nat) (st : PS) : PS := if xW tp 14 st = 1 then xAd tp (xCan (boR σ) st) else st
def F6 (M M' : xMem) : Prop := (∀ c, c ≠ 146 → M'.1 c = M.1 c) ∧ (∀ j, (j < 13 ∧ j ≠ 6) ∨ 18 < j → M'.1 146 j = M.1 146 j) ∧ M'.2 = M.2
theorem Fe.f6 {M M' : xMem} (h : Fe M M') : F6 M M' := ⟨h.1, fun j a => h.2.1 j (by omega), h.2.2⟩
theorem F6.trans {M M1 M2 : xMem} (h1 : F6 M M1) (h2 : F6 M1 M2) : F6 M M2 := ⟨fun c a => (h2.1 c a).trans (h1.1 c a), fun j a => (h2.2.1 j a).trans (h1.2.1 j a), h2.2.2.trans h1.2.2⟩
theorem F6.w6 {M : xMem} {v : Int32} : F6 M (xwI M 146 6 v) := ⟨fun c a => xwI_c a, fun i a => xwI_ne (Or.inr (by omega)), rfl⟩
theorem m_readBonus (hl : tp.length ≤ 2000) (hb : ∀ b ∈ tp, b < 256) (hR : RW σ) (h : MS tp M σ st) : ∃ M', fX11_readBonus 146 M = some M' ∧ MS tp M' σ (xBon tp σ st) ∧ F6 M M' ∧ M'.1 146 6 = (if xW tp 14 st = 1 then nI 1 else M.1 146 6) := by
  unfold fX11_readBonus xBon
  rw [m_isWord hl h 14 (by decide) (by decide), eBn]
  rcases xW_lt tp 14 st with e | e
  · rw [if_neg (show ¬ xW tp 14 st = 1 by omega), if_neg (show ¬ xW tp 14 st = 1 by omega)]
    exact ⟨M, sT (by rw [e]; decide) rfl, h, (Fe.refl M).f6, rfl⟩
  · rw [if_pos e, if_pos e]
    have h28 := hR.1
    have hpc := pcn_le _ (mOn_lt (ρ := σ) (t := 1 - σ 28) (hR.m (by omega)))
    obtain ⟨M1, f1, k1, F1⟩ := m_can h (b := boR σ) (by rcases boR_le σ with q | q <;> omega)
    have k2 : MS tp (xwI M1 146 6 (nI 1)) σ (xCan (boR σ) st) := k1.wI (by decide)
    obtain ⟨M3, k3, F3, J3⟩ := m_advG (β := xMem) hl hb k2
    refine ⟨M3, ?_, k3, (F1.f6.trans F6.w6).trans F3.f6, by rw [F3.2.1 6 (by omega), xwI_at]⟩
    refine sF (by rw [e]; decide) (sBn (q_standing h.2.1 hR) (sJw (nI (boR σ)) M (fun J => ?_) (sBv f1 (sLt ?_))))
    · unfold boR
      by_cases z : 6 ≤ pcn (mOn (1 - σ 28) σ)
      · rw [if_pos z]; exact sF (by rw [eLtI (by omega) (by decide)]; omega) rfl
      · rw [if_neg z]; exact sT (by rw [eLtI (by omega) (by decide)]; omega) rfl
    · rw [m_good k2, eBn]
      exact J3 (fun M => some M)
end
