/-! ===== the class: tales are copied, cleared, grow ===== -/
theorem ta_tab : ∀ T, T < 154 → xkd T = 9 → (xrf T 0 = T + 1 ∧ xrf T 1 = T + 5 ∧ xrf (T + 1) 0 = T + 2 ∧ xrf (T + 1) 1 = T + 3 ∧ xrf (T + 1) 2 = T + 4) ∧ (xln (T + 2) = 2 ∧ xln (T + 3) = 20 ∧ xln (T + 4) = 2 ∧ xln (T + 5) = 280 ∧ xkd (T + 1) = 5) ∧ (T = 6 ∨ (66 ≤ T ∧ T ≤ 126)) ∧ T % 6 = 0 := by decide +kernel
theorem ta_rf {T : Nat} (h : xkd T = 9) : (xrf T 0 = T + 1 ∧ xrf T 1 = T + 5 ∧ xrf (T + 1) 0 = T + 2 ∧ xrf (T + 1) 1 = T + 3 ∧ xrf (T + 1) 2 = T + 4) ∧ (xln (T + 2) = 2 ∧ xln (T + 3) = 20 ∧ xln (T + 4) = 2 ∧ xln (T + 5) = 280 ∧ xkd (T + 1) = 5) ∧ (T = 6 ∨ (66 ≤ T ∧ T ≤ 126)) ∧ T % 6 = 0 := ta_tab T (xkd_lt (by omega)) h
theorem kd6 : xkd 6 = 9 := by decide +kernel
theorem kd126 : xkd 126 = 9 := by decide +kernel
/-- the cells of a tale -/
def Ft (T : Nat) (M M' : xMem) : Prop := (∀ c, c < T ∨ T + 6 ≤ c → M'.1 c = M.1 c) ∧ (∀ c, c ≠ T + 5 → M'.2.1 c = M.2.1 c) ∧ M'.2.2 = M.2.2
theorem Ft.refl (T : Nat) (M : xMem) : Ft T M M := ⟨fun _ _ => rfl, fun _ _ => rfl, rfl⟩
theorem Ft.trans {T : Nat} {M M1 M2 : xMem} (h1 : Ft T M M1) (h2 : Ft T M1 M2) : Ft T M M2 := ⟨fun c hc => (h2.1 c hc).trans (h1.1 c hc), fun c hc => (h2.2.1 c hc).trans (h1.2.1 c hc), h2.2.2.trans h1.2.2⟩
theorem TaR.keep {M M' : xMem} {T : Nat} {a : xTl} (h : TaR M T a) (e : ∀ c, T ≤ c → c < T + 6 → M'.1 c = M.1 c) (e2 : M'.2.1 (T + 5) = M.2.1 (T + 5)) : TaR M' T a := by
  unfold TaR
  rw [e (T + 2) (by omega) (by omega), e (T + 3) (by omega) (by omega), e (T + 4) (by omega) (by omega), e T (by omega) (by omega), e2]
  exact h
theorem TaR.ft {M M' : xMem} {T S : Nat} {a : xTl} (h : TaR M S a) (hF : Ft T M M') (hT : xkd T = 9) (hS : xkd S = 9) (hd : T ≠ S) : TaR M' S a := by
  obtain ⟨-, -, -, x1⟩ := ta_rf hT
  obtain ⟨-, -, -, x2⟩ := ta_rf hS
  exact h.keep (fun c h1 h2 => hF.1 c (by omega)) (hF.2.1 _ (by omega))
theorem cpyN {α : Type} {f g : Nat → α} {n j : Nat} (hn : n < 2147483648) (h : j < n) : va_cpy f g (Int32.toNatClampNeg (nI 0)) (Int32.toNatClampNeg (nI 0)) (Int32.toNatClampNeg (nI n)) j = f j := by
  rw [eCl hn]; exact cpy_at h
theorem t_copy {M : xMem} {T S : Nat} {a : xTl} (hT : xkd T = 9) (hS : xkd S = 9) (hd : T ≠ S) (h : TaR M S a) (h10 : ∀ t, t < 2 → (a.2.1 t).length ≤ 10) (hl : a.2.2.length ≤ 280) : ∃ M', fX9_copyFrom T S M = some M' ∧ TaR M' T a ∧ Ft T M M' := by
  obtain ⟨⟨a0, a1, a2, a3, a4⟩, ⟨l2, l3, l4, l5, -⟩, -, x1⟩ := ta_rf hT
  obtain ⟨⟨b0, b1, b2, b3, b4⟩, ⟨m2, m3, m4, m5, -⟩, -, x2⟩ := ta_rf hS
  generalize hM1 : xwR M (T + 2) (va_cpy (M.1 (S + 2)) (M.1 (T + 2)) (Int32.toNatClampNeg (nI 0)) (Int32.toNatClampNeg (nI 0)) (Int32.toNatClampNeg (nI 2))) = M1
  generalize hM2 : xwR M1 (T + 3) (va_cpy (M1.1 (S + 3)) (M1.1 (T + 3)) (Int32.toNatClampNeg (nI 0)) (Int32.toNatClampNeg (nI 0)) (Int32.toNatClampNeg (nI 20))) = M2
  generalize hM3 : xwR M2 (T + 4) (va_cpy (M2.1 (S + 4)) (M2.1 (T + 4)) (Int32.toNatClampNeg (nI 0)) (Int32.toNatClampNeg (nI 0)) (Int32.toNatClampNeg (nI 2))) = M3
  generalize hM4 : xwI M3 T 2 (M3.1 S 2) = M4
  generalize hM5 : xwQ M4 (T + 5) (va_cpy (M4.2.1 (S + 5)) (M4.2.1 (T + 5)) (Int32.toNatClampNeg (nI 0)) (Int32.toNatClampNeg (nI 0)) (Int32.toNatClampNeg (nI 280))) = M5
  have n1 : ∀ c, c ≠ T + 2 → M1.1 c = M.1 c := fun c hc => by rw [← hM1, xwR_ne hc]
  have n2 : ∀ c, c ≠ T + 3 → M2.1 c = M1.1 c := fun c hc => by rw [← hM2, xwR_ne hc]
  have n3 : ∀ c, c ≠ T + 4 → M3.1 c = M2.1 c := fun c hc => by rw [← hM3, xwR_ne hc]
  have n4 : ∀ c, c ≠ T → M4.1 c = M3.1 c := fun c hc => by rw [← hM4, xwI_c hc]
  have n5 : M5.1 = M4.1 := by rw [← hM5]; rfl
  have q4 : M4.2 = M.2 := by rw [← hM4, ← hM3, ← hM2, ← hM1]; rfl
  refine ⟨M5, ?_, ⟨fun t ht => ?_, ?_, fun i l hi => ?_⟩, fun c hc => ?_, fun c hc => ?_, ?_⟩
  · unfold fX9_copyFrom fX5_copyFrom
    rw [a0, b0, a1, b1, a2, a3, a4, b2, b3, b4, l2, l3, l4, l5, m2, m3, m4, m5]
    refine sBv (M := M3) ?_ ?_
    · refine sGc (by decide) (by decide) (by decide) (sLe hM1 ?_)
      refine sGc (by decide) (by decide) (by decide) (sLe hM2 ?_)
      exact sGc (by decide) (by decide) (by decide) (sLe hM3 rfl)
    · refine sLe hM4 ?_
      exact sGc (by decide) (by decide) (by decide) (sLe hM5 rfl)
  · obtain ⟨y1, y2, y3⟩ := h.1 t ht
    have hlen := h10 t ht
    refine ⟨?_, ?_, fun i x hi => ?_⟩
    · rw [n5, n4 _ (by omega), n3 _ (by omega), n2 _ (by omega), ← hM1, xwR_at, cpyN (by decide) ht]; exact y1
    · rw [n5, n4 _ (by omega), ← hM3, xwR_at, cpyN (by decide) ht, n2 _ (by omega), n1 _ (by omega)]; exact y2
    · have hlt : i < (a.2.1 t).length := (List.getElem?_eq_some_iff.mp hi).1
      rw [n5, n4 _ (by omega), n3 _ (by omega), ← hM2, xwR_at, cpyN (by decide) (by omega), n1 _ (by omega)]; exact y3 i x hi
  · rw [n5, ← hM4, xwI_at, n3 _ (by omega), n2 _ (by omega), n1 _ (by omega)]; exact h.2.1
  · have hlt : i < a.2.2.length := (List.getElem?_eq_some_iff.mp hi).1
    rw [← hM5, xwQ_at, cpyN (by decide) (by omega), q4]; exact h.2.2 i l hi
  · rw [n5, n4 _ (by omega), n3 _ (by omega), n2 _ (by omega), n1 _ (by omega)]
  · rw [← hM5, xwQ_ne hc, q4]
  · rw [← hM5]; show M4.2.2 = _; rw [q4]
theorem t_addLine {M : xMem} {a : xTl} {l : xLn} (h : TaR M 6 a) (hl : a.2.2.length < 280) : ∃ M', fX9_addLine 6 (lN (codL l)) M = some M' ∧ TaR M' 6 (a.1, a.2.1, a.2.2 ++ [l]) ∧ Ft 6 M M' ∧ (∀ c, c ≠ 6 → M'.1 c = M.1 c) := by
  have hln : xln 11 = 280 := m_tab.2.2.2.2.2.2.2.2.2.2.2
  generalize hM1 : xwL M 11 a.2.2.length (lN (codL l)) = M1
  generalize hM2 : xwI M1 6 2 (nI (a.2.2.length + 1)) = M2
  have n2 : ∀ c, c ≠ 6 → M2.1 c = M.1 c := fun c hc => by rw [← hM2, xwI_c hc, ← hM1]; rfl
  refine ⟨M2, ?_, ⟨fun t ht => ?_, ?_, fun i l' hi => ?_⟩, ⟨fun c hc => n2 c (by omega), fun c hc => ?_, ?_⟩, n2⟩
  · unfold fX9_addLine
    rw [h.2.1, m61, hln]
    refine sF (by rw [eLe (by decide) (by omega)]; omega) (sGb _ rfl hl (by decide) ?_)
    rw [eCl (by omega)]
    refine sLe hM1 ?_
    have e : M1.1 6 2 = nI a.2.2.length := by rw [← hM1]; exact h.2.1
    rw [e, nI_add]
    exact sLe hM2 rfl
  · rw [n2 _ (by decide), n2 _ (by decide), n2 _ (by decide)]; exact h.1 t ht
  · rw [← hM2, xwI_at, List.length_append]; rfl
  · have e : M2.2.1 11 i = if i = a.2.2.length then lN (codL l) else M.2.1 11 i := by
      rw [← hM2]
      show M1.2.1 11 i = _
      rw [← hM1]
      unfold xwL
      rw [xwQ_at]
      rfl
    show M2.2.1 11 i = _
    rw [e]
    by_cases q : i = a.2.2.length
    · rw [if_pos q]
      rw [q, List.getElem?_append_right (Nat.le_refl _)] at hi
      simp at hi
      rw [hi]
    · rw [if_neg q]
      have hlt : i < a.2.2.length := by
        have := (List.getElem?_eq_some_iff.mp hi).1
        rw [List.length_append] at this
        simp only [List.length_cons, List.length_nil] at this
        omega
      rw [List.getElem?_append_left hlt] at hi
      exact h.2.2 i l' hi
  · rw [← hM2]
    show M1.2.1 c = _
    rw [← hM1]
    unfold xwL
    exact xwQ_ne hc
  · rw [← hM2, ← hM1]; rfl
def dropT (a : xTl) : xTl := (a.1, a.2.1, a.2.2.dropLast)
theorem t_drop {M : xMem} {a : xTl} (h : TaR M 6 a) (hl : a.2.2 ≠ []) (h280 : a.2.2.length ≤ 280) : ∃ M', fX9_dropLine 6 M = some M' ∧ TaR M' 6 (dropT a) ∧ Ft 6 M M' := by
  have hp : 0 < a.2.2.length := List.length_pos_iff.mpr hl
  generalize hM2 : xwI M 6 2 (nI (a.2.2.length - 1)) = M2
  have n2 : ∀ c, c ≠ 6 → M2.1 c = M.1 c := fun c hc => by rw [← hM2, xwI_c hc]
  refine ⟨M2, ?_, ⟨fun t ht => ?_, ?_, fun i l' hi => ?_⟩, fun c hc => n2 c (by omega), fun c hc => ?_, ?_⟩
  · unfold fX9_dropLine
    rw [h.2.1]
    have hpos : ¬ nI a.2.2.length ≤ 0 := by rw [eZ, eLe (by omega) (by decide)]; omega
    refine sF hpos ?_
    rw [eSub (by omega)]
    exact sLe hM2 rfl
  · rw [n2 _ (by decide), n2 _ (by decide), n2 _ (by decide)]; exact h.1 t ht
  · rw [← hM2, xwI_at]
    show _ = nI a.2.2.dropLast.length
    rw [List.length_dropLast]
  · have hi' : a.2.2.dropLast[i]? = some l' := hi
    have hlt : i < a.2.2.dropLast.length := (List.getElem?_eq_some_iff.mp hi').1
    rw [List.length_dropLast] at hlt
    rw [List.getElem?_dropLast, if_pos hlt] at hi'
    rw [← hM2]
    exact h.2.2 i l' hi'
  · rw [← hM2]; rfl
  · rw [← hM2]; rfl
theorem t_clear {M : xMem} : ∃ M', fX9_clear 6 M = some M' ∧ (∀ t, t < 2 → M'.1 8 t = nI 0 ∧ M'.1 10 t = nI 0) ∧ M'.1 6 2 = nI 0 ∧ Ft 6 M M' := by
  obtain ⟨⟨a0, a1, a2, a3, a4⟩, ⟨l2, l3, l4, l5, -⟩, -, x1⟩ := ta_rf kd6
  refine ⟨xwI (xwI (xwI (xwI (xwI M 8 0 (nI 0)) 10 0 (nI 0)) 8 1 (nI 0)) 10 1 (nI 0)) 6 2 (nI 0), ?_, fun t ht => ?_, ?_, fun c hc => ?_, fun c hc => rfl, rfl⟩
  · unfold fX9_clear
    rw [a0]
    refine sBv (M := xwI (xwI (xwI (xwI M 8 0 (nI 0)) 10 0 (nI 0)) 8 1 (nI 0)) 10 1 (nI 0)) ?_ rfl
    unfold fX5_clear
    have e : xFU = 39997 + 1 + 1 + 1 := by decide
    rw [e, fX5_clear_l2.eq_2, a2, a4, l2, l4]
    refine sF (by decide) (sGb 0 rfl (by decide) (by decide) (sLt (sGb 0 rfl (by decide) (by decide) (sLt (sLe (nI_1 0) ?_)))))
    rw [fX5_clear_l2.eq_2, a2, a4, l2, l4]
    refine sF (by decide) (sGb 1 rfl (by decide) (by decide) (sLt (sGb 1 rfl (by decide) (by decide) (sLt (sLe (nI_1 1) ?_)))))
    rw [fX5_clear_l2.eq_2]
    exact sT (by decide) rfl
  · rcases (show t = 0 ∨ t = 1 by omega) with rfl | rfl
    · refine ⟨?_, ?_⟩
      · rw [xwI_c (by decide), xwI_c (by decide), xwI_ne (by decide), xwI_c (by decide), xwI_at]
      · rw [xwI_c (by decide), xwI_ne (by decide), xwI_c (by decide), xwI_at]
    · refine ⟨?_, ?_⟩
      · rw [xwI_c (by decide), xwI_c (by decide), xwI_at]
      · rw [xwI_c (by decide), xwI_at]
  · rw [xwI_at]
  · rw [xwI_c (by omega), xwI_c (by omega), xwI_c (by omega), xwI_c (by omega), xwI_c (by omega)]
