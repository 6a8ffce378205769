/-! ===== the class: its acts ===== -/
theorem ac_tab : xrf 63 0 = 64 ∧ xrf 63 1 = 65 ∧ xln 64 = 10 ∧ xln 65 = 10 := by decide +kernel
theorem vb0 : vp_nar .boolean (nI 0) = nI 0 := by decide +kernel
theorem vb1 : vp_nar .boolean (nI 1) = nI 1 := by decide +kernel
def xpm (M : xMem) (j : Nat) : Nat := M.2.2.2 j % 10
theorem xfo_pm (M : xMem) (j : Nat) : xfo M j = 66 + 6 * xpm M j := rfl
theorem xpm_lt (M : xMem) (j : Nat) : xpm M j < 10 := Nat.mod_lt _ (by decide)
/-- the latest acts: hs are the tales that were ahead of them, a is the tale now -/
def AcR (M : xMem) (hs : List xTl) (a : xTl) : Prop :=
  M.1 63 2 = nI hs.length ∧ hs.length ≤ 10 ∧ (∀ i j, i < 10 → j < 10 → xpm M i = xpm M j → i = j) ∧ (∀ x ∈ hs, tdOK x ∨ noT x) ∧
  ∀ j x y, (hs ++ [a])[j]? = some x → (hs ++ [a])[j + 1]? = some y → (M.1 65 j = nI 1 ∧ TaR M (xfo M j) x) ∨ (M.1 65 j = nI 0 ∧ x = dropT y ∧ y.2.2 ≠ [])
theorem AcR.keep {M M' : xMem} {hs : List xTl} {a : xTl} (h : AcR M hs a) (e : ∀ c, 63 ≤ c → c < 126 → M'.1 c = M.1 c) (e2 : ∀ c, 63 ≤ c → c < 126 → M'.2.1 c = M.2.1 c) (e3 : M'.2.2.2 = M.2.2.2) : AcR M' hs a := by
  obtain ⟨a1, a2, a3, a4, a5⟩ := h
  have ep : ∀ j, xpm M' j = xpm M j := fun j => by unfold xpm; rw [e3]
  refine ⟨by rw [e 63 (by decide) (by decide)]; exact a1, a2, fun i j hi hj q => a3 i j hi hj (by rw [← ep, ← ep]; exact q), a4, fun j x y hx hy => ?_⟩
  rw [e 65 (by decide) (by decide)]
  rcases a5 j x y hx hy with ⟨q1, q2⟩ | q
  · refine Or.inl ⟨q1, ?_⟩
    have hp := xpm_lt M j
    rw [xfo_pm, ep, ← xfo_pm]
    rw [xfo_pm] at q2 ⊢
    exact q2.keep (fun c h1 h2 => e c (by omega) (by omega)) (e2 _ (by omega) (by omega))
  · exact Or.inr q
theorem xkfoT (M : xMem) (j : Nat) : xkd (xfo M j) = 9 := xkfo M j
/-- room for one more act -/
theorem c_makeRoom {M : xMem} {hs : List xTl} {a : xTl} (h : AcR M hs a) : ∃ M' hs', fX0_makeRoom 63 M = some M' ∧ AcR M' hs' a ∧ hs'.length < 10 ∧ hs' = (if hs.length = 10 then hs.tail else hs) ∧ (∀ c, c ≠ 63 → c ≠ 65 → M'.1 c = M.1 c) ∧ M'.2.1 = M.2.1 ∧ M'.2.2.1 = M.2.2.1 := by
  obtain ⟨t0, t1, l0, l1⟩ := ac_tab
  obtain ⟨a1, a2, a3, a4, a5⟩ := id h
  by_cases q : hs.length = 10
  · have hd : ∀ p, p < 10 → (66 + 6 * p - 66) / 6 = p := fun p _ => by omega
    have key : ∀ m, m ≤ 9 → ∀ (p : Nat) (K : Int32 → xMem → Option xMem), ∃ M', (∀ j, xpm M' j = if j < m then xpm M (j + 1) else xpm M j) ∧ (∀ j, M'.1 65 j = if j < m then M.1 65 (j + 1) else M.1 65 j) ∧ (∀ c, c ≠ 65 → M'.1 c = M.1 c) ∧ M'.2.1 = M.2.1 ∧ M'.2.2.1 = M.2.2.1 ∧ ∀ n, fX0_makeRoom_l19 63 p K (n + m) (nI 1) M = fX0_makeRoom_l19 63 p K n (nI (1 + m)) M' := by
      intro m
      induction m with
      | zero => intro _ p K; exact ⟨M, fun j => by rw [if_neg (by omega)], fun j => by rw [if_neg (by omega)], fun _ _ => rfl, rfl, rfl, fun n => rfl⟩
      | succ m ih =>
        intro hm p K
        obtain ⟨M1, b1, b2, b3, b4, b5, b6⟩ := ih (by omega) p K
        have hp1 := xpm_lt M1 (1 + m)
        have hbool : ∃ v, v < 2 ∧ M1.1 65 (1 + m) = nI v := by
          have hg : ∃ x, (hs ++ [a])[m + 1]? = some x := ⟨(hs ++ [a])[m + 1]'(by simp; omega), List.getElem?_eq_getElem _⟩
          have hg2 : ∃ x, (hs ++ [a])[m + 2]? = some x := ⟨(hs ++ [a])[m + 2]'(by simp; omega), List.getElem?_eq_getElem _⟩
          obtain ⟨x, hx⟩ := hg
          obtain ⟨y, hy⟩ := hg2
          rw [b2, if_neg (by omega), Nat.add_comm]
          rcases a5 (m + 1) x y hx hy with z | z
          · exact ⟨1, by decide, z.1⟩
          · exact ⟨0, by decide, z.1⟩
        obtain ⟨v, hv, hv2⟩ := hbool
        have hnar : vp_nar .boolean (nI v) = nI v := by
          rcases (show v = 0 ∨ v = 1 by omega) with rfl | rfl
          · exact vb0
          · exact vb1
        generalize hM2 : xwF M1 m (xpm M1 (1 + m)) = M2
        refine ⟨xwI M2 65 m (nI v), fun j => ?_, fun j => ?_, fun c hc => ?_, ?_, ?_, fun n => ?_⟩
        · have e : xpm (xwI M2 65 m (nI v)) j = if j = m then xpm M1 (1 + m) else xpm M1 j := by
            rw [← hM2]
            unfold xpm xwI xwR xwF va_up
            simp only
            by_cases z : j = m
            · rw [if_pos z, if_pos z, Nat.mod_mod]
            · rw [if_neg z, if_neg z]
          rw [e]
          by_cases z : j = m
          · rw [if_pos z, if_pos (by omega), b1, if_neg (by omega), z, Nat.add_comm]
          · rw [if_neg z, b1]
            by_cases z2 : j < m
            · rw [if_pos z2, if_pos (by omega)]
            · rw [if_neg z2, if_neg (by omega)]
        · have e2 : M2.1 = M1.1 := by rw [← hM2]; rfl
          by_cases z : j = m
          · rw [z, xwI_at, if_pos (by omega), ← hv2, b2, if_neg (by omega), Nat.add_comm]
          · rw [xwI_ne (Or.inr z), e2, b2]
            by_cases z2 : j < m
            · rw [if_pos z2, if_pos (by omega)]
            · rw [if_neg z2, if_neg (by omega)]
        · have e2 : M2.1 = M1.1 := by rw [← hM2]; rfl
          rw [xwI_c hc, e2]; exact b3 c hc
        · rw [← hM2]; exact b4
        · rw [← hM2]; exact b5
        · have e2 : M2.1 = M1.1 := by rw [← hM2]; rfl
          rw [show n + (m + 1) = n + 1 + m by omega, b6 (n + 1), fX0_makeRoom_l19.eq_2, t0, t1, l0, l1]
          refine sF (by rw [eLe (by decide) (by omega)]; omega) (sGb (1 + m) rfl (by omega) (by decide) ?_)
          rw [eSub (by omega), show 1 + m - 1 = m by omega]
          refine sGb m rfl (by omega) (by decide) ?_
          rw [eCl (by omega), eCl (by omega), xfo_pm, hd _ hp1, Nat.mod_eq_of_lt hp1]
          refine sGd rfl (sLe hM2 (sGb (1 + m) rfl (by omega) (by decide) (sGb m rfl (by omega) (by decide) ?_)))
          rw [e2, hv2, hnar]
          refine sLt (sLe (b := nI (1 + (m + 1))) (nI_1 (1 + m)) rfl)
    have hp0 := xpm_lt M 0
    obtain ⟨M1, b1, b2, b3, b4, b5, b6⟩ := key 9 (Nat.le_refl _) (xfo M (Int32.toNatClampNeg (nI 0))) (fun (v10 : Int32) (M11 : xMem) => xGb (nI 9) (xln (xrf 63 0)) (xGd (66 + 6 * (((xfo M (Int32.toNatClampNeg (nI 0))) - 66) / 6 % 10) = (xfo M (Int32.toNatClampNeg (nI 0)))) (xLt (xwF M11 (Int32.toNatClampNeg (nI 9)) (((xfo M (Int32.toNatClampNeg (nI 0))) - 66) / 6)) fun M14 => xLt (xwI M14 63 2 (nI 9)) fun M15 => some M15)))
    generalize hM2 : xwF M1 9 (xpm M 0) = M2
    have e2 : M2.1 = M1.1 := by rw [← hM2]; rfl
    have pm : ∀ j, xpm (xwI M2 63 2 (nI 9)) j = if j = 9 then xpm M 0 else if j < 9 then xpm M (j + 1) else xpm M j := fun j => by
      have e : xpm (xwI M2 63 2 (nI 9)) j = if j = 9 then xpm M 0 else xpm M1 j := by
        rw [← hM2]
        unfold xpm xwI xwR xwF va_up
        simp only
        by_cases z : j = 9
        · rw [if_pos z, if_pos z, Nat.mod_mod]
        · rw [if_neg z, if_neg z]
      rw [e, b1]
    have tx : ∀ j, (xwI M2 63 2 (nI 9)).1 65 j = if j < 9 then M.1 65 (j + 1) else M.1 65 j := fun j => by rw [xwI_c (by decide), e2, b2]
    have nc : ∀ c, c ≠ 63 → c ≠ 65 → (xwI M2 63 2 (nI 9)).1 c = M.1 c := fun c h1 h2 => by rw [xwI_c h1, e2]; exact b3 c h2
    have tail_len : hs.tail.length = 9 := by rw [List.length_tail]; omega
    obtain ⟨x0, hs0, hhs⟩ : ∃ x0 hs0, hs = x0 :: hs0 := by
      cases hs with
      | nil => simp at q
      | cons x0 hs0 => exact ⟨x0, hs0, rfl⟩
    refine ⟨xwI M2 63 2 (nI 9), hs.tail, ?_, ⟨by rw [xwI_at, tail_len], by omega, fun i j hi hj z => ?_, fun x hx => a4 x (List.mem_of_mem_tail hx), fun j x y hx hy => ?_⟩, by omega, by rw [if_pos q], nc, ?_, ?_⟩
    · unfold fX0_makeRoom
      rw [a1, q]
      refine sT (by decide) ?_
      rw [t0, l0]
      refine sGb 0 rfl (by decide) (by decide) ?_
      have e : xFU = 39990 + 1 + 9 := by decide
      have b7 := b6 (39990 + 1)
      rw [← e] at b7
      rw [t0, l0] at b7
      rw [b7, fX0_makeRoom_l19.eq_2]
      refine sT (by decide) (sGb 9 rfl (by decide) (by decide) ?_)
      rw [eCl (show 0 < 2147483648 by decide), xfo_pm, hd _ hp0, Nat.mod_eq_of_lt hp0]
      refine sGd rfl ?_
      rw [eCl (show 9 < 2147483648 by decide)]
      exact sLe hM2 rfl
    · rw [pm, pm] at z
      by_cases i9 : i = 9 <;> by_cases j9 : j = 9
      · omega
      · rw [if_pos i9, if_neg j9, if_pos (by omega)] at z
        have := a3 0 (j + 1) (by decide) (by omega) z
        omega
      · rw [if_neg i9, if_pos j9, if_pos (by omega)] at z
        have := a3 (i + 1) 0 (by omega) (by decide) z
        omega
      · rw [if_neg i9, if_neg j9, if_pos (by omega), if_pos (by omega)] at z
        have := a3 (i + 1) (j + 1) (by omega) (by omega) z
        omega
    · have hlt : j + 1 < 10 := by
        have := (List.getElem?_eq_some_iff.mp hy).1
        rw [List.length_append, tail_len] at this
        simpa using this
      have hx' : (hs ++ [a])[j + 1]? = some x := by rw [hhs]; rw [hhs] at hx; simpa using hx
      have hy' : (hs ++ [a])[j + 1 + 1]? = some y := by rw [hhs]; rw [hhs] at hy; simpa using hy
      have hxf : xfo (xwI M2 63 2 (nI 9)) j = xfo M (j + 1) := by rw [xfo_pm, xfo_pm, pm, if_neg (by omega), if_pos (by omega)]
      rw [tx, if_pos (by omega), hxf]
      rcases a5 (j + 1) x y hx' hy' with ⟨z1, z2⟩ | z
      · have hp := xpm_lt M (j + 1)
        refine Or.inl ⟨z1, ?_⟩
        rw [xfo_pm] at z2 ⊢
        exact z2.keep (fun c h1 h2 => nc c (by omega) (by omega)) (by rw [← hM2]; show M1.2.1 _ = _; rw [b4])
      · exact Or.inr z
    · rw [← hM2]; exact b4
    · rw [← hM2]; exact b5
  · refine ⟨M, hs, ?_, h, by omega, by rw [if_neg q], fun _ _ _ => rfl, rfl, rfl⟩
    unfold fX0_makeRoom
    rw [a1]
    exact sF (by rw [eLe (by decide) (by omega)]; omega) rfl
theorem get_app_lt {α : Type} {l m : List α} {j : Nat} (h : j < l.length) : (l ++ m)[j]? = l[j]? := List.getElem?_append_left h
theorem get_last {α : Type} {l : List α} {x : α} : (l ++ [x])[l.length]? = some x := by
  rw [List.getElem?_append_right (Nat.le_refl _)]; simp
/-- the list behind one more act -/
theorem AcR_push {hs : List xTl} {a b : xTl} {j : Nat} {x y : xTl} (hx : ((hs ++ [a]) ++ [b])[j]? = some x) (hy : ((hs ++ [a]) ++ [b])[j + 1]? = some y) : (j < hs.length ∧ (hs ++ [a])[j]? = some x ∧ (hs ++ [a])[j + 1]? = some y) ∨ (j = hs.length ∧ x = a ∧ y = b) := by
  have hl : (hs ++ [a]).length = hs.length + 1 := by simp
  have hlt := (List.getElem?_eq_some_iff.mp hy).1
  rw [List.length_append, hl] at hlt
  simp only [List.length_cons, List.length_nil] at hlt
  rw [get_app_lt (by omega)] at hx
  by_cases q : j = hs.length
  · subst q
    rw [get_last] at hx
    rw [← hl, get_last] at hy
    cases hx; cases hy
    exact Or.inr ⟨rfl, rfl, rfl⟩
  · rw [get_app_lt (by omega)] at hy
    exact Or.inl ⟨by omega, hx, hy⟩
theorem c_noteLine {M : xMem} {hs : List xTl} {a b : xTl} (h : AcR M hs a) (ha : tdOK a ∨ noT a) (hb : a = dropT b) (hb2 : b.2.2 ≠ []) : ∃ M', fX0_noteLine 63 M = some M' ∧ AcR M' ((if hs.length = 10 then hs.tail else hs) ++ [a]) b ∧ (∀ c, c ≠ 63 → c ≠ 65 → M'.1 c = M.1 c) ∧ M'.2.1 = M.2.1 ∧ M'.2.2.1 = M.2.2.1 := by
  obtain ⟨t0, t1, l0, l1⟩ := ac_tab
  obtain ⟨M1, hs', f1, A1, len1, e1, n1, q1, w1⟩ := c_makeRoom h
  rw [← e1]
  obtain ⟨a1, a2, a3, a4, a5⟩ := A1
  generalize hM2 : xwI M1 65 hs'.length (nI 0) = M2
  generalize hM3 : xwI M2 63 2 (nI (hs'.length + 1)) = M3
  have n3 : ∀ c, c ≠ 63 → c ≠ 65 → M3.1 c = M1.1 c := fun c h1 h2 => by rw [← hM3, xwI_c h1, ← hM2, xwI_c h2]
  have q3 : M3.2 = M1.2 := by rw [← hM3, ← hM2]; rfl
  have pm : ∀ j, xpm M3 j = xpm M1 j := fun j => by unfold xpm; rw [q3]
  have tx : ∀ j, M3.1 65 j = if j = hs'.length then nI 0 else M1.1 65 j := fun j => by
    rw [← hM3, xwI_c (by decide), ← hM2]
    by_cases z : j = hs'.length
    · rw [if_pos z, z, xwI_at]
    · rw [if_neg z, xwI_ne (Or.inr z)]
  refine ⟨M3, ?_, ⟨?_, ?_, fun i j hi hj z => a3 i j hi hj (by rw [← pm, ← pm]; exact z), fun x hx => ?_, fun j x y hx hy => ?_⟩, fun c h1 h2 => by rw [n3 c h1 h2]; exact n1 c h1 h2, by rw [q3]; exact q1, by rw [q3]; exact w1⟩
  · unfold fX0_noteLine
    refine sBv f1 ?_
    rw [a1, t1, l1]
    refine sGb _ rfl len1 (by decide) ?_
    rw [eCl (by omega), vb0]
    refine sLe hM2 ?_
    have e : M2.1 63 2 = nI hs'.length := by rw [← hM2, xwI_c (by decide)]; exact a1
    rw [e, nI_add]
    exact sLe hM3 rfl
  · rw [← hM3, xwI_at, List.length_append]; rfl
  · rw [List.length_append]; simp only [List.length_cons, List.length_nil]; omega
  · rcases List.mem_append.mp hx with z | z
    · exact a4 x z
    · rw [List.mem_singleton.mp z]; exact ha
  · rw [tx]
    rcases AcR_push hx hy with ⟨z, z1, z2⟩ | ⟨z, z1, z2⟩
    · rw [if_neg (by omega)]
      rcases a5 j x y z1 z2 with ⟨y1, y2⟩ | y
      · have hp := xpm_lt M1 j
        refine Or.inl ⟨y1, ?_⟩
        rw [xfo_pm] at y2
        rw [xfo_pm, pm]
        exact y2.keep (fun c h1 h2 => n3 c (by omega) (by omega)) (by rw [q3])
      · exact Or.inr y
    · rw [if_pos z, z1, z2]
      exact Or.inr ⟨rfl, hb, hb2⟩
theorem ok_len {a : xTl} (h : tdOK a ∨ noT a) : (∀ t, t < 2 → (a.2.1 t).length ≤ 10) ∧ a.2.2.length ≤ 280 := by
  rcases h with h | h
  · exact ⟨fun t ht => (h.1.1 t ht).2.1.1, (td_len h).2⟩
  · exact ⟨fun t ht => by rw [(h.1 t ht).2]; simp, by rw [h.2]; simp⟩
theorem c_noteText {M : xMem} {hs : List xTl} {a b : xTl} (h : AcR M hs a) (ha : tdOK a ∨ noT a) (hF : TaR M 126 a) : ∃ M', fX0_noteText 63 126 M = some M' ∧ AcR M' ((if hs.length = 10 then hs.tail else hs) ++ [a]) b ∧ (∀ c, c < 63 ∨ 126 ≤ c → M'.1 c = M.1 c) ∧ (∀ c, c < 63 ∨ 126 ≤ c → M'.2.1 c = M.2.1 c) ∧ M'.2.2.1 = M.2.2.1 := by
  obtain ⟨t0, t1, l0, l1⟩ := ac_tab
  obtain ⟨M1, hs', f1, A1, len1, e1, n1, q1, w1⟩ := c_makeRoom h
  rw [← e1]
  obtain ⟨a1, a2, a3, a4, a5⟩ := A1
  have hp := xpm_lt M1 hs'.length
  have F1 : TaR M1 126 a := hF.keep (fun c h1 h2 => n1 c (by omega) (by omega)) (by rw [q1])
  obtain ⟨L1, L2⟩ := ok_len ha
  have hxf := xfo_pm M1 hs'.length
  obtain ⟨M2, f2, T2, F2⟩ := t_copy (xkfoT M1 hs'.length) kd126 (by omega) F1 L1 L2
  generalize hM3 : xwI M2 65 hs'.length (nI 1) = M3
  generalize hM4 : xwI M3 63 2 (nI (hs'.length + 1)) = M4
  have n4 : ∀ c, c ≠ 63 → c ≠ 65 → M4.1 c = M2.1 c := fun c h1 h2 => by rw [← hM4, xwI_c h1, ← hM3, xwI_c h2]
  have q4 : M4.2 = M2.2 := by rw [← hM4, ← hM3]; rfl
  have pm : ∀ j, xpm M4 j = xpm M1 j := fun j => by unfold xpm; rw [q4, F2.2.2]
  have xf : ∀ j, xfo M4 j = xfo M1 j := fun j => by rw [xfo_pm, xfo_pm, pm]
  have tx : ∀ j, M4.1 65 j = if j = hs'.length then nI 1 else M1.1 65 j := fun j => by
    rw [← hM4, xwI_c (by decide), ← hM3]
    by_cases z : j = hs'.length
    · rw [if_pos z, z, xwI_at]
    · rw [if_neg z, xwI_ne (Or.inr z), F2.1 65 (by omega)]
  have m2 : M2.1 63 2 = nI hs'.length := by rw [F2.1 63 (by omega)]; exact a1
  refine ⟨M4, ?_, ⟨?_, ?_, fun i j hi hj z => a3 i j hi hj (by rw [← pm, ← pm]; exact z), fun x hx => ?_, fun j x y hx hy => ?_⟩, fun c hc => ?_, fun c hc => ?_, ?_⟩
  · unfold fX0_noteText
    refine sBv f1 ?_
    rw [a1, t0, l0]
    refine sGb _ rfl len1 (by decide) ?_
    rw [eCl (by omega)]
    refine sBv f2 ?_
    rw [m2, t1, l1]
    refine sGb _ rfl len1 (by decide) ?_
    rw [eCl (by omega), vb1]
    refine sLe hM3 ?_
    have e : M3.1 63 2 = nI hs'.length := by rw [← hM3, xwI_c (by decide)]; exact m2
    rw [e, nI_add]
    exact sLe hM4 rfl
  · rw [← hM4, xwI_at, List.length_append]; rfl
  · rw [List.length_append]; simp only [List.length_cons, List.length_nil]; omega
  · rcases List.mem_append.mp hx with z | z
    · exact a4 x z
    · rw [List.mem_singleton.mp z]; exact ha
  · rw [tx, xf]
    rcases AcR_push hx hy with ⟨z, z1, z2⟩ | ⟨z, z1, z2⟩
    · rw [if_neg (by omega)]
      rcases a5 j x y z1 z2 with ⟨y1, y2⟩ | y
      · have hpj := xpm_lt M1 j
        have hne : xpm M1 j ≠ xpm M1 hs'.length := fun q => by
          have := a3 j hs'.length (by omega) (by omega) q
          omega
        refine Or.inl ⟨y1, ?_⟩
        have y3 := y2.ft F2 (xkfoT M1 _) (xkfoT M1 _) (by rw [xfo_pm, xfo_pm]; omega)
        have hxj := xfo_pm M1 j
        exact y3.keep (fun c h1 h2 => n4 c (by omega) (by omega)) (by rw [q4])
      · exact Or.inr y
    · rw [if_pos z, z1, z]
      refine Or.inl ⟨rfl, T2.keep (fun c h1 h2 => n4 c (by omega) (by omega)) (by rw [q4])⟩
  · rw [n4 c (by omega) (by omega), F2.1 c (by omega)]; exact n1 c (by omega) (by omega)
  · rw [q4, F2.2.1 c (by omega), q1]
  · rw [q4, F2.2.2]; exact w1
