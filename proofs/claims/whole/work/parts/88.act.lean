/-! ===== acts: what stays, what is kept ===== -/
/-- the model's side of a question -/
def MQm (M : xMem) (ρ : Nat → Nat) : Prop := (M.2.2.1 = false ∧ M.2.1 147 = lf ρ) ∧ ρ 0 = 1 ∧ RI ρ ∧ ∀ t, t < 2 → 7 ≤ ρ (1 + t) ∧ ρ (1 + t) ≤ 10
theorem TQ.mq {M : xMem} {a : xTl} {ρ : Nat → Nat} (h : TQ M a ρ) : MQm M ρ := ⟨h.2.2.2.2.1, h.2.2.2.2.2.1, h.2.2.2.1, fun _ ht => (h.sz ht).2⟩
theorem MQm.fc {M M' : xMem} {ρ : Nat → Nat} (h : MQm M ρ) (hF : Fc M M') : MQm M' ρ := ⟨⟨by rw [hF.2.2]; exact h.1.1, by rw [hF.2.1 147 (by decide)]; exact h.1.2⟩, h.2⟩
theorem MQm.tm {M : xMem} {ρ : Nat → Nat} (h : MQm M ρ) : TM M ρ := by
  unfold TM xnw
  rw [h.1.1]
  exact h.1.2
theorem MQm.rw {M : xMem} {ρ : Nat → Nat} (h : MQm M ρ) : RW ρ := h.2.2.1.1.1.1
theorem MQm.bd {M : xMem} {ρ : Nat → Nat} (h : MQm M ρ) : BD ρ := h.2.2.1.1.2.1
theorem MQm.there {M : xMem} {ρ : Nat → Nat} (h : MQm M ρ) : fX11_isThere 146 M = some (nI 1, M) := m_there h.1.2 h.2.1
theorem mq_team {M : xMem} {ρ : Nat → Nat} (h : MQm M ρ) {x : Int32} : (tmQ x → fX11_isTeam 146 x M = some (nI 1, M)) ∧ (¬ tmQ x → fX11_isTeam 146 x M = some (nI 0, M)) := by
  obtain ⟨w1, w2⟩ := m_within (x := x) (lo := 0) (hi := 1) (M := M) (by decide) (by decide)
  unfold fX11_isTeam
  rw [h.there, eBn]
  constructor
  · rintro ⟨t, ht, rfl⟩
    refine sF (by decide) (sBn (w1 ⟨t, by omega, by omega, rfl⟩) (sF (by decide) rfl))
  · intro q
    refine sF (by decide) (sBn (w2 ?_) (sT (by decide) rfl))
    rintro ⟨n, -, hn, rfl⟩
    exact q ⟨n, by omega, rfl⟩
theorem mq_one {M : xMem} {ρ : Nat → Nat} (h : MQm M ρ) {x y : Int32} : (plQ ρ x y → fX11_isOne 146 x y M = some (nI 1, M)) ∧ (¬ plQ ρ x y → fX11_isOne 146 x y M = some (nI 0, M)) := by
  unfold fX11_isOne
  constructor
  · rintro ⟨t, i, ht, hi, rfl, rfl⟩
    obtain ⟨h7, h10⟩ := h.2.2.2 t ht
    rw [(mq_team h).1 ⟨t, ht, rfl⟩, eBn]
    refine sF (by decide) (sBn (q_many h.tm ht) ?_)
    rw [eSub (by omega), eI2L (n := ρ (1 + t) - 1) (by omega)]
    exact sBn ((m_within (by decide) (by omega)).1 ⟨i, by omega, by omega, rfl⟩) (sF (by decide) rfl)
  · intro q
    by_cases z : tmQ x
    · rw [(mq_team h).1 z, eBn]
      obtain ⟨t, ht, rfl⟩ := z
      obtain ⟨h7, h10⟩ := h.2.2.2 t ht
      refine sF (by decide) (sBn (q_many h.tm ht) ?_)
      rw [eSub (by omega), eI2L (n := ρ (1 + t) - 1) (by omega)]
      refine sBn ((m_within (by decide) (by omega)).2 ?_) (sT (by decide) rfl)
      rintro ⟨i, -, hi, rfl⟩
      exact q ⟨t, i, ht, by omega, rfl, rfl⟩
    · rw [(mq_team h).2 z, eBn]
      exact sT (by decide) rfl
/-! frames -/
theorem KC.keep {M M' : xMem} {a : xTl} {hs : List xTl} {tp : List Nat} {fk fp : Int32} {ou : List Nat} (h : KC M a hs tp fk fp ou) (e : ∀ c, c < 126 → M'.1 c = M.1 c) (e2 : ∀ c, c < 126 → M'.2.1 c = M.2.1 c) (e3 : M'.2.2.2 = M.2.2.2) : KC M' a hs tp fk fp ou := by
  obtain ⟨h1, h2, h3, h4, h5, h6⟩ := h
  refine ⟨h1.keep (fun c a b => e c (by omega)) (fun c a b => e2 c (by omega)), h2.keep (fun c a b => e c (by omega)) (fun c a b => e2 c (by omega)) e3, ?_, by rw [e 0 (by decide)]; exact h4, by rw [e 0 (by decide)]; exact h5, ?_⟩
  · rw [e 1 (by decide), e 2 (by decide)]; exact h3
  · rw [e 3 (by decide), e 4 (by decide)]; exact h6
/-- the model's own scratch: what a raid lays, and the token that is read -/
def scr (j : Nat) : Prop := j ≠ 11 ∧ j ≠ 17 ∧ j ≠ 18 ∧ j ≠ 19 ∧ j ≠ 22
def Fs (M M' : xMem) : Prop := (∀ c, c ≠ 146 → c ≠ 149 → M'.1 c = M.1 c) ∧ (∀ j, ¬ scr j → M'.1 146 j = M.1 146 j) ∧ M'.2 = M.2
theorem Fs.refl (M : xMem) : Fs M M := ⟨fun _ _ _ => rfl, fun _ _ => rfl, rfl⟩
theorem Fs.trans {M M1 M2 : xMem} (h1 : Fs M M1) (h2 : Fs M1 M2) : Fs M M2 := ⟨fun c a b => (h2.1 c a b).trans (h1.1 c a b), fun j a => (h2.2.1 j a).trans (h1.2.1 j a), h2.2.2.trans h1.2.2⟩
theorem Fs.wI {M : xMem} {j : Nat} {v : Int32} (h : scr j) : Fs M (xwI M 146 j v) := by
  refine ⟨fun c a b => ?_, fun i hi => ?_, rfl⟩
  · simp only [xwI, xwR]
    exact va_at_ne a
  · exact xwI_ne (Or.inr (fun e => hi (by rw [e]; exact h)))
theorem Fs.w9 {M : xMem} {j : Nat} {v : Int32} : Fs M (xwI M 149 j v) := by
  refine ⟨fun c a b => ?_, fun i hi => ?_, rfl⟩
  · simp only [xwI, xwR]
    exact va_at_ne b
  · simp only [xwI, xwR]
    rw [va_at_ne (by decide)]
theorem KM.fs {M M' : xMem} {a : xTl} {hs : List xTl} {tp : List Nat} {fk fp : Int32} {ou : List Nat} (h : KM M a hs tp fk fp ou) (hF : Fs M M') : KM M' a hs tp fk fp ou := by
  unfold KM
  have n : ∀ j, (j = 11 ∨ j = 17 ∨ j = 18 ∨ j = 19 ∨ j = 22) → M'.1 146 j = M.1 146 j := fun j hj => hF.2.1 j (fun z => by unfold scr at z; omega)
  rw [hF.2.2, hF.1 150 (by decide) (by decide), hF.1 152 (by decide) (by decide), n 11 (by omega), n 17 (by omega), n 18 (by omega), n 19 (by omega), n 22 (by omega)]
  exact h
theorem Fs.fd {M M' : xMem} (h : Fs M M') : FdM M M' := ⟨fun c hc => h.1 c (by omega) (by omega), fun c _ => by rw [h.2.2], by rw [h.2.2]⟩
theorem Fs.mq {M M' : xMem} {ρ : Nat → Nat} (h : MQm M ρ) (hF : Fs M M') : MQm M' ρ := by
  unfold MQm
  rw [hF.2.2]
  exact h
/-! an act is kept -/
def psh (hs : List xTl) (a : xTl) : List xTl := (if hs.length = 10 then hs.tail else hs) ++ [a]
theorem psh_len {hs : List xTl} {a : xTl} (h : hs.length ≤ 10) : (psh hs a).length = actsN hs.length := by
  unfold psh actsN
  rw [List.length_append]
  by_cases q : hs.length = 10
  · rw [if_pos q, if_pos q, List.length_tail, q]
    rfl
  · rw [if_neg q, if_neg q]
    rfl
theorem psh_row {hs : List xTl} {a : xTl} {κ : Nat → Nat} (h : hs.length ≤ 10) (hk : ∀ j x, hs[j]? = some x → ∀ i, i < 3235 → κ (3235 * j + i) = rowX x i) : ∀ j x, (psh hs a)[j]? = some x → ∀ i, i < 3235 → keepR hs.length (rowX a) κ (3235 * j + i) = rowX x i := by
  intro j x hj i hi
  unfold psh at hj
  unfold keepR
  by_cases q : hs.length = 10
  · rw [if_pos q] at hj ⊢
    have hl : hs.tail.length = 9 := by rw [List.length_tail, q]
    rcases Nat.lt_or_ge j 9 with z | z
    · rw [List.getElem?_append_left (by omega), List.getElem?_tail] at hj
      unfold keepC shiftC
      rw [if_neg (by omega), if_pos (by omega), show 3235 * j + i + 3235 = 3235 * (j + 1) + i by omega]
      exact hk _ _ hj i hi
    · rw [List.getElem?_append_right (by omega), hl] at hj
      have z2 : j - 9 = 0 := by
        rcases Nat.eq_zero_or_pos (j - 9) with y | y
        · exact y
        · rw [List.getElem?_eq_none (by simp; omega)] at hj
          exact absurd hj (by simp)
      rw [z2] at hj
      have e : a = x := by simpa using hj
      unfold keepC
      rw [if_pos (by omega), show 3235 * j + i - 3235 * 9 = i by omega, e]
  · rw [if_neg q] at hj ⊢
    rcases Nat.lt_or_ge j hs.length with z | z
    · rw [List.getElem?_append_left (by omega)] at hj
      unfold keepC
      rw [if_neg (by omega)]
      exact hk _ _ hj i hi
    · rw [List.getElem?_append_right (by omega)] at hj
      have z2 : j - hs.length = 0 := by
        rcases Nat.eq_zero_or_pos (j - hs.length) with y | y
        · exact y
        · rw [List.getElem?_eq_none (by simp; omega)] at hj
          exact absurd hj (by simp)
      rw [z2] at hj
      have e : a = x := by simpa using hj
      unfold keepC
      rw [if_pos (by omega), show 3235 * j + i - 3235 * hs.length = i by omega, e]
theorem KM.keep1 {M : xMem} {a : xTl} {hs : List xTl} {tp : List Nat} {fk fp : Int32} {ou : List Nat} (h : KM M a hs tp fk fp ou) (hl : hs.length ≤ 10) : ∃ Mk, fX11_keeps 146 M = some Mk ∧ TM Mk (rowX a) ∧ (∀ c, c ≠ 146 → Mk.1 c = M.1 c) ∧ (∀ j, j ≠ 19 → Mk.1 146 j = M.1 146 j) ∧ FdM M Mk ∧ Mk.2.2 = M.2.2 ∧ xnw Mk = 147 ∧ ∀ a', KM (nwS Mk (rowX a')) a' (psh hs a) tp fk fp ou := by
  obtain ⟨h1, h2, ⟨α, h3, h3'⟩, ⟨h4, κ, h5, h6⟩, h7, h8, h9, h10⟩ := h
  refine ⟨_, e_keeps hl h2 h5 h4, ?_, ?_, ?_, ?_, rfl, ?_, ?_⟩
  · unfold TM
    have : xnw (xwI (xwQ M 151 (lf (keepR hs.length (rowX a) κ))) 146 19 (nI (actsN hs.length))) = 147 := by
      show xnw M = 147
      unfold xnw; rw [h1]; rfl
    rw [this]
    show (xwQ M 151 (lf (keepR hs.length (rowX a) κ))).2.1 147 = _
    rw [xwQ_ne (by decide)]
    exact h2
  · intro c hc
    simp only [xwI, xwR]
    exact va_at_ne hc
  · intro j hj
    exact xwI_ne (Or.inr hj)
  · refine ⟨fun c hc => ?_, fun c hc => ?_, rfl⟩
    · simp only [xwI, xwR]
      exact va_at_ne (by omega)
    · exact xwQ_ne (by omega)
  · show xnw M = 147
    unfold xnw; rw [h1]; rfl
  · intro a'
    have hx : xnw (xwI (xwQ M 151 (lf (keepR hs.length (rowX a) κ))) 146 19 (nI (actsN hs.length))) = 147 := by
      show xnw M = 147
      unfold xnw; rw [h1]; rfl
    unfold nwS
    rw [hx]
    refine ⟨h1, xwQ_at .., ⟨α, ?_, h3'⟩, ⟨?_, keepR hs.length (rowX a) κ, ?_, psh_row hl h6⟩, ?_⟩
    · rw [xwQ_ne (by decide)]
      show (xwQ M 151 _).2.1 148 = _
      rw [xwQ_ne (by decide)]
      exact h3
    · rw [xwQ_1, xwI_at, psh_len hl]
    · rw [xwQ_ne (by decide)]
      exact xwQ_at ..
    · have n : ∀ j, j ≠ 19 → (xwI (xwQ M 151 (lf (keepR hs.length (rowX a) κ))) 146 19 (nI (actsN hs.length))).1 146 j = M.1 146 j := fun j hj => xwI_ne (Or.inr hj)
      have m : ∀ c, c ≠ 146 → (xwI (xwQ M 151 (lf (keepR hs.length (rowX a) κ))) 146 19 (nI (actsN hs.length))).1 c = M.1 c := fun c hc => by
        simp only [xwI, xwR]
        exact va_at_ne hc
      rw [xwQ_1, n 11 (by decide), n 17 (by decide), n 18 (by decide), n 22 (by decide), m 150 (by decide), m 152 (by decide)]
      exact ⟨h7, h8, h9, h10⟩
/-! the class's act -/
def addT (a : xTl) (l : xLn) : xTl := (a.1, a.2.1, a.2.2 ++ [l])
theorem addT_ok {a : xTl} {l : xLn} (ha : tdOK a) (hl : okL l (rowT a)) : tdOK (addT a l) ∧ rowT (addT a l) = appR l (rowT a) ∧ a.2.2.length < 280 ∧ dropT (addT a l) = a := by
  have h1 : tdOK (addT a l) := ⟨ha.1, okC_app.2 ⟨ha.2, hl⟩⟩
  refine ⟨h1, rowF_app, ?_, ?_⟩
  · have := (td_len h1).2
    unfold addT at this
    rw [List.length_append] at this
    simp at this
    omega
  · unfold dropT addT
    simp
theorem KC.act {M : xMem} {a : xTl} {hs : List xTl} {tp : List Nat} {fk fp : Int32} {ou : List Nat} {l : xLn} (h : KC M a hs tp fk fp ou) (hM : MR M (rowT a)) (ha : tdOK a) (hl : okL l (rowT a)) : ∃ M', fX10_act 0 (lN (codL l)) M = some M' ∧ KC M' (addT a l) (psh hs a) tp fk fp ou ∧ MR M' (rowT (addT a l)) ∧ Fc M M' ∧ ∀ r s b tk tl, l = .inl (r, s, b, tk, tl) → M'.1 12 5 = nI (ownR r s b tk tl (rowT a)) := by
  obtain ⟨t1, t2, t3, t4⟩ := addT_ok ha hl
  obtain ⟨h1, h2, h3, h4, h5, h6⟩ := h
  have hI := (RI.beg ha.1).row ha.2
  obtain ⟨M1, f1, a1, k1, k2, k3⟩ := c_noteLine (b := addT a l) h2 (Or.inl ha) t4.symm (by unfold addT; simp)
  obtain ⟨M2, f2, a2, k4, k5⟩ := t_addLine (l := l) (h1.1.keep (M' := M1) (fun c p q => k1 c (by omega) (by omega)) (by rw [k2])) t3
  have hM2 : MR M2 (rowT a) := hM.keep (fun c p q => by rw [k5 c (by omega), k1 c (by omega) (by omega)]) (by rw [k4.2.1 42 (by decide), k2])
  obtain ⟨M3, f3, a3, k6, k7⟩ := m_apply hM2 hI hl
  have lo : ∀ c, c < 6 → M3.1 c = M.1 c := fun c hc => by rw [k6.1 c (by omega), k5 c (by omega), k1 c (by omega) (by omega)]
  have hMR : MR M3 (rowT (addT a l)) := by rw [t2]; exact a3
  refine ⟨M3, ?_, ⟨⟨a2.fm k6, Or.inl ⟨t1, hMR⟩⟩, ?_, ?_, ?_, ?_, ?_⟩, hMR, ?_, k7⟩
  · unfold fX10_act
    rw [x04, x02, m50, f1, eBv, f2, eBv, f3, eBv]
  · exact a1.keep (fun c p q => by rw [k6.1 c (by omega), k5 c (by omega)]) (fun c p q => by rw [k6.2.1 c (by omega), k4.2.1 c (by omega)]) (by rw [k6.2.2, k4.2.2])
  · rw [lo 1 (by decide), lo 2 (by decide)]; exact h3
  · rw [lo 0 (by decide)]; exact h4
  · rw [lo 0 (by decide)]; exact h5
  · rw [lo 3 (by decide), lo 4 (by decide)]; exact h6
  · refine ⟨fun c hc => ?_, fun c hc => ?_, ?_⟩
    · rw [k6.1 c (by omega), k5 c (by omega), k1 c (by omega) (by omega)]
    · rw [k6.2.1 c (by omega), k4.2.1 c (by omega), k2]
    · rw [k6.2.2, k4.2.2, k3]
