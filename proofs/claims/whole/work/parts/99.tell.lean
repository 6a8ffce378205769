/-! ===== records speak of players that there are ===== -/
def RX (ρ : Nat → Nat) : Prop := ∀ k, k < ρ 25 → rq ρ k 1 < ρ (1 + rq ρ k 0) ∧ (rq ρ k 2 = 3 → rq ρ k 5 < ρ (1 + (1 - rq ρ k 0))) ∧ (rq ρ k 2 = 1 → ∀ i, i < 10 → rq ρ k 5 / 2 ^ i % 2 = 1 → i < ρ (1 + (1 - rq ρ k 0)))
theorem RX.of {ρ σ : Nat → Nat} (h : RX ρ) (hr : ∀ k, k < ρ 25 → rq ρ k 0 < 2) (e25 : σ 25 ≤ ρ 25) (er : ∀ k, k < σ 25 → ∀ w, w < 6 → rq σ k w = rq ρ k w) (es : ∀ t, t < 2 → σ (1 + t) = ρ (1 + t)) : RX σ := by
  intro k hk
  have e := er k hk
  have h0 := hr k (by omega)
  rw [e 0 (by decide), e 1 (by decide), e 2 (by decide), e 5 (by decide), es _ h0, es (1 - rq ρ k 0) (by omega)]
  exact h k (by omega)
theorem RX.app {ρ : Nat → Nat} {l : xLn} (h : RI ρ) (hx : RX ρ) (hl : okL l ρ) : RX (appR l ρ) := by
  have hT := h.1.1
  have h28 := hT.1.1
  have hc : ∀ k, k < ρ 25 → rq ρ k 0 < 2 := fun k hk => by
    obtain ⟨tk, tl, q⟩ := h.1.2.2.1 k hk
    exact q.1
  rcases l with ⟨r, s, b, tk, tl⟩ | ⟨k, x, y, z⟩
  · obtain ⟨⟨hm, hr, -⟩, h25, h3⟩ := hl
    show RX (raidsR r s b tk tl ρ)
    have es : ∀ t, t < 2 → raidsR r s b tk tl ρ (1 + t) = ρ (1 + t) := fun t ht => raids_lo hT hm hr (by omega) (by omega) (by omega) (by omega) (by omega)
    intro k hk
    rw [raids_25] at hk
    by_cases q : k < ρ 25
    · have h0 := hc k q
      have e : ∀ w, w < 6 → rq (raidsR r s b tk tl ρ) k w = rq ρ k w := fun w hw => rq_old hT hm hr q (by omega)
      rw [e 0 (by decide), e 1 (by decide), e 2 (by decide), e 5 (by decide), es _ h0, es (1 - rq ρ k 0) (by omega)]
      exact hx k q
    · have ek : k = ρ 25 := by omega
      subst ek
      have n : ∀ w, w < 15 → _ := fun w hw => rq_new (b := b) hT hm hr hw
      have n0 : rq (raidsR r s b tk tl ρ) (ρ 25) 0 = ρ 28 := n 0 (by decide)
      have n1 : rq (raidsR r s b tk tl ρ) (ρ 25) 1 = r := n 1 (by decide)
      have n2 : rq (raidsR r s b tk tl ρ) (ρ 25) 2 = s := n 2 (by decide)
      have n5 : rq (raidsR r s b tk tl ρ) (ρ 25) 5 = setV s tk tl := n 5 (by decide)
      rw [n0, n1, n2, n5, es _ h28, es (1 - ρ 28) (by omega)]
      refine ⟨hm.1, fun q3 => ?_, fun q1 i hi hb => ?_⟩
      · unfold setV
        rw [if_pos q3]
        exact h3 q3
      · unfold setV at hb
        rw [if_neg (by omega), if_pos q1, setR_bit] at hb
        exact (hm.2.2.2.1 i (ite_1 hb)).1
  · obtain ⟨h26, ⟨rfl, x1, x2, x3, x4⟩ | ⟨rfl, x1, x2, x3, x4, x5, x6⟩ | ⟨rfl, x1, x2, x3, x4⟩ | ⟨rfl, x1, x2, x3, x4⟩⟩ := hl
    · show RX (cardR x y z ρ)
      have hm := hT.1.m x1
      have el : ∀ j, j < 36 → j ≠ 26 → j ≠ 29 → cardR x y z ρ j = ρ j := fun j a1 a2 a3 => by
        rw [card_lo hT.1 x1 (by omega) (by omega) (by omega)]
        unfold lineR
        rw [va_at_ne (by omega), va_at_ne (by omega)]
      refine hx.of hc (by rw [el 25 (by decide) (by decide) (by decide)]; exact Nat.le_refl _) (fun k _ w hw => ?_) (fun t ht => el _ (by omega) (by omega) (by omega))
      rw [card_rq hT.1 x1 (by omega) (by omega), if_neg (by omega)]
      rfl
    · show RX (changeR x y z ρ)
      have hm := hT.1.m x1
      have en : ∀ j, j < 26 ∨ 235 ≤ j → changeR x y z ρ j = ρ j := fun j a1 => by
        unfold changeR lineR addR
        rw [va_at_ne (by omega), va_at_ne (by omega), va_at_ne (by omega), va_at_ne (by omega), va_at_ne (by omega)]
      exact hx.of hc (by rw [en 25 (by omega)]; exact Nat.le_refl _) (fun k _ w hw => en _ (by omega)) (fun t ht => en _ (by omega))
    · show RX (halfR ρ)
      have en : ∀ j, j < 26 ∨ 235 ≤ j → halfR ρ j = ρ j := fun j a1 => by
        unfold halfR lineR
        rw [va_at_ne (by omega), va_at_ne (by omega), va_at_ne (by omega), va_at_ne (by omega), va_at_ne (by omega), va_at_ne (by omega), va_at_ne (by omega), va_at_ne (by omega)]
      exact hx.of hc (by rw [en 25 (by omega)]; exact Nat.le_refl _) (fun k _ w hw => en _ (by omega)) (fun t ht => en _ (by omega))
    · show RX (reviewR x y ρ)
      have e25 := (rev_25 (won := y) h x1 x4).2
      have en : ∀ j, (j < 25 ∨ 235 ≤ j) → reviewR x y ρ j = ρ j := fun j a1 => by
        unfold reviewR lineR
        rw [va_at_ne (by omega), va_at_ne (by omega)]
        split
        · unfold coreR
          rw [if_neg (by omega)]
        · rw [va_at_ne (by omega)]
      refine hx.of hc ?_ (fun k _ w hw => en _ (by omega)) (fun t ht => en _ (by omega))
      rw [e25]
      split <;> omega
theorem RX.row : ∀ {ls : List xLn} {ρ : Nat → Nat}, RI ρ → RX ρ → okC ρ ls → RX (rowF ρ ls)
  | [], _, _, h, _ => h
  | l :: ls, ρ, hI, h, hc => RX.row (ls := ls) (hI.app hc.1) (h.app hI hc.1) hc.2
theorem RX.td {a : xTl} (h : tdOK a) : RX (rowT a) := by
  refine RX.row (RI.beg h.1) (fun k hk => ?_) h.2
  rw [beg_0 (by decide) (by decide)] at hk
  omega
/-! ===== tell: the bytes of a raid ===== -/
theorem byO_n {x : Nat} (h : x < 256) : byO (nI x) = x := by
  unfold byO
  rw [pk_tn (by omega)]
  omega
def sB (v : Nat) : List Nat := (if v < 10 then [] else [48 + v / 10]) ++ [48 + v % 10]
def txt (i : Nat) : List Nat := xsB.getD i []
theorem txt_lt : ∀ i, i < 30 → ∀ c ∈ txt i, c < 128 := by decide +kernel
theorem txt_xsc {i j c : Nat} (h : (txt i)[j]? = some c) : xsc i j = nI c := by
  unfold xsc
  have : (xsB.getD i []).getD j 0 = c := by
    rw [List.getD_eq_getElem?_getD]
    show ((txt i)[j]?).getD 0 = c
    rw [h]
    rfl
  rw [this]
theorem RwR.len {M : xMem} {p : Nat} {l : List Nat} (h : RwR M p l) : M.1 p 1 = nI l.length := h.1
def F34 (c : Nat) : Prop := c = 3 ∨ c = 4
theorem l4' : xln (3 + 1) = 2064 := l4
theorem c_put3 {M : xMem} {l : List Nat} {x : Nat} (h : RwR M 3 l) (hl : l.length < 2064) (hx : x < 256) : ∃ M', fX6_put 3 (nI x) M = some M' ∧ RwR M' 3 (l ++ [x]) ∧ Fi F34 M M' := by
  obtain ⟨M', f, r, F⟩ := c_put (x := nI x) (Or.inr rfl) h (by rw [l4']; exact hl)
  rw [byO_n hx] at r
  exact ⟨M', f, r, F⟩
theorem c_words {M : xMem} {l : List Nat} {i : Nat} (hi : i < 30) (h : RwR M 3 l) (hl : l.length + (txt i).length ≤ 2064) : ∃ M', fX6_putWords 3 i M = some M' ∧ RwR M' 3 (l ++ txt i) ∧ Fi F34 M M' := by
  have hsn : xsn i = (txt i).length := rfl
  obtain ⟨M', n, ⟨i1, i2⟩, e⟩ := loopE (fun n k M => fX6_putWords_l2 3 i (fun (v4 : Int32) (M5 : xMem) => some M5) n (nI k) M) (fun k M' => RwR M' 3 (l ++ (txt i).take k) ∧ Fi F34 M M') (txt i).length (M := M) (by omega) ⟨by simpa using h, Fi.refl _ M⟩ (fun n k M1 hk hI => by
    obtain ⟨i1, i2⟩ := hI
    have hg := List.getElem?_eq_getElem hk
    have hc := txt_lt i hi _ (List.mem_of_getElem? hg)
    obtain ⟨M2, f2, r2, F2⟩ := c_put3 (x := (txt i)[k]) i1 (by rw [List.length_append, List.length_take]; omega) (by omega)
    refine ⟨M2, ?_, ?_, i2.trans F2⟩
    · simp only [fX6_putWords_l2.eq_2]
      rw [hsn]
      refine sF (by rw [eLe (by omega) (by omega)]; omega) (sGb k rfl hk (by omega) ?_)
      rw [eCl (by omega), txt_xsc hg]
      exact sBv f2 (sLe (nI_1 k) rfl)
    · have e5 : (txt i).take (k + 1) = (txt i).take k ++ [(txt i)[k]] := by rw [List.take_add_one, hg]; rfl
      rw [e5, ← List.append_assoc]
      exact r2)
  rw [List.take_length] at i1
  refine ⟨M', ?_, i1, i2⟩
  unfold fX6_putWords
  refine e.trans ?_
  simp only [fX6_putWords_l2.eq_2]
  rw [hsn]
  exact sT (by rw [eLe (by omega) (by omega)]; exact Nat.le_refl _) rfl
theorem sB_len {v : Nat} : (sB v).length ≤ 2 := by
  unfold sB
  rw [List.length_append]
  split <;> simp
theorem c_shirt {M : xMem} {l : List Nat} {v : Nat} (hv : v ≤ 99) (h : RwR M 3 l) (hl : l.length + 2 ≤ 2064) : ∃ M', fX6_putShirt 3 (nI v) M = some M' ∧ RwR M' 3 (l ++ sB v) ∧ Fi F34 M M' := by
  unfold fX6_putShirt
  by_cases q : v < 10
  · obtain ⟨M2, f2, r2, F2⟩ := c_put3 (x := 48 + v % 10) h (by omega) (by omega)
    refine ⟨M2, ?_, ?_, F2⟩
    · refine sJx M (fun J => sT (by rw [eLtI (by omega) (by decide)]; exact q) rfl) ?_
      rw [pk_rem (by omega) (by decide) (by decide), nI_add]
      exact sBv f2 rfl
    · unfold sB
      rw [if_pos q]
      exact r2
  · obtain ⟨M1, f1, r1, F1⟩ := c_put3 (x := 48 + v / 10) h (by omega) (by omega)
    obtain ⟨M2, f2, r2, F2⟩ := c_put3 (x := 48 + v % 10) r1 (by rw [List.length_append]; simp; omega) (by omega)
    refine ⟨M2, ?_, ?_, F1.trans F2⟩
    · refine sJx M1 (fun J => sF (by rw [eLtI (by omega) (by decide)]; exact q) ?_) ?_
      · rw [pk_div (by omega) (by decide) (by decide), nI_add]
        exact sBv f1 rfl
      · rw [pk_rem (by omega) (by decide) (by decide), nI_add]
        exact sBv f2 rfl
    · unfold sB
      rw [if_neg q, ← List.append_assoc]
      exact r2
/-! the model's line -/
def LnR (M : xMem) (l : List Nat) : Prop := M.1 146 24 = nI l.length ∧ ∀ j (b : Nat), l[j]? = some b → M.1 153 j = bI b
def Fl (M M' : xMem) : Prop := (∀ c, c ≠ 146 → c ≠ 153 → M'.1 c = M.1 c) ∧ (∀ j, j ≠ 24 → M'.1 146 j = M.1 146 j) ∧ M'.2 = M.2
theorem Fl.refl (M : xMem) : Fl M M := ⟨fun _ _ _ => rfl, fun _ _ => rfl, rfl⟩
theorem Fl.trans {M M1 M2 : xMem} (h1 : Fl M M1) (h2 : Fl M1 M2) : Fl M M2 := ⟨fun c a b => (h2.1 c a b).trans (h1.1 c a b), fun j a => (h2.2.1 j a).trans (h1.2.1 j a), h2.2.2.trans h1.2.2⟩
theorem Fl.tm {M M' : xMem} {ρ : Nat → Nat} (h : TM M ρ) (hF : Fl M M') : TM M' ρ := by
  unfold TM xnw at h ⊢
  rw [hF.2.2]
  exact h
theorem x14623 : xrf 146 23 = 153 := by decide +kernel
theorem l153 : xln 153 = 100 := by decide +kernel
theorem m_says {M : xMem} {l : List Nat} {x : Nat} (h : LnR M l) (hl : l.length < 100) (hx : x < 256) : ∃ M', fX11_says 146 (nI x) M = some M' ∧ LnR M' (l ++ [x]) ∧ Fl M M' := by
  refine ⟨xwI (xwI M 153 l.length (bI x)) 146 24 (nI (l.length + 1)), ?_, ⟨?_, ?_⟩, fun c u v => ?_, fun j u => ?_, rfl⟩
  · unfold fX11_says
    rw [x14623, l153, h.1]
    refine sGb _ rfl hl (by decide) ?_
    rw [eCl (by omega), vB, byO_n hx]
    refine sLt ?_
    rw [xwI_c (by decide), h.1, nI_add]
    rfl
  · rw [xwI_at, List.length_append]; rfl
  · intro j b hj
    rw [xwI_c (by decide)]
    rcases snoc_at hj with ⟨rfl, rfl⟩ | ⟨z, hz⟩
    · rw [xwI_at]
    · rw [xwI_ne (Or.inr (by omega))]
      exact h.2 j b hz
  · rw [xwI_c u, xwI_c v]
  · rw [xwI_ne (Or.inr u), xwI_c (by decide)]
theorem m_text {M : xMem} {l : List Nat} {i : Nat} (hi : i < 30) (h : LnR M l) (hl : l.length + (txt i).length ≤ 100) : ∃ M', fX11_saysText 146 i M = some M' ∧ LnR M' (l ++ txt i) ∧ Fl M M' := by
  have hsn : xsn i = (txt i).length := rfl
  obtain ⟨M', n, ⟨i1, i2⟩, e⟩ := loopE (fun n k M => fX11_saysText_l2 146 i (fun (v4 : Int32) (M5 : xMem) => some M5) n (nI k) M) (fun k M' => LnR M' (l ++ (txt i).take k) ∧ Fl M M') (txt i).length (M := M) (by omega) ⟨by simpa using h, Fl.refl M⟩ (fun n k M1 hk hI => by
    obtain ⟨i1, i2⟩ := hI
    have hg := List.getElem?_eq_getElem hk
    have hc := txt_lt i hi _ (List.mem_of_getElem? hg)
    obtain ⟨M2, f2, r2, F2⟩ := m_says (x := (txt i)[k]) i1 (by rw [List.length_append, List.length_take]; omega) (by omega)
    refine ⟨M2, ?_, ?_, i2.trans F2⟩
    · simp only [fX11_saysText_l2.eq_2]
      rw [hsn]
      refine sF (by rw [eLe (by omega) (by omega)]; omega) (sGb k rfl hk (by omega) ?_)
      rw [eCl (by omega), txt_xsc hg]
      exact sBv f2 (sLe (nI_1 k) rfl)
    · have e5 : (txt i).take (k + 1) = (txt i).take k ++ [(txt i)[k]] := by rw [List.take_add_one, hg]; rfl
      rw [e5, ← List.append_assoc]
      exact r2)
  rw [List.take_length] at i1
  refine ⟨M', ?_, i1, i2⟩
  unfold fX11_saysText
  refine e.trans ?_
  simp only [fX11_saysText_l2.eq_2]
  rw [hsn]
  exact sT (by rw [eLe (by omega) (by omega)]; exact Nat.le_refl _) rfl
theorem m_shirt {M : xMem} {ρ : Nat → Nat} {l : List Nat} {t i : Nat} (hT : TM M ρ) (ht : t < 2) (hi : i < 10) (hv : ρ (5 + 10 * t + i) ≤ 99) (h : LnR M l) (hl : l.length + 2 ≤ 100) : ∃ M', fX11_saysShirt 146 (nI t) (nI i) M = some M' ∧ LnR M' (l ++ sB (ρ (5 + 10 * t + i))) ∧ Fl M M' := by
  unfold fX11_saysShirt
  rw [pk_mul, nI_add, nI_add, q_get hT (by omega), eBn]
  generalize ρ (5 + 10 * t + i) = v at *
  by_cases q : v < 10
  · obtain ⟨M2, f2, r2, F2⟩ := m_says (x := 48 + v % 10) h (by omega) (by omega)
    refine ⟨M2, ?_, ?_, F2⟩
    · refine sJx M (fun J => sT (by rw [eLtI (by omega) (by decide)]; exact q) rfl) ?_
      rw [pk_rem (by omega) (by decide) (by decide), nI_add]
      exact sBv f2 rfl
    · unfold sB
      rw [if_pos q]
      exact r2
  · obtain ⟨M1, f1, r1, F1⟩ := m_says (x := 48 + v / 10) h (by omega) (by omega)
    obtain ⟨M2, f2, r2, F2⟩ := m_says (x := 48 + v % 10) r1 (by rw [List.length_append]; simp; omega) (by omega)
    refine ⟨M2, ?_, ?_, F1.trans F2⟩
    · refine sJx M1 (fun J => sF (by rw [eLtI (by omega) (by decide)]; exact q) ?_) ?_
      · rw [pk_div (by omega) (by decide) (by decide), nI_add]
        exact sBv f1 rfl
      · rw [pk_rem (by omega) (by decide) (by decide), nI_add]
        exact sBv f2 rfl
    · unfold sB
      rw [if_neg q, ← List.append_assoc]
      exact r2
/-! those who were touched -/
def tcL (f : Nat → Nat) (tl : List Nat) : Nat → List Nat
  | 0 => []
  | i + 1 => tcL f tl i ++ ((if i = 0 then [] else [44]) ++ sB (f (tl.getD i 0)))
theorem tcL_len (f : Nat → Nat) (tl : List Nat) : ∀ i, (tcL f tl i).length ≤ 3 * i
  | 0 => Nat.le_refl _
  | i + 1 => by
    have := tcL_len f tl i
    have h2 := sB_len (v := f (tl.getD i 0))
    unfold tcL
    rw [List.length_append, List.length_append]
    split <;> simp only [List.length_nil, List.length_cons] <;> omega
theorem ord_div : ∀ (l : List Nat) (v : Nat), (∀ x ∈ l, x < 10) → l.foldl ordS v / 11 ^ l.length = v
  | [], v, _ => by simp
  | x :: l, v, h => by
    rw [List.foldl_cons, List.length_cons, Nat.pow_succ, ← Nat.div_div_eq_div_mul, ord_div l _ (fun y hy => h y (List.mem_cons_of_mem _ hy))]
    have := h x (List.mem_cons_self ..)
    unfold ordS
    omega
theorem ord_take {l : List Nat} (h : ∀ x ∈ l, x < 10) (i : Nat) : ordR l / 11 ^ (l.length - i) = ordR (l.take i) := by
  have e : ordR l = (l.drop i).foldl ordS (ordR (l.take i)) := by
    unfold ordR
    rw [← List.foldl_append, List.take_append_drop]
  rw [e, ← List.length_drop, ord_div _ _ (fun x hx => h x (List.mem_of_mem_drop hx))]
theorem ord_snoc {l : List Nat} {i : Nat} (hi : i < l.length) : ordR (l.take (i + 1)) = ordR (l.take i) * 11 + l.getD i 0 + 1 := by
  have hg : l[i]? = some l[i] := List.getElem?_eq_getElem hi
  have e5 : l.take (i + 1) = l.take i ++ [l[i]] := by rw [List.take_add_one, hg]; rfl
  rw [e5, List.getD_eq_getElem?_getD, hg]
  unfold ordR
  rw [List.foldl_append]
  rfl
theorem ord_lt {l : List Nat} (h : ∀ x ∈ l, x < 10) (h7 : l.length ≤ 7) : ordR l < 19487171 := by
  have := ordR_lt l.length (l := l) (by omega) h
  rw [List.take_length] at this
  have h2 : 11 ^ l.length ≤ 11 ^ 7 := Nat.pow_le_pow_right (by decide) h7
  have h3 : (11 : Nat) ^ 7 = 19487171 := by decide
  unfold ordR
  omega
def pw (L i : Nat) : Nat := if i < L then 11 ^ (L - 1 - i) else 0
theorem pw_div {L i : Nat} (hi : i < L) : pw L i / 11 = pw L (i + 1) := by
  unfold pw
  rw [if_pos hi]
  by_cases q : i + 1 < L
  · rw [if_pos q, show L - 1 - i = (L - 1 - (i + 1)) + 1 by omega, Nat.pow_succ]
    exact Nat.mul_div_cancel _ (by decide)
  · rw [if_neg q, show L - 1 - i = 0 by omega]
theorem m_touched {M : xMem} {ρ : Nat → Nat} {l tl : List Nat} {t : Nat} (hT : TM M ρ) (ht : t < 2) (hne : tl ≠ []) (h7 : tl.length ≤ 7) (hx : ∀ x ∈ tl, x < 10) (hv : ∀ x ∈ tl, ρ (5 + 10 * t + x) ≤ 99) (h : LnR M l) (hl : l.length + 21 ≤ 100) : ∃ M', fX11_saysTouched 146 (nI t) (lN (ordR tl)) M = some M' ∧ LnR M' (l ++ tcL (fun x => ρ (5 + 10 * t + x)) tl tl.length) ∧ Fl M M' := by
  have hpos : 0 < tl.length := by
    rcases Nat.eq_zero_or_pos tl.length with z | z
    · exact absurd (List.eq_nil_of_length_eq_zero z) hne
    · exact z
  have hol := ord_lt hx h7
  have hpw : ∀ j, 11 ^ j ≠ 0 := fun j => Nat.ne_of_gt (Nat.pow_pos (by decide))
  have hpb : ∀ j, j < 7 → 11 ^ j < 19487171 := fun j hj => by
    have h2 : 11 ^ j < 11 ^ 7 := Nat.pow_lt_pow_right (by decide) hj
    have h3 : (11 : Nat) ^ 7 = 19487171 := by decide
    omega
  -- the highest figure
  have L1 : ∀ K : Int64 → xMem → Option xMem, fX11_saysTouched_l3 146 (nI t) (lN (ordR tl)) K xFU (lN 1) M = K (lN (11 ^ (tl.length - 1))) M := by
    intro K
    have L := loopU (fun n k => fX11_saysTouched_l3 146 (nI t) (lN (ordR tl)) K n (lN (11 ^ k)) M) (tl.length - 1) (K (lN (11 ^ (tl.length - 1))) M) (by omega) (fun n k hk => ?_) (fun n => ?_)
    · exact L
    · have hb := hpb k (by omega)
      simp only [fX11_saysTouched_l3.eq_2]
      refine sGd (by rw [show (0 : Int64) = lN 0 from rfl, eLE (by omega) (by decide)]; exact hpw k) ?_
      rw [pk_lDiv (by omega) (Nat.pos_of_ne_zero (hpw k)) (by omega)]
      have hle : ordR tl / 11 ^ k ≤ ordR tl := Nat.div_le_self _ _
      have e1 : ordR tl / 11 ^ k = ordR (tl.take (tl.length - k)) := by
        have := ord_take hx (tl.length - k)
        rw [show tl.length - (tl.length - k) = k by omega] at this
        exact this
      have e2 : 11 ≤ ordR tl / 11 ^ k := by
        rw [e1, show tl.length - k = (tl.length - k - 1) + 1 by omega, ord_snoc (by omega), show tl.length - k - 1 = (tl.length - k - 2) + 1 by omega, ord_snoc (by omega)]
        omega
      refine sF (by rw [eCmpLt, eLLt (by omega) (by decide)]; omega) ?_
      refine sLe (b := lN (11 ^ (k + 1))) (by rw [lN_mul, Nat.pow_succ]) rfl
    · have hb := hpb (tl.length - 1) (by omega)
      simp only [fX11_saysTouched_l3.eq_2]
      refine sGd (by rw [show (0 : Int64) = lN 0 from rfl, eLE (by omega) (by decide)]; exact hpw _) ?_
      rw [pk_lDiv (by omega) (Nat.pos_of_ne_zero (hpw _)) (by omega)]
      have hle : ordR tl / 11 ^ (tl.length - 1) ≤ ordR tl := Nat.div_le_self _ _
      have e2 : ordR tl / 11 ^ (tl.length - 1) < 11 := by
        rw [ord_take hx 1]
        have := ordR_lt 1 (l := tl) (by decide) hx
        unfold ordR
        omega
      exact sT (by rw [eCmpLt, eLLt (by omega) (by decide)]; exact e2) rfl
  unfold fX11_saysTouched
  rw [L1]
  have p0 : 11 ^ (tl.length - 1) = pw tl.length 0 := by unfold pw; rw [if_pos hpos]; rfl
  rw [p0]
  have pwb : ∀ i, pw tl.length i < 19487171 := fun i => by
    unfold pw
    split
    · exact hpb _ (by omega)
    · decide
  obtain ⟨M', n, ⟨i1, i2⟩, e⟩ := loopE (fun n k M => fX11_saysTouched_l29 146 (nI t) (lN (ordR tl)) (lN (pw tl.length 0)) (fun (v10 : Int64) (M11 : xMem) => some M11) n (lN (pw tl.length k)) M) (fun k M' => LnR M' (l ++ tcL (fun x => ρ (5 + 10 * t + x)) tl k) ∧ Fl M M') tl.length (M := M) (by omega) ⟨by show LnR M (l ++ []); rw [List.append_nil]; exact h, Fl.refl M⟩ (fun n k M1 hk hI => by
    obtain ⟨i1, i2⟩ := hI
    have t1 := i2.tm hT
    have hb0 := pwb 0
    have hbk := pwb k
    have hlen := tcL_len (fun x => ρ (5 + 10 * t + x)) tl k
    have hg : tl[k]? = some tl[k] := List.getElem?_eq_getElem hk
    have hgd : tl.getD k 0 = tl[k] := by rw [List.getD_eq_getElem?_getD, hg]; rfl
    have hxk := hx _ (List.mem_of_getElem? hg)
    have hvk := hv _ (List.mem_of_getElem? hg)
    have pk0 : pw tl.length k ≠ 0 := by unfold pw; rw [if_pos hk]; exact hpw _
    have idx : Int64.toInt32 ((lN (ordR tl) / lN (pw tl.length k)) - (lN (ordR tl) / lN (pw tl.length k)) / lN 11 * lN 11) - nI 1 = nI tl[k] := by
      have hle : ordR tl / pw tl.length k ≤ ordR tl := Nat.div_le_self _ _
      rw [pk_lDiv (by omega) (Nat.pos_of_ne_zero pk0) (by omega), pk_lRem (by omega) (by decide) (by decide), eL2I]
      have e1 : ordR tl / pw tl.length k = ordR (tl.take (k + 1)) := by
        have := ord_take hx (k + 1)
        unfold pw
        rw [if_pos hk, show tl.length - 1 - k = tl.length - (k + 1) by omega]
        exact this
      rw [e1, ord_snoc hk, hgd, show (ordR (tl.take k) * 11 + tl[k] + 1) % 11 = tl[k] + 1 by omega, eSub (by omega)]
      rfl
    simp only [fX11_saysTouched_l29.eq_2]
    rw [idx, pk_lDiv (by omega) (by decide) (by decide), pw_div hk]
    have pos : ¬ lg_cmp (lN (pw tl.length k)) (lN 0) ≤ 0 := by rw [eCmpLe, eLLe (by omega) (by decide)]; omega
    have nz : ¬ lN (pw tl.length k) = 0 := by rw [show (0 : Int64) = lN 0 from rfl, eLE (by omega) (by decide)]; exact pk0
    by_cases q : k = 0
    · obtain ⟨M2, f2, r2, F2⟩ := m_shirt (i := tl[k]) t1 ht hxk hvk i1 (by rw [List.length_append]; omega)
      refine ⟨M2, ?_, ?_, i2.trans F2⟩
      · refine sF pos (sJx M1 (fun J => sT (by rw [q, eCmpGe]; exact Int64.le_refl _) rfl) (sGd nz (sBv f2 (sLt rfl))))
      · unfold tcL
        rw [if_pos q, hgd, List.nil_append, ← List.append_assoc]
        exact r2
    · obtain ⟨M3, f3, r3, F3⟩ := m_says (x := 44) i1 (by rw [List.length_append]; omega) (by decide)
      obtain ⟨M2, f2, r2, F2⟩ := m_shirt (i := tl[k]) (F3.tm t1) ht hxk hvk r3 (by rw [List.length_append, List.length_append]; simp; omega)
      refine ⟨M2, ?_, ?_, (i2.trans F3).trans F2⟩
      · refine sF pos (sJx M3 (fun J => sF ?_ (sBv f3 rfl)) (sGd nz (sBv f2 (sLt rfl))))
        rw [eCmpGe, eLLe (by omega) (by omega)]
        have : pw tl.length k < pw tl.length 0 := by
          unfold pw
          rw [if_pos hk, if_pos hpos]
          exact Nat.pow_lt_pow_right (by decide) (by omega)
        omega
      · unfold tcL
        rw [if_neg q, hgd, ← List.append_assoc, ← List.append_assoc]
        exact r2)
  refine ⟨M', ?_, i1, i2⟩
  refine e.trans ?_
  simp only [fX11_saysTouched_l29.eq_2]
  have pz : pw tl.length tl.length = 0 := by unfold pw; rw [if_neg (Nat.lt_irrefl _)]
  rw [pz]
  exact sT (by decide) rfl
