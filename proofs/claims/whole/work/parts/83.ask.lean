/-! ===== questions: raid by raid ===== -/
theorem addI0 (s : Int32) : s + nI 0 = s := by rw [nI00]; exact Int32.add_zero s
theorem orI0 (s : Int32) : s ||| nI 0 = s := by rw [nI00]; simp
theorem e_le0 {v : Nat} (hv : v < 2147483648) : (nI v ≤ 0) = (v = 0) := by
  rw [eZ, eLe hv (by decide)]
  apply propext
  omega
section
variable {ρ : Nat → Nat}
def stLasted (ρ : Nat → Nat) (t i k : Nat) (s : Int32) : Int32 ⊕ Int32 := .inl (s + nI (rq ρ k (10 + t) / 2 ^ i % 2))
def stLives (ρ : Nat → Nat) (t k : Nat) (s : Int32) : Int32 ⊕ Int32 := .inl (s + nI (if pcn (rq ρ k (10 + t)) = 7 then 1 else 0))
def stGreat (ρ : Nat → Nat) (t k : Nat) (s : Int32) : Int32 ⊕ Int32 := .inl (s + nI (if rq ρ k 0 = t ∧ 3 ≤ pBq ρ k then 1 else 0))
def stPress (ρ : Nat → Nat) (t w k : Nat) (s : Int32) : Int32 ⊕ Int32 := .inl (s + nI (if rq ρ k 0 = t ∧ rq ρ k 7 = 1 ∧ w ≤ rq ρ k 3 then 1 else 0))
def mx2 (s : Int32 × Int32) (n : Int32) : (Int32 × Int32) ⊕ Int32 := .inl (if s.1 < n then n else s.1, n)
def stLong (ρ : Nat → Nat) (t k : Nat) (s : Int32 × Int32) : (Int32 × Int32) ⊕ Int32 := if rq ρ k 0 = t then mx2 s (if rq ρ k 3 = 0 then nI 0 else s.2 + nI 1) else .inl s
def stRun (ρ : Nat → Nat) (t k : Nat) (s : Int32 × Int32) : (Int32 × Int32) ⊕ Int32 := mx2 s (if gpt ρ k t = 0 then nI 0 else if gpt ρ k (1 - t) = 0 then s.2 + nI 1 else nI 0)
def stStreak (ρ : Nat → Nat) (t i k : Nat) (s : Int32 × Int32) : (Int32 × Int32) ⊕ Int32 := if rq ρ k 0 = t ∧ rq ρ k 1 = i then mx2 s (if pBq ρ k = 0 then nI 0 else s.2 + nI 1) else .inl s
def stBehind (ρ : Nat → Nat) (t k : Nat) (s : Int32) : Int32 ⊕ Int32 := .inl (if s < (if t = 0 then -ldI ρ (1 + k) else ldI ρ (1 + k)) then (if t = 0 then -ldI ρ (1 + k) else ldI ρ (1 + k)) else s)
def stDraws (ρ : Nat → Nat) (k : Nat) (s : Int32) : Int32 ⊕ Int32 := .inl (s + if ldI ρ (1 + k) = 0 then nI 1 else nI 0)
def stGain (ρ : Nat → Nat) (t k : Nat) (s : Int32) : Int32 ⊕ Int32 := .inl (s + nI (gpt ρ k t))
def stAll (ρ : Nat → Nat) (t k : Nat) (s : Int32) : Int32 ⊕ Int32 := if rq ρ k 9 / 2 ^ t % 2 = 1 then (if s = 0 then .inr (nI k) else .inl (s + (-1))) else .inl s
def stFirst (ρ : Nat → Nat) (t i w k : Nat) (s : Unit) : Unit ⊕ Int32 := if inq ρ k t i (if w = 0 then 1 else 4) = 0 then .inl () else .inr (nI k)
def stMet (ρ : Nat → Nat) (t i j w k : Nat) (s : Int32) : Int32 ⊕ Int32 := .inl (s + nI (if rq ρ k 0 = t ∧ rq ρ k 1 = i then (if w = 0 then (if rq ρ k 2 = 1 then rq ρ k 5 / 2 ^ j % 2 else 0) else (if rq ρ k 2 = 3 ∧ rq ρ k 5 = j then 1 else 0)) else 0))
def stSome (ρ : Nat → Nat) (t w i : Nat) (s : Int32) : Int32 ⊕ Int32 := .inl (s ||| if ofV ρ t i w = 0 then nI 0 else nI 1 <<< (nI i &&& 31))
def stSum (ρ : Nat → Nat) (t w i : Nat) (s : Int32) : Int32 ⊕ Int32 := .inl (s + nI (ofV ρ t i w))
end
theorem ofV_le {M : xMem} {a : xTl} {ρ : Nat → Nat} (h : TQ M a ρ) {t i w : Nat} (ht : t < 2) (hi : i < 10) : ofV ρ t i w ≤ 2000 := by
  unfold ofV
  split
  · have := (h.bd.2.2.2.2 t ht).2.2.2.2 i hi
    have := h.bd.2.1
    omega
  · exact tal_le h t i w
theorem gpt_le {M : xMem} {a : xTl} {ρ : Nat → Nat} (h : TQ M a ρ) {k t : Nat} (hk : k < ρ 25) : gpt ρ k t ≤ 13 := by
  have hb := h.rb hk
  unfold gpt
  split
  · exact hb.2.2.2.2.2.2.2.2.2.1
  · have := hb.2.2.2.2.2.2.2.2.2.2.1
    omega
theorem s_lasted {x y : Int32} : STEP (fX10_lasted 0 x y) (fX11_lasted 146 x y) := by
  refine STEP.q (fun M a ρ h => ?_) (fun M h => ?_)
  · by_cases q0 : plQ ρ x y
    · obtain ⟨t, i, ht, hi, rfl, rfl⟩ := id q0
      obtain ⟨-, h7, h10⟩ := h.sz ht
      have hn := h.n25
      have hz := h.hs.1
      refine ⟨runL (stLasted ρ t i) (id) (ρ 25) 0 (nI 0), ?_, ?_⟩
      · unfold fX10_lasted; try simp only [x02, m50, m51, m52, m53, m54, m60, m61, s120, s13l]
        refine sBn ((c_one h).1 q0) (sF (by decide) ?_)
        unfold fX1_raidsOn
        refine sBn (loopR (S := Int32) (fun n k s => fX1_raidsOn_l5 24 (nI t) (nI i) (fun (v : Int32) (w : Int32) (M' : xMem) => some (v, M')) n s (nI k) M) (stLasted ρ t i) (id) (ρ 25) (nI 0) (by omega) (fun n k s hk => ?_) (fun n s => ?_)) rfl
        · rw [fX1_raidsOn_l5.eq_2, hz]
          refine sF (by rw [eLe (by omega) (by omega)]; omega) ?_
          rw [c_onAt h hk ht, eBn, e_bitI (by have := rq10 h hk ht; omega) (by omega)]
          exact sLt (sLe (nI_1 k) rfl)
        · rw [fX1_raidsOn_l5.eq_2, hz]
          exact sT (by rw [eLe (by omega) (by omega)]; exact Nat.le_refl _) rfl
      · unfold fX11_lasted; try simp only [x02, m50, m51, m52, m53, m54, m60, m61, s120, s13l]
        refine sBn ((m_one h).1 q0) (sF (by decide) ?_)
        refine loopR (S := Int32) (fun n k s => fX11_lasted_l17 146 (nI t) (nI i) (fun (v : Int32) (w : Int32) (M' : xMem) => some (v, M')) n s (nI k) M) (stLasted ρ t i) (id) (ρ 25) (nI 0) (by omega) (fun n k s hk => ?_) (fun n s => ?_)
        · rw [fX11_lasted_l17.eq_2, q_get h.tm (by decide), eBn]
          refine sF (by rw [eLe (by omega) (by omega)]; omega) ?_
          rw [nI_add, h.rec hk (by omega), eBn, m_has (rq10 h hk ht) (by omega), eBn, eLt]
          refine eB2 (Nat.mod_lt _ (by decide)) (fun q => ?_) (fun q => ?_)
          · unfold stLasted; rw [q]; exact sLt (sLe (nI_1 k) rfl)
          · unfold stLasted; rw [q]; exact sLt (sLe (nI_1 k) rfl)
        · rw [fX11_lasted_l17.eq_2, q_get h.tm (by decide), eBn]
          exact sT (by rw [eLe (by omega) (by omega)]; exact Nat.le_refl _) rfl
    · refine ⟨-2, ?_, ?_⟩
      · unfold fX10_lasted; try simp only [x02, m50, m51, m52, m53, m54, m60, m61, s120, s13l]
        exact sBn ((c_one h).2 q0) (sT (by decide) rfl)
      · unfold fX11_lasted; try simp only [x02, m50, m51, m52, m53, m54, m60, m61, s120, s13l]
        exact sBn ((m_one h).2 q0) (sT (by decide) rfl)
  · refine ⟨-2, ?_, ?_⟩
    · unfold fX10_lasted; try simp only [x02, m50, m51, m52, m53, m54, m60, m61, s120, s13l]
      exact sBn (c_noone h) (sT (by decide) rfl)
    · unfold fX11_lasted; try simp only [x02, m50, m51, m52, m53, m54, m60, m61, s120, s13l]
      exact sBn (m_noone h) (sT (by decide) rfl)
theorem s_lives {x : Int32} : STEP (fX10_lives 0 x) (fX11_lives 146 x) := by
  refine STEP.q (fun M a ρ h => ?_) (fun M h => ?_)
  · by_cases q0 : tmQ x
    · obtain ⟨t, ht, rfl⟩ := id q0
      have hn := h.n25
      have hz := h.hs.1
      refine ⟨runL (stLives ρ t) (id) (ρ 25) 0 (nI 0), ?_, ?_⟩
      · unfold fX10_lives; try simp only [x02, m50, m51, m52, m53, m54, m60, m61, s120, s13l]
        refine sBn ((c_team h).1 q0) (sF (by decide) ?_)
        unfold fX1_fullCount
        refine sBn (loopR (S := Int32) (fun n k s => fX1_fullCount_l4 24 (nI t) (fun (v : Int32) (w : Int32) (M' : xMem) => some (v, M')) n s (nI k) M) (stLives ρ t) (id) (ρ 25) (nI 0) (by omega) (fun n k s hk => ?_) (fun n s => ?_)) rfl
        · rw [fX1_fullCount_l4.eq_2, hz]
          refine sF (by rw [eLe (by omega) (by omega)]; omega) ?_
          have hp := pcn_le _ (rq10 h hk ht)
          rw [c_onAt h hk ht, eBn, e_bitc (rq10 h hk ht), eBn]
          refine sJw (nI (if pcn (rq ρ k (10 + t)) = 7 then 1 else 0)) M (fun J => ?_) (sLt (sLe (nI_1 k) rfl))
          by_cases q : pcn (rq ρ k (10 + t)) = 7
          · exact sT (by rw [q]) (by rw [if_pos q])
          · exact sF (by rw [eEq (by omega) (by decide)]; exact q) (by rw [if_neg q])
        · rw [fX1_fullCount_l4.eq_2, hz]
          exact sT (by rw [eLe (by omega) (by omega)]; exact Nat.le_refl _) rfl
      · unfold fX11_lives; try simp only [x02, m50, m51, m52, m53, m54, m60, m61, s120, s13l]
        refine sBn ((m_team h).1 q0) (sF (by decide) ?_)
        refine loopR (S := Int32) (fun n k s => fX11_lives_l15 146 (nI t) (fun (v : Int32) (w : Int32) (M' : xMem) => some (v, M')) n s (nI k) M) (stLives ρ t) (id) (ρ 25) (nI 0) (by omega) (fun n k s hk => ?_) (fun n s => ?_)
        · rw [fX11_lives_l15.eq_2, q_get h.tm (by decide), eBn]
          refine sF (by rw [eLe (by omega) (by omega)]; omega) ?_
          have hp := pcn_le _ (rq10 h hk ht)
          rw [nI_add, h.rec hk (by omega), eBn, e_bits (rq10 h hk ht), eBn]
          refine sJw (nI (if pcn (rq ρ k (10 + t)) = 7 then 1 else 0)) M (fun J => ?_) (sLt (sLe (nI_1 k) rfl))
          by_cases q : pcn (rq ρ k (10 + t)) = 7
          · exact sT (by rw [q]) (by rw [if_pos q])
          · exact sF (by rw [eEq (by omega) (by decide)]; exact q) (by rw [if_neg q])
        · rw [fX11_lives_l15.eq_2, q_get h.tm (by decide), eBn]
          exact sT (by rw [eLe (by omega) (by omega)]; exact Nat.le_refl _) rfl
    · refine ⟨-2, ?_, ?_⟩
      · unfold fX10_lives; try simp only [x02, m50, m51, m52, m53, m54, m60, m61, s120, s13l]
        exact sBn ((c_team h).2 q0) (sT (by decide) rfl)
      · unfold fX11_lives; try simp only [x02, m50, m51, m52, m53, m54, m60, m61, s120, s13l]
        exact sBn ((m_team h).2 q0) (sT (by decide) rfl)
  · refine ⟨-2, ?_, ?_⟩
    · unfold fX10_lives; try simp only [x02, m50, m51, m52, m53, m54, m60, m61, s120, s13l]
      exact sBn (c_noteam h) (sT (by decide) rfl)
    · unfold fX11_lives; try simp only [x02, m50, m51, m52, m53, m54, m60, m61, s120, s13l]
      exact sBn (m_noteam h) (sT (by decide) rfl)
theorem s_great {x : Int32} : STEP (fX10_great 0 x) (fX11_great 146 x) := by
  refine STEP.q (fun M a ρ h => ?_) (fun M h => ?_)
  · by_cases q0 : tmQ x
    · obtain ⟨t, ht, rfl⟩ := id q0
      have hn := h.n25
      have hz := h.hs.1
      refine ⟨runL (stGreat ρ t) (id) (ρ 25) 0 (nI 0), ?_, ?_⟩
      · unfold fX10_great; try simp only [x02, m50, m51, m52, m53, m54, m60, m61, s120, s13l]
        refine sBn ((c_team h).1 q0) (sF (by decide) ?_)
        unfold fX1_greatCount
        refine sBn (loopR (S := Int32) (fun n k s => fX1_greatCount_l4 24 (nI t) (fun (v : Int32) (w : Int32) (M' : xMem) => some (v, M')) n s (nI k) M) (stGreat ρ t) (id) (ρ 25) (nI 0) (by omega) (fun n k s hk => ?_) (fun n s => ?_)) rfl
        · rw [fX1_greatCount_l4.eq_2, hz]
          refine sF (by rw [eLe (by omega) (by omega)]; omega) ?_
          obtain ⟨b1, b2, b3, b4, b5, b6, b7, b8, b9, b10, b11, b12, b13, b14, b15, b16, b17⟩ := h.rb hk
          refine sCo 0 k (by decide) (by omega) rfl ?_
          rw [eCo (by decide) (by omega) rfl, c_col h hk (by decide)]
          refine sJw (nI (if rq ρ k 0 = t ∧ 3 ≤ pBq ρ k then 1 else 0)) M (fun J => ?_) (sLt (sLe (nI_1 k) rfl))
          by_cases q0 : rq ρ k 0 = t
          · refine sT (by rw [q0]) ?_
            refine sCo 13 k (by decide) (by omega) rfl ?_
            rw [eCo (by decide) (by omega) rfl, (h.hs.2.1 k hk).2.2.2.2.2.1]
            by_cases q : 3 ≤ pBq ρ k
            · exact sF (by rw [eLtI (by omega) (by decide)]; omega) (by rw [if_pos ⟨q0, q⟩])
            · exact sT (by rw [eLtI (by omega) (by decide)]; omega) (by rw [if_neg (fun z => q z.2)])
          · exact sF (by rw [eEq (by omega) (by omega)]; exact q0) (by rw [if_neg (fun z => q0 z.1)])
        · rw [fX1_greatCount_l4.eq_2, hz]
          exact sT (by rw [eLe (by omega) (by omega)]; exact Nat.le_refl _) rfl
      · unfold fX11_great; try simp only [x02, m50, m51, m52, m53, m54, m60, m61, s120, s13l]
        refine sBn ((m_team h).1 q0) (sF (by decide) ?_)
        refine loopR (S := Int32) (fun n k s => fX11_great_l15 146 (nI t) (fun (v : Int32) (w : Int32) (M' : xMem) => some (v, M')) n s (nI k) M) (stGreat ρ t) (id) (ρ 25) (nI 0) (by omega) (fun n k s hk => ?_) (fun n s => ?_)
        · rw [fX11_great_l15.eq_2, q_get h.tm (by decide), eBn]
          refine sF (by rw [eLe (by omega) (by omega)]; omega) ?_
          obtain ⟨b1, b2, b3, b4, b5, b6, b7, b8, b9, b10, b11, b12, b13, b14, b15, b16, b17⟩ := h.rb hk
          rw [h.rec hk (by decide), eBn]
          refine sJw (nI (if rq ρ k 0 = t ∧ 3 ≤ pBq ρ k then 1 else 0)) M (fun J => ?_) (sLt (sLe (nI_1 k) rfl))
          by_cases q0 : rq ρ k 0 = t
          · refine sT (by rw [q0]) ?_
            rw [m_pointsBy h hk, eBn]
            by_cases q : 3 ≤ pBq ρ k
            · exact sF (by rw [eLtI (by omega) (by decide)]; omega) (by rw [if_pos ⟨q0, q⟩])
            · exact sT (by rw [eLtI (by omega) (by decide)]; omega) (by rw [if_neg (fun z => q z.2)])
          · exact sF (by rw [eEq (by omega) (by omega)]; exact q0) (by rw [if_neg (fun z => q0 z.1)])
        · rw [fX11_great_l15.eq_2, q_get h.tm (by decide), eBn]
          exact sT (by rw [eLe (by omega) (by omega)]; exact Nat.le_refl _) rfl
    · refine ⟨-2, ?_, ?_⟩
      · unfold fX10_great; try simp only [x02, m50, m51, m52, m53, m54, m60, m61, s120, s13l]
        exact sBn ((c_team h).2 q0) (sT (by decide) rfl)
      · unfold fX11_great; try simp only [x02, m50, m51, m52, m53, m54, m60, m61, s120, s13l]
        exact sBn ((m_team h).2 q0) (sT (by decide) rfl)
  · refine ⟨-2, ?_, ?_⟩
    · unfold fX10_great; try simp only [x02, m50, m51, m52, m53, m54, m60, m61, s120, s13l]
      exact sBn (c_noteam h) (sT (by decide) rfl)
    · unfold fX11_great; try simp only [x02, m50, m51, m52, m53, m54, m60, m61, s120, s13l]
      exact sBn (m_noteam h) (sT (by decide) rfl)
theorem s_pressed {x y : Int32} : STEP (fX10_pressed 0 x y) (fX11_pressed 146 x y) := by
  refine STEP.q (fun M a ρ h => ?_) (fun M h => ?_)
  · by_cases q0 : tmQ x
    · by_cases q1 : wnQ y 0 1
      · obtain ⟨t, ht, rfl⟩ := id q0
        obtain ⟨w, hwl, hw, rfl⟩ := id q1
        have hn := h.n25
        have hz := h.hs.1
        refine ⟨runL (stPress ρ t w) (id) (ρ 25) 0 (nI 0), ?_, ?_⟩
        · unfold fX10_pressed; try simp only [x02, m50, m51, m52, m53, m54, m60, m61, s120, s13l]
          refine sBn ((c_team h).1 q0) (sF (by decide) ?_)
          refine sBn ((c_within (by decide) (by decide)).1 q1) (sF (by decide) ?_)
          unfold fX1_pressedCount
          refine sBn (loopR (S := Int32) (fun n k s => fX1_pressedCount_l5 24 (nI t) (nI w) (fun (v : Int32) (w : Int32) (M' : xMem) => some (v, M')) n s (nI k) M) (stPress ρ t w) (id) (ρ 25) (nI 0) (by omega) (fun n k s hk => ?_) (fun n s => ?_)) rfl
          · rw [fX1_pressedCount_l5.eq_2, hz]
            refine sF (by rw [eLe (by omega) (by omega)]; omega) ?_
            obtain ⟨b1, b2, b3, b4, b5, b6, b7, b8, b9, b10, b11, b12, b13, b14, b15, b16, b17⟩ := h.rb hk
            refine sCo 0 k (by decide) (by omega) rfl ?_
            rw [eCo (by decide) (by omega) rfl, c_col h hk (by decide)]
            refine sJw (nI (if rq ρ k 0 = t ∧ rq ρ k 7 = 1 then 1 else 0)) M (fun J => ?_) ?_
            · by_cases q0 : rq ρ k 0 = t
              · refine sT (by rw [q0]) (sCo 7 k (by decide) (by omega) rfl ?_)
                rw [eCo (by decide) (by omega) rfl, c_col h hk (by decide)]
                by_cases q7 : rq ρ k 7 = 1
                · exact sT (by rw [q7]) (by rw [if_pos ⟨q0, q7⟩])
                · exact sF (by rw [eEq (by omega) (by decide)]; exact q7) (by rw [if_neg (fun z => q7 z.2)])
              · exact sF (by rw [eEq (by omega) (by omega)]; exact q0) (by rw [if_neg (fun z => q0 z.1)])
            refine sJw (nI (if rq ρ k 0 = t ∧ rq ρ k 7 = 1 ∧ w ≤ rq ρ k 3 then 1 else 0)) M (fun J => ?_) (sLt (sLe (nI_1 k) rfl))
            refine eB2 (ite01 _) (fun q => ?_) (fun q => ?_)
            · rw [if_neg (fun z => ite_0 q ⟨z.1, z.2.1⟩)]
            · have q' := ite_1 q
              refine sCo 3 k (by decide) (by omega) rfl ?_
              rw [eCo (by decide) (by omega) rfl, c_col h hk (by decide)]
              by_cases q3 : w ≤ rq ρ k 3
              · exact sF (by rw [eLtI (by omega) (by omega)]; omega) (by rw [if_pos ⟨q'.1, q'.2, q3⟩])
              · exact sT (by rw [eLtI (by omega) (by omega)]; omega) (by rw [if_neg (fun z => q3 z.2.2)])
          · rw [fX1_pressedCount_l5.eq_2, hz]
            exact sT (by rw [eLe (by omega) (by omega)]; exact Nat.le_refl _) rfl
        · unfold fX11_pressed; try simp only [x02, m50, m51, m52, m53, m54, m60, m61, s120, s13l]
          refine sBn ((m_team h).1 q0) (sF (by decide) ?_)
          refine sBn ((m_within (by decide) (by decide)).1 q1) (sF (by decide) ?_)
          refine loopR (S := Int32) (fun n k s => fX11_pressed_l26 146 (nI t) (nI w) (fun (v : Int32) (w : Int32) (M' : xMem) => some (v, M')) n s (nI k) M) (stPress ρ t w) (id) (ρ 25) (nI 0) (by omega) (fun n k s hk => ?_) (fun n s => ?_)
          · rw [fX11_pressed_l26.eq_2, q_get h.tm (by decide), eBn]
            refine sF (by rw [eLe (by omega) (by omega)]; omega) ?_
            obtain ⟨b1, b2, b3, b4, b5, b6, b7, b8, b9, b10, b11, b12, b13, b14, b15, b16, b17⟩ := h.rb hk
            rw [h.rec hk (by decide), eBn]
            refine sJw (nI (if rq ρ k 0 = t ∧ rq ρ k 7 = 1 ∧ w ≤ rq ρ k 3 then 1 else 0)) M (fun J => ?_) (sLt (sLe (nI_1 k) rfl))
            by_cases q0 : rq ρ k 0 = t
            · refine sT (by rw [q0]) ?_
              rw [h.rec hk (by decide), eBn]
              by_cases q7 : rq ρ k 7 = 1
              · refine sT (by rw [q7]) (eB2 (by omega) (fun z => ?_) (fun z => ?_))
                · rw [if_pos ⟨q0, q7, by omega⟩]
                · rw [h.rec hk (by decide), eBn]
                  by_cases q3 : rq ρ k 3 = 0
                  · exact sT (by rw [q3]; decide) (by rw [if_neg (by omega)])
                  · exact sF (by rw [e_le0 (by omega)]; exact q3) (by rw [if_pos ⟨q0, q7, by omega⟩])
              · exact sF (by rw [eEq (by omega) (by decide)]; exact q7) (by rw [if_neg (fun z => q7 z.2.1)])
            · exact sF (by rw [eEq (by omega) (by omega)]; exact q0) (by rw [if_neg (fun z => q0 z.1)])
          · rw [fX11_pressed_l26.eq_2, q_get h.tm (by decide), eBn]
            exact sT (by rw [eLe (by omega) (by omega)]; exact Nat.le_refl _) rfl
      · refine ⟨-2, ?_, ?_⟩
        · unfold fX10_pressed; try simp only [x02, m50, m51, m52, m53, m54, m60, m61, s120, s13l]
          refine sBn ((c_team h).1 q0) (sF (by decide) ?_)
          exact sBn ((c_within (by decide) (by decide)).2 q1) (sT (by decide) rfl)
        · unfold fX11_pressed; try simp only [x02, m50, m51, m52, m53, m54, m60, m61, s120, s13l]
          refine sBn ((m_team h).1 q0) (sF (by decide) ?_)
          exact sBn ((m_within (by decide) (by decide)).2 q1) (sT (by decide) rfl)
    · refine ⟨-2, ?_, ?_⟩
      · unfold fX10_pressed; try simp only [x02, m50, m51, m52, m53, m54, m60, m61, s120, s13l]
        exact sBn ((c_team h).2 q0) (sT (by decide) rfl)
      · unfold fX11_pressed; try simp only [x02, m50, m51, m52, m53, m54, m60, m61, s120, s13l]
        exact sBn ((m_team h).2 q0) (sT (by decide) rfl)
  · refine ⟨-2, ?_, ?_⟩
    · unfold fX10_pressed; try simp only [x02, m50, m51, m52, m53, m54, m60, m61, s120, s13l]
      exact sBn (c_noteam h) (sT (by decide) rfl)
    · unfold fX11_pressed; try simp only [x02, m50, m51, m52, m53, m54, m60, m61, s120, s13l]
      exact sBn (m_noteam h) (sT (by decide) rfl)
theorem s_longest {x : Int32} : STEP (fX10_longest 0 x) (fX11_longest 146 x) := by
  refine STEP.q (fun M a ρ h => ?_) (fun M h => ?_)
  · by_cases q0 : tmQ x
    · obtain ⟨t, ht, rfl⟩ := id q0
      have hn := h.n25
      have hz := h.hs.1
      refine ⟨runL (stLong ρ t) (fun s => s.1) (ρ 25) 0 ((nI 0, nI 0)), ?_, ?_⟩
      · unfold fX10_longest; try simp only [x02, m50, m51, m52, m53, m54, m60, m61, s120, s13l]
        refine sBn ((c_team h).1 q0) (sF (by decide) ?_)
        unfold fX1_longestOwn
        refine sBn (loopR (S := Int32 × Int32) (fun n k s => fX1_longestOwn_l7 24 (nI t) (fun (v : Int32) (v' : Int32) (w : Int32) (M' : xMem) => some (v, M')) n s.1 s.2 (nI k) M) (stLong ρ t) (fun s => s.1) (ρ 25) ((nI 0, nI 0)) (by omega) (fun n k s hk => ?_) (fun n s => ?_)) rfl
        · rw [fX1_longestOwn_l7.eq_2, hz]
          refine sF (by rw [eLe (by omega) (by omega)]; omega) ?_
          obtain ⟨b1, b2, b3, b4, b5, b6, b7, b8, b9, b10, b11, b12, b13, b14, b15, b16, b17⟩ := h.rb hk
          refine sCo 0 k (by decide) (by omega) rfl ?_
          rw [eCo (by decide) (by omega) rfl, c_col h hk (by decide)]
          unfold stLong
          by_cases q0 : rq ρ k 0 = t
          · rw [if_pos q0]
            refine sT (by rw [q0]) ?_
            refine sCo 3 k (by decide) (by omega) rfl ?_
            rw [eCo (by decide) (by omega) rfl, c_col h hk (by decide)]
            refine sJw (if rq ρ k 3 = 0 then nI 0 else s.2 + nI 1) M (fun J => ?_) (sLt (sLe (nI_1 k) rfl))
            by_cases q3 : rq ρ k 3 = 0
            · exact sT (by rw [q3]; decide) (by rw [if_pos q3])
            · exact sF (by rw [e_le0 (by omega)]; exact q3) (by rw [if_neg q3])
          · rw [if_neg q0]
            exact sF (by rw [eEq (by omega) (by omega)]; exact q0) (sLe (nI_1 k) rfl)
        · rw [fX1_longestOwn_l7.eq_2, hz]
          exact sT (by rw [eLe (by omega) (by omega)]; exact Nat.le_refl _) rfl
      · unfold fX11_longest; try simp only [x02, m50, m51, m52, m53, m54, m60, m61, s120, s13l]
        refine sBn ((m_team h).1 q0) (sF (by decide) ?_)
        refine loopR (S := Int32 × Int32) (fun n k s => fX11_longest_l18 146 (nI t) (fun (v : Int32) (v' : Int32) (w : Int32) (M' : xMem) => some (v, M')) n s.1 s.2 (nI k) M) (stLong ρ t) (fun s => s.1) (ρ 25) ((nI 0, nI 0)) (by omega) (fun n k s hk => ?_) (fun n s => ?_)
        · rw [fX11_longest_l18.eq_2, q_get h.tm (by decide), eBn]
          refine sF (by rw [eLe (by omega) (by omega)]; omega) ?_
          obtain ⟨b1, b2, b3, b4, b5, b6, b7, b8, b9, b10, b11, b12, b13, b14, b15, b16, b17⟩ := h.rb hk
          rw [h.rec hk (by decide), eBn]
          unfold stLong
          by_cases q0 : rq ρ k 0 = t
          · rw [if_pos q0]
            refine sT (by rw [q0]) ?_
            rw [h.rec hk (by decide), eBn]
            refine sJw (if rq ρ k 3 = 0 then nI 0 else s.2 + nI 1) M (fun J => ?_) (sLt (sLe (nI_1 k) rfl))
            by_cases q3 : rq ρ k 3 = 0
            · exact sT (by rw [q3]; decide) (by rw [if_pos q3])
            · exact sF (by rw [e_le0 (by omega)]; exact q3) (by rw [if_neg q3])
          · rw [if_neg q0]
            exact sF (by rw [eEq (by omega) (by omega)]; exact q0) (sLe (nI_1 k) rfl)
        · rw [fX11_longest_l18.eq_2, q_get h.tm (by decide), eBn]
          exact sT (by rw [eLe (by omega) (by omega)]; exact Nat.le_refl _) rfl
    · refine ⟨-2, ?_, ?_⟩
      · unfold fX10_longest; try simp only [x02, m50, m51, m52, m53, m54, m60, m61, s120, s13l]
        exact sBn ((c_team h).2 q0) (sT (by decide) rfl)
      · unfold fX11_longest; try simp only [x02, m50, m51, m52, m53, m54, m60, m61, s120, s13l]
        exact sBn ((m_team h).2 q0) (sT (by decide) rfl)
  · refine ⟨-2, ?_, ?_⟩
    · unfold fX10_longest; try simp only [x02, m50, m51, m52, m53, m54, m60, m61, s120, s13l]
      exact sBn (c_noteam h) (sT (by decide) rfl)
    · unfold fX11_longest; try simp only [x02, m50, m51, m52, m53, m54, m60, m61, s120, s13l]
      exact sBn (m_noteam h) (sT (by decide) rfl)
theorem s_run {x : Int32} : STEP (fX10_run 0 x) (fX11_run 146 x) := by
  refine STEP.q (fun M a ρ h => ?_) (fun M h => ?_)
  · by_cases q0 : tmQ x
    · obtain ⟨t, ht, rfl⟩ := id q0
      have hn := h.n25
      have hz := h.hs.1
      refine ⟨runL (stRun ρ t) (fun s => s.1) (ρ 25) 0 ((nI 0, nI 0)), ?_, ?_⟩
      · unfold fX10_run; try simp only [x02, m50, m51, m52, m53, m54, m60, m61, s120, s13l]
        refine sBn ((c_team h).1 q0) (sF (by decide) ?_)
        unfold fX1_longestRun
        refine sBn (loopR (S := Int32 × Int32) (fun n k s => fX1_longestRun_l7 24 (nI t) (fun (v : Int32) (v' : Int32) (w : Int32) (M' : xMem) => some (v, M')) n s.1 s.2 (nI k) M) (stRun ρ t) (fun s => s.1) (ρ 25) ((nI 0, nI 0)) (by omega) (fun n k s hk => ?_) (fun n s => ?_)) rfl
        · rw [fX1_longestRun_l7.eq_2, hz]
          refine sF (by rw [eLe (by omega) (by omega)]; omega) ?_
          have g1 := gpt_le h (t := t) hk
          have g2 := gpt_le h (t := 1 - t) hk
          rw [c_pointsOf h hk ht, eBn]
          refine sJw (if gpt ρ k t = 0 then nI 0 else if gpt ρ k (1 - t) = 0 then s.2 + nI 1 else nI 0) M (fun J => ?_) (sLt (sLe (nI_1 k) rfl))
          by_cases q : gpt ρ k t = 0
          · exact sT (by rw [q]; decide) (by rw [if_pos q])
          · refine sF (by rw [e_le0 (by omega)]; exact q) ?_
            rw [if_neg q, eSub (by omega), c_pointsOf h hk (by omega), eBn]
            by_cases q2 : gpt ρ k (1 - t) = 0
            · exact sT (by rw [q2]; decide) (by rw [if_pos q2])
            · exact sF (eN0 (by omega) q2) (by rw [if_neg q2])
        · rw [fX1_longestRun_l7.eq_2, hz]
          exact sT (by rw [eLe (by omega) (by omega)]; exact Nat.le_refl _) rfl
      · unfold fX11_run; try simp only [x02, m50, m51, m52, m53, m54, m60, m61, s120, s13l]
        refine sBn ((m_team h).1 q0) (sF (by decide) ?_)
        refine loopR (S := Int32 × Int32) (fun n k s => fX11_run_l18 146 (nI t) (fun (v : Int32) (v' : Int32) (w : Int32) (M' : xMem) => some (v, M')) n s.1 s.2 (nI k) M) (stRun ρ t) (fun s => s.1) (ρ 25) ((nI 0, nI 0)) (by omega) (fun n k s hk => ?_) (fun n s => ?_)
        · rw [fX11_run_l18.eq_2, q_get h.tm (by decide), eBn]
          refine sF (by rw [eLe (by omega) (by omega)]; omega) ?_
          have g1 := gpt_le h (t := t) hk
          have g2 := gpt_le h (t := 1 - t) hk
          have gg : ∀ u, u < 2 → fX11_gains 146 (nI k) (nI u) (nI 0) M = some (nI (gpt ρ k u), M) := fun u hu => by
            have := m_gains h hk hu (c := 0) (by decide)
            rw [if_neg (by decide)] at this
            exact this
          rw [gg t ht, eBn]
          refine sJw (if gpt ρ k t = 0 then nI 0 else if gpt ρ k (1 - t) = 0 then s.2 + nI 1 else nI 0) M (fun J => ?_) (sLt (sLe (nI_1 k) rfl))
          by_cases q : gpt ρ k t = 0
          · exact sT (by rw [q]; decide) (by rw [if_pos q])
          · refine sF (by rw [e_le0 (by omega)]; exact q) ?_
            rw [if_neg q, eSub (by omega), gg _ (by omega), eBn]
            by_cases q2 : gpt ρ k (1 - t) = 0
            · exact sT (by rw [q2]; decide) (by rw [if_pos q2])
            · exact sF (eN0 (by omega) q2) (by rw [if_neg q2])
        · rw [fX11_run_l18.eq_2, q_get h.tm (by decide), eBn]
          exact sT (by rw [eLe (by omega) (by omega)]; exact Nat.le_refl _) rfl
    · refine ⟨-2, ?_, ?_⟩
      · unfold fX10_run; try simp only [x02, m50, m51, m52, m53, m54, m60, m61, s120, s13l]
        exact sBn ((c_team h).2 q0) (sT (by decide) rfl)
      · unfold fX11_run; try simp only [x02, m50, m51, m52, m53, m54, m60, m61, s120, s13l]
        exact sBn ((m_team h).2 q0) (sT (by decide) rfl)
  · refine ⟨-2, ?_, ?_⟩
    · unfold fX10_run; try simp only [x02, m50, m51, m52, m53, m54, m60, m61, s120, s13l]
      exact sBn (c_noteam h) (sT (by decide) rfl)
    · unfold fX11_run; try simp only [x02, m50, m51, m52, m53, m54, m60, m61, s120, s13l]
      exact sBn (m_noteam h) (sT (by decide) rfl)
theorem s_streak {x y : Int32} : STEP (fX10_streak 0 x y) (fX11_streak 146 x y) := by
  refine STEP.q (fun M a ρ h => ?_) (fun M h => ?_)
  · by_cases q0 : plQ ρ x y
    · obtain ⟨t, i, ht, hi, rfl, rfl⟩ := id q0
      obtain ⟨-, h7, h10⟩ := h.sz ht
      have hn := h.n25
      have hz := h.hs.1
      refine ⟨runL (stStreak ρ t i) (fun s => s.1) (ρ 25) 0 ((nI 0, nI 0)), ?_, ?_⟩
      · unfold fX10_streak; try simp only [x02, m50, m51, m52, m53, m54, m60, m61, s120, s13l]
        refine sBn ((c_one h).1 q0) (sF (by decide) ?_)
        unfold fX1_streakOf
        refine sBn (loopR (S := Int32 × Int32) (fun n k s => fX1_streakOf_l8 24 (nI t) (nI i) (fun (v : Int32) (v' : Int32) (w : Int32) (M' : xMem) => some (v, M')) n s.1 s.2 (nI k) M) (stStreak ρ t i) (fun s => s.1) (ρ 25) ((nI 0, nI 0)) (by omega) (fun n k s hk => ?_) (fun n s => ?_)) rfl
        · rw [fX1_streakOf_l8.eq_2, hz]
          refine sF (by rw [eLe (by omega) (by omega)]; omega) ?_
          obtain ⟨b1, b2, b3, b4, b5, b6, b7, b8, b9, b10, b11, b12, b13, b14, b15, b16, b17⟩ := h.rb hk
          rw [c_isRaider h hk ht (by omega), eBn]
          unfold stStreak
          by_cases q0 : rq ρ k 0 = t ∧ rq ρ k 1 = i
          · rw [if_pos q0, if_pos q0]
            refine sF (by decide) ?_
            refine sCo 13 k (by decide) (by omega) rfl ?_
            rw [eCo (by decide) (by omega) rfl, (h.hs.2.1 k hk).2.2.2.2.2.1]
            refine sJw (if pBq ρ k = 0 then nI 0 else s.2 + nI 1) M (fun J => ?_) (sLt (sLe (nI_1 k) rfl))
            by_cases q3 : pBq ρ k = 0
            · exact sT (by rw [q3]; decide) (by rw [if_pos q3])
            · exact sF (by rw [e_le0 (by omega)]; exact q3) (by rw [if_neg q3])
          · rw [if_neg q0, if_neg q0]
            exact sT (by decide) (sLe (nI_1 k) rfl)
        · rw [fX1_streakOf_l8.eq_2, hz]
          exact sT (by rw [eLe (by omega) (by omega)]; exact Nat.le_refl _) rfl
      · unfold fX11_streak; try simp only [x02, m50, m51, m52, m53, m54, m60, m61, s120, s13l]
        refine sBn ((m_one h).1 q0) (sF (by decide) ?_)
        refine loopR (S := Int32 × Int32) (fun n k s => fX11_streak_l20 146 (nI t) (nI i) (fun (v : Int32) (v' : Int32) (w : Int32) (M' : xMem) => some (v, M')) n s.1 s.2 (nI k) M) (stStreak ρ t i) (fun s => s.1) (ρ 25) ((nI 0, nI 0)) (by omega) (fun n k s hk => ?_) (fun n s => ?_)
        · rw [fX11_streak_l20.eq_2, q_get h.tm (by decide), eBn]
          refine sF (by rw [eLe (by omega) (by omega)]; omega) ?_
          obtain ⟨b1, b2, b3, b4, b5, b6, b7, b8, b9, b10, b11, b12, b13, b14, b15, b16, b17⟩ := h.rb hk
          rw [m_isRaider h hk ht (by omega), eBn]
          unfold stStreak
          by_cases q0 : rq ρ k 0 = t ∧ rq ρ k 1 = i
          · rw [if_pos q0, if_pos q0]
            refine sF (by decide) ?_
            rw [m_pointsBy h hk, eBn]
            refine sJw (if pBq ρ k = 0 then nI 0 else s.2 + nI 1) M (fun J => ?_) (sLt (sLe (nI_1 k) rfl))
            by_cases q3 : pBq ρ k = 0
            · exact sT (by rw [q3]; decide) (by rw [if_pos q3])
            · exact sF (by rw [e_le0 (by omega)]; exact q3) (by rw [if_neg q3])
          · rw [if_neg q0, if_neg q0]
            exact sT (by decide) (sLe (nI_1 k) rfl)
        · rw [fX11_streak_l20.eq_2, q_get h.tm (by decide), eBn]
          exact sT (by rw [eLe (by omega) (by omega)]; exact Nat.le_refl _) rfl
    · refine ⟨-2, ?_, ?_⟩
      · unfold fX10_streak; try simp only [x02, m50, m51, m52, m53, m54, m60, m61, s120, s13l]
        exact sBn ((c_one h).2 q0) (sT (by decide) rfl)
      · unfold fX11_streak; try simp only [x02, m50, m51, m52, m53, m54, m60, m61, s120, s13l]
        exact sBn ((m_one h).2 q0) (sT (by decide) rfl)
  · refine ⟨-2, ?_, ?_⟩
    · unfold fX10_streak; try simp only [x02, m50, m51, m52, m53, m54, m60, m61, s120, s13l]
      exact sBn (c_noone h) (sT (by decide) rfl)
    · unfold fX11_streak; try simp only [x02, m50, m51, m52, m53, m54, m60, m61, s120, s13l]
      exact sBn (m_noone h) (sT (by decide) rfl)
theorem s_of {x y z : Int32} : STEP (fX10_of 0 x y z) (fX11_of 146 x y z) := by
  refine STEP.q (fun M a ρ h => ?_) (fun M h => ?_)
  · by_cases q0 : plQ ρ x y
    · by_cases q1 : wnQ z 0 7
      · obtain ⟨t, i, ht, hi, rfl, rfl⟩ := id q0
        obtain ⟨-, h7, h10⟩ := h.sz ht
        obtain ⟨w, hwl, hw, rfl⟩ := id q1
        refine ⟨nI (ofV ρ t i w), ?_, ?_⟩
        · unfold fX10_of; try simp only [x02, m50, m51, m52, m53, m54, m60, m61, s120, s13l]
          refine sBn ((c_one h).1 q0) (sF (by decide) ?_)
          refine sBn ((c_within (by decide) (by decide)).1 q1) (sF (by decide) ?_)
          exact sBn (c_tallyOf h ht hi (by omega)) rfl
        · unfold fX11_of; try simp only [x02, m50, m51, m52, m53, m54, m60, m61, s120, s13l]
          refine sBn ((m_one h).1 q0) (sF (by decide) ?_)
          refine sBn ((m_within (by decide) (by decide)).1 q1) (sF (by decide) ?_)
          exact sBn (m_ofOne h ht (by omega) (by omega)) rfl
      · refine ⟨-2, ?_, ?_⟩
        · unfold fX10_of; try simp only [x02, m50, m51, m52, m53, m54, m60, m61, s120, s13l]
          refine sBn ((c_one h).1 q0) (sF (by decide) ?_)
          exact sBn ((c_within (by decide) (by decide)).2 q1) (sT (by decide) rfl)
        · unfold fX11_of; try simp only [x02, m50, m51, m52, m53, m54, m60, m61, s120, s13l]
          refine sBn ((m_one h).1 q0) (sF (by decide) ?_)
          exact sBn ((m_within (by decide) (by decide)).2 q1) (sT (by decide) rfl)
    · refine ⟨-2, ?_, ?_⟩
      · unfold fX10_of; try simp only [x02, m50, m51, m52, m53, m54, m60, m61, s120, s13l]
        exact sBn ((c_one h).2 q0) (sT (by decide) rfl)
      · unfold fX11_of; try simp only [x02, m50, m51, m52, m53, m54, m60, m61, s120, s13l]
        exact sBn ((m_one h).2 q0) (sT (by decide) rfl)
  · refine ⟨-2, ?_, ?_⟩
    · unfold fX10_of; try simp only [x02, m50, m51, m52, m53, m54, m60, m61, s120, s13l]
      exact sBn (c_noone h) (sT (by decide) rfl)
    · unfold fX11_of; try simp only [x02, m50, m51, m52, m53, m54, m60, m61, s120, s13l]
      exact sBn (m_noone h) (sT (by decide) rfl)
theorem s_some {x y : Int32} : STEP (fX10_some 0 x y) (fX11_some 146 x y) := by
  refine STEP.q (fun M a ρ h => ?_) (fun M h => ?_)
  · by_cases q0 : tmQ x
    · by_cases q1 : wnQ y 0 7
      · obtain ⟨t, ht, rfl⟩ := id q0
        obtain ⟨w, hwl, hw, rfl⟩ := id q1
        obtain ⟨e, h7, h10⟩ := h.sz ht
        refine ⟨runL (stSome ρ t w) (id) (ρ (1 + t)) 0 (nI 0), ?_, ?_⟩
        · unfold fX10_some; try simp only [x02, m50, m51, m52, m53, m54, m60, m61, s120, s13l]
          refine sBn ((c_team h).1 q0) (sF (by decide) ?_)
          refine sBn ((c_within (by decide) (by decide)).1 q1) (sF (by decide) ?_)
          refine loopR (S := Int32) (fun n k s => fX10_some_l26 0 (nI t) (nI w) (fun (v : Int32) (w : Int32) (M' : xMem) => some (v, M')) n s (nI k) M) (stSome ρ t w) (id) (ρ (1 + t)) (nI 0) (by omega) (fun n k s hk => ?_) (fun n s => ?_)
          · rw [fX10_some_l26.eq_2, x02, m50, m60, x_ros ht, eBn, e]
            refine sF (by rw [eLe (by omega) (by omega)]; omega) ?_
            rw [c_tallyOf h ht hk (by omega), eBn]
            have hv := ofV_le h (w := w) ht (show k < 10 by omega)
            unfold stSome
            by_cases q : ofV ρ t k w = 0
            · rw [if_pos q, orI0]
              exact sT (by rw [q]; decide) (sLe (nI_1 k) rfl)
            · rw [if_neg q]
              exact sF (by rw [e_le0 (by omega)]; exact q) (sLt (sLe (nI_1 k) rfl))
          · rw [fX10_some_l26.eq_2, x02, m50, m60, x_ros ht, eBn, e]
            exact sT (by rw [eLe (by omega) (by omega)]; exact Nat.le_refl _) rfl
        · unfold fX11_some; try simp only [x02, m50, m51, m52, m53, m54, m60, m61, s120, s13l]
          refine sBn ((m_team h).1 q0) (sF (by decide) ?_)
          refine sBn ((m_within (by decide) (by decide)).1 q1) (sF (by decide) ?_)
          refine loopR (S := Int32) (fun n k s => fX11_some_l28 146 (nI t) (nI w) (fun (v : Int32) (w : Int32) (M' : xMem) => some (v, M')) n s (nI k) M) (stSome ρ t w) (id) (ρ (1 + t)) (nI 0) (by omega) (fun n k s hk => ?_) (fun n s => ?_)
          · rw [fX11_some_l28.eq_2, q_many h.tm ht, eBn]
            refine sF (by rw [eLe (by omega) (by omega)]; omega) ?_
            rw [m_ofOne h ht (by omega) (by omega), eBn]
            have hv := ofV_le h (w := w) ht (show k < 10 by omega)
            unfold stSome
            rw [eLt]
            by_cases q : ofV ρ t k w = 0
            · rw [if_pos q]
              exact sT (by rw [q]; decide) (sLt (sLe (nI_1 k) rfl))
            · rw [if_neg q]
              exact sF (by rw [e_le0 (by omega)]; exact q) (sLt (sLe (nI_1 k) rfl))
          · rw [fX11_some_l28.eq_2, q_many h.tm ht, eBn]
            exact sT (by rw [eLe (by omega) (by omega)]; exact Nat.le_refl _) rfl
      · refine ⟨-2, ?_, ?_⟩
        · unfold fX10_some; try simp only [x02, m50, m51, m52, m53, m54, m60, m61, s120, s13l]
          refine sBn ((c_team h).1 q0) (sF (by decide) ?_)
          exact sBn ((c_within (by decide) (by decide)).2 q1) (sT (by decide) rfl)
        · unfold fX11_some; try simp only [x02, m50, m51, m52, m53, m54, m60, m61, s120, s13l]
          refine sBn ((m_team h).1 q0) (sF (by decide) ?_)
          exact sBn ((m_within (by decide) (by decide)).2 q1) (sT (by decide) rfl)
    · refine ⟨-2, ?_, ?_⟩
      · unfold fX10_some; try simp only [x02, m50, m51, m52, m53, m54, m60, m61, s120, s13l]
        exact sBn ((c_team h).2 q0) (sT (by decide) rfl)
      · unfold fX11_some; try simp only [x02, m50, m51, m52, m53, m54, m60, m61, s120, s13l]
        exact sBn ((m_team h).2 q0) (sT (by decide) rfl)
  · refine ⟨-2, ?_, ?_⟩
    · unfold fX10_some; try simp only [x02, m50, m51, m52, m53, m54, m60, m61, s120, s13l]
      exact sBn (c_noteam h) (sT (by decide) rfl)
    · unfold fX11_some; try simp only [x02, m50, m51, m52, m53, m54, m60, m61, s120, s13l]
      exact sBn (m_noteam h) (sT (by decide) rfl)
theorem s_sum {x y : Int32} : STEP (fX10_sum 0 x y) (fX11_sum 146 x y) := by
  refine STEP.q (fun M a ρ h => ?_) (fun M h => ?_)
  · by_cases q0 : tmQ x
    · by_cases q1 : wnQ y 0 7
      · obtain ⟨t, ht, rfl⟩ := id q0
        obtain ⟨w, hwl, hw, rfl⟩ := id q1
        obtain ⟨e, h7, h10⟩ := h.sz ht
        refine ⟨runL (stSum ρ t w) (id) (ρ (1 + t)) 0 (nI 0), ?_, ?_⟩
        · unfold fX10_sum; try simp only [x02, m50, m51, m52, m53, m54, m60, m61, s120, s13l]
          refine sBn ((c_team h).1 q0) (sF (by decide) ?_)
          refine sBn ((c_within (by decide) (by decide)).1 q1) (sF (by decide) ?_)
          refine loopR (S := Int32) (fun n k s => fX10_sum_l26 0 (nI t) (nI w) (fun (v : Int32) (w : Int32) (M' : xMem) => some (v, M')) n s (nI k) M) (stSum ρ t w) (id) (ρ (1 + t)) (nI 0) (by omega) (fun n k s hk => ?_) (fun n s => ?_)
          · rw [fX10_sum_l26.eq_2, x02, m50, m60, x_ros ht, eBn, e]
            refine sF (by rw [eLe (by omega) (by omega)]; omega) ?_
            rw [c_tallyOf h ht hk (by omega), eBn]
            exact sLt (sLe (nI_1 k) rfl)
          · rw [fX10_sum_l26.eq_2, x02, m50, m60, x_ros ht, eBn, e]
            exact sT (by rw [eLe (by omega) (by omega)]; exact Nat.le_refl _) rfl
        · unfold fX11_sum; try simp only [x02, m50, m51, m52, m53, m54, m60, m61, s120, s13l]
          refine sBn ((m_team h).1 q0) (sF (by decide) ?_)
          refine sBn ((m_within (by decide) (by decide)).1 q1) (sF (by decide) ?_)
          refine loopR (S := Int32) (fun n k s => fX11_sum_l28 146 (nI t) (nI w) (fun (v : Int32) (w : Int32) (M' : xMem) => some (v, M')) n s (nI k) M) (stSum ρ t w) (id) (ρ (1 + t)) (nI 0) (by omega) (fun n k s hk => ?_) (fun n s => ?_)
          · rw [fX11_sum_l28.eq_2, q_many h.tm ht, eBn]
            refine sF (by rw [eLe (by omega) (by omega)]; omega) ?_
            rw [m_ofOne h ht (by omega) (by omega), eBn]
            exact sLt (sLe (nI_1 k) rfl)
          · rw [fX11_sum_l28.eq_2, q_many h.tm ht, eBn]
            exact sT (by rw [eLe (by omega) (by omega)]; exact Nat.le_refl _) rfl
      · refine ⟨-2, ?_, ?_⟩
        · unfold fX10_sum; try simp only [x02, m50, m51, m52, m53, m54, m60, m61, s120, s13l]
          refine sBn ((c_team h).1 q0) (sF (by decide) ?_)
          exact sBn ((c_within (by decide) (by decide)).2 q1) (sT (by decide) rfl)
        · unfold fX11_sum; try simp only [x02, m50, m51, m52, m53, m54, m60, m61, s120, s13l]
          refine sBn ((m_team h).1 q0) (sF (by decide) ?_)
          exact sBn ((m_within (by decide) (by decide)).2 q1) (sT (by decide) rfl)
    · refine ⟨-2, ?_, ?_⟩
      · unfold fX10_sum; try simp only [x02, m50, m51, m52, m53, m54, m60, m61, s120, s13l]
        exact sBn ((c_team h).2 q0) (sT (by decide) rfl)
      · unfold fX11_sum; try simp only [x02, m50, m51, m52, m53, m54, m60, m61, s120, s13l]
        exact sBn ((m_team h).2 q0) (sT (by decide) rfl)
  · refine ⟨-2, ?_, ?_⟩
    · unfold fX10_sum; try simp only [x02, m50, m51, m52, m53, m54, m60, m61, s120, s13l]
      exact sBn (c_noteam h) (sT (by decide) rfl)
    · unfold fX11_sum; try simp only [x02, m50, m51, m52, m53, m54, m60, m61, s120, s13l]
      exact sBn (m_noteam h) (sT (by decide) rfl)
