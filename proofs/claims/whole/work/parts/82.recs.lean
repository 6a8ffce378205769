/-! ===== what is asked of raids ===== -/
section
variable {M : xMem} {a : xTl} {ρ : Nat → Nat}
theorem TQ.rc (h : TQ M a ρ) {k : Nat} (hk : k < ρ 25) : ∃ tk tl, RcO ρ k tk tl := h.hs.rc hk
theorem TQ.n25 (h : TQ M a ρ) : ρ 25 ≤ 200 := h.bd.1
theorem TQ.rb (h : TQ M a ρ) {k : Nat} (hk : k < ρ 25) : rq ρ k 0 < 2 ∧ rq ρ k 1 < 10 ∧ rq ρ k 2 < 5 ∧ rq ρ k 6 < 2 ∧ rq ρ k 7 < 2 ∧ rq ρ k 8 ≤ 20 ∧ rq ρ k 9 < 4 ∧ rq ρ k 10 < 1024 ∧ rq ρ k 11 < 1024 ∧ rq ρ k 3 ≤ 13 ∧ rq ρ k 4 ≤ 4 ∧ rq ρ k 13 ≤ 80 ∧ rq ρ k 14 ≤ 80 ∧ (rq ρ k 2 = 3 → rq ρ k 5 < 10) ∧ (rq ρ k 2 = 1 → rq ρ k 5 < 1024) ∧ pBq ρ k ≤ 9 ∧ nTq ρ k ≤ 7 := by
  obtain ⟨tk, tl, hc⟩ := h.rc hk
  have s := hc.set
  have pb := hc.pB
  have nt := hc.nT
  have b26 := h.bd.2.1
  obtain ⟨a1, a2, a3, a4, a5, a6, a7, a8, a9, a10, a11, a12, a13, a14, a15, b1, b2, b3, b4, b5, b6, b7, b8⟩ := hc
  refine ⟨a1, a2, a3, a5, a6, a7, a8, a9, a10, a12, a13, by omega, by omega, fun e => by rw [s.1 e]; exact b6, fun e => (s.2 e).2, ?_, by omega⟩
  rw [pb]
  split <;> omega
theorem TQ.rec (h : TQ M a ρ) {k w : Nat} (hk : k < ρ 25) (hw : w < 15) : fX11_rec 146 (nI k) (nI w) M = some (nI (rq ρ k w), M) := q_rec h.tm (by have := h.n25; omega) hw
theorem q_bitsS (v : Nat) (M : xMem) (hv : v < 1024) : fX11_bits (nI v) M = some (nI (pcn v), M) := e_bits hv
theorem m_pointsBy (h : TQ M a ρ) {k : Nat} (hk : k < ρ 25) : fX11_pointsBy 146 (nI k) M = some (nI (pBq ρ k), M) := by
  have hb := h.rb hk
  unfold fX11_pointsBy
  rw [h.rec hk (by decide), eBn]
  refine sJw (nI (if rq ρ k 2 = 1 then pcn (rq ρ k 5) else if rq ρ k 2 = 2 then 1 else 0)) M (fun J => ?_) ?_
  · by_cases q : rq ρ k 2 = 1
    · refine sT (by rw [q]) ?_
      rw [h.rec hk (by decide), eBn, e_bits (hb.2.2.2.2.2.2.2.2.2.2.2.2.2.2.1 q), eBn, if_pos q]
    · refine sF (by rw [eEq (by omega) (by decide)]; exact q) ?_
      rw [if_neg q, h.rec hk (by decide), eBn]
      by_cases q2 : rq ρ k 2 = 2
      · exact sT (by rw [q2]) (by rw [if_pos q2])
      · exact sF (by rw [eEq (by omega) (by decide)]; exact q2) (by rw [if_neg q2])
  · rw [h.rec hk (by decide), eBn, nI_add]
    rfl
theorem m_isRaider (h : TQ M a ρ) {k t i : Nat} (hk : k < ρ 25) (ht : t < 2) (hi : i < 10) : fX11_isRaider 146 (nI k) (nI t) (nI i) M = some (nI (if rq ρ k 0 = t ∧ rq ρ k 1 = i then 1 else 0), M) := by
  have hb := h.rb hk
  unfold fX11_isRaider
  rw [h.rec hk (by decide), eBn]
  by_cases q : rq ρ k 0 = t
  · refine sT (by rw [q]) ?_
    rw [h.rec hk (by decide), eBn]
    by_cases q2 : rq ρ k 1 = i
    · exact sT (by rw [q2]) (by rw [if_pos ⟨q, q2⟩])
    · exact sF (by rw [eEq (by omega) (by omega)]; exact q2) (by rw [if_neg (fun z => q2 z.2)])
  · exact sF (by rw [eEq (by omega) (by omega)]; exact q) (by rw [if_neg (fun z => q z.1)])
theorem m_isTackler (h : TQ M a ρ) {k t i : Nat} (hk : k < ρ 25) (ht : t < 2) (hi : i < 10) : fX11_isTackler 146 (nI k) (nI t) (nI i) M = some (nI (if 1 - rq ρ k 0 = t ∧ rq ρ k 2 = 3 ∧ rq ρ k 5 = i then 1 else 0), M) := by
  have hb := h.rb hk
  unfold fX11_isTackler
  rw [h.rec hk (by decide), eBn]
  by_cases q : rq ρ k 0 = t
  · exact sT (by rw [q]) (by rw [if_neg (by omega)])
  · refine sF (by rw [eEq (by omega) (by omega)]; exact q) ?_
    rw [h.rec hk (by decide), eBn]
    by_cases q2 : rq ρ k 2 = 3
    · refine sT (by rw [q2]) ?_
      rw [h.rec hk (by decide), eBn]
      have h5 := hb.2.2.2.2.2.2.2.2.2.2.2.2.2.1 q2
      by_cases q3 : rq ρ k 5 = i
      · exact sT (by rw [q3]) (by rw [if_pos ⟨by omega, q2, q3⟩])
      · exact sF (by rw [eEq (by omega) (by omega)]; exact q3) (by rw [if_neg (fun z => q3 z.2.2)])
    · exact sF (by rw [eEq (by omega) (by decide)]; exact q2) (by rw [if_neg (fun z => q2 z.2.1)])
theorem m_tackleOf (h : TQ M a ρ) {k : Nat} (hk : k < ρ 25) (h3 : rq ρ k 2 = 3) : fX11_tackleOf 146 (nI k) M = some (nI (1 + spq ρ k), M) := by
  have hb := h.rb hk
  unfold fX11_tackleOf
  rw [h.rec hk (by decide), eBn, eSub (by omega), h.rec hk (by omega), eBn]
  have e : 11 - rq ρ k 0 = 10 + (1 - rq ρ k 0) := by omega
  rw [e]
  have hlt : rq ρ k (10 + (1 - rq ρ k 0)) < 1024 := by
    rcases (show rq ρ k 0 = 0 ∨ rq ρ k 0 = 1 by omega) with z | z <;> rw [z]
    · exact hb.2.2.2.2.2.2.2.2.1
    · exact hb.2.2.2.2.2.2.2.1
  have hp := pcn_le _ hlt
  rw [e_bits hlt, eBn]
  unfold spq
  by_cases q : pcn (rq ρ k (10 + (1 - rq ρ k 0))) ≤ 3
  · exact sF (by rw [eLtI (by decide) (by omega)]; omega) (by rw [if_pos ⟨h3, q⟩])
  · exact sT (by rw [eLtI (by decide) (by omega)]; omega) (by rw [if_neg (fun z => q z.2)])
theorem m_wentOut (h : TQ M a ρ) {k : Nat} (hk : k < ρ 25) : fX11_wentOut 146 (nI k) M = some (nI (woq ρ k), M) := by
  have hb := h.rb hk
  unfold fX11_wentOut woq
  rw [h.rec hk (by decide), eBn]
  by_cases q3 : rq ρ k 2 = 3
  · exact sT (by rw [q3]) (by rw [if_pos (Or.inl q3)])
  · refine sF (by rw [eEq (by omega) (by decide)]; exact q3) ?_
    by_cases q4 : rq ρ k 2 = 4
    · exact sT (by rw [q4]) (by rw [if_pos (Or.inr (Or.inl q4))])
    · refine sF (by rw [eEq (by omega) (by decide)]; exact q4) ?_
      by_cases q0 : rq ρ k 2 = 0
      · refine sT (by rw [q0]; decide) ?_
        rw [h.rec hk (by decide), eBn]
        by_cases q7 : rq ρ k 7 = 1
        · exact sT (by rw [q7]) (by rw [if_pos (Or.inr (Or.inr ⟨q0, q7⟩))])
        · exact sF (by rw [eEq (by omega) (by decide)]; exact q7) (by rw [if_neg (by omega)])
      · exact sF (eN0 (by omega) q0) (by rw [if_neg (by omega)])
theorem m_has {v i : Nat} {M : xMem} (hv : v < 1024) (hi : i < 31) : fX11_has (nI v) (nI i) M = some (nI (v / 2 ^ i % 2), M) := by
  unfold fX11_has
  rw [e_bitI (by omega) hi]
  have : v / 2 ^ i % 2 < 2 := Nat.mod_lt _ (by decide)
  by_cases q : v / 2 ^ i % 2 = 1
  · exact sT (by rw [q]) (by rw [q])
  · exact sF (by rw [eEq (by omega) (by decide)]; exact q) (by rw [show v / 2 ^ i % 2 = 0 by omega])
theorem m_isTouched (h : TQ M a ρ) {k t i : Nat} (hk : k < ρ 25) (ht : t < 2) (hi : i < 10) : fX11_isTouched 146 (nI k) (nI t) (nI i) M = some (nI (if 1 - rq ρ k 0 = t ∧ rq ρ k 2 = 1 then rq ρ k 5 / 2 ^ i % 2 else 0), M) := by
  have hb := h.rb hk
  unfold fX11_isTouched
  rw [h.rec hk (by decide), eBn]
  by_cases q : rq ρ k 0 = t
  · exact sT (by rw [q]) (by rw [if_neg (by omega)])
  · refine sF (by rw [eEq (by omega) (by omega)]; exact q) ?_
    rw [h.rec hk (by decide), eBn]
    by_cases q2 : rq ρ k 2 = 1
    · refine sT (by rw [q2]) ?_
      have h5 := hb.2.2.2.2.2.2.2.2.2.2.2.2.2.2.1 q2
      rw [h.rec hk (by decide), eBn, m_has h5 (by omega), eBn, if_pos (show 1 - rq ρ k 0 = t ∧ rq ρ k 2 = 1 from ⟨by omega, q2⟩)]
      have : rq ρ k 5 / 2 ^ i % 2 < 2 := Nat.mod_lt _ (by decide)
      rcases (show rq ρ k 5 / 2 ^ i % 2 = 0 ∨ rq ρ k 5 / 2 ^ i % 2 = 1 by omega) with z | z
      · rw [z]; exact sT (by decide) rfl
      · rw [z]; exact sF (by decide) rfl
    · exact sF (by rw [eEq (by omega) (by decide)]; exact q2) (by rw [if_neg (fun z => q2 z.2)])
theorem eB2 {v : Nat} {A B z : Option (Int32 × xMem)} (hv : v < 2) (h0 : v = 0 → A = z) (h1 : v = 1 → B = z) : (if nI v = 0 then A else B) = z := by
  rcases (show v = 0 ∨ v = 1 by omega) with q | q
  · exact sT (by rw [q]; decide) (h0 q)
  · exact sF (by rw [q]; decide) (h1 q)
theorem ite01 (c : Prop) [Decidable c] : (if c then 1 else 0) < 2 := by split <;> decide
theorem ite_0 {c : Prop} [Decidable c] (h : (if c then 1 else 0) = 0) : ¬ c := fun q => by rw [if_pos q] at h; omega
theorem ite_1 {c : Prop} [Decidable c] (h : (if c then 1 else 0) = 1) : c := by
  by_cases q : c
  · exact q
  · rw [if_neg q] at h; omega
theorem m_inRaid (h : TQ M a ρ) {k t i w : Nat} (hk : k < ρ 25) (ht : t < 2) (hi : i < 10) (hw : w < 7) : fX11_inRaid 146 (nI k) (nI t) (nI i) (nI w) M = some (nI (inq ρ k t i w), M) := by
  have hb := h.rb hk
  have hwo : woq ρ k < 2 := by unfold woq; split <;> decide
  unfold fX11_inRaid inq inN
  rw [m_isRaider h hk ht hi, eBn]
  rcases (show w = 0 ∨ w = 1 ∨ w = 2 ∨ w = 3 ∨ w = 4 ∨ w = 5 ∨ w = 6 by omega) with rfl | rfl | rfl | rfl | rfl | rfl | rfl
  · refine sT rfl (eB2 (ite01 _) (fun q => ?_) (fun q => ?_))
    · rw [if_pos rfl, if_neg (ite_0 q)]
    · rw [if_pos rfl, if_pos (ite_1 q)]
  · refine sF (by decide) (sT rfl (eB2 (ite01 _) (fun q => ?_) (fun q => ?_)))
    · rw [if_neg (by decide), if_pos rfl, if_neg (ite_0 q)]
    · rw [m_pointsBy h hk, eBn, if_neg (show ¬ 1 = 0 by decide), if_pos rfl, if_pos (ite_1 q)]
  · refine sF (by decide) (sF (by decide) (sT rfl (eB2 (ite01 _) (fun q => ?_) (fun q => ?_))))
    · rw [if_neg (by decide), if_neg (by decide), if_pos rfl, if_neg (ite_0 q)]
    · rw [h.rec hk (by decide), eBn, if_neg (show ¬ 2 = 0 by decide), if_neg (show ¬ 2 = 1 by decide), if_pos (show 2 = 2 from rfl), if_pos (ite_1 q)]
      unfold nTq
      by_cases q2 : rq ρ k 2 = 1
      · refine sT (by rw [q2]) ?_
        rw [h.rec hk (by decide), eBn, e_bits (hb.2.2.2.2.2.2.2.2.2.2.2.2.2.2.1 q2), eBn, if_pos q2]
      · exact sF (by rw [eEq (by omega) (by decide)]; exact q2) (by rw [if_neg q2])
  · refine sF (by decide) (sF (by decide) (sF (by decide) (sT rfl ?_)))
    rw [m_isTackler h hk ht hi, eBn]
    refine eB2 (ite01 _) (fun q => ?_) (fun q => ?_)
    · rw [if_neg (by decide), if_neg (by decide), if_neg (by decide), if_pos rfl, if_neg (ite_0 q)]
    · rw [if_neg (show ¬ 3 = 0 by decide), if_neg (show ¬ 3 = 1 by decide), if_neg (show ¬ 3 = 2 by decide), if_pos (show 3 = 3 from rfl), if_pos (ite_1 q)]
  · refine sF (by decide) (sF (by decide) (sF (by decide) (sF (by decide) (sT rfl ?_))))
    rw [m_isTackler h hk ht hi, eBn]
    refine eB2 (ite01 _) (fun q => ?_) (fun q => ?_)
    · rw [if_neg (by decide), if_neg (by decide), if_neg (by decide), if_neg (by decide), if_pos rfl, if_neg (ite_0 q)]
    · rw [m_tackleOf h hk (ite_1 q).2.1, eBn, if_neg (show ¬ 4 = 0 by decide), if_neg (show ¬ 4 = 1 by decide), if_neg (show ¬ 4 = 2 by decide), if_neg (show ¬ 4 = 3 by decide), if_pos (show 4 = 4 from rfl), if_pos (ite_1 q)]
  · refine sF (by decide) (sF (by decide) (sF (by decide) (sF (by decide) (sF (by decide) (sT rfl ?_)))))
    rw [if_neg (show ¬ 5 = 0 by decide), if_neg (show ¬ 5 = 1 by decide), if_neg (show ¬ 5 = 2 by decide), if_neg (show ¬ 5 = 3 by decide), if_neg (show ¬ 5 = 4 by decide), if_pos (show 5 = 5 from rfl)]
    have hT : (if 1 - rq ρ k 0 = t ∧ rq ρ k 2 = 1 then rq ρ k 5 / 2 ^ i % 2 else 0) < 2 := by
      split
      · exact Nat.mod_lt _ (by decide)
      · decide
    have hJ : (xBn (fX11_isTouched 146 (nI k) (nI t) (nI i) M) fun r24 M25 => if r24 = 0 then (some ((nI 0), M25)) else (some ((nI 1), M25)) : Option (Int32 × xMem)) = some (nI (if 1 - rq ρ k 0 = t ∧ rq ρ k 2 = 1 then rq ρ k 5 / 2 ^ i % 2 else 0), M) := by
      rw [m_isTouched h hk ht hi, eBn]
      exact eB2 hT (fun q => by rw [q]) (fun q => by rw [q])
    rw [eLt]
    refine eB2 (ite01 _) (fun q => ?_) (fun q => ?_)
    · rw [if_neg (ite_0 q), Nat.zero_add]
      exact hJ
    · have q' := ite_1 q
      have e0 : (if 1 - rq ρ k 0 = t ∧ rq ρ k 2 = 1 then rq ρ k 5 / 2 ^ i % 2 else 0) = 0 := if_neg (by omega)
      rw [m_wentOut h hk, eBn, if_pos q', e0]
      refine eB2 hwo (fun z => ?_) (fun z => ?_)
      · rw [e0] at hJ
        rw [z]
        exact hJ
      · rw [z]
  · refine sF (by decide) (sF (by decide) (sF (by decide) (sF (by decide) (sF (by decide) (sF (by decide) ?_)))))
    rw [if_neg (show ¬ 6 = 0 by decide), if_neg (show ¬ 6 = 1 by decide), if_neg (show ¬ 6 = 2 by decide), if_neg (show ¬ 6 = 3 by decide), if_neg (show ¬ 6 = 4 by decide), if_neg (show ¬ 6 = 5 by decide)]
    refine eB2 (ite01 _) (fun q => ?_) (fun q => ?_)
    · rw [if_neg (fun z => ite_0 q ⟨z.1, z.2.1⟩)]
    · have q' := ite_1 q
      rw [h.rec hk (by decide), eBn]
      by_cases q0 : rq ρ k 2 = 0
      · exact sT (by rw [q0]; decide) (by rw [if_pos ⟨q'.1, q'.2, q0⟩])
      · exact sF (eN0 (by omega) q0) (by rw [if_neg (fun z => q0 z.2.2)])
/-- what of() tells -/
def ofV (ρ : Nat → Nat) (t i w : Nat) : Nat := if w = 7 then ρ (88 + 10 * t + i) else tal ρ t i w
theorem m_ofOne (h : TQ M a ρ) {t i w : Nat} (ht : t < 2) (hi : i < 10) (hw : w < 8) : fX11_ofOne 146 (nI t) (nI i) (nI w) M = some (nI (ofV ρ t i w), M) := by
  have hn := h.n25
  unfold fX11_ofOne ofV
  by_cases q : w = 7
  · refine sT (by rw [q]) ?_
    rw [pk_mul, nI_add, nI_add, q_get h.tm (by omega), eBn, if_pos q]
  · refine sF (by rw [eEq (by omega) (by decide)]; exact q) ?_
    rw [if_neg q]
    unfold tal
    refine loopU (fun n k => fX11_ofOne_l26 146 (nI t) (nI i) (nI w) (fun (v7 : Int32) (v8 : Int32) (M9 : xMem) => some (v7, M9)) n (nI (sumR (fun k => inq ρ k t i w) k)) (nI k) M) (ρ 25) _ (by omega) (fun n k hk => ?_) (fun n => ?_)
    · rw [fX11_ofOne_l26.eq_2, q_get h.tm (by decide), eBn]
      refine sF (by rw [eLe (by omega) (by omega)]; omega) ?_
      rw [m_inRaid h hk ht hi (by omega), eBn, nI_add]
      exact sLt (sLe (nI_1 k) rfl)
    · rw [fX11_ofOne_l26.eq_2, q_get h.tm (by decide), eBn]
      exact sT (by rw [eLe (by omega) (by omega)]; exact Nat.le_refl _) rfl
theorem c_tallyAt (h : TQ M a ρ) {t i w : Nat} (ht : t < 2) (hi : i < 10) (hw : w < 7) : fX1_tallyAt 24 (nI t) (nI i) (nI w) M = some (nI (tal ρ t i w), M) := by
  have hlt : taA t i w < 160 := by unfold taA; omega
  unfold fX1_tallyAt
  refine sLe (e_taA t i w) ?_
  rw [h3, hl44]
  refine sF (nI_pos (by omega)) (sF (by rw [eLe (by decide) (by omega)]; omega) (sGb _ rfl hlt (by decide) ?_))
  rw [eCl (by omega), h.hs.2.2.2.1 t i w ht hi hw]
theorem c_tallyOf (h : TQ M a ρ) {t i w : Nat} (ht : t < 2) (hi : i < ρ (1 + t)) (hw : w < 8) : fX2_tallyOf 5 (nI t) (nI i) (nI w) M = some (nI (ofV ρ t i w), M) := by
  obtain ⟨-, h7, h10⟩ := h.sz ht
  unfold fX2_tallyOf ofV
  rw [m51, m52, s120, s13l]
  by_cases q : w = 7
  · refine sT (by rw [q]) (sGb t rfl ht (by decide) ?_)
    rw [x13 ht, (sdF ht).1.2.2.1, (sdF ht).2.2.2.1]
    refine sGb i rfl (by omega) (by decide) ?_
    rw [eCl (by omega), ((h.sd ht).2.2.1 i hi).2.2, if_pos q]
  · refine sF (by rw [eEq (by omega) (by decide)]; exact q) ?_
    rw [c_tallyAt h ht (by omega) (by omega), eBn, if_neg q]
theorem inq_le (h : TQ M a ρ) {k t i w : Nat} (hk : k < ρ 25) : inq ρ k t i w ≤ 10 := by
  have hb := h.rb hk
  have hwo : woq ρ k < 2 := by unfold woq; split <;> decide
  have hsp : spq ρ k < 2 := by unfold spq; split <;> decide
  have hm : rq ρ k 5 / 2 ^ i % 2 < 2 := Nat.mod_lt _ (by decide)
  obtain ⟨b1, b2, b3, b4, b5, b6, b7, b8, b9, b10, b11, b12, b13, b14, b15, b16, b17⟩ := hb
  unfold inq inN
  split
  · split <;> omega
  split
  · split <;> omega
  split
  · split <;> omega
  split
  · split <;> omega
  split
  · split <;> omega
  split
  · split <;> split <;> omega
  · split <;> omega
theorem sumR_le {f : Nat → Nat} {b : Nat} : ∀ {n : Nat}, (∀ k, k < n → f k ≤ b) → sumR f n ≤ b * n
  | 0, _ => Nat.zero_le _
  | n + 1, h => by
    have h1 := sumR_le (n := n) (fun k hk => h k (by omega))
    have h2 := h n (by omega)
    have : b * (n + 1) = b * n + b := Nat.mul_succ b n
    unfold sumR
    omega
theorem tal_le (h : TQ M a ρ) (t i w : Nat) : tal ρ t i w ≤ 2000 := by
  have := sumR_le (f := fun k => inq ρ k t i w) (b := 10) (n := ρ 25) (fun k hk => inq_le h hk)
  have hn := h.n25
  unfold tal
  omega
/-! the class's columns -/
theorem c_col (h : TQ M a ρ) {k w : Nat} (hk : k < ρ 25) (hw : w < 9) : M.1 (26 + w) k = nI (rq ρ k w) := (h.hs.2.1 k hk).1 w hw
theorem c_isRaider (h : TQ M a ρ) {k t i : Nat} (hk : k < ρ 25) (ht : t < 2) (hi : i < 10) : fX1_isRaider 24 (nI t) (nI i) (nI k) M = some (nI (if rq ρ k 0 = t ∧ rq ρ k 1 = i then 1 else 0), M) := by
  have hn := h.n25
  have hb := h.rb hk
  unfold fX1_isRaider
  refine sCo 0 k (by decide) (by omega) rfl ?_
  rw [eCo (by decide) (by omega) rfl, c_col h hk (by decide)]
  by_cases q : rq ρ k 0 = t
  · refine sT (by rw [q]) (sCo 1 k (by decide) (by omega) rfl ?_)
    rw [eCo (by decide) (by omega) rfl, c_col h hk (by decide)]
    by_cases q2 : rq ρ k 1 = i
    · exact sT (by rw [q2]) (by rw [if_pos ⟨q, q2⟩])
    · exact sF (by rw [eEq (by omega) (by omega)]; exact q2) (by rw [if_neg (fun z => q2 z.2)])
  · exact sF (by rw [eEq (by omega) (by omega)]; exact q) (by rw [if_neg (fun z => q z.1)])
def gpt (ρ : Nat → Nat) (k t : Nat) : Nat := if rq ρ k 0 = t then rq ρ k 3 else rq ρ k 4
theorem c_pointsOf (h : TQ M a ρ) {k t : Nat} (hk : k < ρ 25) (ht : t < 2) : fX1_pointsOf 24 (nI t) (nI k) M = some (nI (gpt ρ k t), M) := by
  have hn := h.n25
  have hb := h.rb hk
  unfold fX1_pointsOf gpt
  refine sCo 0 k (by decide) (by omega) rfl ?_
  rw [eCo (by decide) (by omega) rfl, c_col h hk (by decide)]
  by_cases q : rq ρ k 0 = t
  · refine sT (by rw [q]) (sCo 3 k (by decide) (by omega) rfl ?_)
    rw [eCo (by decide) (by omega) rfl, c_col h hk (by decide), if_pos q]
  · refine sF (by rw [eEq (by omega) (by omega)]; exact q) (sCo 4 k (by decide) (by omega) rfl ?_)
    rw [eCo (by decide) (by omega) rfl, c_col h hk (by decide), if_neg q]
theorem c_onAt (h : TQ M a ρ) {k t : Nat} (hk : k < ρ 25) (ht : t < 2) : fX1_onAt 24 (nI t) (nI k) M = some (nI (rq ρ k (10 + t)), M) := by
  have hn := h.n25
  unfold fX1_onAt
  rw [nI_add]
  refine sCo (9 + t) k (by omega) (by omega) rfl ?_
  rw [eCo (by omega) (by omega) rfl]
  rcases (show t = 0 ∨ t = 1 by omega) with rfl | rfl
  · rw [(h.hs.2.1 k hk).2.1]
  · rw [(h.hs.2.1 k hk).2.2.1]
theorem rq10 (h : TQ M a ρ) {k t : Nat} (hk : k < ρ 25) (ht : t < 2) : rq ρ k (10 + t) < 1024 := by
  have hb := h.rb hk
  rcases (show t = 0 ∨ t = 1 by omega) with rfl | rfl
  · exact hb.2.2.2.2.2.2.2.1
  · exact hb.2.2.2.2.2.2.2.2.1
theorem m_gains (h : TQ M a ρ) {k t c : Nat} (hk : k < ρ 25) (ht : t < 2) (hc : c < 2) : fX11_gains 146 (nI k) (nI t) (nI c) M = some (nI (gpt ρ k t + if c = 1 then rq ρ k (13 + t) else 0), M) := by
  have hb := h.rb hk
  unfold fX11_gains gpt
  rw [h.rec hk (by decide), eBn]
  have key : ∀ g : Nat, g = 3 ∨ g = 4 → (xBn (fX11_rec 146 (nI k) (nI g) M) fun r5 M6 => if nI c = 0 then (some ((r5 + (nI 0)), M6)) else (xBn (fX11_rec 146 (nI k) ((nI 13) + nI t) M6) fun r7 M8 => some ((r5 + r7), M8)) : Option (Int32 × xMem)) = some (nI (rq ρ k g + if c = 1 then rq ρ k (13 + t) else 0), M) := fun g hg => by
    rw [h.rec hk (by omega), eBn]
    refine eB2 hc (fun q => ?_) (fun q => ?_)
    · rw [nI_add, if_neg (by omega)]
    · rw [nI_add, h.rec hk (by omega), eBn, nI_add, if_pos q]
  rw [eLt]
  by_cases q : rq ρ k 0 = t
  · rw [if_pos q]
    exact sT (by rw [q]) (key 3 (Or.inl rfl))
  · rw [if_neg q]
    exact sF (by rw [eEq (by omega) (by omega)]; exact q) (key 4 (Or.inr rfl))
theorem i_sub4 (x y z w : Nat) : nI x - nI y + (nI z - nI w) = nI (x + z) - nI (y + w) := by
  rw [← nI_add, ← nI_add, Int32.sub_eq_add_neg, Int32.sub_eq_add_neg, Int32.sub_eq_add_neg, Int32.neg_add, Int32.sub_eq_add_neg]
  ac_rfl
def ldI (ρ : Nat → Nat) (k : Nat) : Int32 := nI (gsum ρ 0 k) - nI (gsum ρ 1 k)
theorem m_leadAt (h : TQ M a ρ) {k : Nat} (hk : k ≤ ρ 25) : fX11_leadAt 146 (nI k) M = some (ldI ρ k, M) := by
  have hn := h.n25
  unfold fX11_leadAt
  have e0 : ldI ρ 0 = nI 0 := by
    show nI 0 - nI 0 = nI 0
    decide
  have hL := loopU (fun n r => fX11_leadAt_l4 146 (nI k) (fun (v7 : Int32) (v8 : Int32) (M9 : xMem) => some (v7, M9)) n (ldI ρ r) (nI r) M) k (some (ldI ρ k, M)) (by omega) (fun n r hr => ?_) (fun n => ?_)
  · rw [e0] at hL; exact hL
  · rw [fX11_leadAt_l4.eq_2]
    refine sF (by rw [eLe (by omega) (by omega)]; omega) ?_
    rw [m_gains h (by omega) (by decide) (by decide), eBn, m_gains h (by omega) (by decide) (by decide), eBn]
    refine sLe (b := ldI ρ (r + 1)) ?_ (sLe (nI_1 r) rfl)
    unfold ldI
    rw [i_sub4]
    rfl
  · rw [fX11_leadAt_l4.eq_2]
    exact sT (by rw [eLe (by omega) (by omega)]; exact Nat.le_refl _) rfl
theorem c_leads (h : TQ M a ρ) {k : Nat} (hk : k ≤ ρ 25) : M.1 43 k = ldI ρ k := h.hs.2.2.1 k hk
end
