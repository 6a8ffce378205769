/-! ===== more questions: share, gained, last, may, fault, octet, count ===== -/
theorem c_partOf {M : xMem} {a : xTl} {ρ : Nat → Nat} (h : TQ M a ρ) {t w : Nat} (ht : t < 2) (hw : w < 6) : fX1_partOf 24 (nI t) (nI w) M = some (nI (ρ (36 + 6 * t + w)), M) := by
  unfold fX1_partOf
  rw [h4, hl45]
  refine sLe (b := nI (ptA t w)) (by rw [pk_mul, nI_add]; unfold ptA; rw [Nat.mul_comm t 6]) ?_
  have hlt : ptA t w < 12 := by unfold ptA; omega
  refine sF (nI_pos (by omega)) (sF (by rw [eLe (by decide) (by omega)]; omega) (sGb _ rfl hlt (by decide) ?_))
  rw [eCl (by omega), h.hs.2.2.2.2 t w ht (by omega)]
def shW (ρ : Nat → Nat) (t n : Nat) : Nat := sumR (fun k => ρ (36 + 6 * t + k)) n
theorem shW_le {M : xMem} {a : xTl} {ρ : Nat → Nat} (h : TQ M a ρ) {t : Nat} (ht : t < 2) : shW ρ t 4 ≤ 4800 := by
  have h1 := (h.bd.2.2.2.2 t ht).2.2.2.1
  have h2 := h.bd.1
  have h3 := h.bd.2.1
  have h4 : scR t ρ = shW ρ t 4 + ρ (36 + 6 * t + 4) + ρ (36 + 6 * t + 5) := rfl
  omega
def shV (ρ : Nat → Nat) (t i : Nat) : Int32 := if shW ρ t 4 = 0 then -1 else nI (100 * (ofV ρ t i 1 + ofV ρ t i 4)) / nI (shW ρ t 4)
theorem s_share {x y : Int32} : STEP (fX10_share 0 x y) (fX11_share 146 x y) := by
  refine STEP.q (fun M a ρ h => ?_) (fun M h => ?_)
  · by_cases q0 : plQ ρ x y
    · obtain ⟨t, i, ht, hi, rfl, rfl⟩ := id q0
      obtain ⟨-, h7, h10⟩ := h.sz ht
      have hle := shW_le h ht
      refine ⟨shV ρ t i, ?_, ?_⟩
      · unfold fX10_share; try simp only [x02, m50, m51, m52, m53, m54, m60, m61, s120, s13l]
        refine sBn ((c_one h).1 q0) (sF (by decide) ?_)
        refine loopU (fun n k => fX10_share_l17 0 (nI t) (nI i) _ n (nI (shW ρ t k)) (nI k) M) 4 _ (by decide) (fun n k hk => ?_) (fun n => ?_)
        · rw [fX10_share_l17.eq_2, x02, m52]
          refine sF (by rw [eLtI (by omega) (by omega)]; omega) (sBn (c_partOf h ht (by omega)) ?_)
          exact sLe (nI_add _ _) (sLe (nI_1 k) rfl)
        · rw [fX10_share_l17.eq_2]
          refine sT (by decide) ?_
          unfold shV
          by_cases q : shW ρ t 4 = 0
          · rw [if_pos q]
            exact sF (by rw [q]; decide) rfl
          · rw [if_neg q]
            refine sT (by rw [eZ, eLtI (by decide) (by omega)]; omega) ?_
            rw [c_tallyOf h ht hi (by decide), eBn, c_tallyOf h ht hi (by decide), eBn]
            refine sLe (nI_add _ _) (sGd (eN0 (by omega) q) ?_)
            rw [pk_mul, Nat.mul_comm]
      · unfold fX11_share; try simp only [x02, m50, m51, m52, m53, m54, m60, m61, s120, s13l]
        refine sBn ((m_one h).1 q0) (sF (by decide) ?_)
        refine loopU (fun n k => fX11_share_l17 146 (nI t) (nI i) _ n (nI (shW ρ t k)) (nI k) M) 4 _ (by decide) (fun n k hk => ?_) (fun n => ?_)
        · rw [fX11_share_l17.eq_2]
          refine sF (by rw [eLtI (by omega) (by omega)]; omega) ?_
          rw [pk_mul, nI_add, nI_add, q_get h.tm (by omega), eBn]
          exact sLe (nI_add _ _) (sLe (nI_1 k) rfl)
        · rw [fX11_share_l17.eq_2]
          refine sT (by decide) ?_
          unfold shV
          by_cases q : shW ρ t 4 = 0
          · rw [if_pos q]
            exact sT (by rw [q]; decide) rfl
          · rw [if_neg q]
            refine sF (eN0 (by omega) q) ?_
            rw [m_ofOne h ht (show i < 10 by omega) (by decide), eBn, m_ofOne h ht (show i < 10 by omega) (by decide), eBn]
            refine sGd (eN0 (by omega) q) ?_
            rw [nI_add, pk_mul]
    · refine ⟨-2, ?_, ?_⟩
      · unfold fX10_share; try simp only [x02, m50, m51, m52, m53, m54, m60, m61, s120, s13l]
        exact sBn ((c_one h).2 q0) (sT (by decide) rfl)
      · unfold fX11_share; try simp only [x02, m50, m51, m52, m53, m54, m60, m61, s120, s13l]
        exact sBn ((m_one h).2 q0) (sT (by decide) rfl)
  · refine ⟨-2, ?_, ?_⟩
    · unfold fX10_share; try simp only [x02, m50, m51, m52, m53, m54, m60, m61, s120, s13l]
      exact sBn (c_noone h) (sT (by decide) rfl)
    · unfold fX11_share; try simp only [x02, m50, m51, m52, m53, m54, m60, m61, s120, s13l]
      exact sBn (m_noone h) (sT (by decide) rfl)
theorem s_gained {x y z : Int32} : STEP (fX10_gained 0 x y z) (fX11_gained 146 x y z) := by
  refine STEP.q (fun M a ρ h => ?_) (fun M h => ?_)
  · by_cases q0 : tmQ x
    · have hn := h.n25
      have hz := h.hs.1
      have hlt : ∀ u v : Int32, u < v ↔ u.toInt < v.toInt := fun u v => Int32.lt_iff_toInt_lt
      have hle : ∀ u v : Int32, u ≤ v ↔ u.toInt ≤ v.toInt := fun u v => Int32.le_iff_toInt_le
      have e25 : (nI (ρ 25)).toInt = ρ 25 := nI_toInt (by omega)
      by_cases q1 : ¬ y < 0 ∧ ¬ z < y ∧ z ≤ nI (ρ 25)
      · obtain ⟨t, ht, rfl⟩ := id q0
        obtain ⟨p1, p2, p3⟩ := q1
        obtain ⟨f, hf, rfl⟩ := x_neg p1
        have hz0 : ¬ z < 0 := by
          rw [hlt] at p2 ⊢
          have := nI_toInt hf
          rw [Int32.toInt_zero]
          omega
        obtain ⟨l, hl, rfl⟩ := x_neg hz0
        have p2' := p2
        have p3' := p3
        rw [eLtI (by omega) (by omega)] at p2'
        rw [eLe (by omega) (by omega)] at p3'
        refine ⟨runL (stGain ρ t) id (l - f) f (nI 0), ?_, ?_⟩
        · unfold fX10_gained; try simp only [x02, m50, m51, m52, m53, m54, m60, m61, s120, s13l]
          refine sBn ((c_team h).1 q0) (sF (by decide) (sF p1 (sF p2 (sT (by rw [hz]; exact p3) ?_))))
          refine runL_eq (S := Int32) (fun n k s => fX10_gained_l40 0 (nI t) (nI f) (nI l) (fun (v : Int32) (w : Int32) (M' : xMem) => some (v, M')) n s (nI k) M) (stGain ρ t) id l (fun n k s hk => ?_) (fun n s => ?_) (l - f) f (nI 0) xFU (by omega) (by rw [xFU_eq]; omega)
          · rw [fX10_gained_l40.eq_2, x02, m52]
            refine sF (by rw [eLe (by omega) (by omega)]; omega) (sBn (c_pointsOf h (by omega) ht) ?_)
            exact sLt (sLe (nI_1 k) rfl)
          · rw [fX10_gained_l40.eq_2]
            exact sT (by rw [eLe (by omega) (by omega)]; exact Nat.le_refl _) rfl
        · unfold fX11_gained
          refine sBn ((m_team h).1 q0) (sF (by decide) ?_)
          rw [q_get h.tm (by decide), eBn, eI2L (n := ρ 25) (by omega)]
          refine sBn ((m_within (by decide) (by omega)).1 ⟨f, by omega, by omega, rfl⟩) (sF (by decide) ?_)
          rw [q_get h.tm (by decide), eBn, eI2L (n := ρ 25) (by omega), eI2L (n := f) (by omega)]
          refine sBn ((m_within (by omega) (by omega)).1 ⟨l, by omega, by omega, rfl⟩) (sF (by decide) ?_)
          refine runL_eq (S := Int32) (fun n k s => fX11_gained_l50 146 (nI t) (nI f) (nI l) (fun (v : Int32) (w : Int32) (M' : xMem) => some (v, M')) n s (nI k) M) (stGain ρ t) id l (fun n k s hk => ?_) (fun n s => ?_) (l - f) f (nI 0) xFU (by omega) (by rw [xFU_eq]; omega)
          · rw [fX11_gained_l50.eq_2]
            refine sF (by rw [eLe (by omega) (by omega)]; omega) (sBn (m_gains h (c := 0) (by omega) ht (by decide)) ?_)
            exact sLt (sLe (nI_1 k) rfl)
          · rw [fX11_gained_l50.eq_2]
            exact sT (by rw [eLe (by omega) (by omega)]; exact Nat.le_refl _) rfl
      · refine ⟨-2, ?_, ?_⟩
        · unfold fX10_gained; try simp only [x02, m50, m51, m52, m53, m54, m60, m61, s120, s13l]
          refine sBn ((c_team h).1 q0) (sF (by decide) ?_)
          by_cases p1 : y < 0
          · exact sT p1 rfl
          · refine sF p1 ?_
            by_cases p2 : z < y
            · exact sT p2 rfl
            · refine sF p2 (sF (fun p3 => q1 ⟨p1, p2, by rw [← hz]; exact p3⟩) rfl)
        · unfold fX11_gained
          refine sBn ((m_team h).1 q0) (sF (by decide) ?_)
          have e0 : lN 0 = Int32.toInt64 (nI 0) := by decide
          rw [q_get h.tm (by decide), eBn, e0, m_in]
          by_cases p1 : y < nI 0 ∨ nI (ρ 25) < y
          · rw [if_pos p1]
            exact sBn rfl (sT (by decide) rfl)
          · rw [if_neg p1]
            refine sBn rfl (sF (by decide) ?_)
            rw [q_get h.tm (by decide), eBn, m_in]
            rw [if_pos]
            · exact sBn rfl (sT (by decide) rfl)
            · by_cases p2 : z < y
              · exact Or.inl p2
              · refine Or.inr ?_
                rw [nI00, not_or] at p1
                rw [← Int32.not_le]
                exact fun p3 => q1 ⟨p1.1, p2, p3⟩
    · refine ⟨-2, ?_, ?_⟩
      · unfold fX10_gained; try simp only [x02, m50, m51, m52, m53, m54, m60, m61, s120, s13l]
        exact sBn ((c_team h).2 q0) (sT (by decide) rfl)
      · unfold fX11_gained
        exact sBn ((m_team h).2 q0) (sT (by decide) rfl)
  · refine ⟨-2, ?_, ?_⟩
    · unfold fX10_gained; try simp only [x02, m50, m51, m52, m53, m54, m60, m61, s120, s13l]
      exact sBn (c_noteam h) (sT (by decide) rfl)
    · unfold fX11_gained
      exact sBn (m_noteam h) (sT (by decide) rfl)
def stLast (ρ : Nat → Nat) (t i k : Nat) (_ : Unit) : Unit ⊕ Int32 := if rq ρ (ρ 25 - 1 - k) 0 = t ∧ rq ρ (ρ 25 - 1 - k) 1 = i then .inr (nI (ρ 25 - 1 - k)) else .inl ()
theorem sb1 (x : Int32) : x + (-1) = x - nI 1 := by rw [Int32.sub_eq_add_neg]; rfl
theorem s_last {x y : Int32} : STEP (fX10_last 0 x y) (fX11_last 146 x y) := by
  refine STEP.q (fun M a ρ h => ?_) (fun M h => ?_)
  · by_cases q0 : plQ ρ x y
    · obtain ⟨t, i, ht, hi, rfl, rfl⟩ := id q0
      obtain ⟨-, h7, h10⟩ := h.sz ht
      have hn := h.n25
      have hz := h.hs.1
      refine ⟨runL (stLast ρ t i) (fun _ => -1) (ρ 25) 0 (), ?_, ?_⟩
      · unfold fX10_last; try simp only [x02, m50, m51, m52, m53, m54, m60, m61, s120, s13l]
        refine sBn ((c_one h).1 q0) (sF (by decide) ?_)
        unfold fX1_lastRaid
        rw [hz]
        refine sBn (sLt (loopR (S := Unit) (fun n k _ => fX1_lastRaid_l7 24 (nI t) (nI i) (fun (v5 : Int32) (M6 : xMem) => some ((-1), M6)) n (nI (ρ 25 - k) - nI 1) M) (stLast ρ t i) (fun _ => -1) (ρ 25) () (by omega) (fun n k s hk => ?_) (fun n s => ?_))) rfl
        · rw [fX1_lastRaid_l7.eq_2, eSub (by omega)]
          have e : ρ 25 - k - 1 = ρ 25 - 1 - k := by omega
          rw [e]
          refine sF (nI_pos (by omega)) (sBn (c_isRaider h (by omega) ht (by omega)) ?_)
          by_cases q : rq ρ (ρ 25 - 1 - k) 0 = t ∧ rq ρ (ρ 25 - 1 - k) 1 = i
          · have E : stLast ρ t i k s = .inr (nI (ρ 25 - 1 - k)) := by unfold stLast; rw [if_pos q]
            rw [E, if_pos q]
            exact sF (by decide) rfl
          · have E : stLast ρ t i k s = .inl () := by unfold stLast; rw [if_neg q]
            rw [E, if_neg q]
            refine sT (by decide) (sLe (sb1 _) ?_)
            rw [show ρ 25 - 1 - k = ρ 25 - (k + 1) by omega]
            rfl
        · rw [fX1_lastRaid_l7.eq_2, Nat.sub_self]
          exact sT (by decide) rfl
      · unfold fX11_last; try simp only [x02, m50, m51, m52, m53, m54, m60, m61, s120, s13l]
        refine sBn ((m_one h).1 q0) (sF (by decide) ?_)
        rw [q_get h.tm (by decide), eBn]
        refine sLt (loopR (S := Unit) (fun n k _ => fX11_last_l21 146 (nI t) (nI i) (fun (v5 : Int32) (M6 : xMem) => some (v5, M6)) n (nI (ρ 25 - k) - nI 1) M) (stLast ρ t i) (fun _ => -1) (ρ 25) () (by omega) (fun n k s hk => ?_) (fun n s => ?_))
        · rw [fX11_last_l21.eq_2, eSub (by omega)]
          have e : ρ 25 - k - 1 = ρ 25 - 1 - k := by omega
          rw [e]
          refine sF (nI_pos (by omega)) (sBn (m_isRaider h (by omega) ht (by omega)) ?_)
          by_cases q : rq ρ (ρ 25 - 1 - k) 0 = t ∧ rq ρ (ρ 25 - 1 - k) 1 = i
          · have E : stLast ρ t i k s = .inr (nI (ρ 25 - 1 - k)) := by unfold stLast; rw [if_pos q]
            rw [E, if_pos q]
            exact sF (by decide) rfl
          · have E : stLast ρ t i k s = .inl () := by unfold stLast; rw [if_neg q]
            rw [E, if_neg q]
            refine sT (by decide) (sLe (sb1 _) ?_)
            rw [show ρ 25 - 1 - k = ρ 25 - (k + 1) by omega]
            rfl
        · rw [fX11_last_l21.eq_2, Nat.sub_self]
          exact sT (by decide) rfl
    · refine ⟨-2, ?_, ?_⟩
      · unfold fX10_last; try simp only [x02, m50, m51, m52, m53, m54, m60, m61, s120, s13l]
        exact sBn ((c_one h).2 q0) (sT (by decide) rfl)
      · unfold fX11_last; try simp only [x02, m50, m51, m52, m53, m54, m60, m61, s120, s13l]
        exact sBn ((m_one h).2 q0) (sT (by decide) rfl)
  · refine ⟨-2, ?_, ?_⟩
    · unfold fX10_last; try simp only [x02, m50, m51, m52, m53, m54, m60, m61, s120, s13l]
      exact sBn (c_noone h) (sT (by decide) rfl)
    · unfold fX11_last; try simp only [x02, m50, m51, m52, m53, m54, m60, m61, s120, s13l]
      exact sBn (m_noone h) (sT (by decide) rfl)
theorem c_roomO {M : xMem} {ρ : Nat → Nat} (h : StR M 12 ρ) (hB : BD ρ) : fX2_hasRoomForOther 5 M = some (nI (if ρ 26 < 40 then 1 else 0), M) := by
  have h26 := hB.2.1
  unfold fX2_hasRoomForOther
  rw [m51, h.2.2.1]
  by_cases q : ρ 26 < 40
  · exact sF (by rw [eLe (by omega) (by omega)]; omega) (by rw [if_pos q])
  · exact sT (by rw [eLe (by omega) (by omega)]; omega) (by rw [if_neg q])
theorem q_canReview {M : xMem} {ρ : Nat → Nat} {t : Nat} (h : TM M ρ) (hB : BD ρ) (ht : t < 2) : fX11_canReview 146 (nI t) M = some (nI (if ρ 26 < 40 ∧ caR t ρ = 1 then 1 else 0), M) := by
  have h26 := hB.2.1
  have h29 := hB.2.2.2.1
  have h34 := (hB.2.2.2.2 t ht).2.2.1
  unfold fX11_canReview caR
  rw [q_isOver h hB.2.2.1, eBn]
  rcases ovR_le ρ with e | e
  · refine sT (by rw [e]; decide) (sGb 29 rfl (by rw [xlnw]; decide) (by rw [xlnw]; decide) ?_)
    rw [h, eCl (by decide), lf_at]
    by_cases q : ρ 29 = 1
    · refine sT (by rw [eCmp0, q]) (sGb (34 + t) (nI_add _ _) (by rw [xlnw]; omega) (by rw [xlnw]; decide) ?_)
      rw [nI_add, eCl (by omega), lf_at]
      by_cases q2 : ρ (34 + t) = 0
      · refine sT (by rw [eCmp0, q2]) (sGb 26 rfl (by rw [xlnw]; decide) (by rw [xlnw]; decide) ?_)
        rw [eCl (by decide), lf_at]
        by_cases q3 : ρ 26 < 40
        · exact sF (by rw [eCmpGe, eLLe (by omega) (by omega)]; omega) (by rw [if_pos ⟨q3, by rw [if_pos ⟨e, q, q2⟩]⟩])
        · exact sT (by rw [eCmpGe, eLLe (by omega) (by omega)]; omega) (by rw [if_neg (fun z => q3 z.1)])
      · refine sF (by rw [eCmp0, eLE (by omega) (by decide)]; exact q2) (by rw [if_neg (fun z => by have := z.2; rw [if_neg (fun y => q2 y.2.2)] at this; omega)])
    · refine sF (by rw [eCmp0, eLE (by omega) (by decide)]; exact q) (by rw [if_neg (fun z => by have := z.2; rw [if_neg (fun y => q y.2.1)] at this; omega)])
  · refine sF (by rw [e]; decide) (by rw [if_neg (fun z => by have := z.2; rw [if_neg (fun y => by omega)] at this; omega)])
theorem caR_le (t : Nat) (ρ : Nat → Nat) : caR t ρ = 0 ∨ caR t ρ = 1 := by unfold caR; split <;> simp
theorem s_may {x : Int32} : STEP (fX10_may 0 x) (fX11_may 146 x) := by
  refine STEP.q (fun M a ρ h => ?_) (fun M h => ?_)
  · by_cases q0 : tmQ x
    · obtain ⟨t, ht, rfl⟩ := id q0
      refine ⟨nI (if ρ 26 < 40 ∧ caR t ρ = 1 then 1 else 0), ?_, ?_⟩
      · unfold fX10_may; try simp only [x02, m50, m51, m52, m53, m54, m60, m61, s120, s13l]
        refine sBn ((c_team h).1 q0) (sF (by decide) ?_)
        rw [c_roomO h.2.2.1.1 h.bd, eBn]
        by_cases q : ρ 26 < 40
        · rw [if_pos q]
          refine sF (by decide) (sBn (s_canAsk kd12 h.2.2.1.1 h.bd ht) ?_)
          rcases caR_le t ρ with e | e
          · exact sT (by rw [e]; decide) (by rw [if_neg (fun z => by omega)])
          · exact sF (by rw [e]; decide) (by rw [if_pos ⟨q, e⟩])
        · rw [if_neg (c := ρ 26 < 40 ∧ caR t ρ = 1) (fun z => q z.1), if_neg q]
          exact sT (by decide) rfl
      · unfold fX11_may; try simp only [x02, m50, m51, m52, m53, m54, m60, m61, s120, s13l]
        refine sBn ((m_team h).1 q0) (sF (by decide) ?_)
        rw [q_canReview h.tm h.bd ht, eBn]
        split
        · exact sF (by decide) rfl
        · exact sT (by decide) rfl
    · refine ⟨-2, ?_, ?_⟩
      · unfold fX10_may; try simp only [x02, m50, m51, m52, m53, m54, m60, m61, s120, s13l]
        exact sBn ((c_team h).2 q0) (sT (by decide) rfl)
      · unfold fX11_may; try simp only [x02, m50, m51, m52, m53, m54, m60, m61, s120, s13l]
        exact sBn ((m_team h).2 q0) (sT (by decide) rfl)
  · refine ⟨-2, ?_, ?_⟩
    · unfold fX10_may; try simp only [x02, m50, m51, m52, m53, m54, m60, m61, s120, s13l]
      exact sBn (c_noteam h) (sT (by decide) rfl)
    · unfold fX11_may; try simp only [x02, m50, m51, m52, m53, m54, m60, m61, s120, s13l]
      exact sBn (m_noteam h) (sT (by decide) rfl)
theorem s_fault {x : Int32} : STEP (fX10_fault 0 x) (fX11_fault 146 x) := by
  intro M hM
  obtain ⟨a, hs, tp, fk, fp, ou, hC, hR⟩ := id hM
  have c1 : M.1 0 8 = fk := hC.2.2.2.1
  have c2 : M.1 0 9 = fp := hC.2.2.2.2.1
  have r1 : M.1 146 17 = fk := hR.2.2.2.2.2.1
  have r2 : M.1 146 18 = fp := hR.2.2.2.2.2.2.1
  refine ⟨if x = 0 then fk else if x = nI 1 then fp else -1, M, M, ?_, ?_, hM⟩
  · unfold fX10_fault
    rw [c1, c2]
    split
    · rfl
    · split <;> rfl
  · unfold fX11_fault
    rw [r1, r2]
    split
    · rfl
    · split <;> rfl
theorem x01 : xrf 0 1 = 3 := by decide +kernel
theorem x00 : xrf 0 0 = 1 := by decide +kernel
theorem x04 : xrf 0 4 = 63 := by decide +kernel
theorem x30 : xrf 3 0 = 4 := by decide +kernel
theorem x10r : xrf 1 0 = 2 := by decide +kernel
theorem l4 : xln 4 = 2064 := by decide +kernel
theorem l2 : xln 2 = 2000 := by decide +kernel
theorem x14621 : xrf 146 21 = 152 := by decide +kernel
theorem l152 : xln 152 = 2000 := by decide +kernel
theorem s_octet {x : Int32} : STEP (fX10_octet 0 x) (fX11_octet 146 x) := by
  intro M hM
  obtain ⟨a, hs, tp, fk, fp, ou, hC, hR⟩ := id hM
  obtain ⟨c1, c2, c3, c4⟩ := hC.2.2.2.2.2
  obtain ⟨r1, r2⟩ := hR.2.2.2.2.2.2.2
  by_cases q : x < 0
  · refine ⟨-1, M, M, ?_, ?_, hM⟩
    · unfold fX10_octet fX6_at
      exact sBn (sT q rfl) rfl
    · unfold fX11_octet
      rw [show lN 0 = Int32.toInt64 0 by decide, m_in, if_pos (Or.inl q)]
      exact sBn rfl (sT (by decide) rfl)
  · obtain ⟨j, hj, rfl⟩ := x_neg q
    by_cases q2 : j < ou.length
    · obtain ⟨b, hb⟩ : ∃ b, ou[j]? = some b := ⟨_, List.getElem?_eq_getElem q2⟩
      have hb2 := c3 b (List.mem_of_getElem? hb)
      refine ⟨nI b, M, M, ?_, ?_, hM⟩
      · unfold fX10_octet fX6_at
        rw [x01, x30, l4, c1]
        refine sBn (a := nI b) (M := M) (sF q (sF (by rw [eLe (by omega) (by omega)]; omega) (sGb j rfl (by omega) (by decide) ?_))) rfl
        rw [eCl (by omega), c4 j b hb, pk_andN (by omega) 8 (by decide), Nat.mod_eq_of_lt (show b < 2 ^ 8 by omega)]
      · unfold fX11_octet
        rw [r1, eSub (by omega), eI2L (n := ou.length - 1) (by omega)]
        refine sBn ((m_within (by decide) (by omega)).1 ⟨j, by omega, by omega, rfl⟩) (sF (by decide) ?_)
        rw [x14621, l152]
        refine sGb j rfl (by omega) (by decide) ?_
        rw [eCl (by omega), r2 j b hb]
    · refine ⟨-1, M, M, ?_, ?_, hM⟩
      · unfold fX10_octet fX6_at
        rw [x01, x30, c1]
        exact sBn (sF q (sT (by rw [eLe (by omega) (by omega)]; omega) rfl)) rfl
      · unfold fX11_octet
        rw [r1, show lN 0 = Int32.toInt64 0 by decide, m_in, if_pos]
        · exact sBn rfl (sT (by decide) rfl)
        · right
          rw [Int32.lt_iff_toInt_lt, pk_sub_toInt (by omega) (by decide), nI_toInt (by omega)]
          omega
theorem s_count {x : Int32} : STEP (fX10_count 0 x) (fX11_count 146 x) := by
  intro M hM
  obtain ⟨a, hs, tp, fk, fp, ou, hC, hR⟩ := id hM
  have key : ∃ ρ : Nat → Nat, TM M ρ ∧ (∀ t, t < 2 → M.1 10 t = nI (ρ (1 + t))) ∧ M.1 24 5 = nI (ρ 25) ∧ M.1 12 3 = nI (ρ 26) ∧ M.1 12 2 = nI (ρ 27) := by
    rcases hC.1.q hR.1 hR.2.1 with ⟨-, q⟩ | ⟨-, q⟩
    · exact ⟨_, q.tm, fun t ht => (q.sz ht).1, q.hs.1, q.2.2.1.1.2.2.1, q.2.2.1.1.2.1⟩
    · exact ⟨_, q.tm, q.1, q.2.1, q.2.2.2.1, q.2.2.1⟩
  obtain ⟨ρ, hT, k1, k2, k3, k4⟩ := key
  have c5 : M.1 63 2 = nI hs.length := hC.2.1.1
  have c6 : M.1 1 1 = nI tp.length := hC.2.2.1.1
  have c7 : M.1 3 1 = nI ou.length := hC.2.2.2.2.2.1
  have r5 : M.1 146 19 = nI hs.length := hR.2.2.2.1.1
  have r6 : M.1 146 11 = nI tp.length := hR.2.2.2.2.1.1
  have r7 : M.1 146 22 = nI ou.length := hR.2.2.2.2.2.2.2.1
  unfold STEP at *
  refine ⟨if x = nI 0 then nI (ρ (1 + 0)) else if x = nI 1 then nI (ρ (1 + 1)) else if x = nI 2 then nI (ρ 25) else if x = nI 3 then nI (ρ 26) else if x = nI 4 then nI (ρ 27) else if x = nI 5 then nI hs.length else if x = nI 6 then nI tp.length else if x = nI 7 then nI ou.length else -1, M, M, ?_, ?_, hM⟩
  · unfold fX10_count
    simp only [x00, x01, x02, x04, m50, m51, m52, m60, k2, k3, k4, c5, c6, c7, fX6_size, eBn, eLt]
    by_cases q0 : x = nI 0
    · rw [if_pos q0, if_pos q0, q0, x_ros (by decide), eBn, k1 0 (by decide)]
    rw [if_neg q0, if_neg q0]
    by_cases q1 : x = nI 1
    · rw [if_pos q1, if_pos q1, q1, x_ros (by decide), eBn, k1 1 (by decide)]
    rw [if_neg q1, if_neg q1]
    repeat' (first | rfl | split)
  · unfold fX11_count
    rw [q_many hT (t := 0) (by decide), q_many hT (t := 1) (by decide), q_get hT (by decide), q_get hT (by decide), q_get hT (by decide), r5, r6, r7]
    simp only [eBn]
    repeat' (first | rfl | split)
