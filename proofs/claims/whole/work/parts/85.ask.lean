/-! ===== more questions ===== -/
theorem x_ge {y : Int32} : 0 ≤ y ↔ ¬ y < 0 := by rw [Int32.not_lt]
theorem s_allOut {x y : Int32} : STEP (fX10_allOut 0 x y) (fX11_allOut 146 x y) := by
  refine STEP.q (fun M a ρ h => ?_) (fun M h => ?_)
  · by_cases q0 : tmQ x
    · by_cases q1 : 0 ≤ y
      · obtain ⟨t, ht, rfl⟩ := id q0
        have hn := h.n25
        have hz := h.hs.1
        refine ⟨runL (stAll ρ t) (fun _ => -1) (ρ 25) 0 y, ?_, ?_⟩
        · unfold fX10_allOut; try simp only [x02, m50, m51, m52, m53, m54, m60, m61, s120, s13l]
          refine sBn ((c_team h).1 q0) (sF (by decide) (sT q1 ?_))
          unfold fX1_allOutRaid
          refine sBn (loopR (S := Int32) (fun n k s => fX1_allOutRaid_l5 24 (nI t) y (fun (v : Int32) (w : Int32) (M' : xMem) => some ((-1), M')) n s (nI k) M) (stAll ρ t) (fun _ => -1) (ρ 25) y (by omega) (fun n k s hk => ?_) (fun n s => ?_)) rfl
          · rw [fX1_allOutRaid_l5.eq_2, hz]
            refine sF (by rw [eLe (by omega) (by omega)]; omega) ?_
            obtain ⟨b1, b2, b3, b4, b5, b6, b7, b8, b9, b10, b11, b12, b13, b14, b15, b16, b17⟩ := h.rb hk
            refine sCo 11 k (by decide) (by omega) rfl ?_
            rw [eCo (by decide) (by omega) rfl, (h.hs.2.1 k hk).2.2.2.1, e_bitI (by omega) (by omega)]
            have hm : rq ρ k 9 / 2 ^ t % 2 < 2 := Nat.mod_lt _ (by decide)
            by_cases q : rq ρ k 9 / 2 ^ t % 2 = 1
            · have E : stAll ρ t k s = if s = 0 then .inr (nI k) else .inl (s + (-1)) := by unfold stAll; rw [if_pos q]
              rw [E]
              refine sT (by rw [q]) ?_
              by_cases z : s = 0
              · rw [if_pos z, if_pos z]; rfl
              · rw [if_neg z, if_neg z]
                exact sLt (sLe (nI_1 k) rfl)
            · have E : stAll ρ t k s = .inl s := by unfold stAll; rw [if_neg q]
              rw [E]
              exact sF (by rw [eEq (by omega) (by decide)]; exact q) (sLe (nI_1 k) rfl)
          · rw [fX1_allOutRaid_l5.eq_2, hz]
            exact sT (by rw [eLe (by omega) (by omega)]; exact Nat.le_refl _) rfl
        · unfold fX11_allOut
          refine sBn ((m_team h).1 q0) (sF (by decide) (sT q1 ?_))
          refine loopR (S := Int32) (fun n k s => fX11_allOut_l20 146 (nI t) y (fun (v : Int32) (w : Int32) (M' : xMem) => some ((-1), M')) n s (nI k) M) (stAll ρ t) (fun _ => -1) (ρ 25) y (by omega) (fun n k s hk => ?_) (fun n s => ?_)
          · rw [fX11_allOut_l20.eq_2, q_get h.tm (by decide), eBn]
            refine sF (by rw [eLe (by omega) (by omega)]; omega) ?_
            obtain ⟨b1, b2, b3, b4, b5, b6, b7, b8, b9, b10, b11, b12, b13, b14, b15, b16, b17⟩ := h.rb hk
            rw [h.rec hk (by decide), eBn, m_has (by omega) (by omega), eBn]
            refine eB2 (Nat.mod_lt _ (by decide)) (fun q => ?_) (fun q => ?_)
            · have E : stAll ρ t k s = .inl s := by unfold stAll; rw [if_neg (by omega)]
              rw [E]
              exact sLe (nI_1 k) rfl
            · have E : stAll ρ t k s = if s = 0 then .inr (nI k) else .inl (s + (-1)) := by unfold stAll; rw [if_pos q]
              rw [E]
              by_cases z : s = 0
              · rw [if_pos z, if_pos z]; rfl
              · rw [if_neg z, if_neg z]
                exact sLt (sLe (nI_1 k) rfl)
          · rw [fX11_allOut_l20.eq_2, q_get h.tm (by decide), eBn]
            exact sT (by rw [eLe (by omega) (by omega)]; exact Nat.le_refl _) rfl
      · refine ⟨-2, ?_, ?_⟩
        · unfold fX10_allOut
          exact sBn ((c_team h).1 q0) (sF (by decide) (sF q1 rfl))
        · unfold fX11_allOut
          exact sBn ((m_team h).1 q0) (sF (by decide) (sF q1 rfl))
    · refine ⟨-2, ?_, ?_⟩
      · unfold fX10_allOut
        exact sBn ((c_team h).2 q0) (sT (by decide) rfl)
      · unfold fX11_allOut
        exact sBn ((m_team h).2 q0) (sT (by decide) rfl)
  · refine ⟨-2, ?_, ?_⟩
    · unfold fX10_allOut
      exact sBn (c_noteam h) (sT (by decide) rfl)
    · unfold fX11_allOut
      exact sBn (m_noteam h) (sT (by decide) rfl)
theorem s_stood {x y : Int32} : STEP (fX10_stood 0 x y) (fX11_stood 146 x y) := by
  refine STEP.q (fun M a ρ h => ?_) (fun M h => ?_)
  · by_cases q0 : tmQ x
    · by_cases q1 : 0 ≤ y
      · obtain ⟨t, ht, rfl⟩ := id q0
        obtain ⟨k, hk, rfl⟩ := x_neg (x_ge.mp q1)
        have hn := h.n25
        have hz := h.hs.1
        have hr : fX11_isRaid 146 (nI k) M = some (nI (if k < ρ 25 then 1 else 0), M) := by
          unfold fX11_isRaid
          rw [q_get h.tm (by decide), eBn]
          have e0 : lN 0 = Int32.toInt64 (nI 0) := (eI2L (by decide)).symm
          rw [e0, m_in]
          by_cases z : k < ρ 25
          · rw [if_pos z, eSub (by omega), if_neg (by
              rintro (w | w)
              · rw [eLtI (by omega) (by decide)] at w; omega
              · rw [eLtI (by omega) (by omega)] at w; omega), eBn]
            exact sGd (Or.inr (by decide)) rfl
          · rw [if_neg z, if_pos (Or.inr (by
              by_cases w : ρ 25 = 0
              · rw [w]
                have : nI 0 - nI 1 = (-1 : Int32) := by decide
                rw [this, Int32.lt_iff_toInt_lt, nI_toInt hk]
                have : (-1 : Int32).toInt = -1 := by decide
                omega
              · rw [eSub (by omega), eLtI (by omega) (by omega)]; omega)), eBn]
            exact sGd (Or.inl (by decide)) rfl
        refine ⟨if k < ρ 25 then nI (pcn (rq ρ k (10 + t))) else -1, ?_, ?_⟩
        · unfold fX10_stood; try simp only [x02, m50, m51, m52, m53, m54, m60, m61, s120, s13l]
          refine sBn ((c_team h).1 q0) (sF (by decide) (sT q1 ?_))
          rw [hz]
          by_cases z : k < ρ 25
          · rw [if_pos z]
            refine sF (by rw [eLe (by omega) (by omega)]; omega) ?_
            rw [c_onAt h z ht, eBn, e_bitc (rq10 h z ht), eBn]
          · rw [if_neg z]
            exact sT (by rw [eLe (by omega) (by omega)]; omega) rfl
        · unfold fX11_stood
          refine sBn ((m_team h).1 q0) (sF (by decide) (sT q1 ?_))
          rw [hr, eBn]
          by_cases z : k < ρ 25
          · rw [if_pos z, if_pos z]
            refine sF (by decide) ?_
            rw [nI_add, h.rec z (by omega), eBn, e_bits (rq10 h z ht), eBn]
          · rw [if_neg z, if_neg z]
            exact sT (by decide) rfl
      · refine ⟨-2, ?_, ?_⟩
        · unfold fX10_stood
          exact sBn ((c_team h).1 q0) (sF (by decide) (sF q1 rfl))
        · unfold fX11_stood
          exact sBn ((m_team h).1 q0) (sF (by decide) (sF q1 rfl))
    · refine ⟨-2, ?_, ?_⟩
      · unfold fX10_stood
        exact sBn ((c_team h).2 q0) (sT (by decide) rfl)
      · unfold fX11_stood
        exact sBn ((m_team h).2 q0) (sT (by decide) rfl)
  · refine ⟨-2, ?_, ?_⟩
    · unfold fX10_stood
      exact sBn (c_noteam h) (sT (by decide) rfl)
    · unfold fX11_stood
      exact sBn (m_noteam h) (sT (by decide) rfl)
theorem s_outs {x y : Int32} : STEP (fX10_outs 0 x y) (fX11_outs 146 x y) := by
  refine STEP.q (fun M a ρ h => ?_) (fun M h => ?_)
  · by_cases q0 : tmQ x
    · by_cases q1 : 0 ≤ y
      · obtain ⟨t, ht, rfl⟩ := id q0
        obtain ⟨k, hk, rfl⟩ := x_neg (x_ge.mp q1)
        have hq := (h.rw.q ht).1
        refine ⟨if k < ρ (108 + t) then nI (ρ (110 + 10 * t + k)) else -1, ?_, ?_⟩
        · unfold fX10_outs; try simp only [x02, m50, m51, m52, m53, m54, m60, m61, s120, s13l]
          refine sBn ((c_team h).1 q0) (sF (by decide) (sT q1 (sGb t rfl ht (by decide) ?_)))
          rw [x13 ht, (h.sd ht).2.1]
          by_cases z : k < ρ (108 + t)
          · rw [if_pos z, (sdF ht).1.2.2.2, (sdF ht).2.2.2.2]
            refine sF (by rw [eLe (by omega) (by omega)]; omega) (sGb k rfl (by omega) (by decide) ?_)
            rw [eCl (by omega), (h.sd ht).2.2.2.2 k z]
          · rw [if_neg z]
            exact sT (by rw [eLe (by omega) (by omega)]; omega) rfl
        · unfold fX11_outs
          refine sBn ((m_team h).1 q0) (sF (by decide) (sT q1 ?_))
          rw [nI_add, q_get h.tm (by omega), eBn]
          by_cases z : k < ρ (108 + t)
          · rw [if_pos z]
            refine sF (by rw [eLe (by omega) (by omega)]; omega) ?_
            rw [pk_mul, nI_add, nI_add, q_get h.tm (by omega), eBn]
          · rw [if_neg z]
            exact sT (by rw [eLe (by omega) (by omega)]; omega) rfl
      · refine ⟨-2, ?_, ?_⟩
        · unfold fX10_outs
          exact sBn ((c_team h).1 q0) (sF (by decide) (sF q1 rfl))
        · unfold fX11_outs
          exact sBn ((m_team h).1 q0) (sF (by decide) (sF q1 rfl))
    · refine ⟨-2, ?_, ?_⟩
      · unfold fX10_outs
        exact sBn ((c_team h).2 q0) (sT (by decide) rfl)
      · unfold fX11_outs
        exact sBn ((m_team h).2 q0) (sT (by decide) rfl)
  · refine ⟨-2, ?_, ?_⟩
    · unfold fX10_outs
      exact sBn (c_noteam h) (sT (by decide) rfl)
    · unfold fX11_outs
      exact sBn (m_noteam h) (sT (by decide) rfl)
theorem s_raidOf {x y : Int32} : STEP (fX10_raidOf 0 x y) (fX11_raidOf 146 x y) := by
  refine STEP.q (fun M a ρ h => ?_) (fun M h => ?_)
  · by_cases q0 : x < 0
    · refine ⟨-2, ?_, ?_⟩
      · unfold fX10_raidOf; try simp only [x02, m50, m51, m52, m53, m54, m60, m61, s120, s13l]
        exact sBn (c_told h) (sF (by decide) (sT q0 rfl))
      · unfold fX11_raidOf
        exact sBn h.there (sF (by decide) (sT q0 rfl))
    · by_cases q1 : wnQ y 0 8
      · obtain ⟨k, hk, rfl⟩ := x_neg q0
        obtain ⟨w, hwl, hw, rfl⟩ := id q1
        have hn := h.n25
        have hz := h.hs.1
        refine ⟨if k < ρ 25 then nI (rq ρ k w) else -1, ?_, ?_⟩
        · unfold fX10_raidOf; try simp only [x02, m50, m51, m52, m53, m54, m60, m61, s120, s13l]
          refine sBn (c_told h) (sF (by decide) (sF q0 (sBn ((c_within (by decide) (by decide)).1 q1) (sF (by decide) ?_))))
          rw [hz]
          by_cases z : k < ρ 25
          · rw [if_pos z]
            refine sF (by rw [eLe (by omega) (by omega)]; omega) (sCo w k (by omega) (by omega) rfl ?_)
            rw [eCo (by omega) (by omega) rfl, c_col h z (by omega)]
          · rw [if_neg z]
            exact sT (by rw [eLe (by omega) (by omega)]; omega) rfl
        · unfold fX11_raidOf
          refine sBn h.there (sF (by decide) (sF q0 (sBn ((m_within (by decide) (by decide)).1 q1) (sF (by decide) ?_))))
          rw [q_get h.tm (by decide), eBn]
          by_cases z : k < ρ 25
          · rw [if_pos (c := k < ρ 25) z]
            refine sT (by rw [eLtI (by omega) (by omega)]; exact z) ?_
            by_cases z5 : w = 5
            · refine sT (by rw [z5]) ?_
              rw [h.rec z (by decide), eBn, z5]
            · refine sF (by rw [eEq (by omega) (by decide)]; exact z5) ?_
              rw [h.rec z (by omega), eBn]
          · rw [if_neg (c := k < ρ 25) z]
            exact sF (by rw [eLtI (by omega) (by omega)]; exact z) rfl
      · refine ⟨-2, ?_, ?_⟩
        · unfold fX10_raidOf; try simp only [x02, m50, m51, m52, m53, m54, m60, m61, s120, s13l]
          exact sBn (c_told h) (sF (by decide) (sF q0 (sBn ((c_within (by decide) (by decide)).2 q1) (sT (by decide) rfl))))
        · unfold fX11_raidOf
          exact sBn h.there (sF (by decide) (sF q0 (sBn ((m_within (by decide) (by decide)).2 q1) (sT (by decide) rfl))))
  · refine ⟨-2, ?_, ?_⟩
    · unfold fX10_raidOf; try simp only [x02, m50, m51, m52, m53, m54, m60, m61, s120, s13l]
      exact sBn (c_untold h) (sT (by decide) rfl)
    · unfold fX11_raidOf
      exact sBn (m_nothere h) (sT (by decide) rfl)
theorem s_lead {x : Int32} : STEP (fX10_lead 0 x) (fX11_lead 146 x) := by
  refine STEP.q (fun M a ρ h => ?_) (fun M h => ?_)
  · have hn := h.n25
    have hz := h.hs.1
    by_cases q1 : wnQ x 0 (ρ 25)
    · obtain ⟨k, hwl, hw, rfl⟩ := id q1
      refine ⟨ldI ρ k, ?_, ?_⟩
      · unfold fX10_lead; try simp only [x02, m50, m51, m52, m53, m54, m60, m61, s120, s13l]
        rw [h2, hl43]
        refine sBn (c_told h) (sF (by decide) ?_)
        rw [hz]
        refine sBn ((c_within (by decide) (by omega)).1 q1) (sF (by decide) (sGb k rfl (by omega) (by decide) ?_))
        rw [eCl (by omega), c_leads h hw]
      · unfold fX11_lead
        refine sBn h.there (sF (by decide) ?_)
        rw [q_get h.tm (by decide), eBn, eI2L (n := ρ 25) (by omega)]
        refine sBn ((m_within (by decide) (by omega)).1 q1) (sF (by decide) ?_)
        rw [m_leadAt h hw, eBn]
    · refine ⟨-1000, ?_, ?_⟩
      · unfold fX10_lead; try simp only [x02, m50, m51, m52, m53, m54, m60, m61, s120, s13l]
        refine sBn (c_told h) (sF (by decide) ?_)
        rw [hz]
        exact sBn ((c_within (by decide) (by omega)).2 q1) (sT (by decide) rfl)
      · unfold fX11_lead
        refine sBn h.there (sF (by decide) ?_)
        rw [q_get h.tm (by decide), eBn, eI2L (n := ρ 25) (by omega)]
        exact sBn ((m_within (by decide) (by omega)).2 q1) (sT (by decide) rfl)
  · refine ⟨-1000, ?_, ?_⟩
    · unfold fX10_lead; try simp only [x02, m50, m51, m52, m53, m54, m60, m61, s120, s13l]
      exact sBn (c_untold h) (sT (by decide) rfl)
    · unfold fX11_lead
      exact sBn (m_nothere h) (sT (by decide) rfl)
theorem s_rate {x y z v : Int32} : STEP (fX10_rate 0 x y z v) (fX11_rate 146 x y z v) := by
  refine STEP.q (fun M a ρ h => ?_) (fun M h => ?_)
  · by_cases q0 : plQ ρ x y
    · by_cases q1 : wnQ z 0 6
      · obtain ⟨t, i, ht, hi, rfl, rfl⟩ := id q0
        obtain ⟨-, h7, h10⟩ := h.sz ht
        obtain ⟨w, hwl, hw, rfl⟩ := id q1
        have ht0 := tal_le h t i 0
        refine ⟨if tal ρ t i 0 = 0 then -1 else if Int32.toInt64 (nI (ofV ρ t i w)) * Int32.toInt64 v = Int32.toInt64 (Int64.toInt32 (Int32.toInt64 (nI (ofV ρ t i w)) * Int32.toInt64 v)) then Int64.toInt32 (Int32.toInt64 (nI (ofV ρ t i w)) * Int32.toInt64 v / Int32.toInt64 (nI (tal ρ t i 0))) else -1, ?_, ?_⟩
        · unfold fX10_rate; try simp only [x02, m50, m51, m52, m53, m54, m60, m61, s120, s13l]
          refine sBn ((c_one h).1 q0) (sF (by decide) ?_)
          refine sBn ((c_within (by decide) (by decide)).1 q1) (sF (by decide) ?_)
          rw [c_tallyOf h ht hi (by decide), eBn, c_tallyOf h ht hi (by omega), eBn]
          have e0 : ofV ρ t i 0 = tal ρ t i 0 := rfl
          rw [e0]
          refine sLt ?_
          by_cases q : tal ρ t i 0 = 0
          · rw [if_pos (c := tal ρ t i 0 = 0) q]
            exact sT (by rw [q]; decide) rfl
          · rw [if_neg (c := tal ρ t i 0 = 0) q]
            refine sF (by rw [e_le0 (by omega)]; exact q) ?_
            have hd : ¬ Int32.toInt64 (nI (tal ρ t i 0)) = 0 := by
              rw [eI2L (by omega), show (0 : Int64) = lN 0 from rfl, eLE (by omega) (by decide)]
              exact q
            by_cases q2 : Int32.toInt64 (nI (ofV ρ t i w)) * Int32.toInt64 v = Int32.toInt64 (Int64.toInt32 (Int32.toInt64 (nI (ofV ρ t i w)) * Int32.toInt64 v))
            · rw [if_pos (c := Int32.toInt64 (nI (ofV ρ t i w)) * Int32.toInt64 v = Int32.toInt64 (Int64.toInt32 (Int32.toInt64 (nI (ofV ρ t i w)) * Int32.toInt64 v))) q2]
              exact sT (by rw [eCmp0]; exact q2) (sGd hd rfl)
            · rw [if_neg (c := Int32.toInt64 (nI (ofV ρ t i w)) * Int32.toInt64 v = Int32.toInt64 (Int64.toInt32 (Int32.toInt64 (nI (ofV ρ t i w)) * Int32.toInt64 v))) q2]
              exact sF (by rw [eCmp0]; exact q2) rfl
        · unfold fX11_rate; try simp only [x02, m50, m51, m52, m53, m54, m60, m61, s120, s13l]
          refine sBn ((m_one h).1 q0) (sF (by decide) ?_)
          refine sBn ((m_within (by decide) (by decide)).1 q1) (sF (by decide) ?_)
          rw [m_ofOne h ht (show i < 10 by omega) (by decide), eBn, m_ofOne h ht (show i < 10 by omega) (by omega), eBn]
          have e0 : ofV ρ t i 0 = tal ρ t i 0 := rfl
          rw [e0]
          refine sLt ?_
          by_cases q : tal ρ t i 0 = 0
          · rw [if_pos (c := tal ρ t i 0 = 0) q]
            exact sT (by rw [q]; decide) rfl
          · rw [if_neg (c := tal ρ t i 0 = 0) q]
            refine sF (eN0 (by omega) q) ?_
            have hd : ¬ Int32.toInt64 (nI (tal ρ t i 0)) = 0 := by
              rw [eI2L (by omega), show (0 : Int64) = lN 0 from rfl, eLE (by omega) (by decide)]
              exact q
            by_cases q2 : Int32.toInt64 (nI (ofV ρ t i w)) * Int32.toInt64 v = Int32.toInt64 (Int64.toInt32 (Int32.toInt64 (nI (ofV ρ t i w)) * Int32.toInt64 v))
            · rw [if_pos (c := Int32.toInt64 (nI (ofV ρ t i w)) * Int32.toInt64 v = Int32.toInt64 (Int64.toInt32 (Int32.toInt64 (nI (ofV ρ t i w)) * Int32.toInt64 v))) q2]
              exact sT (by rw [eCmp0]; exact q2) (sGd hd rfl)
            · rw [if_neg (c := Int32.toInt64 (nI (ofV ρ t i w)) * Int32.toInt64 v = Int32.toInt64 (Int64.toInt32 (Int32.toInt64 (nI (ofV ρ t i w)) * Int32.toInt64 v))) q2]
              exact sF (by rw [eCmp0]; exact q2) rfl
      · refine ⟨-2, ?_, ?_⟩
        · unfold fX10_rate; try simp only [x02, m50, m51, m52, m53, m54, m60, m61, s120, s13l]
          refine sBn ((c_one h).1 q0) (sF (by decide) ?_)
          exact sBn ((c_within (by decide) (by decide)).2 q1) (sT (by decide) rfl)
        · unfold fX11_rate; try simp only [x02, m50, m51, m52, m53, m54, m60, m61, s120, s13l]
          refine sBn ((m_one h).1 q0) (sF (by decide) ?_)
          exact sBn ((m_within (by decide) (by decide)).2 q1) (sT (by decide) rfl)
    · refine ⟨-2, ?_, ?_⟩
      · unfold fX10_rate; try simp only [x02, m50, m51, m52, m53, m54, m60, m61, s120, s13l]
        exact sBn ((c_one h).2 q0) (sT (by decide) rfl)
      · unfold fX11_rate; try simp only [x02, m50, m51, m52, m53, m54, m60, m61, s120, s13l]
        exact sBn ((m_one h).2 q0) (sT (by decide) rfl)
  · refine ⟨-2, ?_, ?_⟩
    · unfold fX10_rate; try simp only [x02, m50, m51, m52, m53, m54, m60, m61, s120, s13l]
      exact sBn (c_noone h) (sT (by decide) rfl)
    · unfold fX11_rate; try simp only [x02, m50, m51, m52, m53, m54, m60, m61, s120, s13l]
      exact sBn (m_noone h) (sT (by decide) rfl)
