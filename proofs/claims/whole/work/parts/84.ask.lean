/-! ===== more questions ===== -/
theorem s_draws : STEP (fX10_draws 0) (fX11_draws 146) := by
  refine STEP.q (fun M a ρ h => ?_) (fun M h => ?_)
  · have hn := h.n25
    have hz := h.hs.1
    refine ⟨runL (stDraws ρ) (id) (ρ 25) 0 (nI 0), ?_, ?_⟩
    · unfold fX10_draws; try simp only [x02, m50, m51, m52, m53, m54, m60, m61, s120, s13l]
      refine sBn (c_told h) (sF (by decide) ?_)
      unfold fX1_drawCount
      refine sBn (loopR (S := Int32) (fun n k s => fX1_drawCount_l4 24 (fun (v : Int32) (w : Int32) (M' : xMem) => some (v, M')) n s (nI (1 + k)) M) (stDraws ρ) (id) (ρ 25) (nI 0) (by omega) (fun n k s hk => ?_) (fun n s => ?_)) rfl
      · rw [fX1_drawCount_l4.eq_2, hz, h2, hl43]
        refine sF (by rw [eLtI (by omega) (by omega)]; omega) (sGb (1 + k) rfl (by omega) (by decide) ?_)
        rw [eCl (by omega), c_leads h (by omega)]
        refine sJw (if ldI ρ (1 + k) = 0 then nI 1 else nI 0) M (fun J => ?_) (sLt (sLe (nI_1 (1 + k)) rfl))
        by_cases q : ldI ρ (1 + k) = 0
        · exact sT q (by rw [if_pos q])
        · exact sF q (by rw [if_neg q])
      · rw [fX1_drawCount_l4.eq_2, hz]
        exact sT (by rw [eLtI (by omega) (by omega)]; omega) rfl
    · unfold fX11_draws; try simp only [x02, m50, m51, m52, m53, m54, m60, m61, s120, s13l]
      refine sBn (h.there) (sF (by decide) ?_)
      refine loopR (S := Int32) (fun n k s => fX11_draws_l14 146 (fun (v : Int32) (w : Int32) (M' : xMem) => some (v, M')) n s (nI (1 + k)) M) (stDraws ρ) (id) (ρ 25) (nI 0) (by omega) (fun n k s hk => ?_) (fun n s => ?_)
      · rw [fX11_draws_l14.eq_2, q_get h.tm (by decide), eBn]
        refine sF (by rw [eLtI (by omega) (by omega)]; omega) ?_
        rw [m_leadAt h (by omega), eBn]
        refine sJw (if ldI ρ (1 + k) = 0 then nI 1 else nI 0) M (fun J => ?_) (sLt (sLe (nI_1 (1 + k)) rfl))
        by_cases q : ldI ρ (1 + k) = 0
        · exact sT q (by rw [if_pos q])
        · exact sF q (by rw [if_neg q])
      · rw [fX11_draws_l14.eq_2, q_get h.tm (by decide), eBn]
        exact sT (by rw [eLtI (by omega) (by omega)]; omega) rfl
  · refine ⟨-2, ?_, ?_⟩
    · unfold fX10_draws; try simp only [x02, m50, m51, m52, m53, m54, m60, m61, s120, s13l]
      exact sBn (c_untold h) (sT (by decide) rfl)
    · unfold fX11_draws; try simp only [x02, m50, m51, m52, m53, m54, m60, m61, s120, s13l]
      exact sBn (m_nothere h) (sT (by decide) rfl)
theorem s_behind {x : Int32} : STEP (fX10_behind 0 x) (fX11_behind 146 x) := by
  refine STEP.q (fun M a ρ h => ?_) (fun M h => ?_)
  · by_cases q0 : tmQ x
    · obtain ⟨t, ht, rfl⟩ := id q0
      have hn := h.n25
      have hz := h.hs.1
      refine ⟨runL (stBehind ρ t) (id) (ρ 25) 0 (nI 0), ?_, ?_⟩
      · unfold fX10_behind; try simp only [x02, m50, m51, m52, m53, m54, m60, m61, s120, s13l]
        refine sBn ((c_team h).1 q0) (sF (by decide) ?_)
        unfold fX1_mostBehind
        refine sBn (loopR (S := Int32) (fun n k s => fX1_mostBehind_l4 24 (nI t) (fun (v : Int32) (w : Int32) (M' : xMem) => some (v, M')) n s (nI (1 + k)) M) (stBehind ρ t) (id) (ρ 25) (nI 0) (by omega) (fun n k s hk => ?_) (fun n s => ?_)) rfl
        · rw [fX1_mostBehind_l4.eq_2, hz, h2, hl43]
          refine sF (by rw [eLtI (by omega) (by omega)]; omega) ?_
          refine sJw (if t = 0 then -ldI ρ (1 + k) else ldI ρ (1 + k)) M (fun J => ?_) (sLt (sLe (nI_1 (1 + k)) rfl))
          by_cases q : t = 0
          · refine sT (by rw [q]; decide) (sGb (1 + k) rfl (by omega) (by decide) ?_)
            rw [eCl (by omega), c_leads h (by omega), if_pos q]
          · refine sF (eN0 (by omega) q) (sGb (1 + k) rfl (by omega) (by decide) ?_)
            rw [eCl (by omega), c_leads h (by omega), if_neg q]
        · rw [fX1_mostBehind_l4.eq_2, hz]
          exact sT (by rw [eLtI (by omega) (by omega)]; omega) rfl
      · unfold fX11_behind; try simp only [x02, m50, m51, m52, m53, m54, m60, m61, s120, s13l]
        refine sBn ((m_team h).1 q0) (sF (by decide) ?_)
        refine loopR (S := Int32) (fun n k s => fX11_behind_l15 146 (nI t) (fun (v : Int32) (w : Int32) (M' : xMem) => some (v, M')) n s (nI (1 + k)) M) (stBehind ρ t) (id) (ρ 25) (nI 0) (by omega) (fun n k s hk => ?_) (fun n s => ?_)
        · rw [fX11_behind_l15.eq_2, q_get h.tm (by decide), eBn]
          refine sF (by rw [eLtI (by omega) (by omega)]; omega) ?_
          refine sJw (if t = 0 then -ldI ρ (1 + k) else ldI ρ (1 + k)) M (fun J => ?_) (sLt (sLe (nI_1 (1 + k)) rfl))
          rw [m_leadAt h (by omega), eBn, eBn]
          by_cases q : t = 0
          · exact sT (by rw [q]; decide) (by rw [if_pos q])
          · exact sF (eN0 (by omega) q) (by rw [if_neg q])
        · rw [fX11_behind_l15.eq_2, q_get h.tm (by decide), eBn]
          exact sT (by rw [eLtI (by omega) (by omega)]; omega) rfl
    · refine ⟨-2, ?_, ?_⟩
      · unfold fX10_behind; try simp only [x02, m50, m51, m52, m53, m54, m60, m61, s120, s13l]
        exact sBn ((c_team h).2 q0) (sT (by decide) rfl)
      · unfold fX11_behind; try simp only [x02, m50, m51, m52, m53, m54, m60, m61, s120, s13l]
        exact sBn ((m_team h).2 q0) (sT (by decide) rfl)
  · refine ⟨-2, ?_, ?_⟩
    · unfold fX10_behind; try simp only [x02, m50, m51, m52, m53, m54, m60, m61, s120, s13l]
      exact sBn (c_noteam h) (sT (by decide) rfl)
    · unfold fX11_behind; try simp only [x02, m50, m51, m52, m53, m54, m60, m61, s120, s13l]
      exact sBn (m_noteam h) (sT (by decide) rfl)
theorem s_met {x y z w' : Int32} : STEP (fX10_met 0 x y z w') (fX11_met 146 x y z w') := by
  refine STEP.q (fun M a ρ h => ?_) (fun M h => ?_)
  · by_cases q0 : plQ ρ x y
    · by_cases q1 : plQ ρ (nI 1 - x) z
      · by_cases q2 : wnQ w' 0 1
        · obtain ⟨t, i, ht, hi, rfl, rfl⟩ := id q0
          obtain ⟨t', j, ht', hj, e', rfl⟩ := id q1
          obtain ⟨w, hwl, hw, rfl⟩ := id q2
          obtain ⟨-, h7, h10⟩ := h.sz ht
          obtain ⟨-, h7', h10'⟩ := h.sz ht'
          have hn := h.n25
          have hz := h.hs.1
          refine ⟨runL (stMet ρ t i j w) id (ρ 25) 0 (nI 0), ?_, ?_⟩
          · unfold fX10_met
            rw [x02, m52]
            refine sBn ((c_one h).1 q0) (sF (by decide) (sBn ((c_one h).1 q1) (sF (by decide) (sBn ((c_within (by decide) (by decide)).1 q2) (sF (by decide) ?_)))))
            rcases (show w = 0 ∨ w = 1 by omega) with rfl | rfl
            · refine sLt (sT (by decide) ?_)
              unfold fX1_meetings
              refine sBn (loopR (S := Int32) (fun n k s => fX1_meetings_l6 24 (nI t) (nI i) (nI j) (nI 1) (fun (v : Int32) (w : Int32) (M' : xMem) => some (v, M')) n s (nI k) M) (stMet ρ t i j 0) id (ρ 25) (nI 0) (by omega) (fun n k s hk => ?_) (fun n s => ?_)) rfl
              · rw [fX1_meetings_l6.eq_2, hz]
                refine sF (by rw [eLe (by omega) (by omega)]; omega) ?_
                obtain ⟨b1, b2, b3, b4, b5, b6, b7, b8, b9, b10, b11, b12, b13, b14, b15, b16, b17⟩ := h.rb hk
                rw [c_isRaider h hk ht (by omega), eBn]
                by_cases q : rq ρ k 0 = t ∧ rq ρ k 1 = i
                · rw [if_pos q]
                  refine sF (by decide) (sCo 2 k (by decide) (by omega) rfl ?_)
                  rw [eCo (by decide) (by omega) rfl, c_col h hk (by decide)]
                  by_cases q2 : rq ρ k 2 = 1
                  · have E : stMet ρ t i j 0 k s = .inl (s + nI (rq ρ k 5 / 2 ^ j % 2)) := by unfold stMet; rw [if_pos q, if_pos rfl, if_pos q2]
                    have h5 := b15 q2
                    rw [E]
                    refine sT (by rw [q2]) (sCo 5 k (by decide) (by omega) rfl ?_)
                    rw [eCo (by decide) (by omega) rfl, c_col h hk (by decide)]
                    refine sLt (sT rfl ?_)
                    rw [e_bitI (by omega) (by omega)]
                    exact sLt (sLe (nI_1 k) rfl)
                  · have E : stMet ρ t i j 0 k s = .inl (s + nI 0) := by unfold stMet; rw [if_pos q, if_pos rfl, if_neg q2]
                    rw [E, addI0]
                    exact sF (by rw [eEq (by omega) (by decide)]; exact q2) (sLe (nI_1 k) rfl)
                · have E : stMet ρ t i j 0 k s = .inl (s + nI 0) := by unfold stMet; rw [if_neg q]
                  rw [E, addI0, if_neg q]
                  exact sT (by decide) (sLe (nI_1 k) rfl)
              · rw [fX1_meetings_l6.eq_2, hz]
                exact sT (by rw [eLe (by omega) (by omega)]; exact Nat.le_refl _) rfl
            · refine sLt (sF (by decide) ?_)
              unfold fX1_meetings
              refine sBn (loopR (S := Int32) (fun n k s => fX1_meetings_l6 24 (nI t) (nI i) (nI j) (nI 3) (fun (v : Int32) (w : Int32) (M' : xMem) => some (v, M')) n s (nI k) M) (stMet ρ t i j 1) id (ρ 25) (nI 0) (by omega) (fun n k s hk => ?_) (fun n s => ?_)) rfl
              · rw [fX1_meetings_l6.eq_2, hz]
                refine sF (by rw [eLe (by omega) (by omega)]; omega) ?_
                obtain ⟨b1, b2, b3, b4, b5, b6, b7, b8, b9, b10, b11, b12, b13, b14, b15, b16, b17⟩ := h.rb hk
                rw [c_isRaider h hk ht (by omega), eBn]
                by_cases q : rq ρ k 0 = t ∧ rq ρ k 1 = i
                · rw [if_pos q]
                  refine sF (by decide) (sCo 2 k (by decide) (by omega) rfl ?_)
                  rw [eCo (by decide) (by omega) rfl, c_col h hk (by decide)]
                  by_cases q2 : rq ρ k 2 = 3
                  · have h5 := b14 q2
                    refine sT (by rw [q2]) (sCo 5 k (by decide) (by omega) rfl ?_)
                    rw [eCo (by decide) (by omega) rfl, c_col h hk (by decide)]
                    refine sLt (sF (by decide) ?_)
                    by_cases q5 : rq ρ k 5 = j
                    · have E : stMet ρ t i j 1 k s = .inl (s + nI 1) := by unfold stMet; rw [if_pos q, if_neg (by decide), if_pos ⟨q2, q5⟩]
                      rw [E]
                      exact sT (by rw [q5]) (sLt (sLe (nI_1 k) rfl))
                    · have E : stMet ρ t i j 1 k s = .inl (s + nI 0) := by unfold stMet; rw [if_pos q, if_neg (by decide), if_neg (fun z => q5 z.2)]
                      rw [E]
                      exact sF (by rw [eEq (by omega) (by omega)]; exact q5) (sLt (sLe (nI_1 k) rfl))
                  · have E : stMet ρ t i j 1 k s = .inl (s + nI 0) := by unfold stMet; rw [if_pos q, if_neg (by decide), if_neg (fun z => q2 z.1)]
                    rw [E, addI0]
                    exact sF (by rw [eEq (by omega) (by decide)]; exact q2) (sLe (nI_1 k) rfl)
                · have E : stMet ρ t i j 1 k s = .inl (s + nI 0) := by unfold stMet; rw [if_neg q]
                  rw [E, addI0, if_neg q]
                  exact sT (by decide) (sLe (nI_1 k) rfl)
              · rw [fX1_meetings_l6.eq_2, hz]
                exact sT (by rw [eLe (by omega) (by omega)]; exact Nat.le_refl _) rfl
          · unfold fX11_met
            refine sBn ((m_one h).1 q0) (sF (by decide) (sBn ((m_one h).1 q1) (sF (by decide) (sBn ((m_within (by decide) (by decide)).1 q2) (sF (by decide) ?_)))))
            rcases (show w = 0 ∨ w = 1 by omega) with rfl | rfl
            · skip
              refine loopR (S := Int32) (fun n k s => fX11_met_l40 146 (nI t) (nI i) (nI j) (nI 0) (fun (v : Int32) (w : Int32) (M' : xMem) => some (v, M')) n s (nI k) M) (stMet ρ t i j 0) id (ρ 25) (nI 0) (by omega) (fun n k s hk => ?_) (fun n s => ?_)
              · rw [fX11_met_l40.eq_2, q_get h.tm (by decide), eBn]
                refine sF (by rw [eLe (by omega) (by omega)]; omega) ?_
                obtain ⟨b1, b2, b3, b4, b5, b6, b7, b8, b9, b10, b11, b12, b13, b14, b15, b16, b17⟩ := h.rb hk
                rw [m_isRaider h hk ht (by omega), eBn, eLt]
                by_cases q : rq ρ k 0 = t ∧ rq ρ k 1 = i
                · rw [if_pos q]
                  refine sF (by decide) ?_
                  refine sT (by decide) ?_
                  rw [eSub (by omega), m_isTouched h hk (by omega) (by omega), eBn]
                  have e : (if 1 - rq ρ k 0 = 1 - t ∧ rq ρ k 2 = 1 then rq ρ k 5 / 2 ^ j % 2 else 0) = (if rq ρ k 2 = 1 then rq ρ k 5 / 2 ^ j % 2 else 0) := by
                    by_cases z : rq ρ k 2 = 1
                    · rw [if_pos ⟨by omega, z⟩, if_pos z]
                    · rw [if_neg (fun y => z y.2), if_neg z]
                  have E : stMet ρ t i j 0 k s = .inl (s + nI (if rq ρ k 2 = 1 then rq ρ k 5 / 2 ^ j % 2 else 0)) := by unfold stMet; rw [if_pos q, if_pos rfl]
                  rw [e, E]
                  have hlt : (if rq ρ k 2 = 1 then rq ρ k 5 / 2 ^ j % 2 else 0) < 2 := by
                    split
                    · exact Nat.mod_lt _ (by decide)
                    · decide
                  refine eB2 hlt (fun z => ?_) (fun z => ?_)
                  · rw [z]; exact sLt (sLe (nI_1 k) rfl)
                  · rw [z]; exact sLt (sLe (nI_1 k) rfl)
                · have E : stMet ρ t i j 0 k s = .inl (s + nI 0) := by unfold stMet; rw [if_neg q]
                  rw [E, if_neg q]
                  exact sT (by decide) (sLt (sLe (nI_1 k) rfl))
              · rw [fX11_met_l40.eq_2, q_get h.tm (by decide), eBn]
                exact sT (by rw [eLe (by omega) (by omega)]; exact Nat.le_refl _) rfl
            · skip
              refine loopR (S := Int32) (fun n k s => fX11_met_l40 146 (nI t) (nI i) (nI j) (nI 1) (fun (v : Int32) (w : Int32) (M' : xMem) => some (v, M')) n s (nI k) M) (stMet ρ t i j 1) id (ρ 25) (nI 0) (by omega) (fun n k s hk => ?_) (fun n s => ?_)
              · rw [fX11_met_l40.eq_2, q_get h.tm (by decide), eBn]
                refine sF (by rw [eLe (by omega) (by omega)]; omega) ?_
                obtain ⟨b1, b2, b3, b4, b5, b6, b7, b8, b9, b10, b11, b12, b13, b14, b15, b16, b17⟩ := h.rb hk
                rw [m_isRaider h hk ht (by omega), eBn, eLt]
                by_cases q : rq ρ k 0 = t ∧ rq ρ k 1 = i
                · rw [if_pos q]
                  refine sF (by decide) ?_
                  refine sF (by decide) ?_
                  rw [eSub (by omega), m_isTackler h hk (by omega) (by omega), eBn]
                  have e : (if 1 - rq ρ k 0 = 1 - t ∧ rq ρ k 2 = 3 ∧ rq ρ k 5 = j then 1 else 0) = (if rq ρ k 2 = 3 ∧ rq ρ k 5 = j then 1 else 0) := by
                    by_cases z : rq ρ k 2 = 3 ∧ rq ρ k 5 = j
                    · rw [if_pos ⟨by omega, z⟩, if_pos z]
                    · rw [if_neg (fun y => z y.2), if_neg z]
                  have E : stMet ρ t i j 1 k s = .inl (s + nI (if rq ρ k 2 = 3 ∧ rq ρ k 5 = j then 1 else 0)) := by unfold stMet; rw [if_pos q, if_neg (by decide)]
                  rw [e, E]
                  refine eB2 (ite01 _) (fun z => ?_) (fun z => ?_)
                  · rw [z]; exact sLt (sLe (nI_1 k) rfl)
                  · rw [z]; exact sLt (sLe (nI_1 k) rfl)
                · have E : stMet ρ t i j 1 k s = .inl (s + nI 0) := by unfold stMet; rw [if_neg q]
                  rw [E, if_neg q]
                  exact sT (by decide) (sLt (sLe (nI_1 k) rfl))
              · rw [fX11_met_l40.eq_2, q_get h.tm (by decide), eBn]
                exact sT (by rw [eLe (by omega) (by omega)]; exact Nat.le_refl _) rfl
        · refine ⟨-2, ?_, ?_⟩
          · unfold fX10_met
            exact sBn ((c_one h).1 q0) (sF (by decide) (sBn ((c_one h).1 q1) (sF (by decide) (sBn ((c_within (by decide) (by decide)).2 q2) (sT (by decide) rfl)))))
          · unfold fX11_met
            exact sBn ((m_one h).1 q0) (sF (by decide) (sBn ((m_one h).1 q1) (sF (by decide) (sBn ((m_within (by decide) (by decide)).2 q2) (sT (by decide) rfl)))))
      · refine ⟨-2, ?_, ?_⟩
        · unfold fX10_met
          exact sBn ((c_one h).1 q0) (sF (by decide) (sBn ((c_one h).2 q1) (sT (by decide) rfl)))
        · unfold fX11_met
          exact sBn ((m_one h).1 q0) (sF (by decide) (sBn ((m_one h).2 q1) (sT (by decide) rfl)))
    · refine ⟨-2, ?_, ?_⟩
      · unfold fX10_met
        exact sBn ((c_one h).2 q0) (sT (by decide) rfl)
      · unfold fX11_met
        exact sBn ((m_one h).2 q0) (sT (by decide) rfl)
  · refine ⟨-2, ?_, ?_⟩
    · unfold fX10_met
      exact sBn (c_noone h) (sT (by decide) rfl)
    · unfold fX11_met
      exact sBn (m_noone h) (sT (by decide) rfl)
theorem s_first {x y z : Int32} : STEP (fX10_first 0 x y z) (fX11_first 146 x y z) := by
  refine STEP.q (fun M a ρ h => ?_) (fun M h => ?_)
  · by_cases q0 : plQ ρ x y
    · by_cases q1 : wnQ z 0 1
      · obtain ⟨t, i, ht, hi, rfl, rfl⟩ := id q0
        obtain ⟨-, h7, h10⟩ := h.sz ht
        obtain ⟨w, hwl, hw, rfl⟩ := id q1
        have hn := h.n25
        have hz := h.hs.1
        refine ⟨runL (stFirst ρ t i w) (fun _ => -1) (ρ 25) 0 (()), ?_, ?_⟩
        · unfold fX10_first; try simp only [x02, m50, m51, m52, m53, m54, m60, m61, s120, s13l]
          refine sBn ((c_one h).1 q0) (sF (by decide) ?_)
          refine sBn ((c_within (by decide) (by decide)).1 q1) (sF (by decide) ?_)
          rcases (show w = 0 ∨ w = 1 by omega) with rfl | rfl
          · refine sT (by decide) ?_
            unfold fX1_firstScored
            refine sBn (loopR (S := Unit) (fun n k s => fX1_firstScored_l2 24 (nI t) (nI i) (fun (v : Int32) (M' : xMem) => some ((-1), M')) n (nI k) M) (stFirst ρ t i 0) (fun _ => -1) (ρ 25) () (by omega) (fun n k s hk => ?_) (fun n s => ?_)) rfl
            · rw [fX1_firstScored_l2.eq_2, hz]
              refine sF (by rw [eLe (by omega) (by omega)]; omega) ?_
              obtain ⟨b1, b2, b3, b4, b5, b6, b7, b8, b9, b10, b11, b12, b13, b14, b15, b16, b17⟩ := h.rb hk
              have e : inq ρ k t i 1 = if rq ρ k 0 = t ∧ rq ρ k 1 = i then pBq ρ k else 0 := rfl
              have S0 : stFirst ρ t i 0 k s = if inq ρ k t i 1 = 0 then .inl () else .inr (nI k) := rfl
              rw [S0, c_isRaider h hk ht (by omega), eBn]
              by_cases q : rq ρ k 0 = t ∧ rq ρ k 1 = i
              · rw [if_pos q] at e
                rw [e, if_pos q]
                refine sF (by decide) (sCo 13 k (by decide) (by omega) rfl ?_)
                rw [eCo (by decide) (by omega) rfl, (h.hs.2.1 k hk).2.2.2.2.2.1]
                by_cases q3 : pBq ρ k = 0
                · rw [if_pos (c := pBq ρ k = 0) q3]
                  exact sT (by rw [q3]; decide) (sLe (nI_1 k) rfl)
                · rw [if_neg (c := pBq ρ k = 0) q3]
                  exact sF (by rw [e_le0 (by omega)]; exact q3) rfl
              · rw [if_neg q] at e
                rw [e, if_neg q, if_pos (c := 0 = 0) rfl]
                exact sT (by decide) (sLe (nI_1 k) rfl)
            · rw [fX1_firstScored_l2.eq_2, hz]
              exact sT (by rw [eLe (by omega) (by omega)]; exact Nat.le_refl _) rfl
          · refine sF (by decide) ?_
            unfold fX1_firstTackle
            refine sBn (loopR (S := Unit) (fun n k s => fX1_firstTackle_l2 24 (nI t) (nI i) (fun (v : Int32) (M' : xMem) => some ((-1), M')) n (nI k) M) (stFirst ρ t i 1) (fun _ => -1) (ρ 25) () (by omega) (fun n k s hk => ?_) (fun n s => ?_)) rfl
            · rw [fX1_firstTackle_l2.eq_2, hz]
              refine sF (by rw [eLe (by omega) (by omega)]; omega) ?_
              obtain ⟨b1, b2, b3, b4, b5, b6, b7, b8, b9, b10, b11, b12, b13, b14, b15, b16, b17⟩ := h.rb hk
              have e : inq ρ k t i 4 = if 1 - rq ρ k 0 = t ∧ rq ρ k 2 = 3 ∧ rq ρ k 5 = i then 1 + spq ρ k else 0 := rfl
              have S0 : stFirst ρ t i 1 k s = if inq ρ k t i 4 = 0 then .inl () else .inr (nI k) := rfl
              rw [S0]
              refine sCo 0 k (by decide) (by omega) rfl ?_
              rw [eCo (by decide) (by omega) rfl, c_col h hk (by decide)]
              refine sJw (nI (if 1 - rq ρ k 0 = t ∧ rq ρ k 2 = 3 then 1 else 0)) M (fun J => ?_) ?_
              · by_cases q0 : rq ρ k 0 = t
                · exact sT (by rw [q0]) (by rw [if_neg (by omega)])
                · refine sF (by rw [eEq (by omega) (by omega)]; exact q0) (sCo 2 k (by decide) (by omega) rfl ?_)
                  rw [eCo (by decide) (by omega) rfl, c_col h hk (by decide)]
                  by_cases q3 : rq ρ k 2 = 3
                  · exact sT (by rw [q3]) (by rw [if_pos ⟨by omega, q3⟩])
                  · exact sF (by rw [eEq (by omega) (by decide)]; exact q3) (by rw [if_neg (fun z => q3 z.2)])
              · by_cases q' : 1 - rq ρ k 0 = t ∧ rq ρ k 2 = 3
                · rw [if_pos q']
                  refine sF (by decide) (sCo 5 k (by decide) (by omega) rfl ?_)
                  rw [eCo (by decide) (by omega) rfl, c_col h hk (by decide)]
                  have h5 := b14 q'.2
                  by_cases q5 : rq ρ k 5 = i
                  · rw [if_pos ⟨q'.1, q'.2, q5⟩] at e
                    have e1 : ¬ inq ρ k t i 4 = 0 := by rw [e]; omega
                    rw [if_neg e1]
                    exact sT (by rw [q5]) rfl
                  · rw [if_neg (fun z => q5 z.2.2)] at e
                    rw [if_pos e]
                    exact sF (by rw [eEq (by omega) (by omega)]; exact q5) (sLe (nI_1 k) rfl)
                · rw [if_neg (fun z => q' ⟨z.1, z.2.1⟩)] at e
                  rw [if_pos e, if_neg q']
                  exact sT (by decide) (sLe (nI_1 k) rfl)
            · rw [fX1_firstTackle_l2.eq_2, hz]
              exact sT (by rw [eLe (by omega) (by omega)]; exact Nat.le_refl _) rfl
        · unfold fX11_first; try simp only [x02, m50, m51, m52, m53, m54, m60, m61, s120, s13l]
          refine sBn ((m_one h).1 q0) (sF (by decide) ?_)
          refine sBn ((m_within (by decide) (by decide)).1 q1) (sF (by decide) ?_)
          refine loopR (S := Unit) (fun n k s => fX11_first_l25 146 (nI t) (nI i) (nI w) (fun (v : Int32) (M' : xMem) => some ((-1), M')) n (nI k) M) (stFirst ρ t i w) (fun _ => -1) (ρ 25) () (by omega) (fun n k s hk => ?_) (fun n s => ?_)
          · rw [fX11_first_l25.eq_2, q_get h.tm (by decide), eBn]
            refine sF (by rw [eLe (by omega) (by omega)]; omega) ?_
            have hq := inq_le h (t := t) (i := i) (w := if w = 0 then 1 else 4) hk
            refine sJw (nI (if w = 0 then 1 else 4)) M (fun J => ?_) ?_
            · exact eB2 (by omega) (fun z => by rw [if_pos z]) (fun z => by rw [if_neg (show ¬ w = 0 by omega)])
            rw [m_inRaid h hk ht (by omega) (by split <;> decide), eBn]
            unfold stFirst
            by_cases q : inq ρ k t i (if w = 0 then 1 else 4) = 0
            · rw [if_pos q]
              exact sT (by rw [q]; decide) (sLe (nI_1 k) rfl)
            · rw [if_neg q]
              exact sF (by rw [e_le0 (by omega)]; exact q) rfl
          · rw [fX11_first_l25.eq_2, q_get h.tm (by decide), eBn]
            exact sT (by rw [eLe (by omega) (by omega)]; exact Nat.le_refl _) rfl
      · refine ⟨-2, ?_, ?_⟩
        · unfold fX10_first; try simp only [x02, m50, m51, m52, m53, m54, m60, m61, s120, s13l]
          refine sBn ((c_one h).1 q0) (sF (by decide) ?_)
          exact sBn ((c_within (by decide) (by decide)).2 q1) (sT (by decide) rfl)
        · unfold fX11_first; try simp only [x02, m50, m51, m52, m53, m54, m60, m61, s120, s13l]
          refine sBn ((m_one h).1 q0) (sF (by decide) ?_)
          exact sBn ((m_within (by decide) (by decide)).2 q1) (sT (by decide) rfl)
    · refine ⟨-2, ?_, ?_⟩
      · unfold fX10_first; try simp only [x02, m50, m51, m52, m53, m54, m60, m61, s120, s13l]
        exact sBn ((c_one h).2 q0) (sT (by decide) rfl)
      · unfold fX11_first; try simp only [x02, m50, m51, m52, m53, m54, m60, m61, s120, s13l]
        exact sBn ((m_one h).2 q0) (sT (by decide) rfl)
  · refine ⟨-2, ?_, ?_⟩
    · unfold fX10_first; try simp only [x02, m50, m51, m52, m53, m54, m60, m61, s120, s13l]
      exact sBn (c_noone h) (sT (by decide) rfl)
    · unfold fX11_first; try simp only [x02, m50, m51, m52, m53, m54, m60, m61, s120, s13l]
      exact sBn (m_noone h) (sT (by decide) rfl)
