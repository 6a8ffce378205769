/-! ===== acts: card, change, half, review, undo ===== -/
theorem iN1 {c : Prop} [Decidable c] (h : c) : nI (if c then 1 else 0) = nI 1 := by rw [if_pos h]
theorem iN0 {c : Prop} [Decidable c] (h : ¬ c) : nI (if c then 1 else 0) = nI 0 := by rw [if_neg h]
theorem FdM.nw {M : xMem} {ρ : Nat → Nat} (h : xnw M = 147) : FdM M (nwS M ρ) := by
  refine ⟨fun c _ => rfl, fun c hc => ?_, rfl⟩
  unfold nwS
  rw [h]
  exact xwQ_ne (by omega)
theorem act_top {M : xMem} {a : xTl} {hs : List xTl} {tp : List Nat} {fk fp : Int32} {ou : List Nat} {l : xLn} (hC : KC M a hs tp fk fp ou) (hR : KM M a hs tp fk fp ou) (hM : MR M (rowT a)) (ha : tdOK a) (hl : okL l (rowT a)) :
    ∃ M1, fX10_act 0 (lN (codL l)) M = some M1 ∧ MR M1 (appR l (rowT a)) ∧ RI (appR l (rowT a)) ∧ (∀ j, j < 25 → appR l (rowT a) j = rowT a j) ∧ (∀ r s b tk tl, l = .inl (r, s, b, tk, tl) → M1.1 12 5 = nI (ownR r s b tk tl (rowT a))) ∧ Fc M M1 ∧
      ∀ M1', Fs M1 M1' → ∃ Mk, fX11_keeps 146 M1' = some Mk ∧ nwS Mk (rowT a) = Mk ∧ (∀ c, c ≠ 146 → Mk.1 c = M1'.1 c) ∧ (∀ j, j ≠ 19 → Mk.1 146 j = M1'.1 146 j) ∧ TOP (nwS Mk (appR l (rowT a))) := by
  obtain ⟨t1, t2, t3, t4⟩ := addT_ok ha hl
  have hI := (RI.beg ha.1).row ha.2
  obtain ⟨M1, f1, c1, m1, c2, c3⟩ := hC.act hM ha hl
  rw [t2] at m1
  refine ⟨M1, f1, m1, hI.app hl, fun j hj => app_ros hI hl hj, c3, c2, fun M1' hF => ?_⟩
  obtain ⟨Mk, g1, g2, g3, g4, g5, g6, g7, g8⟩ := ((hR.fc c2).fs hF).keep1 hC.2.1.2.1
  rw [rowX_td ha] at g2
  refine ⟨Mk, g1, g2.nw, g3, g4, addT a l, psh hs a, tp, fk, fp, ou, ?_, ?_⟩
  · exact ((c1.fd hF.fd).fd g5).fd (FdM.nw g7)
  · have := g8 (addT a l)
    rw [rowX_td t1, t2] at this
    exact this
theorem q_mayLine {M : xMem} {ρ : Nat → Nat} (h : TM M ρ) (hB : BD ρ) : fX11_mayLine 146 M = some (nI (if ovR ρ = 0 ∧ ρ 26 < 40 then 1 else 0), M) := by
  have h26 := hB.2.1
  unfold fX11_mayLine
  rw [q_isOver h hB.2.2.1, eBn]
  rcases ovR_le ρ with e | e
  · refine sT (by rw [e]; decide) (sGb 26 rfl (by rw [xlnw]; decide) (by rw [xlnw]; decide) ?_)
    rw [h, eCl (by decide), lf_at]
    by_cases q3 : ρ 26 < 40
    · exact sF (by rw [eCmpGe, eLLe (by omega) (by omega)]; omega) (by rw [if_pos ⟨e, q3⟩])
    · exact sT (by rw [eCmpGe, eLLe (by omega) (by omega)]; omega) (by rw [if_neg (fun z => q3 z.2)])
  · exact sF (by rw [e]; decide) (by rw [if_neg (by omega)])
theorem q_canCard {M : xMem} {ρ : Nat → Nat} {t i c : Nat} (h : TM M ρ) (hR : RW ρ) (ht : t < 2) (hi : i < 10) (hc : c < 3) : fX11_canCard 146 (nI t) (nI i) (nI c) M = some (nI (if ρ (48 + 10 * t + i) = 0 ∨ ρ (48 + 10 * t + i) = 1 ∨ (ρ (48 + 10 * t + i) = 3 ∧ c = 2) then 1 else 0), M) := by
  have hst := ((hR.2 _ ht).2.1 i hi).1
  unfold fX11_canCard
  rw [q_isOf h ht hi, eBn]
  generalize ρ (48 + 10 * t + i) = x at *
  rcases (show x = 0 ∨ x = 1 ∨ x = 2 ∨ x = 3 ∨ x = 4 by omega) with rfl | rfl | rfl | rfl | rfl <;> rcases (show c = 0 ∨ c = 1 ∨ c = 2 by omega) with rfl | rfl | rfl <;> rfl
theorem s_card {x y z : Int32} : STEP (fX10_card 0 x y z) (fX11_card 146 x y z) := by
  intro M hM
  obtain ⟨a, hs, tp, fk, fp, ou, hC, hR⟩ := id hM
  rcases hC.1.q hR.1 hR.2.1 with ⟨ha, h⟩ | ⟨hn, h⟩
  · by_cases q0 : plQ (rowT a) x y
    · by_cases q1 : wnQ z 0 2
      · obtain ⟨t, i, ht, hi, rfl, rfl⟩ := id q0
        obtain ⟨c, hcl, hc, rfl⟩ := id q1
        obtain ⟨-, h7, h10⟩ := h.sz ht
        by_cases q2 : rowT a 26 < 40 ∧ csR t i c (rowT a) = 1
        · have hq2 := q2.2
          unfold csR at hq2
          have hq3 := ite_1 hq2
          have hl : okL (.inr (1, t, i, c)) (rowT a) := ⟨q2.1, Or.inl ⟨rfl, ht, hi, by omega, by omega⟩⟩
          obtain ⟨M1, f1, m1, r1, e1, -, c2, kk⟩ := act_top hC hR h.2.2.1 ha hl
          obtain ⟨Mk, g1, g2, -, -, g5⟩ := kk M1 (Fs.refl M1)
          have hq := h.mq.fc c2
          have hB := h.bd
          refine ⟨nI (cardR t i c (rowT a) (48 + 10 * t + i)), M1, nwS Mk (cardR t i c (rowT a)), ?_, ?_, g5⟩
          · unfold fX10_card
            simp only [x02, m51, s120, s13l]
            refine sBn ((c_one h).1 q0) (sF (by decide) (sBn ((c_within (by decide) (by decide)).1 q1) (sF (by decide) ?_)))
            rw [c_roomO h.2.2.1.1 h.bd, eBn, if_pos q2.1]
            refine sF (by decide) (sBn (s_canShow kd12 h.2.2.1.1 h.rw h.bd ht hi (by omega)) ?_)
            rw [q2.2]
            refine sF (by decide) (sBn (e_packOther (by decide) (by omega) (by omega) (by omega)) (sBv f1 ?_))
            refine sGb t rfl ht (by decide) ?_
            rw [x13 ht, (sdF ht).1.1, (sdF ht).2.1]
            refine sGb i rfl (by omega) (by decide) ?_
            have he : (1 + t) < 25 := by omega
            rw [eCl (by omega), m1.1.stat ht (by rw [e1 _ he]; exact hi)]
            rfl
          · unfold fX11_card
            refine sBn ((mq_one hq).1 q0) (sF (by decide) (sBn ((m_within (by decide) (by decide)).1 q1) (sF (by decide) ?_)))
            rw [q_mayLine hq.tm h.bd, eBn, iN1 ⟨hq3.1, q2.1⟩]
            refine sF (by decide) (sBn (q_canCard hq.tm h.rw ht (by omega) (by omega)) ?_)
            rw [if_pos hq3.2]
            refine sF (by decide) (sBv g1 ?_)
            have hg := (hB.2.2.2.2 t ht).2.2.2.2 i (by omega)
            have h26 := hB.2.1
            have ec := e_cards (M := Mk) (ρ := rowT a) (t := t) (i := i) (c := c) h.rw ht (by omega) (by omega) h.n25 (by rw [show 88 + (10 * t + i) = 88 + 10 * t + i by omega]; omega)
            rw [g2] at ec
            rw [ec, eBv, e_isOf ht (by omega), eBn]
        · refine ⟨-6, M, M, ?_, ?_, hM⟩
          · unfold fX10_card
            simp only [x02, m51, s120, s13l]
            refine sBn ((c_one h).1 q0) (sF (by decide) (sBn ((c_within (by decide) (by decide)).1 q1) (sF (by decide) ?_)))
            rw [c_roomO h.2.2.1.1 h.bd, eBn]
            by_cases q3 : rowT a 26 < 40
            · rw [if_pos q3]
              refine sF (by decide) (sBn (s_canShow kd12 h.2.2.1.1 h.rw h.bd ht hi (by omega)) ?_)
              have : csR t i c (rowT a) = 0 := by
                have : csR t i c (rowT a) < 2 := ite01 _
                omega
              rw [this]
              exact sT (by decide) rfl
            · rw [if_neg q3]
              exact sT (by decide) rfl
          · unfold fX11_card
            refine sBn ((m_one h).1 q0) (sF (by decide) (sBn ((m_within (by decide) (by decide)).1 q1) (sF (by decide) ?_)))
            rw [q_mayLine h.tm h.bd, eBn]
            by_cases q3 : ovR (rowT a) = 0 ∧ rowT a 26 < 40
            · rw [if_pos q3]
              refine sF (by decide) (sBn (q_canCard h.tm h.rw ht (by omega) (by omega)) ?_)
              rw [iN0 (fun w => q2 ⟨q3.2, by unfold csR; rw [if_pos ⟨q3.1, w⟩]⟩)]
              exact sT (by decide) rfl
            · rw [if_neg q3]
              exact sT (by decide) rfl
      · refine ⟨-2, M, M, ?_, ?_, hM⟩
        · unfold fX10_card
          exact sBn ((c_one h).1 q0) (sF (by decide) (sBn ((c_within (by decide) (by decide)).2 q1) (sT (by decide) rfl)))
        · unfold fX11_card
          exact sBn ((m_one h).1 q0) (sF (by decide) (sBn ((m_within (by decide) (by decide)).2 q1) (sT (by decide) rfl)))
    · refine ⟨-2, M, M, ?_, ?_, hM⟩
      · unfold fX10_card
        exact sBn ((c_one h).2 q0) (sT (by decide) rfl)
      · unfold fX11_card
        exact sBn ((m_one h).2 q0) (sT (by decide) rfl)
  · refine ⟨-2, M, M, ?_, ?_, hM⟩
    · unfold fX10_card
      exact sBn (c_noone h) (sT (by decide) rfl)
    · unfold fX11_card
      exact sBn (m_noone h) (sT (by decide) rfl)
theorem s_change {x y z : Int32} : STEP (fX10_change 0 x y z) (fX11_change 146 x y z) := by
  intro M hM
  obtain ⟨a, hs, tp, fk, fp, ou, hC, hR⟩ := id hM
  rcases hC.1.q hR.1 hR.2.1 with ⟨ha, h⟩ | ⟨hn, h⟩
  · by_cases q0 : plQ (rowT a) x y
    · by_cases q1 : plQ (rowT a) x z
      · obtain ⟨t, i, ht, hi, rfl, rfl⟩ := id q0
        obtain ⟨t', j, ht', hj, et, rfl⟩ := id q1
        obtain ⟨-, h7, h10⟩ := h.sz ht
        have et2 : t = t' := (nI_eq (by omega) (by omega)).1 et
        subst et2
        have s1 := ((h.rw.2 _ ht).2.1 i (by omega)).1
        have s2 := ((h.rw.2 _ ht).2.1 j (by omega)).1
        have h5 := (h.bd.2.2.2.2 t ht).2.1
        have h26 := h.bd.2.1
        by_cases q2 : rowT a 26 < 40 ∧ clR t i (rowT a) = 1 ∧ rowT a (48 + 10 * t + j) = 2
        · have hq2 := q2.2.1
          unfold clR at hq2
          have hq3 := ite_1 hq2
          have hl : okL (.inr (2, t, i, j)) (rowT a) := ⟨q2.1, Or.inr (Or.inl ⟨rfl, ht, hi, hj, hq3.2.2, q2.2.2, hq3.2.1⟩)⟩
          obtain ⟨M1, f1, m1, r1, e1, -, c2, kk⟩ := act_top hC hR h.2.2.1 ha hl
          obtain ⟨Mk, g1, g2, -, -, g5⟩ := kk M1 (Fs.refl M1)
          have hq := h.mq.fc c2
          refine ⟨nI (changeR t i j (rowT a) (32 + t)), M1, nwS Mk (changeR t i j (rowT a)), ?_, ?_, g5⟩
          · unfold fX10_change
            simp only [x02, m51, s120, s13l]
            refine sBn ((c_one h).1 q0) (sF (by decide) (sBn ((c_one h).1 q1) (sF (by decide) ?_)))
            rw [c_roomO h.2.2.1.1 h.bd, eBn, if_pos q2.1]
            refine sF (by decide) (sBn (s_canLeave kd12 h.2.2.1.1 h.rw h.bd ht hi) ?_)
            rw [q2.2.1]
            refine sF (by decide) (sBn (s_canEnter kd12 h.2.2.1.1 h.rw ht hj) ?_)
            rw [if_pos q2.2.2]
            refine sF (by decide) (sBn (e_packOther (by decide) (by omega) (by omega) (by omega)) (sBv f1 ?_))
            refine sGb t rfl ht (by decide) ?_
            rw [x13 ht, (m1.1.2.2.2.2 t ht).2.2.2.1]
            rfl
          · unfold fX11_change
            refine sBn ((mq_one hq).1 q0) (sF (by decide) (sBn ((mq_one hq).1 q1) (sF (by decide) ?_)))
            rw [q_mayLine hq.tm h.bd, eBn, iN1 ⟨hq3.1, q2.1⟩]
            refine sF (by decide) ?_
            rw [q_isOf hq.tm ht (by omega), eBn, hq3.2.2]
            refine sT (by decide) ?_
            rw [q_isOf hq.tm ht (by omega), eBn, q2.2.2]
            refine sT rfl (sGb (32 + t) (nI_add _ _) (by rw [xlnw]; omega) (by rw [xlnw]; decide) ?_)
            rw [nI_add, eCl (by omega), hq.tm, lf_at]
            refine sF (by rw [eCmp0, eLE (by omega) (by decide)]; omega) (sBv g1 ?_)
            have ec := e_changesOver (M := Mk) (ρ := rowT a) (t := t) (f := i) (u := j) ht (by omega) (by omega)
            rw [g2] at ec
            rw [ec, eBv, e_get (by omega), eBn]
        · refine ⟨-6, M, M, ?_, ?_, hM⟩
          · unfold fX10_change
            simp only [x02, m51, s120, s13l]
            refine sBn ((c_one h).1 q0) (sF (by decide) (sBn ((c_one h).1 q1) (sF (by decide) ?_)))
            rw [c_roomO h.2.2.1.1 h.bd, eBn]
            by_cases q3 : rowT a 26 < 40
            · rw [if_pos q3]
              refine sF (by decide) (sBn (s_canLeave kd12 h.2.2.1.1 h.rw h.bd ht hi) ?_)
              by_cases q4 : clR t i (rowT a) = 1
              · rw [q4]
                refine sF (by decide) (sBn (s_canEnter kd12 h.2.2.1.1 h.rw ht hj) ?_)
                rw [iN0 (fun w => q2 ⟨q3, q4, w⟩)]
                exact sT (by decide) rfl
              · have : clR t i (rowT a) = 0 := by
                  have : clR t i (rowT a) < 2 := ite01 _
                  omega
                rw [this]
                exact sT (by decide) rfl
            · rw [if_neg q3]
              exact sT (by decide) rfl
          · unfold fX11_change
            refine sBn ((m_one h).1 q0) (sF (by decide) (sBn ((m_one h).1 q1) (sF (by decide) ?_)))
            rw [q_mayLine h.tm h.bd, eBn]
            by_cases q3 : ovR (rowT a) = 0 ∧ rowT a 26 < 40
            · rw [if_pos q3]
              refine sF (by decide) ?_
              rw [q_isOf h.tm ht (by omega), eBn]
              by_cases q4 : rowT a (48 + 10 * t + i) = 0
              · refine sT (by rw [q4]; decide) ?_
                rw [q_isOf h.tm ht (by omega), eBn]
                by_cases q5 : rowT a (48 + 10 * t + j) = 2
                · refine sT (by rw [q5]) (sGb (32 + t) (nI_add _ _) (by rw [xlnw]; omega) (by rw [xlnw]; decide) ?_)
                  rw [nI_add, eCl (by omega), h.tm, lf_at]
                  refine sT ?_ rfl
                  rw [eCmp0, eLE (by omega) (by decide)]
                  rcases Nat.lt_or_ge (rowT a (32 + t)) 5 with z | z
                  · exact absurd ⟨q3.2, by unfold clR; rw [if_pos ⟨q3.1, z, q4⟩], q5⟩ q2
                  · omega
                · exact sF (by rw [eEq (by omega) (by decide)]; exact q5) rfl
              · exact sF (eN0 (by omega) q4) rfl
            · rw [if_neg q3]
              exact sT (by decide) rfl
      · refine ⟨-2, M, M, ?_, ?_, hM⟩
        · unfold fX10_change
          exact sBn ((c_one h).1 q0) (sF (by decide) (sBn ((c_one h).2 q1) (sT (by decide) rfl)))
        · unfold fX11_change
          exact sBn ((m_one h).1 q0) (sF (by decide) (sBn ((m_one h).2 q1) (sT (by decide) rfl)))
    · refine ⟨-2, M, M, ?_, ?_, hM⟩
      · unfold fX10_change
        exact sBn ((c_one h).2 q0) (sT (by decide) rfl)
      · unfold fX11_change
        exact sBn ((m_one h).2 q0) (sT (by decide) rfl)
  · refine ⟨-2, M, M, ?_, ?_, hM⟩
    · unfold fX10_change
      exact sBn (c_noone h) (sT (by decide) rfl)
    · unfold fX11_change
      exact sBn (m_noone h) (sT (by decide) rfl)
theorem s_half : STEP (fX10_half 0) (fX11_half 146) := by
  intro M hM
  obtain ⟨a, hs, tp, fk, fp, ou, hC, hR⟩ := id hM
  rcases hC.1.q hR.1 hR.2.1 with ⟨ha, h⟩ | ⟨hn, h⟩
  · by_cases q2 : ovR (rowT a) = 0 ∧ rowT a 26 < 40
    · have h27 := h.bd.2.2.1
      have hq2 := q2.1
      unfold ovR at hq2
      have hl : okL (.inr (3, 0, 0, 0)) (rowT a) := ⟨q2.2, Or.inr (Or.inr (Or.inl ⟨rfl, rfl, rfl, rfl, by have := ite_0 hq2; omega⟩))⟩
      obtain ⟨M1, f1, m1, r1, e1, -, c2, kk⟩ := act_top hC hR h.2.2.1 ha hl
      obtain ⟨Mk, g1, g2, -, -, g5⟩ := kk M1 (Fs.refl M1)
      have hq := h.mq.fc c2
      refine ⟨nI (halfR (rowT a) 27), M1, nwS Mk (halfR (rowT a)), ?_, ?_, g5⟩
      · unfold fX10_half
        simp only [x02, m51]
        refine sBn (c_told h) (sF (by decide) ?_)
        rw [c_roomO h.2.2.1.1 h.bd, eBn, if_pos q2.2]
        refine sF (by decide) (sBn (c_isOver h) ?_)
        rw [q2.1]
        refine sT (by decide) (sBn (e_packOther (by decide) (by omega) (by omega) (by omega)) (sBv f1 ?_))
        rw [m1.1.2.1]
        rfl
      · unfold fX11_half
        refine sBn hq.there (sF (by decide) ?_)
        rw [q_mayLine hq.tm h.bd, eBn, if_pos q2]
        refine sF (by decide) (sBv g1 ?_)
        have ec := e_halves (M := Mk) (ρ := rowT a)
        rw [g2] at ec
        rw [ec, eBv, e_get (by omega), eBn]
    · refine ⟨-6, M, M, ?_, ?_, hM⟩
      · unfold fX10_half
        simp only [x02, m51]
        refine sBn (c_told h) (sF (by decide) ?_)
        rw [c_roomO h.2.2.1.1 h.bd, eBn]
        by_cases q3 : rowT a 26 < 40
        · rw [if_pos q3]
          refine sF (by decide) (sBn (c_isOver h) ?_)
          have : ovR (rowT a) = 1 := by
            rcases ovR_le (rowT a) with e | e
            · exact absurd ⟨e, q3⟩ q2
            · exact e
          rw [this]
          exact sF (by decide) rfl
        · rw [if_neg q3]
          exact sT (by decide) rfl
      · unfold fX11_half
        refine sBn h.there (sF (by decide) ?_)
        rw [q_mayLine h.tm h.bd, eBn, if_neg q2]
        exact sT (by decide) rfl
  · refine ⟨-2, M, M, ?_, ?_, hM⟩
    · unfold fX10_half
      rw [x02]
      exact sBn (c_untold h) (sT (by decide) rfl)
    · unfold fX11_half
      exact sBn (m_nothere h) (sT (by decide) rfl)
theorem s_review {x y : Int32} : STEP (fX10_review 0 x y) (fX11_review 146 x y) := by
  intro M hM
  obtain ⟨a, hs, tp, fk, fp, ou, hC, hR⟩ := id hM
  rcases hC.1.q hR.1 hR.2.1 with ⟨ha, h⟩ | ⟨hn, h⟩
  · by_cases q0 : tmQ x
    · by_cases q1 : wnQ y 0 1
      · obtain ⟨t, ht, rfl⟩ := id q0
        obtain ⟨w, hwl, hw, rfl⟩ := id q1
        by_cases q2 : rowT a 26 < 40 ∧ caR t (rowT a) = 1
        · have hq2 := q2.2
          unfold caR at hq2
          have hq3 := ite_1 hq2
          have hl : okL (.inr (4, t, w, 0)) (rowT a) := ⟨q2.1, Or.inr (Or.inr (Or.inr ⟨rfl, ht, by omega, rfl, hq3.2.1⟩))⟩
          obtain ⟨M1, f1, m1, r1, e1, -, c2, kk⟩ := act_top hC hR h.2.2.1 ha hl
          obtain ⟨Mk, g1, g2, -, -, g5⟩ := kk M1 (Fs.refl M1)
          have hq := h.mq.fc c2
          refine ⟨nI (reviewR t w (rowT a) 25), M1, nwS Mk (reviewR t w (rowT a)), ?_, ?_, g5⟩
          · unfold fX10_review
            simp only [x02, m51, m52]
            refine sBn ((c_team h).1 q0) (sF (by decide) (sBn ((c_within (by decide) (by decide)).1 q1) (sF (by decide) ?_)))
            rw [c_roomO h.2.2.1.1 h.bd, eBn, if_pos q2.1]
            refine sF (by decide) (sBn (s_canAsk kd12 h.2.2.1.1 h.bd ht) ?_)
            rw [q2.2]
            refine sF (by decide) (sBn (e_packOther (by decide) (by omega) (by omega) (by omega)) (sBv f1 ?_))
            rw [m1.2.1.1]
            rfl
          · unfold fX11_review
            refine sBn ((mq_team hq).1 q0) (sF (by decide) (sBn ((m_within (by decide) (by decide)).1 q1) (sF (by decide) ?_)))
            rw [q_canReview hq.tm h.bd ht, eBn, if_pos q2]
            refine sF (by decide) (sBv g1 ?_)
            refine sJw (nI w) Mk (fun J => ?_) ?_
            · rcases (show w = 0 ∨ w = 1 by omega) with e | e
              · rw [e]; exact sF (by decide) rfl
              · rw [e]; exact sT rfl rfl
            · have ec := e_reviews (M := Mk) (ρ := rowT a) (t := t) (won := w) ht (by omega)
              rw [g2] at ec
              rw [ec, eBv, e_get (by omega), eBn]
        · refine ⟨-6, M, M, ?_, ?_, hM⟩
          · unfold fX10_review
            simp only [x02, m51, m52]
            refine sBn ((c_team h).1 q0) (sF (by decide) (sBn ((c_within (by decide) (by decide)).1 q1) (sF (by decide) ?_)))
            rw [c_roomO h.2.2.1.1 h.bd, eBn]
            by_cases q3 : rowT a 26 < 40
            · rw [if_pos q3]
              refine sF (by decide) (sBn (s_canAsk kd12 h.2.2.1.1 h.bd ht) ?_)
              have : caR t (rowT a) = 0 := by
                rcases caR_le t (rowT a) with e | e
                · exact e
                · exact absurd ⟨q3, e⟩ q2
              rw [this]
              exact sT (by decide) rfl
            · rw [if_neg q3]
              exact sT (by decide) rfl
          · unfold fX11_review
            refine sBn ((m_team h).1 q0) (sF (by decide) (sBn ((m_within (by decide) (by decide)).1 q1) (sF (by decide) ?_)))
            rw [q_canReview h.tm h.bd ht, eBn, if_neg q2]
            exact sT (by decide) rfl
      · refine ⟨-2, M, M, ?_, ?_, hM⟩
        · unfold fX10_review
          exact sBn ((c_team h).1 q0) (sF (by decide) (sBn ((c_within (by decide) (by decide)).2 q1) (sT (by decide) rfl)))
        · unfold fX11_review
          exact sBn ((m_team h).1 q0) (sF (by decide) (sBn ((m_within (by decide) (by decide)).2 q1) (sT (by decide) rfl)))
    · refine ⟨-2, M, M, ?_, ?_, hM⟩
      · unfold fX10_review
        exact sBn ((c_team h).2 q0) (sT (by decide) rfl)
      · unfold fX11_review
        exact sBn ((m_team h).2 q0) (sT (by decide) rfl)
  · refine ⟨-2, M, M, ?_, ?_, hM⟩
    · unfold fX10_review
      exact sBn (c_noteam h) (sT (by decide) rfl)
    · unfold fX11_review
      exact sBn (m_noteam h) (sT (by decide) rfl)
