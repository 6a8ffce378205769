/-! ===== raid, would ===== -/
theorem P2.nm {ρ : Nat → Nat} {x y z v : Int32} (h : P2 ρ x y z v) (hR : RW ρ) : ∃ r s st b, NM ρ r s st b ∧ x = nI r ∧ y = nI s ∧ z = nI st ∧ v = nI b := by
  obtain ⟨r, s, st, b, a1, a2, a3, a4, a5, a6, a7, a8⟩ := h.un hR
  exact ⟨r, s, st, b, ⟨a1, a2, a3, a4, a5, a6, a7⟩, a8⟩
theorem TQ.fi {P : Nat → Prop} {M M' : xMem} {a : xTl} {ρ : Nat → Nat} (h : TQ M a ρ) (hF : Fi P M M') (hP : ∀ c, P c → 126 ≤ c ∧ c < 146) : TQ M' a ρ := by
  obtain ⟨h1, h2, h3, h4, h5, h6⟩ := h
  exact ⟨h1, h2.keep (fun c u v => hF.1 c (fun q => by have := hP c q; omega)) (by rw [hF.2]), h3.keep (fun c u v => hF.1 c (fun q => by have := hP c q; omega)) (by rw [hF.2]), h4, ⟨by rw [hF.2]; exact h5.1, by rw [hF.2]; exact h5.2⟩, h6⟩
theorem KC.fi {P : Nat → Prop} {M M' : xMem} {a : xTl} {hs : List xTl} {tp : List Nat} {fk fp : Int32} {ou : List Nat} (h : KC M a hs tp fk fp ou) (hF : Fi P M M') (hP : ∀ c, P c → 126 ≤ c ∧ c < 146) : KC M' a hs tp fk fp ou :=
  h.keep (fun c hc => hF.1 c (fun q => by have := hP c q; omega)) (fun c _ => by rw [hF.2]) (by rw [hF.2])
theorem KM.fi {P : Nat → Prop} {M M' : xMem} {a : xTl} {hs : List xTl} {tp : List Nat} {fk fp : Int32} {ou : List Nat} (h : KM M a hs tp fk fp ou) (hF : Fi P M M') (hP : ∀ c, P c → 126 ≤ c ∧ c < 146) : KM M' a hs tp fk fp ou :=
  h.fc (Fc.ofFi hF (fun c q => (hP c q).2))
theorem rdOk.of {M M' : xMem} {r s b tk : Nat} {tl : List Nat} (h : rdOk M r s b tk tl) (e9 : M'.1 149 = M.1 149) (e : ∀ j, j < 10 → M'.1 146 j = M.1 146 j) : rdOk M' r s b tk tl := by
  obtain ⟨m4, m5, m6, m9, ⟨u1, u2, u3, u4⟩, w⟩ := h
  exact ⟨by rw [e 4 (by decide)]; exact m4, by rw [e 5 (by decide)]; exact m5, by rw [e 6 (by decide)]; exact m6, fun q => by rw [e 9 (by decide)]; exact m9 q, ⟨u1, by rw [e 8 (by decide)]; exact u2, by rw [e9]; exact u3, u4⟩, w⟩
theorem q_own {M : xMem} {ρ : Nat → Nat} {r s b tk : Nat} {tl : List Nat} (hT : RT ρ) (hm : rdMay ρ r s tk tl) (hr : r < 10) (h25 : ρ 25 < 200) (h : TM M (raidsR r s b tk tl ρ)) : fX11_get 146 (nI 25) M = some (nI (ρ 25 + 1), M) ∧ fX11_rec 146 (nI (ρ 25)) (nI 3) M = some (nI (ownR r s b tk tl ρ), M) ∧ fX11_rec 146 (nI (ρ 25)) (nI 4) M = some (nI (othR r s b tk tl ρ), M) := by
  refine ⟨?_, ?_, ?_⟩
  · rw [q_get h (by decide), raids_25]
  · rw [q_rec h h25 (by decide), rq_new hT hm hr (by decide)]
    rfl
  · rw [q_rec h h25 (by decide), rq_new hT hm hr (by decide)]
    rfl
theorem RT.q9 {ρ : Nat → Nat} (hT : RT ρ) {t : Nat} (ht : t < 2) : ρ (108 + t) < 10 := by
  have := (hT.2 t ht).q7' (l := []) List.nodup_nil (fun x hx => absurd hx (by simp))
  simp at this
  omega
theorem TM.of_nw {M : xMem} {ρ : Nat → Nat} : TM (nwS M ρ) ρ := nwS_at M ρ
theorem s_raid {x y z v : Int32} : STEP (fX10_raid 0 x y z v) (fX11_raid 146 x y z v) := by
  intro M hM
  obtain ⟨a, hs, tp, fk, fp, ou, hC, hR⟩ := id hM
  rcases hC.1.q hR.1 hR.2.1 with ⟨ha, h⟩ | ⟨hn, h⟩
  · by_cases q2 : P2 (rowT a) x y z v
    · obtain ⟨r, s, st, b, hN, rfl, rfl, rfl, rfl⟩ := q2.nm h.rw
      by_cases q6 : P6 (rowT a) r s st b
      · obtain ⟨hok, hl7, hx10⟩ := q6.ok h.2.2.2.1.1.1 hN.1 hN.2.1 hN.2.2.1 hN.2.2.2.1 hN.2.2.2.2.1
        obtain ⟨M0, p1, p2, p3⟩ := (c_plan h hN).2 q6
        have hP : ∀ c, (c = 144 ∨ c = 145) → 126 ≤ c ∧ c < 146 := fun c q => by omega
        have hl : okL (.inl (r, s, b, tkS s st, tlS s st)) (rowT a) := ⟨hok, q6.1, fun e => by unfold tkS; rw [if_pos e]; exact hN.2.2.2.2.1 e⟩
        obtain ⟨M1, f1, m1, r1, e1, o1, c2, kk⟩ := act_top (hC.fi p2 hP) (hR.fi p2 hP) (h.fi p2 hP).2.2.1 ha hl
        have hq := (h.fi p2 hP).mq.fc c2
        obtain ⟨M2, g1, g2, g3⟩ := (m_lays hq hN).2 q6
        obtain ⟨Mk, k1, k2, k3, k4, k5⟩ := kk M2 g2
        have hT := h.2.2.2.1.1.1
        have hT28 := hT.1.1
        refine ⟨nI (ownR r s b (tkS s st) (tlS s st) (rowT a)), M1, _, ?_, ?_, k5⟩
        · unfold fX10_raid
          rw [x02, m51, x07]
          refine sBn p1 (sT (by decide) (sBn (s_pack kd144 p3) (sBv f1 ?_)))
          rw [o1 _ _ _ _ _ rfl]
        · unfold fX11_raid
          refine sBn hq.there (sF (by decide) (sBn g1 (sT (by decide) (sBv k1 ?_))))
          have ec := e_raids (M := Mk) (ρ := rowT a) h.rw (g3.of (k3 149 (by decide)) (fun j hj => k4 j (by omega))) q6.1 (by have := hok.1.len hT; omega) (hT.q9 hT28) (h.bd.2.2.2.2 _ hT28).1
          rw [k2] at ec
          rw [ec, eBv]
          obtain ⟨u1, u2, u3⟩ := q_own (b := b) hT hok.1 hok.2.1 q6.1 (TM.of_nw (M := Mk) (ρ := raidsR r s b (tkS s st) (tlS s st) (rowT a)))
          rw [u1, eBn, eSub (by omega), Nat.add_sub_cancel, u2, eBn]
          rfl
      · obtain ⟨M0, p1, p2⟩ := (c_plan h hN).1 q6
        have hP : ∀ c, (c = 144 ∨ c = 145) → 126 ≤ c ∧ c < 146 := fun c q => by omega
        refine ⟨-6, M0, M0, ?_, ?_, a, hs, tp, fk, fp, ou, hC.fi p2 hP, hR.fi p2 hP⟩
        · unfold fX10_raid
          exact sBn p1 (sF (by decide) rfl)
        · unfold fX11_raid
          have h' := h.fi p2 hP
          exact sBn h'.there (sF (by decide) (sBn ((m_lays h'.mq hN).1 q6) (sF (by decide) rfl)))
    · refine ⟨-2, M, M, ?_, ?_, hM⟩
      · unfold fX10_raid
        exact sBn (c_plan_no h q2) (sF (by decide) rfl)
      · unfold fX11_raid
        exact sBn h.there (sF (by decide) (sBn (m_lays_no h.mq q2) (sF (by decide) rfl)))
  · refine ⟨-2, M, M, ?_, ?_, hM⟩
    · unfold fX10_raid
      refine sBn (a := -2) (M := M) ?_ (sF (by decide) rfl)
      unfold fX10_planRaid
      rw [x02]
      exact sBn (c_untold h) (sT (by decide) rfl)
    · unfold fX11_raid
      exact sBn (m_nothere h) (sT (by decide) rfl)
/-! the row aside -/
def Fa (M M' : xMem) : Prop := (∀ c, c ≠ 146 → c ≠ 149 → M'.1 c = M.1 c) ∧ (∀ j, ¬ scr j → M'.1 146 j = M.1 146 j) ∧ (∀ c, c ≠ 148 → M'.2.1 c = M.2.1 c) ∧ M'.2.2.2 = M.2.2.2
theorem Fa.trans {M M1 M2 : xMem} (h1 : Fa M M1) (h2 : Fa M1 M2) : Fa M M2 := ⟨fun c a b => (h2.1 c a b).trans (h1.1 c a b), fun j a => (h2.2.1 j a).trans (h1.2.1 j a), fun c a => (h2.2.2.1 c a).trans (h1.2.2.1 c a), h2.2.2.2.trans h1.2.2.2⟩
theorem Fs.fa {M M' : xMem} (h : Fs M M') : Fa M M' := ⟨h.1, h.2.1, fun c _ => by rw [h.2.2], by rw [h.2.2]⟩
theorem Fa.w (M : xMem) (b : Bool) : Fa M (xwW M b) := ⟨fun _ _ _ => rfl, fun _ _ => rfl, fun _ _ => rfl, rfl⟩
theorem Fa.q (M : xMem) (f : Nat → Int64) : Fa M (xwQ M 148 f) := ⟨fun _ _ _ => rfl, fun _ _ => rfl, fun _ h => xwQ_ne h, rfl⟩
theorem Fa.fd {M M' : xMem} (h : Fa M M') : FdM M M' := ⟨fun c hc => h.1 c (by omega) (by omega), fun c hc => h.2.2.1 c (by omega), h.2.2.2⟩
theorem KM.fa {M M' : xMem} {a : xTl} {hs : List xTl} {tp : List Nat} {fk fp : Int32} {ou : List Nat} {β : Nat → Nat} (h : KM M a hs tp fk fp ou) (hF : Fa M M') (e : M'.2.2.1 = false) (hb : M'.2.1 148 = lf β) (hf : ∀ j, 3235 ≤ j → β j = 0) : KM M' a hs tp fk fp ou := by
  obtain ⟨r1, r2, -, r4, r7, r8, r9, r10⟩ := h
  have n : ∀ j, (j = 11 ∨ j = 17 ∨ j = 18 ∨ j = 19 ∨ j = 22) → M'.1 146 j = M.1 146 j := fun j hj => hF.2.1 j (fun z => by unfold scr at z; omega)
  unfold KM
  rw [e, hF.2.2.1 147 (by decide), hF.2.2.1 151 (by decide), hF.1 150 (by decide) (by decide), hF.1 152 (by decide) (by decide), n 11 (by omega), n 17 (by omega), n 18 (by omega), n 19 (by omega), n 22 (by omega)]
  exact ⟨rfl, r2, ⟨β, hb, hf⟩, r4, r7, r8, r9, r10⟩
theorem e_copies {M : xMem} {ρ α : Nat → Nat} (h147 : M.2.1 147 = lf ρ) (h148 : M.2.1 148 = lf α) (hρ : ∀ j, 3235 ≤ j → ρ j = 0) (hα : ∀ j, 3235 ≤ j → α j = 0) : fX11_copies 146 M = some (xwW (xwQ M 148 (lf ρ)) true) := by
  have E := e_copies_l2 (M := M) (ρ := ρ) (α := α) h147 (fun (v5 : Int32) (M6 : xMem) => xLt (xwW M6 true) fun M7 => some M7)
  rw [← xwQ_of h148] at E
  unfold fX11_copies
  rw [E, eLt]
  have e3 : (fun j => if j < 3235 then ρ j else α j) = ρ := by
    funext j
    by_cases q : j < 3235
    · rw [if_pos q]
    · rw [if_neg q, hρ j (by omega), hα j (by omega)]
  rw [e3]
theorem x06 : xrf 0 6 = 132 := by decide +kernel
theorem kd132' : xkd 132 = 8 := by decide +kernel
theorem x1320 : xrf 132 0 = 133 := by decide +kernel
theorem l133 : xln 133 = 2 := by decide +kernel
theorem MQm.far {M : xMem} {a : xTl} {hs : List xTl} {tp : List Nat} {fk fp : Int32} {ou : List Nat} (h : KM M a hs tp fk fp ou) (ha : tdOK a) : ∃ α, M.2.1 148 = lf α ∧ (∀ j, 3235 ≤ j → α j = 0) ∧ ∀ j, 3235 ≤ j → rowT a j = 0 := by
  obtain ⟨-, -, ⟨α, r3, r3'⟩, -⟩ := h
  exact ⟨α, r3, r3', fun j hj => by rw [← rowX_td ha]; exact rowX_far (Or.inl ha) hj⟩
theorem s_would {x y z v u : Int32} : STEP (fX10_would 0 x y z v u) (fX11_would 146 x y z v u) := by
  intro M hM
  obtain ⟨a, hs, tp, fk, fp, ou, hC, hR⟩ := id hM
  rcases hC.1.q hR.1 hR.2.1 with ⟨ha, h⟩ | ⟨hn, h⟩
  · by_cases q1 : wnQ u 0 3
    · by_cases q2 : P2 (rowT a) x y z v
      · obtain ⟨r, s, st, b, hN, rfl, rfl, rfl, rfl⟩ := q2.nm h.rw
        by_cases q6 : P6 (rowT a) r s st b
        · obtain ⟨hok, hl7, hx10⟩ := q6.ok h.2.2.2.1.1.1 hN.1 hN.2.1 hN.2.2.1 hN.2.2.2.1 hN.2.2.2.2.1
          obtain ⟨M0, p1, p2, p3⟩ := (c_plan h hN).2 q6
          obtain ⟨w, -, hw, rfl⟩ := id q1
          have hP : ∀ c, (c = 144 ∨ c = 145) → 126 ≤ c ∧ c < 146 := fun c q => by omega
          have hP2 : ∀ c, stC 132 c → 126 ≤ c ∧ c < 146 := fun c q => by unfold stC at q; omega
          have h0 := h.fi p2 hP
          have hT := h.2.2.2.1.1.1
          have hT28 := hT.1.1
          obtain ⟨Mc, f2, s2, F2⟩ := s_copyFrom kd132' kd12 (by decide) h0.2.2.1.1 h.rw h.bd
          have p3' : PlR Mc 144 r s b (tkS s st) (tlS s st) := p3.1.keep (fun c hc => F2.1 c (fun q => by unfold stC at q; omega))
          obtain ⟨M1, f3, s3, F3, o5, o6, -, -⟩ := s_play kd132' kd144 s2 p3' hT hok.1 hok.2.2.2.2.2.2.2 (h.bd.2.2.2.2 _ hT28).1
          have h1 := (h0.fi F2 hP2).fi F3 hP2
          have hC1 := ((hC.fi p2 hP).fi F2 hP2).fi F3 hP2
          have hR1 := ((hR.fi p2 hP).fi F2 hP2).fi F3 hP2
          have hRW' : RW (raidsR r s b (tkS s st) (tlS s st) (rowT a)) := (rtR hT hok.1).1
          obtain ⟨M2, g1, g2, g3⟩ := (m_lays h1.mq hN).2 q6
          have hq2 := g2.mq h1.mq
          obtain ⟨α, a1, a2, a3⟩ := MQm.far (hR1.fs g2) ha
          have ecp := e_copies hq2.1.2 a1 a3 a2
          generalize hM3 : xwW (xwQ M2 148 (lf (rowT a))) true = M3 at ecp
          have t3 : TM M3 (rowT a) := by rw [← hM3]; exact xwQ_at M2 148 (lf (rowT a))
          have r3 : rdOk M3 r s b (tkS s st) (tlS s st) := by rw [← hM3]; exact g3
          have fa3 : Fa M1 M3 := by rw [← hM3]; exact g2.fa.trans ((Fa.q _ _).trans (Fa.w _ _))
          have n3 : xnw M3 = 148 := by rw [← hM3]; rfl
          have ec := e_raids (M := M3) (ρ := rowT a) h.rw r3 q6.1 (by have := hok.1.len hT; omega) (hT.q9 hT28) (h.bd.2.2.2.2 _ hT28).1
          rw [t3.nw] at ec
          generalize hσ : raidsR r s b (tkS s st) (tlS s st) (rowT a) = σ at *
          have t4 : TM (nwS M3 σ) σ := TM.of_nw
          have u := q_own (b := b) (M := nwS M3 σ) hT hok.1 hok.2.1 q6.1 (by rw [hσ]; exact t4)
          obtain ⟨u1, u2, u3⟩ := u
          have fa4 : Fa M1 (xwW (nwS M3 σ) false) := by
            refine fa3.trans (Fa.trans (M1 := nwS M3 σ) ?_ (Fa.w _ _))
            unfold nwS
            rw [n3]
            exact Fa.q _ _
          have far : ∀ j, 3235 ≤ j → σ j = 0 := fun j hj => by
            rw [← hσ]
            have hl : okL (.inl (r, s, b, tkS s st, tlS s st)) (rowT a) := ⟨hok, q6.1, fun e => by unfold tkS; rw [if_pos e]; exact hN.2.2.2.2.1 e⟩
            have := app_far h.2.2.2.1 hl hj
            rw [a3 j hj] at this
            exact this
          have e148 : (xwW (nwS M3 σ) false).2.1 148 = lf σ := by
            show (nwS M3 σ).2.1 148 = _
            rw [← n3]
            exact nwS_at M3 σ
          refine ⟨if w = 0 then nI (ownR r s b (tkS s st) (tlS s st) (rowT a)) else if w = 1 then nI (othR r s b (tkS s st) (tlS s st) (rowT a)) else if w = 2 then nI (pcn (mOn (rowT a 28) σ)) else nI (pcn (mOn (1 - rowT a 28) σ)), M1, xwW (nwS M3 σ) false, ?_, ?_, a, hs, tp, fk, fp, ou, hC1.fd fa4.fd, hR1.fa fa4 rfl e148 far⟩
          · unfold fX10_would
            rw [x02, m51, x06, x07, x1320, l133]
            refine sBn ((c_within (by decide) (by decide)).1 q1) (sF (by decide) (sBn p1 (sT (by decide) (sLe h0.2.2.1.1.1 (sBv f2 (sBv f3 ?_))))))
            have x133 : ∀ t, t < 2 → xrf 133 (Int32.toNatClampNeg (nI t)) = 132 + 2 + 5 * t := fun t ht => by
              rw [eCl (by omega)]
              exact (st_rf kd132').2.2.1 t ht
            rw [o5, o6]
            rcases (show w = 0 ∨ w = 1 ∨ w = 2 ∨ w = 3 by omega) with rfl | rfl | rfl | rfl
            · exact sT rfl rfl
            · exact sF (by decide) (sT rfl rfl)
            · refine sF (by decide) (sF (by decide) (sT rfl (sGb (rowT a 28) rfl hT28 (by decide) ?_)))
              rw [x133 _ hT28]
              exact sBn (s_countOf ((st_rf kd132').2.2.2 _ hT28) (s3.2.2.2.2 _ hT28).1 hT28 hRW' (by decide)) rfl
            · refine sF (by decide) (sF (by decide) (sF (by decide) (sGb (1 - rowT a 28) (eSub (by omega)) (by omega) (by decide) ?_)))
              rw [eSub (by omega), x133 _ (by omega)]
              exact sBn (s_countOf ((st_rf kd132').2.2.2 _ (by omega)) (s3.2.2.2.2 _ (by omega)).1 (by omega) hRW' (by decide)) rfl
          · unfold fX11_would
            refine sBn h1.there (sF (by decide) (sBn ((m_within (by decide) (by decide)).1 q1) (sF (by decide) (sBn g1 (sT (by decide) ?_)))))
            rw [q_get hq2.tm (by decide), eBn, ecp, eBv, ec, eBv, u1, eBn, eSub (by omega), Nat.add_sub_cancel]
            refine sLt ?_
            rcases (show w = 0 ∨ w = 1 ∨ w = 2 ∨ w = 3 by omega) with rfl | rfl | rfl | rfl
            · refine sLt (sF (by decide) ?_)
              rw [nI_add, u2, eBn]
              rfl
            · refine sLt (sF (by decide) ?_)
              rw [nI_add, u3, eBn]
              rfl
            · refine sLt (sT (by decide) (sLt (sT rfl ?_)))
              have hmo := mOn_lt (ρ := σ) (t := rowT a 28) (hRW'.m hT28)
              refine sBn (q_thoseOf t4 hRW' hT28 (by decide)) (sBn (e_bits hmo) rfl)
            · refine sLt (sT (by decide) (sLt (sF (by decide) ?_)))
              have hmo := mOn_lt (ρ := σ) (t := 1 - rowT a 28) (hRW'.m (by omega))
              rw [eSub (by omega)]
              refine sBn (q_thoseOf t4 hRW' (by omega) (by decide)) (sBn (e_bits hmo) rfl)
        · obtain ⟨M0, p1, p2⟩ := (c_plan h hN).1 q6
          have hP : ∀ c, (c = 144 ∨ c = 145) → 126 ≤ c ∧ c < 146 := fun c q => by omega
          refine ⟨-6, M0, M0, ?_, ?_, a, hs, tp, fk, fp, ou, hC.fi p2 hP, hR.fi p2 hP⟩
          · unfold fX10_would
            exact sBn ((c_within (by decide) (by decide)).1 q1) (sF (by decide) (sBn p1 (sF (by decide) rfl)))
          · unfold fX11_would
            have h' := h.fi p2 hP
            exact sBn h'.there (sF (by decide) (sBn ((m_within (by decide) (by decide)).1 q1) (sF (by decide) (sBn ((m_lays h'.mq hN).1 q6) (sF (by decide) rfl)))))
      · refine ⟨-2, M, M, ?_, ?_, hM⟩
        · unfold fX10_would
          exact sBn ((c_within (by decide) (by decide)).1 q1) (sF (by decide) (sBn (c_plan_no h q2) (sF (by decide) rfl)))
        · unfold fX11_would
          exact sBn h.there (sF (by decide) (sBn ((m_within (by decide) (by decide)).1 q1) (sF (by decide) (sBn (m_lays_no h.mq q2) (sF (by decide) rfl)))))
    · refine ⟨-2, M, M, ?_, ?_, hM⟩
      · unfold fX10_would
        exact sBn ((c_within (by decide) (by decide)).2 q1) (sT (by decide) rfl)
      · unfold fX11_would
        exact sBn h.there (sF (by decide) (sBn ((m_within (by decide) (by decide)).2 q1) (sT (by decide) rfl)))
  · refine ⟨-2, M, M, ?_, ?_, hM⟩
    · unfold fX10_would
      by_cases q1 : wnQ u 0 3
      · refine sBn ((c_within (by decide) (by decide)).1 q1) (sF (by decide) (sBn (a := -2) (M := M) ?_ (sF (by decide) rfl)))
        unfold fX10_planRaid
        rw [x02]
        exact sBn (c_untold h) (sT (by decide) rfl)
      · exact sBn ((c_within (by decide) (by decide)).2 q1) (sT (by decide) rfl)
    · unfold fX11_would
      exact sBn (m_nothere h) (sT (by decide) rfl)
