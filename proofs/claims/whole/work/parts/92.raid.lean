/-! ===== a raid is laid: the class's plan, the model's ===== -/
theorem x07 : xrf 0 7 = 144 := by decide +kernel
section
variable {M : xMem} {a : xTl} {ρ : Nat → Nat}
theorem wm_le (s : Nat) : wm s ≤ 1 := by unfold wm; split <;> omega
theorem wm_j {α β : Type} {s : Nat} (hs : s ≤ 4) {J : Int32 → xMem → Option β} : (if nI s = nI 1 then J (nI 1) M else (if nI s = nI 3 then J (nI 1) M else J (nI 0) M)) = J (nI (wm s)) M := by
  rcases (show s = 0 ∨ s = 1 ∨ s = 2 ∨ s = 3 ∨ s = 4 by omega) with rfl | rfl | rfl | rfl | rfl <;> rfl
theorem wm_jm {β : Type} {s : Nat} (hs : s ≤ 4) {J : Int64 → xMem → Option β} : (xLt (fun  (M55 : xMem) => (J (lN 1) M55 : Option β)) fun J50 => if nI s = (nI 1) then (J50  M) else (if nI s = (nI 3) then (J50  M) else (J (lN 0) M))) = J (lN (wm s)) M := by
  rcases (show s = 0 ∨ s = 1 ∨ s = 2 ∨ s = 3 ∨ s = 4 by omega) with rfl | rfl | rfl | rfl | rfl <;> rfl
theorem c_setAsTold (h : TQ M a ρ) {s : Nat} (hs : s ≤ 4) {z : Int32} : (stQ ρ s z → fX10_isSetAsTold 0 (nI s) z M = some (nI 1, M)) ∧ (¬ stQ ρ s z → fX10_isSetAsTold 0 (nI s) z M = some (nI 0, M)) := by
  have h28 := h.rw.1
  obtain ⟨e, h7, h10⟩ := h.sz (t := 1 - ρ 28) (by omega)
  have hp : 2 ^ ρ (1 + (1 - ρ 28)) ≤ 2 ^ 10 := Nat.pow_le_pow_right (by decide) h10
  have hp0 : 0 < 2 ^ ρ (1 + (1 - ρ 28)) := Nat.pow_pos (by decide)
  have hpe : (2 : Nat) ^ 10 = 1024 := by decide
  unfold fX10_isSetAsTold stQ
  rw [x02, m50, m60, m51, h.2.2.1.1.1, eSub (by omega), x_ros (by omega), eBn, e]
  by_cases s1 : s = 1
  · subst s1
    simp only [if_true]
    rw [e_shl1 _ (by omega), eSub (by omega)]
    exact ⟨fun q => sBn ((c_within (by decide) (by omega)).1 q) (sGd (Or.inr (by decide)) rfl), fun q => sBn ((c_within (by decide) (by omega)).2 q) (sGd (Or.inl (by decide)) rfl)⟩
  · have n1 : ¬ nI s = nI 1 := by rw [eEq (by omega) (by decide)]; exact s1
    simp only [s1, n1, if_false]
    by_cases s3 : s = 3
    · subst s3
      simp only [if_true]
      rw [eSub (by omega)]
      exact ⟨fun q => sBn ((c_within (by decide) (by omega)).1 q) (sGd (Or.inr (by decide)) rfl), fun q => sBn ((c_within (by decide) (by omega)).2 q) (sGd (Or.inl (by decide)) rfl)⟩
    · have n3 : ¬ nI s = nI 3 := by rw [eEq (by omega) (by decide)]; exact s3
      simp only [s3, n3, if_false]
      exact ⟨fun q => sT q rfl, fun q => sF q rfl⟩
theorem c_plan_no (h : TQ M a ρ) {x y z v : Int32} (hn : ¬ P2 ρ x y z v) : fX10_planRaid 0 x y z v M = some (-2, M) := by
  unfold fX10_planRaid
  simp only [x02, m51]
  refine sBn (c_told h) (sF (by decide) ?_)
  rw [h.2.2.1.1.1]
  by_cases p1 : plQ ρ (nI (ρ 28)) x
  · refine sBn ((c_one h).1 p1) (sF (by decide) ?_)
    by_cases p2 : wnQ y 0 4
    · refine sBn ((c_within (by decide) (by decide)).1 p2) (sF (by decide) ?_)
      obtain ⟨s, -, hs, rfl⟩ := p2
      have hw := wm_le s
      refine sJw (nI (wm s)) M (fun J => wm_j (α := Unit) hs) ?_
      by_cases p3 : stQ ρ s z
      · exact sBn ((c_setAsTold h hs).1 p3) (sF (by decide) (sBn ((c_within (by decide) (by omega)).2 (fun q => hn ⟨p1, s, hs, rfl, p3, q⟩)) (sT (by decide) rfl)))
      · exact sBn ((c_setAsTold h hs).2 p3) (sT (by decide) rfl)
    · exact sBn ((c_within (by decide) (by decide)).2 p2) (sT (by decide) rfl)
  · exact sBn ((c_one h).2 p1) (sT (by decide) rfl)
theorem c_roomR (h : TQ M a ρ) : fX2_hasRoomForRaid 5 M = some (nI (if ρ 25 < 200 then 1 else 0), M) := by
  have hn := h.n25
  unfold fX2_hasRoomForRaid
  rw [m52, h.hs.1]
  by_cases q : ρ 25 < 200
  · exact sF (by rw [eLe (by omega) (by omega)]; omega) (by rw [if_pos q])
  · exact sT (by rw [eLe (by omega) (by omega)]; omega) (by rw [if_neg q])
/-- the numbers of a raid as told -/
def NM (ρ : Nat → Nat) (r s st b : Nat) : Prop := r < ρ (1 + ρ 28) ∧ s ≤ 4 ∧ b ≤ wm s ∧ (s = 1 → 1 ≤ st ∧ st < 2 ^ ρ (1 + (1 - ρ 28))) ∧ (s = 3 → st < ρ (1 + (1 - ρ 28))) ∧ (s ≠ 1 → s ≠ 3 → st = 0) ∧ st < 1024
theorem NM.st {r s st b : Nat} (h : NM ρ r s st b) : stQ ρ s (nI st) := by
  unfold stQ
  by_cases s1 : s = 1
  · rw [if_pos s1]
    have := h.2.2.2.1 s1
    exact ⟨st, this.1, by omega, rfl⟩
  · rw [if_neg s1]
    by_cases s3 : s = 3
    · rw [if_pos s3]
      have := h.2.2.2.2.1 s3
      exact ⟨st, by omega, by omega, rfl⟩
    · rw [if_neg s3, h.2.2.2.2.2.1 s1 s3]
      decide
set_option maxHeartbeats 20000000 in
theorem c_plan (h : TQ M a ρ) {r s st b : Nat} (hn : NM ρ r s st b) :
    (¬ P6 ρ r s st b → ∃ M', fX10_planRaid 0 (nI r) (nI s) (nI st) (nI b) M = some (-6, M') ∧ Fi (fun c => c = 144 ∨ c = 145) M M') ∧
    (P6 ρ r s st b → ∃ M', fX10_planRaid 0 (nI r) (nI s) (nI st) (nI b) M = some (nI 0, M') ∧ Fi (fun c => c = 144 ∨ c = 145) M M' ∧ PlF M' 144 r s b (tkS s st) (tlS s st)) := by
  have h28 := h.rw.1
  have hT : RT ρ := h.2.2.2.1.1.1
  obtain ⟨n1, n2, n3, n4, n5, n6, n7⟩ := id hn
  have hw := wm_le s
  have hm10 := h.rw.m (t := 1 - ρ 28) (by omega)
  have hm10' := h.rw.m (t := ρ 28) (by omega)
  have hmo := mOn_lt (ρ := ρ) (t := 1 - ρ 28) hm10
  have p1 : plQ ρ (nI (ρ 28)) (nI r) := ⟨ρ 28, r, h28, n1, rfl, rfl⟩
  have p2 : wnQ (nI s) 0 4 := ⟨s, by omega, n2, rfl⟩
  have p4 : wnQ (nI b) 0 (wm s) := ⟨b, by omega, n3, rfl⟩
  obtain ⟨M1, f1, a0, a1, a2, a3, a4, F1⟩ := s_plBegin (M := M) (p := 144) (r := nI r) (s := nI s)
  generalize hM2 : xwI M1 144 3 (nI b) = M2
  have g0 : M2.1 144 0 = nI r := by rw [← hM2, xwI_ne (by omega)]; exact a0
  have g1 : M2.1 144 1 = nI s := by rw [← hM2, xwI_ne (by omega)]; exact a1
  have g2 : M2.1 144 2 = nI 0 := by rw [← hM2, xwI_ne (by omega)]; exact a2
  have g3 : M2.1 144 3 = nI b := by rw [← hM2, xwI_at]
  have g4 : M2.1 144 4 = nI 0 := by rw [← hM2, xwI_ne (by omega)]; exact a4
  have F2 : Fi (fun c => c = 144 ∨ c = 145) M M2 := by rw [← hM2]; exact F1.wI (Or.inl rfl)
  obtain ⟨M3, f3, k4, k5, F3, k6⟩ := s_touchAll (M := M2) (v := st) kd144 n7 g4
  have F3' := F2.trans F3
  have F4 : Fi (fun c => c = 144 ∨ c = 145) M (xwI M2 144 2 (nI st)) := F2.wI (Or.inl rfl)
  constructor
  · intro hP
    by_cases q1 : ρ 25 < 200
    · by_cases q2 : ovR ρ = 0 ∧ ρ (48 + 10 * ρ 28 + r) = 0
      · by_cases q3 : (s = 2 ∨ b = 1) → boR ρ = 1
        · by_cases s1 : s = 1
          · have q4 : ¬ nI st &&& (nI (mOn (1 - ρ 28) ρ) ^^^ (-1)) = 0 := fun z => hP ⟨q1, q2.1, q2.2, q3, fun _ => z, fun e => by omega⟩
            refine ⟨M3, ?_, F3'⟩
            unfold fX10_planRaid
            simp only [x02, m51, x07]
            refine sBn (c_told h) (sF (by decide) ?_)
            rw [h.2.2.1.1.1]
            refine sBn ((c_one h).1 p1) (sF (by decide) (sBn ((c_within (by decide) (by decide)).1 p2) (sF (by decide) ?_)))
            refine sJw (nI (wm s)) M (fun J => wm_j (α := Unit) hn.2.1) (sBn ((c_setAsTold h hn.2.1).1 hn.st) (sF (by decide) (sBn ((c_within (by decide) (by omega)).1 p4) (sF (by decide) ?_))))
            rw [c_roomR h, eBn]
            rw [iN1 q1]
            refine sF (by decide) ?_
            rw [s_canSend kd12 h.2.2.1.1 h.rw h.bd hn.1, eBn]
            rw [iN1 q2]
            refine sF (by decide) (sJx M (fun J => ?_) ?_)
            · refine sLt ?_
              by_cases s2 : s = 2
              · refine sT (by rw [s2]) (sBn (s_isBonusOpen kd12 h.2.2.1.1 h.rw) ?_)
                rw [q3 (Or.inl s2)]
                exact sF (by decide) rfl
              · refine sF (by rw [eEq (by omega) (by decide)]; exact s2) ?_
                by_cases b1 : b = 1
                · refine sT (by rw [b1]) (sBn (s_isBonusOpen kd12 h.2.2.1.1 h.rw) ?_)
                  rw [q3 (Or.inr b1)]
                  exact sF (by decide) rfl
                · exact sF (by rw [eEq (by omega) (by decide)]; exact b1) rfl
            refine sBn (s_away kd12 h.2.2.1.1.1 h28) (sBn (s_maskOf ((st_rf kd12).2.2.2 _ (by omega)) (h.sd (t := 1 - ρ 28) (by omega)) (by omega) h.rw (by decide)) (sBv f1 (sLt ?_)))
            rw [hM2]
            refine sT (by rw [s1]) (sBv f3 (sF q4 rfl))
          · have s3 : s = 3 := by
              by_cases e : s = 3
              · exact e
              · exact absurd ⟨q1, q2.1, q2.2, q3, fun z => absurd z s1, fun z => absurd z e⟩ hP
            have q4 : ¬ ρ (48 + 10 * (1 - ρ 28) + st) = 0 := fun z => hP ⟨q1, q2.1, q2.2, q3, fun e => absurd e s1, fun _ => z⟩
            refine ⟨xwI M2 144 2 (nI st), ?_, F4⟩
            unfold fX10_planRaid
            simp only [x02, m51, x07]
            refine sBn (c_told h) (sF (by decide) ?_)
            rw [h.2.2.1.1.1]
            refine sBn ((c_one h).1 p1) (sF (by decide) (sBn ((c_within (by decide) (by decide)).1 p2) (sF (by decide) ?_)))
            refine sJw (nI (wm s)) M (fun J => wm_j (α := Unit) hn.2.1) (sBn ((c_setAsTold h hn.2.1).1 hn.st) (sF (by decide) (sBn ((c_within (by decide) (by omega)).1 p4) (sF (by decide) ?_))))
            rw [c_roomR h, eBn]
            rw [iN1 q1]
            refine sF (by decide) ?_
            rw [s_canSend kd12 h.2.2.1.1 h.rw h.bd hn.1, eBn]
            rw [iN1 q2]
            refine sF (by decide) (sJx M (fun J => ?_) ?_)
            · refine sLt ?_
              by_cases s2 : s = 2
              · refine sT (by rw [s2]) (sBn (s_isBonusOpen kd12 h.2.2.1.1 h.rw) ?_)
                rw [q3 (Or.inl s2)]
                exact sF (by decide) rfl
              · refine sF (by rw [eEq (by omega) (by decide)]; exact s2) ?_
                by_cases b1 : b = 1
                · refine sT (by rw [b1]) (sBn (s_isBonusOpen kd12 h.2.2.1.1 h.rw) ?_)
                  rw [q3 (Or.inr b1)]
                  exact sF (by decide) rfl
                · exact sF (by rw [eEq (by omega) (by decide)]; exact b1) rfl
            refine sBn (s_away kd12 h.2.2.1.1.1 h28) (sBn (s_maskOf ((st_rf kd12).2.2.2 _ (by omega)) (h.sd (t := 1 - ρ 28) (by omega)) (by omega) h.rw (by decide)) (sBv f1 (sLt ?_)))
            rw [hM2]
            refine sF (by rw [eEq (by omega) (by decide)]; exact s1) (sLt (sT (by rw [s3]) (sT ?_ rfl)))
            have h5 := n5 s3
            show (nI (mOn (1 - ρ 28) ρ) >>> (nI st &&& 31)) &&& nI 1 = 0
            rw [e_bitI (by omega) (by omega)]
            unfold mOn
            rw [mkP_bit, if_neg (fun z => q4 (by simpa using z.2))]
            decide
        · refine ⟨M, ?_, Fi.refl _ M⟩
          have hbo : boR ρ = 0 := by
            rcases boR_le ρ with e | e
            · exact e
            · exact absurd (fun _ => e) q3
          unfold fX10_planRaid
          simp only [x02, m51, x07]
          refine sBn (c_told h) (sF (by decide) ?_)
          rw [h.2.2.1.1.1]
          refine sBn ((c_one h).1 p1) (sF (by decide) (sBn ((c_within (by decide) (by decide)).1 p2) (sF (by decide) ?_)))
          refine sJw (nI (wm s)) M (fun J => wm_j (α := Unit) hn.2.1) (sBn ((c_setAsTold h hn.2.1).1 hn.st) (sF (by decide) (sBn ((c_within (by decide) (by omega)).1 p4) (sF (by decide) ?_))))
          rw [c_roomR h, eBn]
          rw [iN1 q1]
          refine sF (by decide) ?_
          rw [s_canSend kd12 h.2.2.1.1 h.rw h.bd hn.1, eBn]
          rw [iN1 q2]
          refine sF (by decide) (sLt (sLt ?_))
          by_cases s2 : s = 2
          · refine sT (by rw [s2]) (sBn (s_isBonusOpen kd12 h.2.2.1.1 h.rw) ?_)
            rw [hbo]
            exact sT (by decide) rfl
          · refine sF (by rw [eEq (by omega) (by decide)]; exact s2) ?_
            by_cases b1 : b = 1
            · refine sT (by rw [b1]) (sBn (s_isBonusOpen kd12 h.2.2.1.1 h.rw) ?_)
              rw [hbo]
              exact sT (by decide) rfl
            · exact absurd (fun z => by omega) q3
      · refine ⟨M, ?_, Fi.refl _ M⟩
        unfold fX10_planRaid
        simp only [x02, m51, x07]
        refine sBn (c_told h) (sF (by decide) ?_)
        rw [h.2.2.1.1.1]
        refine sBn ((c_one h).1 p1) (sF (by decide) (sBn ((c_within (by decide) (by decide)).1 p2) (sF (by decide) ?_)))
        refine sJw (nI (wm s)) M (fun J => wm_j (α := Unit) hn.2.1) (sBn ((c_setAsTold h hn.2.1).1 hn.st) (sF (by decide) (sBn ((c_within (by decide) (by omega)).1 p4) (sF (by decide) ?_))))
        rw [c_roomR h, eBn]
        rw [iN1 q1]
        refine sF (by decide) ?_
        rw [s_canSend kd12 h.2.2.1.1 h.rw h.bd hn.1, eBn]
        rw [iN0 q2]
        exact sT (by decide) rfl
    · refine ⟨M, ?_, Fi.refl _ M⟩
      unfold fX10_planRaid
      simp only [x02, m51, x07]
      refine sBn (c_told h) (sF (by decide) ?_)
      rw [h.2.2.1.1.1]
      refine sBn ((c_one h).1 p1) (sF (by decide) (sBn ((c_within (by decide) (by decide)).1 p2) (sF (by decide) ?_)))
      refine sJw (nI (wm s)) M (fun J => wm_j (α := Unit) hn.2.1) (sBn ((c_setAsTold h hn.2.1).1 hn.st) (sF (by decide) (sBn ((c_within (by decide) (by omega)).1 p4) (sF (by decide) ?_))))
      rw [c_roomR h, eBn]
      rw [iN0 q1]
      exact sT (by decide) rfl
  · intro hP
    obtain ⟨⟨hmay, o1, o2, o3, o4, o5, o6, o7⟩, hl7, hx10⟩ := hP.ok hT n1 n2 n3 n4 n5
    obtain ⟨q1, q2a, q2b, q3, q5, q6⟩ := id hP
    have q2 : ovR ρ = 0 ∧ ρ (48 + 10 * ρ 28 + r) = 0 := ⟨q2a, q2b⟩
    by_cases s1 : s = 1
    · have etl : tlS s st = blP (btP st) 10 := by unfold tlS; rw [if_pos s1]
      have etk : tkS s st = 0 := by unfold tkS; rw [if_neg (by omega)]
      rw [etl] at hl7
      rw [List.take_of_length_le hl7] at k4 k5
      refine ⟨M3, ?_, F3', ⟨by rw [k6 0 (by decide)]; exact g0, by rw [k6 1 (by decide)]; exact g1, fun e => by omega, by rw [k6 3 (by decide)]; exact g3, by rw [etl]; exact k4, by rw [etl]; exact k5, o6, o1, o2, o3, o4⟩, by rw [k6 2 (by decide), etk]; exact g2, by rw [etl]; exact hl7, hx10⟩
      unfold fX10_planRaid
      simp only [x02, m51, x07]
      refine sBn (c_told h) (sF (by decide) ?_)
      rw [h.2.2.1.1.1]
      refine sBn ((c_one h).1 p1) (sF (by decide) (sBn ((c_within (by decide) (by decide)).1 p2) (sF (by decide) ?_)))
      refine sJw (nI (wm s)) M (fun J => wm_j (α := Unit) hn.2.1) (sBn ((c_setAsTold h hn.2.1).1 hn.st) (sF (by decide) (sBn ((c_within (by decide) (by omega)).1 p4) (sF (by decide) ?_))))
      rw [c_roomR h, eBn]
      rw [iN1 q1]
      refine sF (by decide) ?_
      rw [s_canSend kd12 h.2.2.1.1 h.rw h.bd hn.1, eBn]
      rw [iN1 q2]
      refine sF (by decide) (sJx M (fun J => ?_) ?_)
      · refine sLt ?_
        by_cases s2 : s = 2
        · refine sT (by rw [s2]) (sBn (s_isBonusOpen kd12 h.2.2.1.1 h.rw) ?_)
          rw [q3 (Or.inl s2)]
          exact sF (by decide) rfl
        · refine sF (by rw [eEq (by omega) (by decide)]; exact s2) ?_
          by_cases b1 : b = 1
          · refine sT (by rw [b1]) (sBn (s_isBonusOpen kd12 h.2.2.1.1 h.rw) ?_)
            rw [q3 (Or.inr b1)]
            exact sF (by decide) rfl
          · exact sF (by rw [eEq (by omega) (by decide)]; exact b1) rfl
      refine sBn (s_away kd12 h.2.2.1.1.1 h28) (sBn (s_maskOf ((st_rf kd12).2.2.2 _ (by omega)) (h.sd (t := 1 - ρ 28) (by omega)) (by omega) h.rw (by decide)) (sBv f1 (sLt ?_)))
      rw [hM2]
      exact sT (by rw [s1]) (sBv f3 (sT (q5 s1) rfl))
    · have etl : tlS s st = [] := o6 s1
      have etk : nI st = nI (tkS s st) := by
        unfold tkS
        by_cases s3 : s = 3
        · rw [if_pos s3]
        · rw [if_neg s3, n6 s1 s3]
      refine ⟨xwI M2 144 2 (nI st), ?_, F4, ⟨by rw [xwI_ne (by omega)]; exact g0, by rw [xwI_ne (by omega)]; exact g1, fun e => by rw [xwI_at]; exact etk, by rw [xwI_ne (by omega)]; exact g3, by rw [etl, xwI_ne (by omega)]; exact g4, fun j y e => by rw [etl] at e; simp at e, o6, o1, o2, o3, o4⟩, by rw [xwI_at]; exact etk, by rw [etl]; decide, hx10⟩
      unfold fX10_planRaid
      simp only [x02, m51, x07]
      refine sBn (c_told h) (sF (by decide) ?_)
      rw [h.2.2.1.1.1]
      refine sBn ((c_one h).1 p1) (sF (by decide) (sBn ((c_within (by decide) (by decide)).1 p2) (sF (by decide) ?_)))
      refine sJw (nI (wm s)) M (fun J => wm_j (α := Unit) hn.2.1) (sBn ((c_setAsTold h hn.2.1).1 hn.st) (sF (by decide) (sBn ((c_within (by decide) (by omega)).1 p4) (sF (by decide) ?_))))
      rw [c_roomR h, eBn]
      rw [iN1 q1]
      refine sF (by decide) ?_
      rw [s_canSend kd12 h.2.2.1.1 h.rw h.bd hn.1, eBn]
      rw [iN1 q2]
      refine sF (by decide) (sJx M (fun J => ?_) ?_)
      · refine sLt ?_
        by_cases s2 : s = 2
        · refine sT (by rw [s2]) (sBn (s_isBonusOpen kd12 h.2.2.1.1 h.rw) ?_)
          rw [q3 (Or.inl s2)]
          exact sF (by decide) rfl
        · refine sF (by rw [eEq (by omega) (by decide)]; exact s2) ?_
          by_cases b1 : b = 1
          · refine sT (by rw [b1]) (sBn (s_isBonusOpen kd12 h.2.2.1.1 h.rw) ?_)
            rw [q3 (Or.inr b1)]
            exact sF (by decide) rfl
          · exact sF (by rw [eEq (by omega) (by decide)]; exact b1) rfl
      refine sBn (s_away kd12 h.2.2.1.1.1 h28) (sBn (s_maskOf ((st_rf kd12).2.2.2 _ (by omega)) (h.sd (t := 1 - ρ 28) (by omega)) (by omega) h.rw (by decide)) (sBv f1 (sLt ?_)))
      rw [hM2]
      refine sF (by rw [eEq (by omega) (by decide)]; exact s1) (sLt ?_)
      by_cases s3 : s = 3
      · refine sT (by rw [s3]) (sF ?_ rfl)
        have h5 := n5 s3
        show ¬ (nI (mOn (1 - ρ 28) ρ) >>> (nI st &&& 31)) &&& nI 1 = 0
        rw [e_bitI (by omega) (by omega)]
        unfold mOn
        rw [mkP_bit, if_pos ⟨h5, by rw [q6 s3]; rfl⟩]
        decide
      · exact sF (by rw [eEq (by omega) (by decide)]; exact s3) rfl
end
theorem bo1 {ρ : Nat → Nat} (h : boR ρ = 1) : 6 ≤ pcn (mOn (1 - ρ 28) ρ) := ite_1 h
theorem m_lays_no {M : xMem} {ρ : Nat → Nat} (h : MQm M ρ) {x y z v : Int32} (hn : ¬ P2 ρ x y z v) : fX11_laysRaid 146 x y z v M = some (-2, M) := by
  have h28 := h.rw.1
  have h10 := h.rw.m (t := 1 - ρ 28) (by omega)
  have hp : 2 ^ ρ (1 + (1 - ρ 28)) ≤ 2 ^ 10 := Nat.pow_le_pow_right (by decide) h10
  have hp0 : 0 < 2 ^ ρ (1 + (1 - ρ 28)) := Nat.pow_pos (by decide)
  have hpe : (2 : Nat) ^ 10 = 1024 := by decide
  unfold fX11_laysRaid
  refine sBn (q_get h.tm (by decide)) (sLe (eSub (a := 1) (b := ρ 28) (by omega)) ?_)
  by_cases p1 : plQ ρ (nI (ρ 28)) x
  · refine sBn ((mq_one h).1 p1) (sF (by decide) ?_)
    by_cases p2 : wnQ y 0 4
    · refine sBn ((m_within (by decide) (by decide)).1 p2) (sF (by decide) ?_)
      obtain ⟨s, -, hs, rfl⟩ := p2
      have hw := wm_le s
      refine sJw (lN (wm s)) M (fun J => wm_jm hs) ?_
      by_cases p4 : wnQ v 0 (wm s)
      · refine sBn ((m_within (by decide) (by omega)).1 p4) (sF (by decide) (sLt ?_))
        have p3 : ¬ stQ ρ s z := fun q => hn ⟨p1, s, hs, rfl, q, p4⟩
        unfold stQ at p3
        by_cases s1 : s = 1
        · rw [if_pos s1] at p3
          refine sT (by rw [s1]) (sBn (q_many h.tm (by omega)) ?_)
          rw [e_shl1 _ (by omega), eSub (by omega), eI2L (n := 2 ^ ρ (1 + (1 - ρ 28)) - 1) (by omega)]
          exact sBn ((m_within (by decide) (by omega)).2 p3) (sT (by decide) rfl)
        · rw [if_neg s1] at p3
          refine sF (by rw [eEq (by omega) (by decide)]; exact s1) ?_
          by_cases s3 : s = 3
          · rw [if_pos s3] at p3
            refine sT (by rw [s3]) (sBn ((mq_one h).2 ?_) (sT (by decide) rfl))
            rintro ⟨t, i, ht, hi, e1, e2⟩
            have et : 1 - ρ 28 = t := (nI_eq (by omega) (by omega)).1 e1
            rw [← et] at hi
            exact p3 ⟨i, by omega, by omega, e2⟩
          · rw [if_neg s3] at p3
            exact sF (by rw [eEq (by omega) (by decide)]; exact s3) (sF p3 rfl)
      · exact sBn ((m_within (by decide) (by omega)).2 p4) (sT (by decide) rfl)
    · exact sBn ((m_within (by decide) (by decide)).2 p2) (sT (by decide) rfl)
  · exact sBn ((mq_one h).2 p1) (sT (by decide) rfl)
theorem x1467 : xrf 146 7 = 149 := by decide +kernel
theorem l149 : xln 149 = 10 := by decide +kernel
set_option maxHeartbeats 20000000 in
theorem m_lays {M : xMem} {ρ : Nat → Nat} (h : MQm M ρ) {r s st b : Nat} (hn : NM ρ r s st b) :
    (¬ P6 ρ r s st b → fX11_laysRaid 146 (nI r) (nI s) (nI st) (nI b) M = some (-6, M)) ∧
    (P6 ρ r s st b → ∃ M', fX11_laysRaid 146 (nI r) (nI s) (nI st) (nI b) M = some (nI 0, M') ∧ Fs M M' ∧ rdOk M' r s b (tkS s st) (tlS s st)) := by
  have h28 := h.rw.1
  have hT : RT ρ := h.2.2.1.1.1
  obtain ⟨n1, n2, n3, n4, n5, n6, n7⟩ := id hn
  have hw := wm_le s
  have hm10 := h.rw.m (t := 1 - ρ 28) (by omega)
  have hm7 := (h.2.2.2 (1 - ρ 28) (by omega)).1
  have hm10' := h.rw.m (t := ρ 28) (by omega)
  have hmo := mOn_lt (ρ := ρ) (t := 1 - ρ 28) hm10
  have hpc := pcn_le _ hmo
  have hp : 2 ^ ρ (1 + (1 - ρ 28)) ≤ 2 ^ 10 := Nat.pow_le_pow_right (by decide) hm10
  have hp0 : 0 < 2 ^ ρ (1 + (1 - ρ 28)) := Nat.pow_pos (by decide)
  have hpe : (2 : Nat) ^ 10 = 1024 := by decide
  have h25 := h.bd.1
  have p1 : plQ ρ (nI (ρ 28)) (nI r) := ⟨ρ 28, r, h28, n1, rfl, rfl⟩
  have p2 : wnQ (nI s) 0 4 := ⟨s, by omega, n2, rfl⟩
  have p4 : wnQ (nI b) 0 (wm s) := ⟨b, by omega, n3, rfl⟩
  have hst := ((h.rw.2 _ h28).2.1 r (by omega)).1
  constructor
  · intro hP
    rcases ovR_le ρ with q0 | q0
    · by_cases q1 : ρ 25 < 200
      · by_cases q2 : ρ (48 + 10 * ρ 28 + r) = 0
        · by_cases q3 : (s = 2 ∨ b = 1) → boR ρ = 1
          · by_cases q5 : s = 1 → nI st &&& (nI (mOn (1 - ρ 28) ρ) ^^^ (-1)) = 0
            · have s3 : s = 3 := by
                by_cases e : s = 3
                · exact e
                · exact absurd ⟨q1, q0, q2, q3, q5, fun z => absurd z e⟩ hP
              have q6 : ¬ ρ (48 + 10 * (1 - ρ 28) + st) = 0 := fun z => hP ⟨q1, q0, q2, q3, q5, fun _ => z⟩
              have h5 := n5 s3
              have hst2 := ((h.rw.2 _ (show 1 - ρ 28 < 2 by omega)).2.1 st (by omega)).1
              unfold fX11_laysRaid
              refine sBn (q_get h.tm (by decide)) (sLe (eSub (a := 1) (b := ρ 28) (by omega)) ?_)
              refine sBn ((mq_one h).1 p1) (sF (by decide) (sBn ((m_within (by decide) (by decide)).1 p2) (sF (by decide) ?_)))
              refine sJw (lN (wm s)) M (fun J => wm_jm hn.2.1) (sBn ((m_within (by decide) (by omega)).1 p4) (sF (by decide) ?_))
              refine sJx M (fun J => ?_) ?_
              · by_cases s1 : s = 1
                · obtain ⟨u1, u2⟩ := n4 s1
                  refine sT (by rw [s1]) (sBn (q_many h.tm (by omega)) ?_)
                  rw [e_shl1 _ (by omega), eSub (by omega), eI2L (n := 2 ^ ρ (1 + (1 - ρ 28)) - 1) (by omega)]
                  exact sBn ((m_within (by decide) (by omega)).1 ⟨st, u1, by omega, rfl⟩) (sF (by decide) rfl)
                · refine sF (by rw [eEq (by omega) (by decide)]; exact s1) ?_
                  by_cases s3 : s = 3
                  · exact sT (by rw [s3]) (sBn ((mq_one h).1 ⟨1 - ρ 28, st, by omega, n5 s3, rfl, rfl⟩) (sF (by decide) rfl))
                  · exact sF (by rw [eEq (by omega) (by decide)]; exact s3) (sT (by rw [n6 s1 s3]; decide) rfl)
              refine sBn (q_isOver h.tm h.bd.2.2.1) ?_
              rw [q0]
              refine sT (by decide) (sGb 25 rfl (by rw [xlnw]; decide) (by rw [xlnw]; decide) ?_)
              rw [h.tm, eCl (by decide), lf_at]
              refine sF (by rw [eCmp0, eLE (by omega) (by decide)]; omega) (sBn (q_isOf h.tm h28 (by omega)) ?_)
              refine sT (by rw [q2]; decide) (sJx M (fun J => ?_) ?_)
              · refine sLt ?_
                by_cases b1 : b = 1
                · refine sT (by rw [b1]) (sBn (q_standing h.tm h.rw) (sT ?_ rfl))
                  rw [eLe (by decide) (by omega)]
                  exact bo1 (q3 (Or.inr b1))
                · refine sF (by rw [eEq (by omega) (by decide)]; exact b1) ?_
                  by_cases s2 : s = 2
                  · refine sT (by rw [s2]) (sBn (q_standing h.tm h.rw) (sT ?_ rfl))
                    rw [eLe (by decide) (by omega)]
                    exact bo1 (q3 (Or.inl s2))
                  · exact sF (by rw [eEq (by omega) (by decide)]; exact s2) rfl
              refine sJx M (fun J => ?_) ?_
              · by_cases s1 : s = 1
                · refine sT (by rw [s1]) (sBn (q_thoseOf h.tm h.rw (by omega) (by decide)) (sT (q5 s1) rfl))
                · exact sF (by rw [eEq (by omega) (by decide)]; exact s1) rfl
              exact sLt (sT (by rw [s3]) (sBn (q_isOf h.tm (by omega) (by omega)) (sF (eN0 (by omega) q6) rfl)))
            · have s1 : s = 1 := by
                by_cases e : s = 1
                · exact e
                · exact absurd (fun z => absurd z e) q5
              unfold fX11_laysRaid
              refine sBn (q_get h.tm (by decide)) (sLe (eSub (a := 1) (b := ρ 28) (by omega)) ?_)
              refine sBn ((mq_one h).1 p1) (sF (by decide) (sBn ((m_within (by decide) (by decide)).1 p2) (sF (by decide) ?_)))
              refine sJw (lN (wm s)) M (fun J => wm_jm hn.2.1) (sBn ((m_within (by decide) (by omega)).1 p4) (sF (by decide) ?_))
              refine sJx M (fun J => ?_) ?_
              · by_cases s1 : s = 1
                · obtain ⟨u1, u2⟩ := n4 s1
                  refine sT (by rw [s1]) (sBn (q_many h.tm (by omega)) ?_)
                  rw [e_shl1 _ (by omega), eSub (by omega), eI2L (n := 2 ^ ρ (1 + (1 - ρ 28)) - 1) (by omega)]
                  exact sBn ((m_within (by decide) (by omega)).1 ⟨st, u1, by omega, rfl⟩) (sF (by decide) rfl)
                · refine sF (by rw [eEq (by omega) (by decide)]; exact s1) ?_
                  by_cases s3 : s = 3
                  · exact sT (by rw [s3]) (sBn ((mq_one h).1 ⟨1 - ρ 28, st, by omega, n5 s3, rfl, rfl⟩) (sF (by decide) rfl))
                  · exact sF (by rw [eEq (by omega) (by decide)]; exact s3) (sT (by rw [n6 s1 s3]; decide) rfl)
              refine sBn (q_isOver h.tm h.bd.2.2.1) ?_
              rw [q0]
              refine sT (by decide) (sGb 25 rfl (by rw [xlnw]; decide) (by rw [xlnw]; decide) ?_)
              rw [h.tm, eCl (by decide), lf_at]
              refine sF (by rw [eCmp0, eLE (by omega) (by decide)]; omega) (sBn (q_isOf h.tm h28 (by omega)) ?_)
              refine sT (by rw [q2]; decide) (sJx M (fun J => ?_) ?_)
              · refine sLt ?_
                by_cases b1 : b = 1
                · refine sT (by rw [b1]) (sBn (q_standing h.tm h.rw) (sT ?_ rfl))
                  rw [eLe (by decide) (by omega)]
                  exact bo1 (q3 (Or.inr b1))
                · refine sF (by rw [eEq (by omega) (by decide)]; exact b1) ?_
                  by_cases s2 : s = 2
                  · refine sT (by rw [s2]) (sBn (q_standing h.tm h.rw) (sT ?_ rfl))
                    rw [eLe (by decide) (by omega)]
                    exact bo1 (q3 (Or.inl s2))
                  · exact sF (by rw [eEq (by omega) (by decide)]; exact s2) rfl
              exact sLt (sT (by rw [s1]) (sBn (q_thoseOf h.tm h.rw (by omega) (by decide)) (sF (fun z => q5 (fun _ => z)) rfl)))
          · have hbo : ¬ 6 ≤ pcn (mOn (1 - ρ 28) ρ) := fun z => q3 (fun _ => by unfold boR; rw [if_pos z])
            unfold fX11_laysRaid
            refine sBn (q_get h.tm (by decide)) (sLe (eSub (a := 1) (b := ρ 28) (by omega)) ?_)
            refine sBn ((mq_one h).1 p1) (sF (by decide) (sBn ((m_within (by decide) (by decide)).1 p2) (sF (by decide) ?_)))
            refine sJw (lN (wm s)) M (fun J => wm_jm hn.2.1) (sBn ((m_within (by decide) (by omega)).1 p4) (sF (by decide) ?_))
            refine sJx M (fun J => ?_) ?_
            · by_cases s1 : s = 1
              · obtain ⟨u1, u2⟩ := n4 s1
                refine sT (by rw [s1]) (sBn (q_many h.tm (by omega)) ?_)
                rw [e_shl1 _ (by omega), eSub (by omega), eI2L (n := 2 ^ ρ (1 + (1 - ρ 28)) - 1) (by omega)]
                exact sBn ((m_within (by decide) (by omega)).1 ⟨st, u1, by omega, rfl⟩) (sF (by decide) rfl)
              · refine sF (by rw [eEq (by omega) (by decide)]; exact s1) ?_
                by_cases s3 : s = 3
                · exact sT (by rw [s3]) (sBn ((mq_one h).1 ⟨1 - ρ 28, st, by omega, n5 s3, rfl, rfl⟩) (sF (by decide) rfl))
                · exact sF (by rw [eEq (by omega) (by decide)]; exact s3) (sT (by rw [n6 s1 s3]; decide) rfl)
            refine sBn (q_isOver h.tm h.bd.2.2.1) ?_
            rw [q0]
            refine sT (by decide) (sGb 25 rfl (by rw [xlnw]; decide) (by rw [xlnw]; decide) ?_)
            rw [h.tm, eCl (by decide), lf_at]
            refine sF (by rw [eCmp0, eLE (by omega) (by decide)]; omega) (sBn (q_isOf h.tm h28 (by omega)) ?_)
            refine sT (by rw [q2]; decide) (sLt (sLt ?_))
            by_cases b1 : b = 1
            · exact sT (by rw [b1]) (sBn (q_standing h.tm h.rw) (sF (by rw [eLe (by decide) (by omega)]; exact hbo) rfl))
            · refine sF (by rw [eEq (by omega) (by decide)]; exact b1) ?_
              by_cases s2 : s = 2
              · exact sT (by rw [s2]) (sBn (q_standing h.tm h.rw) (sF (by rw [eLe (by decide) (by omega)]; exact hbo) rfl))
              · exact absurd (fun z => by omega) q3
        · skip
          unfold fX11_laysRaid
          refine sBn (q_get h.tm (by decide)) (sLe (eSub (a := 1) (b := ρ 28) (by omega)) ?_)
          refine sBn ((mq_one h).1 p1) (sF (by decide) (sBn ((m_within (by decide) (by decide)).1 p2) (sF (by decide) ?_)))
          refine sJw (lN (wm s)) M (fun J => wm_jm hn.2.1) (sBn ((m_within (by decide) (by omega)).1 p4) (sF (by decide) ?_))
          refine sJx M (fun J => ?_) ?_
          · by_cases s1 : s = 1
            · obtain ⟨u1, u2⟩ := n4 s1
              refine sT (by rw [s1]) (sBn (q_many h.tm (by omega)) ?_)
              rw [e_shl1 _ (by omega), eSub (by omega), eI2L (n := 2 ^ ρ (1 + (1 - ρ 28)) - 1) (by omega)]
              exact sBn ((m_within (by decide) (by omega)).1 ⟨st, u1, by omega, rfl⟩) (sF (by decide) rfl)
            · refine sF (by rw [eEq (by omega) (by decide)]; exact s1) ?_
              by_cases s3 : s = 3
              · exact sT (by rw [s3]) (sBn ((mq_one h).1 ⟨1 - ρ 28, st, by omega, n5 s3, rfl, rfl⟩) (sF (by decide) rfl))
              · exact sF (by rw [eEq (by omega) (by decide)]; exact s3) (sT (by rw [n6 s1 s3]; decide) rfl)
          refine sBn (q_isOver h.tm h.bd.2.2.1) ?_
          rw [q0]
          refine sT (by decide) (sGb 25 rfl (by rw [xlnw]; decide) (by rw [xlnw]; decide) ?_)
          rw [h.tm, eCl (by decide), lf_at]
          refine sF (by rw [eCmp0, eLE (by omega) (by decide)]; omega) (sBn (q_isOf h.tm h28 (by omega)) ?_)
          exact sF (eN0 (by omega) q2) rfl
      · skip
        unfold fX11_laysRaid
        refine sBn (q_get h.tm (by decide)) (sLe (eSub (a := 1) (b := ρ 28) (by omega)) ?_)
        refine sBn ((mq_one h).1 p1) (sF (by decide) (sBn ((m_within (by decide) (by decide)).1 p2) (sF (by decide) ?_)))
        refine sJw (lN (wm s)) M (fun J => wm_jm hn.2.1) (sBn ((m_within (by decide) (by omega)).1 p4) (sF (by decide) ?_))
        refine sJx M (fun J => ?_) ?_
        · by_cases s1 : s = 1
          · obtain ⟨u1, u2⟩ := n4 s1
            refine sT (by rw [s1]) (sBn (q_many h.tm (by omega)) ?_)
            rw [e_shl1 _ (by omega), eSub (by omega), eI2L (n := 2 ^ ρ (1 + (1 - ρ 28)) - 1) (by omega)]
            exact sBn ((m_within (by decide) (by omega)).1 ⟨st, u1, by omega, rfl⟩) (sF (by decide) rfl)
          · refine sF (by rw [eEq (by omega) (by decide)]; exact s1) ?_
            by_cases s3 : s = 3
            · exact sT (by rw [s3]) (sBn ((mq_one h).1 ⟨1 - ρ 28, st, by omega, n5 s3, rfl, rfl⟩) (sF (by decide) rfl))
            · exact sF (by rw [eEq (by omega) (by decide)]; exact s3) (sT (by rw [n6 s1 s3]; decide) rfl)
        refine sBn (q_isOver h.tm h.bd.2.2.1) ?_
        rw [q0]
        refine sT (by decide) (sGb 25 rfl (by rw [xlnw]; decide) (by rw [xlnw]; decide) ?_)
        rw [h.tm, eCl (by decide), lf_at]
        exact sT (by rw [eCmp0, eLE (by omega) (by decide)]; omega) rfl
    · skip
      unfold fX11_laysRaid
      refine sBn (q_get h.tm (by decide)) (sLe (eSub (a := 1) (b := ρ 28) (by omega)) ?_)
      refine sBn ((mq_one h).1 p1) (sF (by decide) (sBn ((m_within (by decide) (by decide)).1 p2) (sF (by decide) ?_)))
      refine sJw (lN (wm s)) M (fun J => wm_jm hn.2.1) (sBn ((m_within (by decide) (by omega)).1 p4) (sF (by decide) ?_))
      refine sJx M (fun J => ?_) ?_
      · by_cases s1 : s = 1
        · obtain ⟨u1, u2⟩ := n4 s1
          refine sT (by rw [s1]) (sBn (q_many h.tm (by omega)) ?_)
          rw [e_shl1 _ (by omega), eSub (by omega), eI2L (n := 2 ^ ρ (1 + (1 - ρ 28)) - 1) (by omega)]
          exact sBn ((m_within (by decide) (by omega)).1 ⟨st, u1, by omega, rfl⟩) (sF (by decide) rfl)
        · refine sF (by rw [eEq (by omega) (by decide)]; exact s1) ?_
          by_cases s3 : s = 3
          · exact sT (by rw [s3]) (sBn ((mq_one h).1 ⟨1 - ρ 28, st, by omega, n5 s3, rfl, rfl⟩) (sF (by decide) rfl))
          · exact sF (by rw [eEq (by omega) (by decide)]; exact s3) (sT (by rw [n6 s1 s3]; decide) rfl)
      refine sBn (q_isOver h.tm h.bd.2.2.1) ?_
      rw [q0]
      exact sF (by decide) rfl
  · intro hP
    obtain ⟨⟨hmay, o1, o2, o3, o4, o5, o6, o7⟩, hl7, hx10⟩ := hP.ok hT n1 n2 n3 n4 n5
    obtain ⟨q1, q0, q2, q3, q5, q6⟩ := id hP
    generalize hA : xwI (xwI M 146 4 (nI r)) 146 5 (nI s) = MA
    generalize hB : xwI MA 146 6 (nI b) = MB
    generalize hC : xwI (xwI MB 146 9 (if s = 3 then nI st else -1)) 146 8 (nI 0) = MC
    have FC : Fs M MC := by
      rw [← hC, ← hB, ← hA]
      exact ((((Fs.wI (by unfold scr; omega)).trans (Fs.wI (by unfold scr; omega))).trans (Fs.wI (by unfold scr; omega))).trans (Fs.wI (by unfold scr; omega))).trans (Fs.wI (by unfold scr; omega))
    have c4 : MC.1 146 4 = nI r := by rw [← hC, ← hB, ← hA, xwI_ne (by omega), xwI_ne (by omega), xwI_ne (by omega), xwI_ne (by omega), xwI_at]
    have c5 : MC.1 146 5 = nI s := by rw [← hC, ← hB, ← hA, xwI_ne (by omega), xwI_ne (by omega), xwI_ne (by omega), xwI_at]
    have c6 : MC.1 146 6 = nI b := by rw [← hC, ← hB, xwI_ne (by omega), xwI_ne (by omega), xwI_at]
    have c9 : MC.1 146 9 = if s = 3 then nI st else -1 := by rw [← hC, xwI_ne (by omega), xwI_at]
    have c8 : MC.1 146 8 = nI 0 := by rw [← hC, xwI_at]
    have hQ : MQm MC ρ := FC.mq h
    have loop : ∃ M', fX11_laysRaid_l255 146 (nI r) (nI s) (nI st) (nI b) (nI (ρ 28)) (nI (1 - ρ 28)) (fun (v40 : Int32) (M41 : xMem) => some ((nI 0), M41)) xFU (nI 0) MC = some (nI 0, M') ∧ Fs M M' ∧ rdOk M' r s b (tkS s st) (tlS s st) := by
      by_cases s1 : s = 1
      · subst s1
        have etl : tlS 1 st = blP (btP st) (ρ (1 + (1 - ρ 28))) := by
          unfold tlS
          rw [if_pos rfl]
          exact blP_up hm10 (fun i u _ => btP_lt (n4 rfl).2 u)
        obtain ⟨M', n, ⟨i1, i2, i3, i4⟩, e⟩ := loopE (fun n k M => fX11_laysRaid_l255 146 (nI r) (nI 1) (nI st) (nI b) (nI (ρ 28)) (nI (1 - ρ 28)) (fun (v40 : Int32) (M41 : xMem) => some ((nI 0), M41)) n (nI k) M) (fun k M' => M'.1 146 8 = nI (blP (btP st) k).length ∧ (∀ j (y : Nat), (blP (btP st) k)[j]? = some y → M'.1 149 j = nI y) ∧ Fs MC M' ∧ ∀ j, j ≠ 8 → M'.1 146 j = MC.1 146 j) (ρ (1 + (1 - ρ 28))) (M := MC) (by omega) ⟨c8, fun j y h => by simp [blP] at h, Fs.refl _, fun _ _ => rfl⟩ (fun n k M1 hk hI => by
          obtain ⟨i1, i2, i3, i4⟩ := hI
          have hQ1 : MQm M1 ρ := i3.mq hQ
          have hlen := blP_len (btP st) k
          simp only [fX11_laysRaid_l255.eq_2]
          rw [q_many hQ1.tm (by omega), eBn, m_has n7 (by omega), x1467, l149]
          by_cases q : st / 2 ^ k % 2 = 1
          · have hb : btP st k = true := by unfold btP; rw [q]; rfl
            rw [blP_succ, if_pos hb]
            refine ⟨xwI (xwI M1 149 (blP (btP st) k).length (nI k)) 146 8 (nI ((blP (btP st) k).length + 1)), ?_, ?_, ?_, ?_, ?_⟩
            · refine sF (by rw [eLe (by omega) (by omega)]; omega) (sT trivial (sBn rfl ?_))
              rw [q]
              refine sF (by decide) ?_
              rw [i1]
              refine sGb _ rfl (by omega) (by decide) ?_
              rw [eCl (by omega)]
              refine sLt ?_
              rw [xwI_c (by decide), i1]
              refine sLe (by rw [nI_add]) (sLe (nI_1 k) rfl)
            · rw [xwI_at, List.length_append]; rfl
            · intro j y hj
              rw [xwI_c (by decide)]
              by_cases z : j = (blP (btP st) k).length
              · subst z
                rw [xwI_at]
                rw [List.getElem?_append_right (Nat.le_refl _)] at hj
                simp at hj
                rw [hj]
              · rw [xwI_ne (Or.inr z)]
                have hlt : j < (blP (btP st) k).length := by
                  have := (List.getElem?_eq_some_iff.mp hj).1
                  rw [List.length_append] at this
                  simp only [List.length_cons, List.length_nil] at this
                  omega
                rw [List.getElem?_append_left hlt] at hj
                exact i2 j y hj
            · exact (i3.trans Fs.w9).trans (Fs.wI (by unfold scr; omega))
            · intro j hj
              rw [xwI_ne (Or.inr hj), xwI_c (by decide)]
              exact i4 j hj
          · have hb : ¬ btP st k = true := by unfold btP; simpa using q
            have q0' : st / 2 ^ k % 2 = 0 := by omega
            rw [blP_succ, if_neg hb, List.append_nil]
            refine ⟨M1, ?_, i1, i2, i3, i4⟩
            refine sF (by rw [eLe (by omega) (by omega)]; omega) (sT trivial (sBn rfl ?_))
            rw [q0']
            exact sT (by decide) (sLe (nI_1 k) rfl))
        have hQ1 : MQm M' ρ := i3.mq hQ
        refine ⟨M', ?_, FC.trans i3, by rw [i4 4 (by decide)]; exact c4, by rw [i4 5 (by decide)]; exact c5, by rw [i4 6 (by decide)]; exact c6, fun e => by omega, ⟨by omega, by rw [etl]; exact i1, by rw [etl]; exact i2, hx10⟩, o1, o2, o3, o4⟩
        refine e.trans ?_
        simp only [fX11_laysRaid_l255.eq_2]
        rw [q_many hQ1.tm (by omega), eBn]
        exact sT (by rw [eLe (by omega) (by omega)]; exact Nat.le_refl _) rfl
      · refine ⟨MC, ?_, FC, c4, c5, c6, fun e => ?_, ⟨by omega, ?_, ?_, hx10⟩, o1, o2, o3, o4⟩
        · rw [show xFU = 39999 + 1 from rfl, fX11_laysRaid_l255.eq_2, q_many hQ.tm (by omega), eBn]
          exact sF (by rw [eLe (by omega) (by omega)]; omega) (sF (by rw [eEq (by omega) (by decide)]; exact s1) rfl)
        · rw [c9, if_pos e]; unfold tkS; rw [if_pos e]
        · rw [o6 s1]; exact c8
        · intro j y e; rw [o6 s1] at e; simp at e
    obtain ⟨M', l1, l2, l3⟩ := loop
    refine ⟨M', ?_, l2, l3⟩
    unfold fX11_laysRaid
    refine sBn (q_get h.tm (by decide)) (sLe (eSub (a := 1) (b := ρ 28) (by omega)) ?_)
    refine sBn ((mq_one h).1 p1) (sF (by decide) (sBn ((m_within (by decide) (by decide)).1 p2) (sF (by decide) ?_)))
    refine sJw (lN (wm s)) M (fun J => wm_jm hn.2.1) (sBn ((m_within (by decide) (by omega)).1 p4) (sF (by decide) ?_))
    refine sJx M (fun J => ?_) ?_
    · by_cases s1 : s = 1
      · obtain ⟨u1, u2⟩ := n4 s1
        refine sT (by rw [s1]) (sBn (q_many h.tm (by omega)) ?_)
        rw [e_shl1 _ (by omega), eSub (by omega), eI2L (n := 2 ^ ρ (1 + (1 - ρ 28)) - 1) (by omega)]
        exact sBn ((m_within (by decide) (by omega)).1 ⟨st, u1, by omega, rfl⟩) (sF (by decide) rfl)
      · refine sF (by rw [eEq (by omega) (by decide)]; exact s1) ?_
        by_cases s3 : s = 3
        · exact sT (by rw [s3]) (sBn ((mq_one h).1 ⟨1 - ρ 28, st, by omega, n5 s3, rfl, rfl⟩) (sF (by decide) rfl))
        · exact sF (by rw [eEq (by omega) (by decide)]; exact s3) (sT (by rw [n6 s1 s3]; decide) rfl)
    refine sBn (q_isOver h.tm h.bd.2.2.1) ?_
    rw [q0]
    refine sT (by decide) (sGb 25 rfl (by rw [xlnw]; decide) (by rw [xlnw]; decide) ?_)
    rw [h.tm, eCl (by decide), lf_at]
    refine sF (by rw [eCmp0, eLE (by omega) (by decide)]; omega) (sBn (q_isOf h.tm h28 (by omega)) ?_)
    refine sT (by rw [q2]; decide) (sJx M (fun J => ?_) ?_)
    · refine sLt ?_
      by_cases b1 : b = 1
      · refine sT (by rw [b1]) (sBn (q_standing h.tm h.rw) (sT ?_ rfl))
        rw [eLe (by decide) (by omega)]
        exact bo1 (q3 (Or.inr b1))
      · refine sF (by rw [eEq (by omega) (by decide)]; exact b1) ?_
        by_cases s2 : s = 2
        · refine sT (by rw [s2]) (sBn (q_standing h.tm h.rw) (sT ?_ rfl))
          rw [eLe (by decide) (by omega)]
          exact bo1 (q3 (Or.inl s2))
        · exact sF (by rw [eEq (by omega) (by decide)]; exact s2) rfl
    refine sJx M (fun J => ?_) ?_
    · by_cases s1 : s = 1
      · refine sT (by rw [s1]) (sBn (q_thoseOf h.tm h.rw (by omega) (by decide)) (sT (q5 s1) rfl))
      · exact sF (by rw [eEq (by omega) (by decide)]; exact s1) rfl
    refine sJx M (fun J => ?_) ?_
    · by_cases s3 : s = 3
      · have h5 := n5 s3
        refine sT (by rw [s3]) (sBn (q_isOf h.tm (by omega) (by omega)) (sT (by rw [q6 s3]; decide) rfl))
      · exact sF (by rw [eEq (by omega) (by decide)]; exact s3) rfl
    · refine sLt (sLe hA ?_)
      refine sJw (nI b) MA (fun J => ?_) (sGd ?_ (sLe hB ?_))
      · rcases (show b = 0 ∨ b = 1 by omega) with e | e
        · rw [e]; exact sF (by decide) rfl
        · rw [e]; exact sT rfl rfl
      · rcases (show b = 0 ∨ b = 1 by omega) with e | e
        · rw [e]; exact Or.inl (by decide)
        · rw [e]; exact Or.inr (by decide)
      · refine sJw (if s = 3 then nI st else -1) MB (fun J => ?_) (sLt (sLe hC ?_))
        · by_cases s3 : s = 3
          · rw [if_pos (c := s = 3) s3]; exact sT (by rw [s3]) rfl
          · rw [if_neg (c := s = 3) s3]; exact sF (by rw [eEq (by omega) (by decide)]; exact s3) rfl
        · exact l1
