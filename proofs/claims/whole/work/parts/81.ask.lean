/-! ===== questions ===== -/
theorem s120 : xrf 12 0 = 13 := m_tab.2.2.2.2.2.2.2.1
theorem s13l : xln 13 = 2 := m_tab.2.2.2.2.2.2.2.2.1
theorem x13 {t : Nat} (ht : t < 2) : xrf 13 (Int32.toNatClampNeg (nI t)) = 12 + 2 + 5 * t := by
  rw [eCl (by omega)]
  exact (st_rf kd12).2.2.1 t ht
theorem sdF {t : Nat} (ht : t < 2) : (xrf (12 + 2 + 5 * t) 0 = 12 + 2 + 5 * t + 1 ∧ xrf (12 + 2 + 5 * t) 1 = 12 + 2 + 5 * t + 2 ∧ xrf (12 + 2 + 5 * t) 2 = 12 + 2 + 5 * t + 3 ∧ xrf (12 + 2 + 5 * t) 3 = 12 + 2 + 5 * t + 4) ∧ xln (12 + 2 + 5 * t + 1) = 10 ∧ xln (12 + 2 + 5 * t + 2) = 10 ∧ xln (12 + 2 + 5 * t + 3) = 10 ∧ xln (12 + 2 + 5 * t + 4) = 10 := sd_rf ((st_rf kd12).2.2.2 t ht)
theorem TQ.sd {M : xMem} {a : xTl} {ρ : Nat → Nat} (h : TQ M a ρ) {t : Nat} (ht : t < 2) : SdR M (12 + 2 + 5 * t) t ρ := (h.2.2.1.1.2.2.2.2 t ht).1
theorem TQ.rw {M : xMem} {a : xTl} {ρ : Nat → Nat} (h : TQ M a ρ) : RW ρ := h.2.2.2.1.1.1.1
theorem TQ.hs {M : xMem} {a : xTl} {ρ : Nat → Nat} (h : TQ M a ρ) : HsR M ρ := h.2.2.1.2.1
theorem TQ.bd {M : xMem} {a : xTl} {ρ : Nat → Nat} (h : TQ M a ρ) : BD ρ := h.2.2.2.1.1.2.1
theorem q_thoseOf {M : xMem} {ρ : Nat → Nat} {t w : Nat} (h : TM M ρ) (hR : RW ρ) (ht : t < 2) (hw : w < 5) : fX11_thoseOf 146 (nI t) (nI w) M = some (nI (mkP (fun i => ρ (48 + 10 * t + i) == w) (ρ (1 + t))), M) := by
  have := e_thoseOf (M := M) (ρ := ρ) (w := w) ht (by omega) (hR.m ht) (hR.s ht)
  rw [h.nw] at this
  exact this
theorem q_scoreOf {M : xMem} {ρ : Nat → Nat} {t : Nat} (h : TM M ρ) (ht : t < 2) : fX11_scoreOf 146 (nI t) M = some (nI (scR t ρ), M) := by
  have := e_scO (M := M) (ρ := ρ) ht
  rw [h.nw] at this
  exact this
theorem q_standing {M : xMem} {ρ : Nat → Nat} (h : TM M ρ) (hR : RW ρ) : fX11_standing 146 M = some (nI (pcn (mOn (1 - ρ 28) ρ)), M) := by
  have h28 := hR.1
  unfold fX11_standing
  rw [q_get h (by decide), eBn, eSub (by omega), q_thoseOf h hR (by omega) (by decide), eBn]
  show xBn (fX11_bits (nI (mOn (1 - ρ 28) ρ)) M) _ = _
  rw [e_bits (mOn_lt (hR.m (by omega))), eBn]
/-- the player with a shirt -/
def fsh (ρ : Nat → Nat) (t x : Nat) : Int32 := runL (S := Unit) (fun i _ => if ρ (5 + 10 * t + i) = x then .inr (nI i) else .inl ()) (fun _ => -1) (ρ (1 + t)) 0 ()
theorem TQ.shirt {M : xMem} {a : xTl} {ρ : Nat → Nat} (h : TQ M a ρ) {t i : Nat} (ht : t < 2) (hi : i < ρ (1 + t)) : M.1 9 (10 * t + i) = nI (ρ (5 + 10 * t + i)) ∧ 1 ≤ ρ (5 + 10 * t + i) ∧ ρ (5 + 10 * t + i) ≤ 99 := by
  obtain ⟨-, h7, h10⟩ := h.sz ht
  obtain ⟨e1, -, e3⟩ := h.2.2.2.2.2.2 t ht
  rw [e1] at hi
  have hg : (a.2.1 t)[i]? = some (a.2.1 t)[i] := List.getElem?_eq_getElem hi
  have e4 : (a.2.1 t).getD i 0 = (a.2.1 t)[i] := by rw [List.getD_eq_getElem?_getD, hg]; rfl
  rw [e3 i (by omega), e4]
  exact ⟨(h.2.1.1 t ht).2.2 i _ hg, (h.1.1 t ht).2.1.2.2 _ (List.getElem_mem hi)⟩
theorem m78 : xrf 7 0 = 8 := by decide +kernel
theorem m79 : xrf 7 1 = 9 := by decide +kernel
theorem m710 : xrf 7 2 = 10 := by decide +kernel
theorem l8 : xln 8 = 2 := by decide +kernel
theorem l9 : xln 9 = 20 := by decide +kernel
theorem l10 : xln 10 = 2 := by decide +kernel
theorem c_playerWith {M : xMem} {a : xTl} {ρ : Nat → Nat} (h : TQ M a ρ) {t x : Nat} (ht : t < 2) (hx : x < 2147483648) : fX5_playerWith 7 (nI t) (nI x) M = some (fsh ρ t x, M) := by
  obtain ⟨e, h7, h10⟩ := h.sz ht
  unfold fX5_playerWith
  refine loopR (S := Unit) (fun n i _ => fX5_playerWith_l2 7 (nI t) (nI x) (fun (v4 : Int32) (M5 : xMem) => some ((-1), M5)) n (nI i) M) _ _ (ρ (1 + t)) () (by omega) (fun n i s hi => ?_) (fun n s => ?_)
  · obtain ⟨z1, z2, z3⟩ := h.shirt ht hi
    rw [fX5_playerWith_l2.eq_2, m710, m79, l10, l9]
    refine sGb t rfl ht (by decide) ?_
    rw [eCl (show t < 2147483648 by omega), e]
    refine sF (by rw [eLe (by omega) (by omega)]; omega) ?_
    rw [pk_mul, nI_add]
    refine sGb (t * 10 + i) rfl (by omega) (by decide) ?_
    rw [eCl (by omega), Nat.mul_comm t 10, z1]
    by_cases q : ρ (5 + 10 * t + i) = x
    · rw [if_pos q]
      exact sT (by rw [q]) rfl
    · rw [if_neg q]
      exact sF (by rw [eEq (by omega) hx]; exact q) (sLe (nI_1 i) rfl)
  · skip
    rw [fX5_playerWith_l2.eq_2, m710, l10]
    refine sGb t rfl ht (by decide) ?_
    rw [eCl (show t < 2147483648 by omega), e]
    exact sT (by rw [eLe (by omega) (by omega)]; exact Nat.le_refl _) rfl
theorem q_findShirt {M : xMem} {ρ : Nat → Nat} {t x : Nat} (h : TM M ρ) (ht : t < 2) (hm : ρ (1 + t) ≤ 10) (hs : ∀ i, i < ρ (1 + t) → ρ (5 + 10 * t + i) ≤ 99) (hx : x < 2147483648) : fX11_findShirt 146 (nI t) (nI x) M = some (fsh ρ t x, M) := by
  unfold fX11_findShirt
  refine loopR (S := Unit) (fun n i _ => fX11_findShirt_l2 146 (nI t) (nI x) (fun (v4 : Int32) (M5 : xMem) => some ((-1), M5)) n (nI i) M) _ _ (ρ (1 + t)) () (by omega) (fun n i s hi => ?_) (fun n s => ?_)
  · have hs' := hs i hi
    rw [fX11_findShirt_l2.eq_2]
    refine sBn (q_many h ht) (sF (by rw [eLe (by omega) (by omega)]; omega) ?_)
    rw [pk_mul, nI_add, nI_add]
    refine sGb (5 + 10 * t + i) rfl (by rw [xlnw]; omega) (by rw [xlnw]; decide) ?_
    rw [h, eCl (by omega), lf_at, eI2L hx]
    by_cases q : ρ (5 + 10 * t + i) = x
    · rw [if_pos q]
      exact sT (by rw [eCmp0, q]) rfl
    · rw [if_neg q]
      exact sF (by rw [eCmp0, eLE (by omega) (by omega)]; exact q) (sLe (nI_1 i) rfl)
  · skip
    rw [fX11_findShirt_l2.eq_2]
    refine sBn (q_many h ht) (sT (by rw [eLe (by omega) (by omega)]; exact Nat.le_refl _) rfl)
theorem TQ.find {M : xMem} {a : xTl} {ρ : Nat → Nat} (h : TQ M a ρ) {t x : Nat} (ht : t < 2) (hx : x < 2147483648) : fX11_findShirt 146 (nI t) (nI x) M = some (fsh ρ t x, M) := q_findShirt h.tm ht (h.sz ht).2.2 (fun i hi => (h.shirt ht hi).2.2) hx
theorem c_isOver {M : xMem} {a : xTl} {ρ : Nat → Nat} (h : TQ M a ρ) : fX8_isOver 12 M = some (nI (ovR ρ), M) := s_isOver h.2.2.1.1 h.bd
theorem m_isOver {M : xMem} {a : xTl} {ρ : Nat → Nat} (h : TQ M a ρ) : fX11_isOver 146 M = some (nI (ovR ρ), M) := q_isOver h.tm h.bd.2.2.1
theorem s_shirt {x y : Int32} : STEP (fX10_shirt 0 x y) (fX11_shirt 146 x y) := by
  refine STEP.q (fun M a ρ h => ?_) (fun M h => ?_)
  · by_cases q0 : plQ ρ x y
    · obtain ⟨t, i, ht, hi, rfl, rfl⟩ := id q0
      obtain ⟨-, h7, h10⟩ := h.sz ht
      refine ⟨nI (ρ (5 + 10 * t + i)), ?_, ?_⟩
      · unfold fX10_shirt; try simp only [x02, m50, m51, m52, m53, m54, m60, m61, s120, s13l]
        refine sBn ((c_one h).1 q0) (sF (by decide) ?_)
        unfold fX5_shirtOf
        rw [m79, l9, pk_mul, nI_add]
        refine sBn (M := M) (a := nI (ρ (5 + 10 * t + i))) (sGb (t * 10 + i) rfl (by omega) (by decide) ?_) rfl
        rw [eCl (by omega), Nat.mul_comm t 10, (h.shirt ht hi).1]
      · unfold fX11_shirt; try simp only [x02, m50, m51, m52, m53, m54, m60, m61, s120, s13l]
        refine sBn ((m_one h).1 q0) (sF (by decide) ?_)
        rw [pk_mul, nI_add, nI_add, q_get h.tm (by omega), eBn]
    · refine ⟨-2, ?_, ?_⟩
      · unfold fX10_shirt; try simp only [x02, m50, m51, m52, m53, m54, m60, m61, s120, s13l]
        exact sBn ((c_one h).2 q0) (sT (by decide) rfl)
      · unfold fX11_shirt; try simp only [x02, m50, m51, m52, m53, m54, m60, m61, s120, s13l]
        exact sBn ((m_one h).2 q0) (sT (by decide) rfl)
  · refine ⟨-2, ?_, ?_⟩
    · unfold fX10_shirt; try simp only [x02, m50, m51, m52, m53, m54, m60, m61, s120, s13l]
      exact sBn (c_noone h) (sT (by decide) rfl)
    · unfold fX11_shirt; try simp only [x02, m50, m51, m52, m53, m54, m60, m61, s120, s13l]
      exact sBn (m_noone h) (sT (by decide) rfl)
theorem s_who {x y : Int32} : STEP (fX10_who 0 x y) (fX11_who 146 x y) := by
  refine STEP.q (fun M a ρ h => ?_) (fun M h => ?_)
  · by_cases q0 : tmQ x
    · by_cases q1 : wnQ y 1 99
      · obtain ⟨t, ht, rfl⟩ := id q0
        obtain ⟨w, hwl, hw, rfl⟩ := id q1
        refine ⟨fsh ρ t w, ?_, ?_⟩
        · unfold fX10_who; try simp only [x02, m50, m51, m52, m53, m54, m60, m61, s120, s13l]
          refine sBn ((c_team h).1 q0) (sF (by decide) ?_)
          refine sBn ((c_within (by decide) (by decide)).1 q1) (sF (by decide) ?_)
          exact sBn (c_playerWith h ht (by omega)) rfl
        · unfold fX11_who; try simp only [x02, m50, m51, m52, m53, m54, m60, m61, s120, s13l]
          refine sBn ((m_team h).1 q0) (sF (by decide) ?_)
          refine sBn ((m_within (by decide) (by decide)).1 q1) (sF (by decide) ?_)
          exact sBn (h.find ht (by omega)) rfl
      · refine ⟨-2, ?_, ?_⟩
        · unfold fX10_who; try simp only [x02, m50, m51, m52, m53, m54, m60, m61, s120, s13l]
          refine sBn ((c_team h).1 q0) (sF (by decide) ?_)
          exact sBn ((c_within (by decide) (by decide)).2 q1) (sT (by decide) rfl)
        · unfold fX11_who; try simp only [x02, m50, m51, m52, m53, m54, m60, m61, s120, s13l]
          refine sBn ((m_team h).1 q0) (sF (by decide) ?_)
          exact sBn ((m_within (by decide) (by decide)).2 q1) (sT (by decide) rfl)
    · refine ⟨-2, ?_, ?_⟩
      · unfold fX10_who; try simp only [x02, m50, m51, m52, m53, m54, m60, m61, s120, s13l]
        exact sBn ((c_team h).2 q0) (sT (by decide) rfl)
      · unfold fX11_who; try simp only [x02, m50, m51, m52, m53, m54, m60, m61, s120, s13l]
        exact sBn ((m_team h).2 q0) (sT (by decide) rfl)
  · refine ⟨-2, ?_, ?_⟩
    · unfold fX10_who; try simp only [x02, m50, m51, m52, m53, m54, m60, m61, s120, s13l]
      exact sBn (c_noteam h) (sT (by decide) rfl)
    · unfold fX11_who; try simp only [x02, m50, m51, m52, m53, m54, m60, m61, s120, s13l]
      exact sBn (m_noteam h) (sT (by decide) rfl)
theorem s_is {x y : Int32} : STEP (fX10_is 0 x y) (fX11_is 146 x y) := by
  refine STEP.q (fun M a ρ h => ?_) (fun M h => ?_)
  · by_cases q0 : plQ ρ x y
    · obtain ⟨t, i, ht, hi, rfl, rfl⟩ := id q0
      obtain ⟨-, h7, h10⟩ := h.sz ht
      refine ⟨nI (ρ (48 + 10 * t + i)), ?_, ?_⟩
      · unfold fX10_is; try simp only [x02, m50, m51, m52, m53, m54, m60, m61, s120, s13l]
        refine sBn ((c_one h).1 q0) (sF (by decide) ?_)
        refine sGb t rfl ht (by decide) ?_
        rw [x13 ht, (sdF ht).1.1, (sdF ht).2.1]
        refine sGb i rfl (by omega) (by decide) ?_
        rw [eCl (by omega), h.2.2.1.1.stat ht hi]
      · unfold fX11_is; try simp only [x02, m50, m51, m52, m53, m54, m60, m61, s120, s13l]
        refine sBn ((m_one h).1 q0) (sF (by decide) ?_)
        rw [q_isOf h.tm ht (by omega), eBn]
    · refine ⟨-2, ?_, ?_⟩
      · unfold fX10_is; try simp only [x02, m50, m51, m52, m53, m54, m60, m61, s120, s13l]
        exact sBn ((c_one h).2 q0) (sT (by decide) rfl)
      · unfold fX11_is; try simp only [x02, m50, m51, m52, m53, m54, m60, m61, s120, s13l]
        exact sBn ((m_one h).2 q0) (sT (by decide) rfl)
  · refine ⟨-2, ?_, ?_⟩
    · unfold fX10_is; try simp only [x02, m50, m51, m52, m53, m54, m60, m61, s120, s13l]
      exact sBn (c_noone h) (sT (by decide) rfl)
    · unfold fX11_is; try simp only [x02, m50, m51, m52, m53, m54, m60, m61, s120, s13l]
      exact sBn (m_noone h) (sT (by decide) rfl)
theorem s_those {x y : Int32} : STEP (fX10_those 0 x y) (fX11_those 146 x y) := by
  refine STEP.q (fun M a ρ h => ?_) (fun M h => ?_)
  · by_cases q0 : tmQ x
    · by_cases q1 : wnQ y 0 4
      · obtain ⟨t, ht, rfl⟩ := id q0
        obtain ⟨w, hwl, hw, rfl⟩ := id q1
        refine ⟨nI (mkP (fun i => ρ (48 + 10 * t + i) == w) (ρ (1 + t))), ?_, ?_⟩
        · unfold fX10_those; try simp only [x02, m50, m51, m52, m53, m54, m60, m61, s120, s13l]
          refine sBn ((c_team h).1 q0) (sF (by decide) ?_)
          refine sBn ((c_within (by decide) (by decide)).1 q1) (sF (by decide) ?_)
          refine sGb t rfl ht (by decide) ?_
          rw [x13 ht]
          exact sBn (s_maskOf ((st_rf kd12).2.2.2 t ht) (h.sd ht) ht h.rw (by omega)) rfl
        · unfold fX11_those; try simp only [x02, m50, m51, m52, m53, m54, m60, m61, s120, s13l]
          refine sBn ((m_team h).1 q0) (sF (by decide) ?_)
          refine sBn ((m_within (by decide) (by decide)).1 q1) (sF (by decide) ?_)
          exact sBn (q_thoseOf h.tm h.rw ht (by omega)) rfl
      · refine ⟨-2, ?_, ?_⟩
        · unfold fX10_those; try simp only [x02, m50, m51, m52, m53, m54, m60, m61, s120, s13l]
          refine sBn ((c_team h).1 q0) (sF (by decide) ?_)
          exact sBn ((c_within (by decide) (by decide)).2 q1) (sT (by decide) rfl)
        · unfold fX11_those; try simp only [x02, m50, m51, m52, m53, m54, m60, m61, s120, s13l]
          refine sBn ((m_team h).1 q0) (sF (by decide) ?_)
          exact sBn ((m_within (by decide) (by decide)).2 q1) (sT (by decide) rfl)
    · refine ⟨-2, ?_, ?_⟩
      · unfold fX10_those; try simp only [x02, m50, m51, m52, m53, m54, m60, m61, s120, s13l]
        exact sBn ((c_team h).2 q0) (sT (by decide) rfl)
      · unfold fX11_those; try simp only [x02, m50, m51, m52, m53, m54, m60, m61, s120, s13l]
        exact sBn ((m_team h).2 q0) (sT (by decide) rfl)
  · refine ⟨-2, ?_, ?_⟩
    · unfold fX10_those; try simp only [x02, m50, m51, m52, m53, m54, m60, m61, s120, s13l]
      exact sBn (c_noteam h) (sT (by decide) rfl)
    · unfold fX11_those; try simp only [x02, m50, m51, m52, m53, m54, m60, m61, s120, s13l]
      exact sBn (m_noteam h) (sT (by decide) rfl)
theorem s_wait {x y : Int32} : STEP (fX10_wait 0 x y) (fX11_wait 146 x y) := by
  refine STEP.q (fun M a ρ h => ?_) (fun M h => ?_)
  · by_cases q0 : plQ ρ x y
    · obtain ⟨t, i, ht, hi, rfl, rfl⟩ := id q0
      obtain ⟨-, h7, h10⟩ := h.sz ht
      refine ⟨nI (ρ (68 + 10 * t + i)), ?_, ?_⟩
      · unfold fX10_wait; try simp only [x02, m50, m51, m52, m53, m54, m60, m61, s120, s13l]
        refine sBn ((c_one h).1 q0) (sF (by decide) ?_)
        refine sGb t rfl ht (by decide) ?_
        rw [x13 ht, (sdF ht).1.2.1, (sdF ht).2.2.1]
        refine sGb i rfl (by omega) (by decide) ?_
        rw [eCl (by omega), ((h.sd ht).2.2.1 i hi).2.1]
      · unfold fX11_wait; try simp only [x02, m50, m51, m52, m53, m54, m60, m61, s120, s13l]
        refine sBn ((m_one h).1 q0) (sF (by decide) ?_)
        rw [q_isOf h.tm ht (by omega), eBn]
        have hs := ((h.rw.2 t ht).2.1 i (by omega)).1
        by_cases q : ρ (48 + 10 * t + i) = 3
        · refine sT (by rw [q]) ?_
          rw [pk_mul, nI_add, nI_add, q_get h.tm (by omega), eBn]
        · refine sF (by rw [eEq (by omega) (by decide)]; exact q) ?_
          rw [(h.2.2.2.1.1.1.2 t ht).2.2.2.2.2 i hi q]
    · refine ⟨-2, ?_, ?_⟩
      · unfold fX10_wait; try simp only [x02, m50, m51, m52, m53, m54, m60, m61, s120, s13l]
        exact sBn ((c_one h).2 q0) (sT (by decide) rfl)
      · unfold fX11_wait; try simp only [x02, m50, m51, m52, m53, m54, m60, m61, s120, s13l]
        exact sBn ((m_one h).2 q0) (sT (by decide) rfl)
  · refine ⟨-2, ?_, ?_⟩
    · unfold fX10_wait; try simp only [x02, m50, m51, m52, m53, m54, m60, m61, s120, s13l]
      exact sBn (c_noone h) (sT (by decide) rfl)
    · unfold fX11_wait; try simp only [x02, m50, m51, m52, m53, m54, m60, m61, s120, s13l]
      exact sBn (m_noone h) (sT (by decide) rfl)
theorem s_score {x : Int32} : STEP (fX10_score 0 x) (fX11_score 146 x) := by
  refine STEP.q (fun M a ρ h => ?_) (fun M h => ?_)
  · by_cases q0 : tmQ x
    · obtain ⟨t, ht, rfl⟩ := id q0
      refine ⟨nI (scR t ρ), ?_, ?_⟩
      · unfold fX10_score; try simp only [x02, m50, m51, m52, m53, m54, m60, m61, s120, s13l]
        refine sBn ((c_team h).1 q0) (sF (by decide) ?_)
        refine sGb t rfl ht (by decide) ?_
        rw [x13 ht, (h.2.2.1.1.2.2.2.2 t ht).2.1]
      · unfold fX11_score; try simp only [x02, m50, m51, m52, m53, m54, m60, m61, s120, s13l]
        refine sBn ((m_team h).1 q0) (sF (by decide) ?_)
        exact sBn (q_scoreOf h.tm ht) rfl
    · refine ⟨-2, ?_, ?_⟩
      · unfold fX10_score; try simp only [x02, m50, m51, m52, m53, m54, m60, m61, s120, s13l]
        exact sBn ((c_team h).2 q0) (sT (by decide) rfl)
      · unfold fX11_score; try simp only [x02, m50, m51, m52, m53, m54, m60, m61, s120, s13l]
        exact sBn ((m_team h).2 q0) (sT (by decide) rfl)
  · refine ⟨-2, ?_, ?_⟩
    · unfold fX10_score; try simp only [x02, m50, m51, m52, m53, m54, m60, m61, s120, s13l]
      exact sBn (c_noteam h) (sT (by decide) rfl)
    · unfold fX11_score; try simp only [x02, m50, m51, m52, m53, m54, m60, m61, s120, s13l]
      exact sBn (m_noteam h) (sT (by decide) rfl)
theorem s_empties {x : Int32} : STEP (fX10_empties 0 x) (fX11_empties 146 x) := by
  refine STEP.q (fun M a ρ h => ?_) (fun M h => ?_)
  · by_cases q0 : tmQ x
    · obtain ⟨t, ht, rfl⟩ := id q0
      refine ⟨nI (ρ (30 + t)), ?_, ?_⟩
      · unfold fX10_empties; try simp only [x02, m50, m51, m52, m53, m54, m60, m61, s120, s13l]
        refine sBn ((c_team h).1 q0) (sF (by decide) ?_)
        refine sGb t rfl ht (by decide) ?_
        rw [x13 ht, (h.2.2.1.1.2.2.2.2 t ht).2.2.1]
      · unfold fX11_empties; try simp only [x02, m50, m51, m52, m53, m54, m60, m61, s120, s13l]
        refine sBn ((m_team h).1 q0) (sF (by decide) ?_)
        rw [nI_add]
        exact sBn (q_get h.tm (by omega)) rfl
    · refine ⟨-2, ?_, ?_⟩
      · unfold fX10_empties; try simp only [x02, m50, m51, m52, m53, m54, m60, m61, s120, s13l]
        exact sBn ((c_team h).2 q0) (sT (by decide) rfl)
      · unfold fX11_empties; try simp only [x02, m50, m51, m52, m53, m54, m60, m61, s120, s13l]
        exact sBn ((m_team h).2 q0) (sT (by decide) rfl)
  · refine ⟨-2, ?_, ?_⟩
    · unfold fX10_empties; try simp only [x02, m50, m51, m52, m53, m54, m60, m61, s120, s13l]
      exact sBn (c_noteam h) (sT (by decide) rfl)
    · unfold fX11_empties; try simp only [x02, m50, m51, m52, m53, m54, m60, m61, s120, s13l]
      exact sBn (m_noteam h) (sT (by decide) rfl)
theorem s_turn : STEP (fX10_turn 0) (fX11_turn 146) := by
  refine STEP.q (fun M a ρ h => ?_) (fun M h => ?_)
  · refine ⟨if ovR ρ = 0 then nI (ρ 28) else -1, ?_, ?_⟩
    · unfold fX10_turn; try simp only [x02, m50, m51, m52, m53, m54, m60, m61, s120, s13l]
      refine sBn (c_told h) (sF (by decide) ?_)
      rw [c_isOver h, eBn]
      rcases ovR_le ρ with q | q
      · rw [if_pos q]
        exact sT (by rw [q]; decide) (by rw [h.2.2.1.1.1])
      · rw [if_neg (show ¬ ovR ρ = 0 by omega)]
        exact sF (by rw [q]; decide) rfl
    · unfold fX11_turn; try simp only [x02, m50, m51, m52, m53, m54, m60, m61, s120, s13l]
      refine sBn (h.there) (sF (by decide) ?_)
      rw [m_isOver h, eBn]
      rcases ovR_le ρ with q | q
      · rw [if_pos q]
        exact sT (by rw [q]; decide) (sBn (q_get h.tm (by decide)) rfl)
      · rw [if_neg (show ¬ ovR ρ = 0 by omega)]
        exact sF (by rw [q]; decide) rfl
  · refine ⟨-2, ?_, ?_⟩
    · unfold fX10_turn; try simp only [x02, m50, m51, m52, m53, m54, m60, m61, s120, s13l]
      exact sBn (c_untold h) (sT (by decide) rfl)
    · unfold fX11_turn; try simp only [x02, m50, m51, m52, m53, m54, m60, m61, s120, s13l]
      exact sBn (m_nothere h) (sT (by decide) rfl)
theorem s_bonus : STEP (fX10_bonus 0) (fX11_bonus 146) := by
  refine STEP.q (fun M a ρ h => ?_) (fun M h => ?_)
  · refine ⟨if ovR ρ = 0 then nI (boR ρ) else -1, ?_, ?_⟩
    · unfold fX10_bonus; try simp only [x02, m50, m51, m52, m53, m54, m60, m61, s120, s13l]
      refine sBn (c_told h) (sF (by decide) ?_)
      rw [c_isOver h, eBn]
      rcases ovR_le ρ with q | q
      · rw [if_pos q]
        refine sT (by rw [q]; decide) (sBn (s_isBonusOpen kd12 h.2.2.1.1 h.rw) ?_)
        rcases boR_le ρ with z | z
        · exact sT (by rw [z]; decide) (by rw [z])
        · exact sF (by rw [z]; decide) (by rw [z])
      · rw [if_neg (show ¬ ovR ρ = 0 by omega)]
        exact sF (by rw [q]; decide) rfl
    · unfold fX11_bonus; try simp only [x02, m50, m51, m52, m53, m54, m60, m61, s120, s13l]
      refine sBn (h.there) (sF (by decide) ?_)
      rw [m_isOver h, eBn]
      have h28 := h.rw.1
      have hp := pcn_le _ (mOn_lt (ρ := ρ) (t := 1 - ρ 28) (h.rw.m (by omega)))
      rcases ovR_le ρ with q | q
      · rw [if_pos q]
        refine sT (by rw [q]; decide) (sBn (q_standing h.tm h.rw) ?_)
        unfold boR
        by_cases z : 6 ≤ pcn (mOn (1 - ρ 28) ρ)
        · exact sF (by rw [eLtI (by omega) (by decide)]; omega) (by rw [if_pos z])
        · exact sT (by rw [eLtI (by omega) (by decide)]; omega) (by rw [if_neg z])
      · rw [if_neg (show ¬ ovR ρ = 0 by omega)]
        exact sF (by rw [q]; decide) rfl
  · refine ⟨-2, ?_, ?_⟩
    · unfold fX10_bonus; try simp only [x02, m50, m51, m52, m53, m54, m60, m61, s120, s13l]
      exact sBn (c_untold h) (sT (by decide) rfl)
    · unfold fX11_bonus; try simp only [x02, m50, m51, m52, m53, m54, m60, m61, s120, s13l]
      exact sBn (m_nothere h) (sT (by decide) rfl)
theorem s_parts {x y : Int32} : STEP (fX10_parts 0 x y) (fX11_parts 146 x y) := by
  refine STEP.q (fun M a ρ h => ?_) (fun M h => ?_)
  · by_cases q0 : tmQ x
    · by_cases q1 : wnQ y 0 5
      · obtain ⟨t, ht, rfl⟩ := id q0
        obtain ⟨w, hwl, hw, rfl⟩ := id q1
        refine ⟨nI (ρ (36 + 6 * t + w)), ?_, ?_⟩
        · unfold fX10_parts; try simp only [x02, m50, m51, m52, m53, m54, m60, m61, s120, s13l]
          refine sBn ((c_team h).1 q0) (sF (by decide) ?_)
          refine sBn ((c_within (by decide) (by decide)).1 q1) (sF (by decide) ?_)
          unfold fX1_partOf
          rw [h4, hl45]
          refine sBn (M := M) (a := nI (ρ (36 + 6 * t + w))) (sLe (b := nI (ptA t w)) (by rw [pk_mul, nI_add]; unfold ptA; rw [Nat.mul_comm t 6]) ?_) rfl
          have hlt : ptA t w < 12 := by unfold ptA; omega
          refine sF (nI_pos (by omega)) (sF (by rw [eLe (by decide) (by omega)]; omega) (sGb _ rfl hlt (by decide) ?_))
          rw [eCl (by omega), h.hs.2.2.2.2 t w ht (by omega)]
        · unfold fX11_parts; try simp only [x02, m50, m51, m52, m53, m54, m60, m61, s120, s13l]
          refine sBn ((m_team h).1 q0) (sF (by decide) ?_)
          refine sBn ((m_within (by decide) (by decide)).1 q1) (sF (by decide) ?_)
          rw [pk_mul, nI_add, nI_add, q_get h.tm (by omega), eBn]
      · refine ⟨-2, ?_, ?_⟩
        · unfold fX10_parts; try simp only [x02, m50, m51, m52, m53, m54, m60, m61, s120, s13l]
          refine sBn ((c_team h).1 q0) (sF (by decide) ?_)
          exact sBn ((c_within (by decide) (by decide)).2 q1) (sT (by decide) rfl)
        · unfold fX11_parts; try simp only [x02, m50, m51, m52, m53, m54, m60, m61, s120, s13l]
          refine sBn ((m_team h).1 q0) (sF (by decide) ?_)
          exact sBn ((m_within (by decide) (by decide)).2 q1) (sT (by decide) rfl)
    · refine ⟨-2, ?_, ?_⟩
      · unfold fX10_parts; try simp only [x02, m50, m51, m52, m53, m54, m60, m61, s120, s13l]
        exact sBn ((c_team h).2 q0) (sT (by decide) rfl)
      · unfold fX11_parts; try simp only [x02, m50, m51, m52, m53, m54, m60, m61, s120, s13l]
        exact sBn ((m_team h).2 q0) (sT (by decide) rfl)
  · refine ⟨-2, ?_, ?_⟩
    · unfold fX10_parts; try simp only [x02, m50, m51, m52, m53, m54, m60, m61, s120, s13l]
      exact sBn (c_noteam h) (sT (by decide) rfl)
    · unfold fX11_parts; try simp only [x02, m50, m51, m52, m53, m54, m60, m61, s120, s13l]
      exact sBn (m_noteam h) (sT (by decide) rfl)
