theorem waitsT_stat {t n : Nat} {ρ : Nat → Nat} (ht : t < 2) (hn : n ≤ 10) {j : Nat} (hj : j = 1 + t ∨ j = 108 + t ∨ (88 + 10 * t ≤ j ∧ j < 98 + 10 * t) ∨ (110 + 10 * t ≤ j ∧ j < 120 + 10 * t)) : waitsT t n ρ j = ρ j := waitsT_ne (by omega) hn
theorem s_passRaid {M : xMem} {k t : Nat} {ρ : Nat → Nat} (hk : xkd k = 7) (hS : SdR M k t ρ) (ht : t < 2) (hR : RW ρ) : ∃ M', fX7_passRaid k M = some M' ∧ SdR M' k t (waitsT t (ρ (1 + t)) ρ) ∧ sdK M M' k := by
  obtain ⟨⟨e0, e1, -, -⟩, l1, l2, -, -⟩ := sd_rf hk
  have hr := hR.m ht
  have hq1 := (hR.q ht).1
  have hb := (hR.2 t ht).2.1
  have key : ∀ m, m ≤ 10 → ∃ M', SdR M' k t (waitsT t (min m (ρ (1 + t))) ρ) ∧ sdK M M' k ∧ ∀ n, fX7_passRaid_l2 k (fun _ M' => some M') (n + m) (nI 0) M = fX7_passRaid_l2 k (fun _ M' => some M') n (nI m) M' := by
    intro m
    induction m with
    | zero =>
      intro _
      exact ⟨M, by rw [Nat.zero_min]; exact hS, sdK.refl _ _, fun n => rfl⟩
    | succ m ih =>
      intro hm
      obtain ⟨M1, S1, K1, h1⟩ := ih (by omega)
      have hstep : ∀ n, fX7_passRaid_l2 k (fun _ M' => some M') (n + (m + 1)) (nI 0) M = fX7_passRaid_l2 k (fun _ M' => some M') (n + 1) (nI m) M1 := fun n => by
        rw [← h1 (n + 1)]
        congr 1
        omega
      by_cases hms : m < ρ (1 + t)
      · rw [show min m (ρ (1 + t)) = m by omega] at S1
        rw [show min (m + 1) (ρ (1 + t)) = m + 1 by omega]
        have w1 : waitsT t m ρ (1 + t) = ρ (1 + t) := waitsT_stat ht (by omega) (by omega)
        have w8 : waitsT t m ρ (108 + t) = ρ (108 + t) := waitsT_stat ht (by omega) (by omega)
        have b1 : waitsT t m ρ (48 + 10 * t + m) = ρ (48 + 10 * t + m) := waitsT_ne (by omega) (by omega)
        have b2 : waitsT t m ρ (68 + 10 * t + m) = ρ (68 + 10 * t + m) := waitsT_ne (by omega) (by omega)
        have hc := S1.2.2.1 m (by rw [w1]; exact hms)
        rw [b1, b2] at hc
        obtain ⟨a1, a2, a3⟩ := hb m (by omega)
        show ∃ M', SdR M' k t (wS t m (waitsT t m ρ)) ∧ _
        unfold wS
        rw [b1, b2]
        by_cases h3 : ρ (48 + 10 * t + m) = 3
        · have a4 := a3 h3
          rw [if_pos h3]
          by_cases h4 : ρ (68 + 10 * t + m) - 1 = 0
          · rw [if_pos h4]
            refine ⟨xwI (xwI (xwI M1 (k + 2) m (nI 0)) (k + 2) m (nI 0)) (k + 1) m (nI 0), ?_, ((K1.cell (by omega) (by omega)).cell (by omega) (by omega)).cell (by omega) (by omega), fun n => ?_⟩
            · have S2 : SdR (xwI M1 (k + 2) m (nI 0)) k t (va_up (waitsT t m ρ) (68 + 10 * t + m) 0) := S1.wt (by rw [w1]; exact hms) (by rw [w1]; exact hr) (by rw [w8]; exact hq1) va_at_eq (fun j hj _ => va_at_ne hj) ht
              have S3 : SdR (xwI (xwI M1 (k + 2) m (nI 0)) (k + 2) m (nI 0)) k t (va_up (waitsT t m ρ) (68 + 10 * t + m) 0) := S2.wt (by rw [va_at_ne (by omega), w1]; exact hms) (by rw [va_at_ne (by omega), w1]; exact hr) (by rw [va_at_ne (by omega), w8]; exact hq1) va_at_eq (fun j hj _ => rfl) ht
              exact S3.st (by rw [va_at_ne (by omega), w1]; exact hms) (by rw [va_at_ne (by omega), w1]; exact hr) (by rw [va_at_ne (by omega), w8]; exact hq1) va_at_eq (fun j hj _ => va_at_ne hj) ht
            · rw [hstep n, fX7_passRaid_l2.eq_2, e0, e1, l1, l2]
              refine sF (by rw [eLe (by decide) (by omega)]; omega) (sGb m rfl (by omega) (by decide) ?_)
              rw [eCl (by omega), hc.1]
              refine sT (by rw [h3]) (sGb m rfl (by omega) (by decide) (sGb m rfl (by omega) (by decide) ?_))
              rw [hc.2.1, eSub (by omega), eLt, h4]
              refine sGb m rfl (by omega) (by decide) ?_
              rw [xwI_at]
              refine sF (by decide) (sGb m rfl (by omega) (by decide) ?_)
              rw [eLt]
              refine sGb m rfl (by omega) (by decide) ?_
              rw [eLt]
              exact sLe (nI_1 m) rfl
          · rw [if_neg h4]
            refine ⟨xwI M1 (k + 2) m (nI (ρ (68 + 10 * t + m) - 1)), ?_, K1.cell (by omega) (by omega), fun n => ?_⟩
            · exact S1.wt (by rw [w1]; exact hms) (by rw [w1]; exact hr) (by rw [w8]; exact hq1) va_at_eq (fun j hj _ => va_at_ne hj) ht
            · rw [hstep n, fX7_passRaid_l2.eq_2, e0, e1, l1, l2]
              refine sF (by rw [eLe (by decide) (by omega)]; omega) (sGb m rfl (by omega) (by decide) ?_)
              rw [eCl (by omega), hc.1]
              refine sT (by rw [h3]) (sGb m rfl (by omega) (by decide) (sGb m rfl (by omega) (by decide) ?_))
              rw [hc.2.1, eSub (by omega), eLt]
              refine sGb m rfl (by omega) (by decide) ?_
              rw [xwI_at]
              have hpos : (0 : Int32) < nI (ρ (68 + 10 * t + m) - 1) := by
                rw [eZ, eLtI (by decide) (by omega)]
                omega
              exact sT hpos (sLe (nI_1 m) rfl)
        · rw [if_neg h3]
          refine ⟨M1, S1, K1, fun n => ?_⟩
          rw [hstep n, fX7_passRaid_l2.eq_2, e0, e1, l1, l2]
          refine sF (by rw [eLe (by decide) (by omega)]; omega) (sGb m rfl (by omega) (by decide) ?_)
          rw [eCl (by omega), hc.1]
          exact sF (by rw [eEq (by omega) (by decide)]; exact h3) (sLe (nI_1 m) rfl)
      · rw [show min m (ρ (1 + t)) = ρ (1 + t) by omega] at S1
        rw [show min (m + 1) (ρ (1 + t)) = ρ (1 + t) by omega]
        have w1 : waitsT t (ρ (1 + t)) ρ (1 + t) = ρ (1 + t) := waitsT_stat ht hr (by omega)
        refine ⟨M1, S1, K1, fun n => ?_⟩
        have hc := S1.2.2.2.1 m (by rw [w1]; omega) (by omega)
        rw [hstep n, fX7_passRaid_l2.eq_2, e0, e1, l1, l2]
        refine sF (by rw [eLe (by decide) (by omega)]; omega) (sGb m rfl (by omega) (by decide) ?_)
        rw [eCl (by omega), hc]
        exact sF (by decide) (sLe (nI_1 m) rfl)
  obtain ⟨M', S', K', h'⟩ := key 10 (by omega)
  rw [show min 10 (ρ (1 + t)) = ρ (1 + t) by omega] at S'
  refine ⟨M', ?_, S', K'⟩
  unfold fX7_passRaid
  have e : xFU = 39989 + 1 + 10 := by decide
  rw [e, h', fX7_passRaid_l2.eq_2]
  exact sT (by decide) rfl
theorem SdR_allOut {M : xMem} {k t : Nat} {ρ : Nat → Nat} (hS : SdR M k t ρ) (ht : t < 2) (hR : RT ρ) (g : Nat → Int32) (hg : ∀ i, i < 10 → g i = if M.1 (k + 1) i = nI 1 then nI 0 else M.1 (k + 1) i) : SdR (xwI (xwR M (k + 1) g) k 5 (nI 0)) k t (backsR t (ρ (108 + t)) ρ) := by
  obtain ⟨a, b, c, d, f⟩ := hS
  have hr := hR.1.m ht
  obtain ⟨q0, qs⟩ := backs_all ht (ρ (108 + t)) hR (Nat.le_refl _)
  have ne : ∀ j, (j < 48 + 10 * t ∨ 58 + 10 * t ≤ j) → j ≠ 108 + t → (j < 110 + 10 * t ∨ 120 + 10 * t ≤ j) → backsR t (ρ (108 + t)) ρ j = ρ j := fun j h1 h2 h3 => backsR_ne ht h1 h2 h3 _ hR.1
  have x1 := ne (1 + t) (by omega) (by omega) (by omega)
  refine ⟨?_, ?_, fun i hi => ?_, fun i hi hi' => ?_, fun j hj => by rw [q0] at hj; omega⟩
  · rw [x1, xwI_ne (by omega), xwR_ne (by omega)]; exact a
  · rw [q0, xwI_at]
  · rw [x1] at hi
    rw [ne (68 + 10 * t + i) (by omega) (by omega) (by omega), ne (88 + 10 * t + i) (by omega) (by omega) (by omega), qs i hi]
    rw [xwI_c (by omega), xwI_c (by omega), xwI_c (by omega), xwR_at, xwR_ne (by omega), xwR_ne (by omega)]
    refine ⟨?_, (c i hi).2⟩
    rw [hg i (by omega), (c i hi).1]
    have hlt := ((hR.1.2 t ht).2.1 i (by omega)).1
    by_cases q : ρ (48 + 10 * t + i) = 1
    · rw [if_pos q, if_pos (by rw [q])]
    · rw [if_neg q, if_neg (by rw [eEq (by omega) (by decide)]; exact q)]
  · rw [x1] at hi
    rw [xwI_c (by omega), xwR_at, hg i hi', d i hi hi', if_neg (by decide)]
theorem s_standUp {M : xMem} {k t : Nat} {ρ : Nat → Nat} (hk : xkd k = 7) (hS : SdR M k t ρ) (ht : t < 2) (hR : RT ρ) : ∃ M', fX7_standUp k M = some (nI (if isAll t ρ then 1 else 0), M') ∧ SdR M' k t (allR t ρ) ∧ sdK M M' k := by
  obtain ⟨⟨e0, -, -, -⟩, l1, -⟩ := sd_rf hk
  have hr := hR.1.m ht
  have hq1 := (hR.1.q ht).1
  have hm := mk_lt (p := fun i => ρ (48 + 10 * t + i) == 0) hr
  have allS : isAll t ρ = true → ∀ M', SdR M' k t (backsR t (ρ (108 + t)) ρ) → SdR M' k t (allR t ρ) := fun h M' S' => by
    unfold allR
    rw [if_pos h]
    have R' := RT.backs ht (ρ (108 + t)) hR
    exact S'.row (R'.1.m ht) (R'.1.q ht).1 (fun j hj => va_at_ne (by omega))
  have noS : ¬ isAll t ρ = true → allR t ρ = ρ := fun h => by unfold allR; rw [if_neg h]
  by_cases h0 : ρ (108 + t) = 0
  · have hn : ¬ isAll t ρ = true := by unfold isAll; simp [h0]
    refine ⟨M, ?_, by rw [noS hn]; exact hS, sdK.refl _ _⟩
    unfold fX7_standUp
    rw [hS.2.1, h0, if_neg hn]
    exact sT (by decide) rfl
  · by_cases h1 : mkP (fun i => ρ (48 + 10 * t + i) == 0) (ρ (1 + t)) = 0
    · have hy : isAll t ρ = true := by unfold isAll; simp [h0, h1]
      have key : ∀ m, m ≤ 10 → ∀ n, fX7_standUp_l19 k (fun _ M9 => xLt (xwI M9 k 5 (nI 0)) fun M10 => some (nI 1, M10)) (n + m) (nI 0) M = fX7_standUp_l19 k (fun _ M9 => xLt (xwI M9 k 5 (nI 0)) fun M10 => some (nI 1, M10)) n (nI m) (xwR M (k + 1) (fun i => if i < m then (if M.1 (k + 1) i = nI 1 then nI 0 else M.1 (k + 1) i) else M.1 (k + 1) i)) := by
        intro m
        induction m with
        | zero =>
          intro _ n
          have : xwR M (k + 1) (fun i => if i < 0 then (if M.1 (k + 1) i = nI 1 then nI 0 else M.1 (k + 1) i) else M.1 (k + 1) i) = M := by
            unfold xwR
            have : va_up M.1 (k + 1) (fun i => if i < 0 then (if M.1 (k + 1) i = nI 1 then nI 0 else M.1 (k + 1) i) else M.1 (k + 1) i) = M.1 := by
              funext c
              unfold va_up
              by_cases h : c = k + 1
              · rw [if_pos h, h]; funext i; rw [if_neg (by omega)]
              · rw [if_neg h]
            rw [this]
          rw [this]; rfl
        | succ m ih =>
          intro hm n
          have hs := ih (by omega) (n + 1)
          rw [show n + (m + 1) = n + 1 + m by omega, hs, fX7_standUp_l19.eq_2, e0, l1]
          refine sF (by rw [eLe (by decide) (by omega)]; omega) (sGb m rfl (by omega) (by decide) ?_)
          rw [eCl (by omega), xwR_at]
          simp only [Nat.lt_irrefl, if_false]
          by_cases q : M.1 (k + 1) m = nI 1
          · refine sT q (sGb m rfl (by omega) (by decide) ?_)
            rw [eLt]
            refine sLe (nI_1 m) ?_
            congr 1
            unfold xwI
            rw [xwR_at]
            simp only [xwR, bx_uu]
            congr 2
            funext i
            unfold upd
            by_cases hi : i = m
            · rw [if_pos hi, if_pos (by omega), hi, if_pos q]
            · rw [if_neg hi]
              by_cases hi2 : i < m
              · simp only [hi2, if_true, show i < m + 1 by omega]
              · simp only [hi2, if_false, show ¬ i < m + 1 by omega]
          · refine sF q (sLe (nI_1 m) ?_)
            congr 2
            funext i
            by_cases hi : i = m
            · rw [if_neg (by omega), if_pos (by omega), hi, if_neg q]
            · by_cases hi2 : i < m
              · simp only [hi2, if_true, show i < m + 1 by omega]
              · simp only [hi2, if_false, show ¬ i < m + 1 by omega]
      refine ⟨xwI (xwR M (k + 1) (fun i => if i < 10 then (if M.1 (k + 1) i = nI 1 then nI 0 else M.1 (k + 1) i) else M.1 (k + 1) i)) k 5 (nI 0), ?_, ?_, ?_⟩
      · unfold fX7_standUp
        rw [hS.2.1]
        refine sF (eN0 (by omega) h0) ?_
        rw [s_maskOf hk hS ht hR.1 (by decide), eBn, h1]
        refine sT (by decide) ?_
        have e : xFU = 39989 + 1 + 10 := by decide
        rw [e, key 10 (by omega), fX7_standUp_l19.eq_2, if_pos hy]
        exact sT (by decide) rfl
      · exact allS hy _ (SdR_allOut hS ht hR _ (fun i hi => by rw [if_pos hi]))
      · refine ⟨((Fi.refl _ M).wR (by unfold sdC; omega)).wI (by unfold sdC; omega), fun j hj => ?_⟩
        rw [xwI_ne (Or.inr hj), xwR_ne (by omega)]
    · have hn : ¬ isAll t ρ = true := by unfold isAll; simp [h1]
      refine ⟨M, ?_, by rw [noS hn]; exact hS, sdK.refl _ _⟩
      unfold fX7_standUp
      rw [hS.2.1]
      refine sF (eN0 (by omega) h0) ?_
      rw [s_maskOf hk hS ht hR.1 (by decide), eBn, if_neg hn]
      exact sF (eN0 (by omega) h1) rfl
