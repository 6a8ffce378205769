theorem e_bitc {v : Nat} {M : xMem} (hv : v < 1024) : fJ6_bitCount_0f7a4 (nI v) M = some (nI (pcn v), M) := by
  have h := e_bitC v hv
  unfold fJ6_bitCount_0f7a4 at h ⊢
  simp only [eLt, Option.map_some, Option.some.injEq] at h ⊢
  rw [h]
theorem mk_lt {p : Nat → Bool} {n : Nat} (h : n ≤ 10) : mkP p n < 1024 := Nat.lt_of_lt_of_le (mkP_lt _ _) (Nat.pow_le_pow_right (by decide) h)
theorem pc_hi : ∀ i, i < 10 → ∀ v, v < 2 ^ i → pcn (v + 2 ^ i) = pcn v + 1 := by decide +kernel
theorem pc_mkS (p : Nat → Bool) {i : Nat} (h : i < 10) : pcn (mkP p (i + 1)) = pcn (mkP p i) + if p i = true then 1 else 0 := by
  show pcn (mkP p i + (if p i = true then 2 ^ i else 0)) = _
  by_cases q : p i = true
  · rw [if_pos q, if_pos q]
    exact pc_hi i h _ (mkP_lt _ _)
  · rw [if_neg q, if_neg q, Nat.add_zero, Nat.add_zero]
theorem s_countOf {M : xMem} {k t w : Nat} {ρ : Nat → Nat} (hk : xkd k = 7) (hS : SdR M k t ρ) (ht : t < 2) (hR : RW ρ) (hw : w < 5) : fX7_countOf k (nI w) M = some (nI (pcn (mkP (fun i => ρ (48 + 10 * t + i) == w) (ρ (1 + t)))), M) := by
  obtain ⟨⟨e0, -, -, -⟩, l1, -⟩ := sd_rf hk
  obtain ⟨a, b, c, d, f⟩ := hS
  have hr := hR.m ht
  generalize hp : (fun i => ρ (48 + 10 * t + i) == w) = p
  have L := loopU (fun n i => fX7_countOf_l4 k (nI w) (fun (v6 : Int32) (v7 : Int32) (M8 : xMem) => some (v6, M8)) n (nI (pcn (mkP p i))) (nI i) M) (ρ (1 + t)) (some (nI (pcn (mkP p (ρ (1 + t)))), M)) (by omega) (fun n i hi => ?_) (fun n => ?_)
  · unfold fX7_countOf
    have e : nI (pcn (mkP p 0)) = nI 0 := by rw [show mkP p 0 = 0 from rfl, pcn_0]
    simp only [e] at L
    exact L
  · have h1 := ((hR.2 t ht).2.1 i (by omega)).1
    rw [fX7_countOf_l4.eq_2, e0, l1, a]
    refine sF (by rw [eLe (by omega) (by omega)]; omega) (sF (by rw [eLe (by decide) (by omega)]; omega) (sGb i rfl (by omega) (by decide) ?_))
    rw [eCl (by omega), (c i hi).1, pc_mkS p (by omega)]
    have ep : p i = (ρ (48 + 10 * t + i) == w) := by rw [← hp]
    by_cases h : ρ (48 + 10 * t + i) = w
    · have q : p i = true := by rw [ep, h]; exact beq_self_eq_true w
      rw [if_pos q]
      exact sJw (nI 1) M (fun J => sT (by rw [h]) rfl) (sLe (nI_1 _) (sLe (nI_1 i) rfl))
    · have q : ¬ p i = true := by rw [ep]; simpa using h
      rw [if_neg q]
      exact sJw (nI 0) M (fun J => sF (by rw [eEq (by omega) (by omega)]; exact h) rfl) (sLe (nI_add _ 0) (sLe (nI_1 i) rfl))
  · rw [fX7_countOf_l4.eq_2, a]
    exact sT (by rw [eLe (by omega) (by omega)]; exact Nat.le_refl _) rfl
/-- the cells of a side -/
def sdC (k c : Nat) : Prop := k ≤ c ∧ c < k + 5
theorem s_goOut {M : xMem} {k t i : Nat} {ρ : Nat → Nat} (hk : xkd k = 7) (hS : SdR M k t ρ) (ht : t < 2) (hR : RW ρ) (hi : i < ρ (1 + t)) (hq : ρ (108 + t) < 10) : ∃ M', fX7_goOut k (nI i) M = some M' ∧ SdR M' k t (outR t i ρ) ∧ Fi (sdC k) M M' ∧ ∀ j, j ≠ 5 → M'.1 k j = M.1 k j := by
  obtain ⟨⟨e0, -, -, e3⟩, l1, -, -, l4⟩ := sd_rf hk
  obtain ⟨a, b, c, d, f⟩ := hS
  have hr := hR.m ht
  have hi10 : i < 10 := by omega
  refine ⟨xwI (xwI (xwI M (k + 1) i (nI 1)) (k + 4) (ρ (108 + t)) (nI i)) k 5 (nI (ρ (108 + t) + 1)), ?_, ?_, ?_, ?_⟩
  · unfold fX7_goOut
    rw [e0, e3, l1, l4]
    refine sGb i rfl hi10 (by decide) ?_
    rw [eCl (by omega), eLt]
    have h1 : (xwI M (k + 1) i (nI 1)).1 k 5 = nI (ρ (108 + t)) := by rw [xwI_ne (by omega)]; exact b
    rw [h1]
    refine sF (by rw [eLe (by decide) (by omega)]; omega) (sGb _ rfl hq (by decide) ?_)
    rw [eCl (by omega), eLt, eLt]
    have h2 : (xwI (xwI M (k + 1) i (nI 1)) (k + 4) (ρ (108 + t)) (nI i)).1 k 5 = nI (ρ (108 + t)) := by rw [xwI_ne (by omega)]; exact h1
    rw [h2, nI_add]
  · have o1 : outR t i ρ (1 + t) = ρ (1 + t) := outR_ne (by omega) (by omega) (by omega)
    have o2 := outR_outs t i ρ
    refine ⟨?_, ?_, fun j hj => ?_, fun j hj hj' => ?_, fun j hj => ?_⟩
    · rw [o1, xwI_ne (by omega), xwI_ne (by omega), xwI_ne (by omega)]; exact a
    · rw [o2, xwI_at]
    · rw [o1] at hj
      have x1 : outR t i ρ (68 + 10 * t + j) = ρ (68 + 10 * t + j) := outR_ne (by omega) (by omega) (by omega)
      have x2 : outR t i ρ (88 + 10 * t + j) = ρ (88 + 10 * t + j) := outR_ne (by omega) (by omega) (by omega)
      rw [x1, x2]
      refine ⟨?_, ?_, ?_⟩
      · rw [xwI_ne (by omega), xwI_ne (by omega)]
        by_cases h : j = i
        · subst h
          rw [xwI_at]
          unfold outR
          rw [va_at_ne (by omega), va_at_ne (by omega), va_at_eq]
        · rw [xwI_ne (by omega), outR_ne (by omega) (by omega) (by omega)]
          exact (c j hj).1
      · rw [xwI_ne (by omega), xwI_ne (by omega), xwI_ne (by omega)]; exact (c j hj).2.1
      · rw [xwI_ne (by omega), xwI_ne (by omega), xwI_ne (by omega)]; exact (c j hj).2.2
    · rw [o1] at hj
      rw [xwI_ne (by omega), xwI_ne (by omega), xwI_ne (by omega)]
      exact d j hj hj'
    · rw [o2] at hj
      rw [xwI_ne (by omega)]
      by_cases h : j = ρ (108 + t)
      · subst h
        rw [xwI_at]
        unfold outR
        rw [va_at_ne (by omega), va_at_eq]
      · rw [xwI_ne (by omega), xwI_ne (by omega), outR_ne (by omega) (by omega) (by omega)]
        exact f j (by omega)
  · exact (((Fi.refl _ M).wI (by unfold sdC; omega)).wI (by unfold sdC; omega)).wI (by unfold sdC; omega)
  · intro j hj
    rw [xwI_ne (Or.inr hj), xwI_ne (by omega), xwI_ne (by omega)]
theorem SdR_q {M : xMem} {k t : Nat} {ρ : Nat → Nat} (h : SdR M k t ρ) {j x : Nat} (hx : (qL ρ t)[j]? = some x) : M.1 (k + 4) j = nI x := by
  have hj : j < ρ (108 + t) := by
    have := (List.getElem?_eq_some_iff.mp hx).1
    rw [qL_len] at this
    exact this
  rw [qL_at hj] at hx
  cases hx
  exact h.2.2.2.2 j hj
/-- the loop that leaves one out of the queue -/
theorem s_leave_l {M : xMem} {k t i : Nat} {ρ : Nat → Nat} (hk : xkd k = 7) (hS : SdR M k t ρ) (ht : t < 2) (hR : RW ρ) (hi : i < 10) (K : Int32 → Int32 → xMem → Option xMem) :
    ∃ f : Nat → Int32, fX7_leaveQueue_l4 k (nI i) K xFU (nI 0) (nI 0) M = K (nI ((qL ρ t).filter (· != i)).length) (nI (ρ (108 + t))) (xwR M (k + 4) f) ∧ ∀ j x, ((qL ρ t).filter (· != i))[j]? = some x → f j = nI x := by
  obtain ⟨⟨-, -, -, e3⟩, -, -, -, l4⟩ := sd_rf hk
  have b := hS.2.1
  have hq := hR.q ht
  have hq1 := hq.1
  -- after m steps the row holds what was kept so far, and what is still to come
  have key : ∀ m, m ≤ ρ (108 + t) → ∃ f : Nat → Int32, (∀ j x, (((qL ρ t).take m).filter (· != i))[j]? = some x → f j = nI x) ∧ (∀ j, m ≤ j → j < ρ (108 + t) → f j = nI (ρ (110 + 10 * t + j))) ∧ ∀ n, fX7_leaveQueue_l4 k (nI i) K (n + m) (nI 0) (nI 0) M = fX7_leaveQueue_l4 k (nI i) K n (nI (((qL ρ t).take m).filter (· != i)).length) (nI m) (xwR M (k + 4) f) := by
    intro m
    induction m with
    | zero =>
      intro _
      refine ⟨M.1 (k + 4), fun j x h => by simp at h, fun j _ hj => hS.2.2.2.2 j hj, fun n => ?_⟩
      have : xwR M (k + 4) (M.1 (k + 4)) = M := by
        unfold xwR
        have : va_up M.1 (k + 4) (M.1 (k + 4)) = M.1 := by
          funext c
          unfold va_up
          by_cases h : c = k + 4 <;> simp [h]
        rw [this]
      rw [this]
      simp
    | succ m ih =>
      intro hm
      obtain ⟨f, h1, h2, h3⟩ := ih (by omega)
      have hx := qL_at (ρ := ρ) (t := t) (j := m) (by omega)
      have hle := filter_take_le (qL ρ t) m i
      have hlt := qOk_at hq (j := m) (by omega)
      have hstep : ∀ n, fX7_leaveQueue_l4 k (nI i) K (n + (m + 1)) (nI 0) (nI 0) M = fX7_leaveQueue_l4 k (nI i) K (n + 1) (nI (((qL ρ t).take m).filter (· != i)).length) (nI m) (xwR M (k + 4) f) := fun n => by
        rw [← h3 (n + 1)]
        congr 1
        omega
      have hat : (xwR M (k + 4) f).1 (k + 4) = f := by simp [xwR, va_up]
      have hat5 : (xwR M (k + 4) f).1 k 5 = nI (ρ (108 + t)) := by
        have : (xwR M (k + 4) f).1 k = M.1 k := by simp [xwR, va_up]
        rw [this]; exact b
      rw [take_succ_filter hx]
      by_cases e : ρ (110 + 10 * t + m) = i
      · rw [if_pos e]
        refine ⟨f, h1, fun j hj => h2 j (by omega), fun n => ?_⟩
        rw [hstep n, fX7_leaveQueue_l4.eq_2, e3, l4, hat5, hat]
        refine sF (by rw [eLe (by omega) (by omega)]; omega) (sF (by rw [eLe (by decide) (by omega)]; omega) (sGb m rfl (by omega) (by decide) ?_))
        rw [eCl (by omega), h2 m (Nat.le_refl _) (by omega)]
        exact sT (by rw [e]) (sLe (nI_1 m) rfl)
      · rw [if_neg e]
        refine ⟨upd f (((qL ρ t).take m).filter (· != i)).length (nI (ρ (110 + 10 * t + m))), fun j x hj => ?_, fun j hj hj' => ?_, fun n => ?_⟩
        · unfold upd
          by_cases hjl : j = (((qL ρ t).take m).filter (· != i)).length
          · rw [if_pos hjl]
            rw [hjl, List.getElem?_append_right (Nat.le_refl _)] at hj
            simp at hj
            rw [hj]
          · rw [if_neg hjl]
            have hjlt : j < (((qL ρ t).take m).filter (· != i)).length := by
              have := (List.getElem?_eq_some_iff.mp hj).1
              rw [List.length_append] at this
              simp only [List.length_cons, List.length_nil] at this
              omega
            rw [List.getElem?_append_left hjlt] at hj
            exact h1 j x hj
        · unfold upd
          rw [if_neg (by omega)]
          exact h2 j (by omega) hj'
        · rw [hstep n, fX7_leaveQueue_l4.eq_2, e3, l4, hat5, hat]
          refine sF (by rw [eLe (by omega) (by omega)]; omega) (sF (by rw [eLe (by decide) (by omega)]; omega) (sGb m rfl (by omega) (by decide) ?_))
          rw [eCl (by omega), h2 m (Nat.le_refl _) (by omega)]
          refine sF (by rw [eEq (by omega) (by omega)]; exact e) (sGb m rfl (by omega) (by decide) (sGb _ rfl (by omega) (by decide) ?_))
          rw [eCl (by omega), eLt, List.length_append]
          refine sLe (nI_1 _) (sLe (nI_1 m) ?_)
          congr 1
          unfold xwI
          rw [hat]
          simp only [xwR, bx_uu]
  obtain ⟨f, h1, h2, h3⟩ := key (ρ (108 + t)) (Nat.le_refl _)
  rw [List.take_of_length_le (by rw [qL_len]; exact Nat.le_refl _)] at h1 h3
  refine ⟨f, ?_, h1⟩
  have e : xFU = (39989 + (10 - ρ (108 + t))) + 1 + ρ (108 + t) := by rw [xFU_eq]; omega
  rw [e, h3, fX7_leaveQueue_l4.eq_2]
  have hat5 : (xwR M (k + 4) f).1 k 5 = nI (ρ (108 + t)) := by
    have : (xwR M (k + 4) f).1 k = M.1 k := by simp [xwR, va_up]
    rw [this]; exact b
  rw [hat5]
  exact sT (by rw [eLe (by omega) (by omega)]; exact Nat.le_refl _) rfl
