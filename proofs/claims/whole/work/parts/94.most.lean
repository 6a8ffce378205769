/-! ===== nobody is all out between lines ===== -/
theorem isAll_congr {ρ σ : Nat → Nat} {t : Nat} (hm : ρ (1 + t) ≤ 10) (e : ∀ j, j = 1 + t ∨ j = 108 + t ∨ (48 + 10 * t ≤ j ∧ j < 58 + 10 * t) → σ j = ρ j) : isAll t σ = isAll t ρ := by
  unfold isAll
  rw [e (1 + t) (by omega), e (108 + t) (by omega), mkP_congr (p' := fun i => ρ (48 + 10 * t + i) == 0) (fun i hi => by rw [e _ (by omega)])]
theorem isAll_q {ρ : Nat → Nat} {t : Nat} (h : ρ (108 + t) = 0) : isAll t ρ = false := by
  unfold isAll
  rw [h]
  simp
theorem isAll_on {ρ : Nat → Nat} {t : Nat} (h : mOn t ρ ≠ 0) : isAll t ρ = false := by
  have : (mkP (fun i => ρ (48 + 10 * t + i) == 0) (ρ (1 + t)) == 0) = false := by
    have h' : mkP (fun i => ρ (48 + 10 * t + i) == 0) (ρ (1 + t)) ≠ 0 := h
    simpa using h'
  unfold isAll
  rw [this]
  rfl
theorem mOn_pos {ρ : Nat → Nat} {t i : Nat} (hi : i < ρ (1 + t)) (h : ρ (48 + 10 * t + i) = 0) : mOn t ρ ≠ 0 := by
  intro q
  unfold mOn at q
  rw [mkP_zero] at q
  have := q i hi
  rw [h] at this
  exact absurd this (by decide)
theorem na_all {ρ : Nat → Nat} (h : RT ρ) {t : Nat} (ht : t < 2) : isAll t (allR t ρ) = false := by
  unfold allR
  by_cases q : isAll t ρ = true
  · rw [if_pos q]
    apply isAll_q
    unfold addR
    rw [va_at_ne (by omega)]
    exact (backs_all ht _ h (Nat.le_refl _)).1
  · rw [if_neg q]
    simpa using q
theorem na_raid {ρ : Nat → Nat} {r s b tk : Nat} {tl : List Nat} (h : RT ρ) (hm : rdMay ρ r s tk tl) {t : Nat} (ht : t < 2) : isAll t (raidsR r s b tk tl ρ) = false := by
  have h28 := h.1.1
  have r11 := rt11 (b := b) h hm
  have r10 := rt10 (b := b) h hm
  have r9 := rt9 (b := b) h hm
  rw [isAll_congr (ρ := rd11 r s b tk tl ρ) (r11.1.m ht) (fun j hj => raids_core (by omega) (by omega) (by omega) (by omega) (by omega))]
  by_cases q : t = ρ 28
  · unfold rd11
    rw [q]
    exact na_all r10 h28
  · have e : t = 1 - ρ 28 := by omega
    unfold rd11
    rw [isAll_congr (ρ := rd10 r s b tk tl ρ) (r10.1.m ht) (fun j hj => allR_ne r10.1 h28 (by omega) (by omega) (by omega) (by omega))]
    unfold rd10
    rw [e]
    exact na_all r9 (by omega)
def NA (ρ : Nat → Nat) : Prop := (∀ t, t < 2 → isAll t ρ = false) ∧ (ρ 29 = 1 → ∀ t, t < 2 → isAll t (coreR ρ) = false)
theorem line_29 {ρ : Nat → Nat} : lineR ρ 29 = 0 := by unfold lineR; rw [va_at_eq]
theorem line_al {ρ : Nat → Nat} {t : Nat} (hm : ρ (1 + t) ≤ 10) (ht : t < 2) : isAll t (lineR ρ) = isAll t ρ :=
  isAll_congr hm (fun j hj => by unfold lineR; rw [va_at_ne (by omega), va_at_ne (by omega)])
theorem NA.app {ρ : Nat → Nat} {l : xLn} (h : RI ρ) (hn : NA ρ) (hl : okL l ρ) : NA (appR l ρ) := by
  have hT := h.1.1
  rcases l with ⟨r, s, b, tk, tl⟩ | ⟨k, x, y, z⟩
  · obtain ⟨⟨hm, hr, -⟩, -⟩ := hl
    refine ⟨fun t ht => na_raid hT hm ht, fun _ t ht => ?_⟩
    show isAll t (coreR (raidsR r s b tk tl ρ)) = false
    rw [isAll_congr (ρ := ρ) (hT.1.m ht) (fun j hj => core_raids hT hm hr (by omega))]
    exact hn.1 t ht
  · obtain ⟨h26, ⟨rfl, x1, x2, x3, x4⟩ | ⟨rfl, x1, x2, x3, x4, x5, x6⟩ | ⟨rfl, x1, x2, x3, x4⟩ | ⟨rfl, x1, x2, x3, x4⟩⟩ := hl
    · show NA (cardR x y z ρ)
      have hm := hT.1.m x1
      have r2 : RT (cd2 x y z ρ) := hT.card2 x1 x2 x4
      refine ⟨fun t ht => ?_, fun q => absurd q ?_⟩
      · rw [isAll_congr (ρ := allR x (cd2 x y z ρ)) ((r2.all x1).1.m ht) (fun j hj => card_tm x1 ht (by unfold tmP; omega))]
        by_cases e : t = x
        · rw [e]; exact na_all r2 x1
        · rw [isAll_congr (ρ := cd2 x y z ρ) (r2.1.m ht) (fun j hj => allR_ne r2.1 x1 (by omega) (by omega) (by omega) (by omega))]
          rw [isAll_congr (ρ := ρ) (hT.1.m ht) (fun j hj => ?_)]
          · exact hn.1 t ht
          · have e1 : ∀ j, j < 88 ∨ 108 ≤ j → cd1 x y z ρ j = ρ j := fun j hj => by
              unfold cd1 addR
              split
              · exact va_at_ne (by omega)
              · rfl
            unfold cd2
            split
            · rw [va_at_ne (by omega), va_at_ne (by omega), leaveR_ne (by omega) (by omega), e1 j (by omega)]
            · exact e1 j (by omega)
      · show ¬ lineR (cd3 x y z ρ) 29 = 1
        rw [line_29]; decide
    · show NA (changeR x y z ρ)
      have hm := hT.1.m x1
      have r2 : RT (changeR x y z ρ) := hT.change x1 x2 x3 x4 x5
      have en : ∀ j, j ≠ 26 → j ≠ 29 → j ≠ 32 + x → j ≠ 48 + 10 * x + y → j ≠ 48 + 10 * x + z → changeR x y z ρ j = ρ j := fun j a1 a2 a3 a4 a5 => by
        unfold changeR lineR addR
        rw [va_at_ne (by omega), va_at_ne (by omega), va_at_ne (by omega), va_at_ne (by omega), va_at_ne (by omega)]
      refine ⟨fun t ht => ?_, fun q => absurd q ?_⟩
      · by_cases e : t = x
        · subst e
          apply isAll_on
          apply mOn_pos (i := z)
          · rw [en _ (by omega) (by omega) (by omega) (by omega) (by omega)]
            exact x3
          · unfold changeR lineR addR
            rw [va_at_ne (by omega), va_at_ne (by omega), va_at_ne (by omega), va_at_eq]
        · rw [isAll_congr (ρ := ρ) (hT.1.m ht) (fun j hj => en j (by omega) (by omega) (by omega) (by omega) (by omega))]
          exact hn.1 t ht
      · show ¬ lineR _ 29 = 1
        rw [line_29]; decide
    · show NA (halfR ρ)
      refine ⟨fun t ht => ?_, fun q => absurd q ?_⟩
      · rw [isAll_congr (ρ := ρ) (hT.1.m ht) (fun j hj => ?_)]
        · exact hn.1 t ht
        · unfold halfR lineR
          rw [va_at_ne (by omega), va_at_ne (by omega), va_at_ne (by omega), va_at_ne (by omega), va_at_ne (by omega), va_at_ne (by omega), va_at_ne (by omega), va_at_ne (by omega)]
      · show ¬ lineR _ 29 = 1
        rw [line_29]; decide
    · show NA (reviewR x y ρ)
      refine ⟨fun t ht => ?_, fun q => absurd q ?_⟩
      · unfold reviewR
        by_cases e : y = 1
        · rw [if_pos e]
          have : coreR ρ (1 + t) ≤ 10 := by
            unfold coreR
            rw [if_neg (by omega)]
            exact hT.1.m ht
          rw [line_al this ht]
          exact hn.2 x4 t ht
        · rw [if_neg e]
          have e1 : ∀ j, j ≠ 34 + x → va_up ρ (34 + x) 1 j = ρ j := fun j hj => va_at_ne hj
          rw [line_al (by rw [e1 _ (by omega)]; exact hT.1.m ht) ht, isAll_congr (ρ := ρ) (hT.1.m ht) (fun j hj => e1 j (by omega))]
          exact hn.1 t ht
      · show ¬ lineR _ 29 = 1
        rw [line_29]; decide
theorem NA.row : ∀ {ls : List xLn} {ρ : Nat → Nat}, RI ρ → NA ρ → okC ρ ls → NA (rowF ρ ls)
  | [], _, _, h, _ => h
  | l :: ls, ρ, hI, h, hc => NA.row (ls := ls) (hI.app hc.1) (h.app hI hc.1) hc.2
theorem NA.td {a : xTl} (h : tdOK a) : NA (rowT a) := by
  refine NA.row (RI.beg h.1) ⟨fun t ht => isAll_q (beg_0 (by omega) (by omega)), fun q => ?_⟩ h.2
  rw [beg_0 (by decide) (by decide)] at q
  exact absurd q (by decide)
theorem own_0 {ρ : Nat → Nat} {r : Nat} (hT : RT ρ) (hr : r < 10) (hq : ρ (108 + (1 - ρ 28)) = 0) : ownR r 0 0 0 [] ρ = 0 := by
  have h28 := hT.1.1
  have e0 : recR r 0 0 0 [] ρ (108 + (1 - ρ 28)) = 0 := by rw [rec_lo (by omega)]; exact hq
  have e0' : recR r 0 0 0 [] ρ (108 + ρ 28) = ρ (108 + ρ 28) := rec_lo (by omega)
  have e1 : rd1 r 0 0 0 [] ρ = recR r 0 0 0 [] ρ := by unfold rd1; rw [if_neg (by decide)]
  have e2 : rd2 r 0 0 0 [] ρ (108 + (1 - ρ 28)) = 0 := by
    unfold rd2
    rw [e1]
    split
    · rw [outR_ne (by omega) (by have := hT.q9 h28; rw [e0']; omega) (by omega)]
      exact e0
    · exact e0
  have e4 : rd4 r 0 0 0 [] ρ (108 + (1 - ρ 28)) = 0 := by
    unfold rd4 rd3
    rw [if_neg (by decide), if_neg (by decide)]
    exact e2
  have e7 : rd7 r 0 0 0 [] ρ (108 + (1 - ρ 28)) = 0 := by
    unfold rd7
    rw [if_neg (by omega)]
    unfold rd6
    have e5 : rd5 r 0 0 0 [] ρ = rd4 r 0 0 0 [] ρ := by unfold rd5; rw [if_neg (by omega)]
    rw [e5]
    split
    · unfold addR
      rw [va_at_ne (by have : (if (0 : Nat) = 3 then 2 else 5) = 5 := rfl; omega)]
      exact e4
    · exact e4
  have e8 : rd8 r 0 0 0 [] ρ (108 + (1 - ρ 28)) = 0 := by
    unfold rd8
    split
    · unfold backR
      rw [if_pos e7]
      exact e7
    · exact e7
  have e9 : rd9 r 0 0 0 [] ρ (108 + (1 - ρ 28)) = 0 := by
    have hm : rdMay ρ r 0 0 [] → True := fun _ => trivial
    unfold rd9
    have e : ∀ j, j < 130 → va_up (rd8 r 0 0 0 [] ρ) (235 + 15 * ρ 25 + 8) (rb8 r 0 0 0 [] ρ) j = rd8 r 0 0 0 [] ρ j := fun j hj => va_at_ne (by omega)
    have lo : ∀ j, j < 3 → 1 ≤ j → rd8 r 0 0 0 [] ρ j = ρ j := by
      intro j hj h1
      have l0 : recR r 0 0 0 [] ρ j = ρ j := rec_lo (by omega)
      have l2 : rd2 r 0 0 0 [] ρ j = ρ j := by
        unfold rd2
        rw [e1]
        split
        · rw [outR_ne (by omega) (by have := hT.q9 h28; rw [e0']; omega) (by omega)]
          exact l0
        · exact l0
      have l7 : rd7 r 0 0 0 [] ρ j = ρ j := by
        unfold rd7
        rw [if_neg (by omega)]
        unfold rd6
        have e5 : rd5 r 0 0 0 [] ρ = rd2 r 0 0 0 [] ρ := by
          unfold rd5 rd4 rd3
          rw [if_neg (by omega), if_neg (by decide), if_neg (by decide)]
        rw [e5]
        split
        · unfold addR
          rw [va_at_ne (by omega)]
          exact l2
        · exact l2
      unfold rd8
      split
      · unfold backR
        rw [if_pos e7]
        exact l7
      · exact l7
    rw [waitsR_ne (by rw [e 1 (by decide), lo 1 (by decide) (by decide)]; exact hT.1.m (t := 0) (by decide)) (by rw [e 2 (by decide), lo 2 (by decide) (by decide)]; exact hT.1.m (t := 1) (by decide)) (by omega), e _ (by omega)]
    exact e8
  unfold ownR
  rw [isAll_q e9]
  rfl
