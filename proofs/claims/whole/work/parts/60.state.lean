/-! ===== the class: what is asked of a state ===== -/
/-- bounds of a row -/
def BD (ρ : Nat → Nat) : Prop := ρ 25 ≤ 200 ∧ ρ 26 ≤ 40 ∧ ρ 27 ≤ 2 ∧ ρ 29 ≤ 1 ∧ ∀ t, t < 2 → ρ (30 + t) < 3 ∧ ρ (32 + t) ≤ 5 ∧ ρ (34 + t) ≤ 1 ∧ scR t ρ ≤ 20 * (ρ 25 + ρ 26) ∧ ∀ i, i < 10 → ρ (88 + 10 * t + i) ≤ ρ 26
def ovR (ρ : Nat → Nat) : Nat := if ρ 27 = 2 then 1 else 0
theorem s_isOver {M : xMem} {k : Nat} {ρ : Nat → Nat} (hS : StR M k ρ) (hB : BD ρ) : fX8_isOver k M = some (nI (ovR ρ), M) := by
  have h27 := hB.2.2.1
  unfold fX8_isOver ovR
  rw [hS.2.1]
  by_cases e : ρ 27 = 2
  · exact sF (by rw [eLtI (by omega) (by decide)]; omega) (by rw [if_pos e])
  · exact sT (by rw [eLtI (by omega) (by decide)]; omega) (by rw [if_neg e])
theorem ovR_le (ρ : Nat → Nat) : ovR ρ = 0 ∨ ovR ρ = 1 := by unfold ovR; split <;> simp
def boR (ρ : Nat → Nat) : Nat := if 6 ≤ pcn (mOn (1 - ρ 28) ρ) then 1 else 0
theorem boR_le (ρ : Nat → Nat) : boR ρ = 0 ∨ boR ρ = 1 := by unfold boR; split <;> simp
theorem s_isBonusOpen {M : xMem} {k : Nat} {ρ : Nat → Nat} (hk : xkd k = 8) (hS : StR M k ρ) (hR : RW ρ) : fX8_isBonusOpen k M = some (nI (boR ρ), M) := by
  have ht := hR.1
  have hp := pcn_le _ (mOn_lt (ρ := ρ) (t := 1 - ρ 28) (hR.m (by omega)))
  unfold fX8_isBonusOpen boR
  rw [s_away hk hS.1 ht, eBn, s_countOf ((st_rf hk).2.2.2 _ (by omega)) (hS.2.2.2.2 _ (by omega)).1 (by omega) hR (by decide), eBn]
  show (if nI (pcn (mOn (1 - ρ 28) ρ)) < nI 6 then _ else _) = _
  by_cases e : 6 ≤ pcn (mOn (1 - ρ 28) ρ)
  · exact sF (by rw [eLtI (by omega) (by decide)]; omega) (by rw [if_pos e])
  · exact sT (by rw [eLtI (by omega) (by decide)]; omega) (by rw [if_neg e])
theorem s_leadOf {M : xMem} {k t : Nat} {ρ : Nat → Nat} (hk : xkd k = 8) (hS : StR M k ρ) (ht : t < 2) : fX8_leadOf k (nI t) M = some (nI (scR t ρ) - nI (scR (1 - t) ρ), M) := by
  obtain ⟨a, b, c, -⟩ := st_rf hk
  unfold fX8_leadOf
  rw [a, b, eSub (by omega)]
  refine sGb t rfl ht (by decide) (sGb (1 - t) rfl (by omega) (by decide) ?_)
  rw [eCl (by omega), eCl (by omega), c t ht, c (1 - t) (by omega), (hS.2.2.2.2 t ht).2.1, (hS.2.2.2.2 (1 - t) (by omega)).2.1]
/-- the first place where p holds, n if there is none -/
def fsP (p : Nat → Bool) : Nat → Nat
  | 0 => 0
  | n + 1 => if fsP p n < n then fsP p n else if p n then n else n + 1
theorem fsP_le (p : Nat → Bool) : ∀ n, fsP p n ≤ n
  | 0 => Nat.le_refl _
  | n + 1 => by unfold fsP; split <;> (try split) <;> omega
theorem fsP_at (p : Nat → Bool) : ∀ n, fsP p n < n → p (fsP p n) = true
  | 0, h => by unfold fsP at h; omega
  | n + 1, h => by
    unfold fsP at h ⊢
    by_cases h1 : fsP p n < n
    · rw [if_pos h1] at h ⊢
      exact fsP_at p n h1
    · rw [if_neg h1] at h ⊢
      by_cases h2 : p n = true
      · rw [if_pos h2]; exact h2
      · rw [if_neg h2] at h; omega
theorem fsP_no (p : Nat → Bool) : ∀ n i, i < fsP p n → p i = false
  | 0, i, h => by unfold fsP at h; omega
  | n + 1, i, h => by
    unfold fsP at h
    by_cases h1 : fsP p n < n
    · rw [if_pos h1] at h
      exact fsP_no p n i h
    · rw [if_neg h1] at h
      have h3 := fsP_le p n
      by_cases h2 : p n = true
      · rw [if_pos h2] at h
        exact fsP_no p n i (by omega)
      · rw [if_neg h2] at h
        by_cases h4 : i = n
        · rw [h4]; simpa using h2
        · exact fsP_no p n i (by omega)
theorem fsP_eq {p : Nat → Bool} {n i : Nat} (h1 : i < n) (h2 : p i = true) (h3 : ∀ j, j < i → p j = false) : fsP p n = i := by
  have a := fsP_le p n
  by_cases c : fsP p n < i
  · have := h3 _ c
    rw [fsP_at p n (by omega)] at this
    exact absurd this (by decide)
  · by_cases d : i < fsP p n
    · have := fsP_no p n i d
      rw [h2] at this
      exact absurd this (by decide)
    · omega
theorem mkP_bit {p : Nat → Bool} {i : Nat} : ∀ {n : Nat}, mkP p n / 2 ^ i % 2 = if i < n ∧ p i = true then 1 else 0
  | 0 => by simp [mkP]
  | n + 1 => by
    have ih := mkP_bit (p := p) (i := i) (n := n)
    have hlt := mkP_lt p n
    unfold mkP
    by_cases hi : i < n
    · have e : ∃ q, (if p n = true then 2 ^ n else 0) = 2 * (2 ^ i * q) := by
        split
        · refine ⟨2 ^ (n - i - 1), ?_⟩
          rw [← Nat.pow_add, ← Nat.pow_succ']
          congr 1
          omega
        · exact ⟨0, by simp⟩
      obtain ⟨q, hq⟩ := e
      rw [hq, show mkP p n + 2 * (2 ^ i * q) = mkP p n + 2 ^ i * (2 * q) by rw [Nat.mul_left_comm], Nat.add_mul_div_left _ _ (Nat.two_pow_pos i), Nat.add_mul_mod_self_left, ih]
      by_cases h : p i = true
      · rw [if_pos ⟨hi, h⟩, if_pos ⟨by omega, h⟩]
      · rw [if_neg (fun q => h q.2), if_neg (fun q => h q.2)]
    · by_cases hn : i = n
      · subst hn
        by_cases h : p i = true
        · rw [if_pos h, if_pos ⟨by omega, h⟩, Nat.add_div_right _ (Nat.two_pow_pos i), Nat.div_eq_of_lt hlt]
        · rw [if_neg h, if_neg (fun q => h q.2), Nat.add_zero, Nat.div_eq_of_lt hlt]
      · rw [if_neg (c := i < n + 1 ∧ p i = true) (fun q => by omega)]
        have : mkP p n + (if p n = true then 2 ^ n else 0) < 2 ^ i := by
          have := mkP_lt p (n + 1)
          unfold mkP at this
          exact Nat.lt_of_lt_of_le this (Nat.pow_le_pow_right (by decide) (by omega))
        rw [Nat.div_eq_of_lt this]
theorem mkP_zero {p : Nat → Bool} {n : Nat} : mkP p n = 0 ↔ ∀ i, i < n → p i = false := by
  constructor
  · intro h i hi
    have := mkP_bit (p := p) (i := i) (n := n)
    rw [h] at this
    by_cases q : p i = true
    · rw [if_pos ⟨hi, q⟩] at this; simp at this
    · simpa using q
  · intro h
    have : ∀ m, m ≤ n → mkP p m = 0 := by
      intro m
      induction m with
      | zero => intro _; rfl
      | succ m ih =>
        intro hm
        unfold mkP
        rw [ih (by omega), h m (by omega)]; rfl
    exact this n (Nat.le_refl _)
theorem fsP_ext {p q : Nat → Bool} : ∀ {n : Nat}, (∀ i, i < n → p i = q i) → fsP p n = fsP q n
  | 0, _ => rfl
  | n + 1, h => by
    unfold fsP
    rw [fsP_ext (fun i hi => h i (by omega)), h n (by omega)]
theorem e_ntzC : ∀ v, v < 1024 → v ≠ 0 → (fJ6_numberOfTrailingZeros_0f7a4 (nI v) (fun _ _ => 0, fun _ _ => 0, false, fun _ => 0)).map (fun q => q.1) = some (nI (fsP (fun i => v / 2 ^ i % 2 == 1) 10)) := by decide +kernel
theorem e_ntz0 {v : Int32} {M N : xMem} : (fJ6_numberOfTrailingZeros_0f7a4 v M) = (fJ6_numberOfTrailingZeros_0f7a4 v N).map (fun q => (q.1, M)) := by
  unfold fJ6_numberOfTrailingZeros_0f7a4
  simp only [eLt]
  repeat' split
  all_goals rfl
theorem e_ntz {p : Nat → Bool} {n : Nat} {M : xMem} (hn : n ≤ 10) (h : mkP p n ≠ 0) : fJ6_numberOfTrailingZeros_0f7a4 (nI (mkP p n)) M = some (nI (fsP p n), M) := by
  have h1 := e_ntzC (mkP p n) (mk_lt hn) h
  rw [e_ntz0 (N := (fun _ _ => 0, fun _ _ => 0, false, fun _ => 0))]
  have e : fsP (fun i => mkP p n / 2 ^ i % 2 == 1) 10 = fsP p n := by
    have hlt : fsP p n < n := by
      by_cases c : fsP p n < n
      · exact c
      · exfalso
        apply h
        rw [mkP_zero]
        intro i hi
        have := fsP_le p n
        exact fsP_no p n i (by omega)
    refine fsP_eq (by omega) ?_ (fun j hj => ?_)
    · rw [mkP_bit, if_pos ⟨hlt, fsP_at p n hlt⟩]; rfl
    · rw [mkP_bit, if_neg (fun q => by rw [fsP_no p n j hj] at q; exact absurd q.2 (by decide))]; rfl
  rw [e] at h1
  cases hh : fJ6_numberOfTrailingZeros_0f7a4 (nI (mkP p n)) (fun _ _ => 0, fun _ _ => 0, false, fun _ => 0) with
  | none => rw [hh] at h1; simp at h1
  | some q => rw [hh] at h1; simp at h1; simp [h1]
/-- the first one who is on; the team's size if nobody is -/
def fOn (t : Nat) (ρ : Nat → Nat) : Nat := fsP (fun i => ρ (48 + 10 * t + i) == 0) (ρ (1 + t))
theorem fOn_lt {t : Nat} {ρ : Nat → Nat} : fOn t ρ < ρ (1 + t) ↔ mOn t ρ ≠ 0 := by
  unfold fOn mOn
  constructor
  · intro h q
    rw [mkP_zero] at q
    have := fsP_at _ _ h
    rw [q _ h] at this
    exact absurd this (by decide)
  · intro h
    have := fsP_le (fun i => ρ (48 + 10 * t + i) == 0) (ρ (1 + t))
    by_cases c : fsP (fun i => ρ (48 + 10 * t + i) == 0) (ρ (1 + t)) < ρ (1 + t)
    · exact c
    · exfalso
      apply h
      rw [mkP_zero]
      intro i hi
      exact fsP_no (fun i => ρ (48 + 10 * t + i) == 0) (ρ (1 + t)) i (by omega)
theorem fOn_on {t : Nat} {ρ : Nat → Nat} (h : fOn t ρ < ρ (1 + t)) : ρ (48 + 10 * t + fOn t ρ) = 0 := by
  have := fsP_at (fun i => ρ (48 + 10 * t + i) == 0) (ρ (1 + t)) h
  simpa [fOn] using this
def loR (ρ : Nat → Nat) : Int32 := if mOn (ρ 28) ρ = 0 then -1 else nI (fOn (ρ 28) ρ)
theorem s_leastOn {M : xMem} {k : Nat} {ρ : Nat → Nat} (hk : xkd k = 8) (hS : StR M k ρ) (hR : RW ρ) : fX8_leastOn k M = some (loR ρ, M) := by
  have ht := hR.1
  have hm := mOn_lt (ρ := ρ) (t := ρ 28) (hR.m ht)
  unfold fX8_leastOn loR
  rw [s_home hk hS.1 ht, eBn, s_maskOf ((st_rf hk).2.2.2 _ ht) (hS.2.2.2.2 _ ht).1 ht hR (by decide), eBn]
  show (if nI (mOn (ρ 28) ρ) = 0 then _ else _) = _
  by_cases e : mOn (ρ 28) ρ = 0
  · exact sT (by rw [e]; decide) (by rw [if_pos e])
  · refine sF (eN0 (by omega) e) ?_
    rw [if_neg e, e_ntz (hR.m ht) e, eBn]
    rfl
theorem StR.stat {M : xMem} {k t i : Nat} {ρ : Nat → Nat} (hS : StR M k ρ) (ht : t < 2) (hi : i < ρ (1 + t)) : M.1 (k + 2 + 5 * t + 1) i = nI (ρ (48 + 10 * t + i)) := ((hS.2.2.2.2 t ht).1.2.2.1 i hi).1
theorem sd_0 {k t : Nat} (hk : xkd k = 8) (ht : t < 2) : xrf (k + 2 + 5 * t) 0 = k + 2 + 5 * t + 1 ∧ xln (k + 2 + 5 * t + 1) = 10 := by
  obtain ⟨a, b, c, d⟩ := st_rf hk
  have := sd_rf (d t ht)
  exact ⟨this.1.1, this.2.1⟩
theorem s_canSend {M : xMem} {k r : Nat} {ρ : Nat → Nat} (hk : xkd k = 8) (hS : StR M k ρ) (hR : RW ρ) (hB : BD ρ) (hr : r < ρ (1 + ρ 28)) : fX8_canSend k (nI r) M = some (nI (if ovR ρ = 0 ∧ ρ (48 + 10 * ρ 28 + r) = 0 then 1 else 0), M) := by
  have ht := hR.1
  have hm := hR.m ht
  obtain ⟨e0, l0⟩ := sd_0 hk ht
  have hst := ((hR.2 _ ht).2.1 r (by omega)).1
  unfold fX8_canSend
  rw [s_isOver hS hB, eBn]
  rcases ovR_le ρ with e | e
  · refine sT (by rw [e]; decide) (sBn (s_home hk hS.1 ht) ?_)
    rw [e0, l0]
    refine sGb r rfl (by omega) (by decide) ?_
    rw [eCl (by omega), hS.stat ht hr]
    by_cases q : ρ (48 + 10 * ρ 28 + r) = 0
    · exact sT (by rw [q]; decide) (by rw [if_pos ⟨e, q⟩])
    · exact sF (eN0 (by omega) q) (by rw [if_neg (fun z => q z.2)])
  · exact sF (by rw [e]; decide) (by rw [if_neg (by omega)])
def csR (t i c : Nat) (ρ : Nat → Nat) : Nat := if ovR ρ = 0 ∧ (ρ (48 + 10 * t + i) = 0 ∨ ρ (48 + 10 * t + i) = 1 ∨ (ρ (48 + 10 * t + i) = 3 ∧ c = 2)) then 1 else 0
theorem s_canShow {M : xMem} {k t i c : Nat} {ρ : Nat → Nat} (hk : xkd k = 8) (hS : StR M k ρ) (hR : RW ρ) (hB : BD ρ) (ht : t < 2) (hi : i < ρ (1 + t)) (hc : c < 3) : fX8_canShow k (nI t) (nI i) (nI c) M = some (nI (csR t i c ρ), M) := by
  have hm := hR.m ht
  obtain ⟨a, b, cc, -⟩ := st_rf hk
  obtain ⟨e0, l0⟩ := sd_0 hk ht
  have hst := ((hR.2 _ ht).2.1 i (by omega)).1
  unfold fX8_canShow
  rw [a, b]
  refine sGb t rfl ht (by decide) ?_
  rw [eCl (by omega), cc t ht, e0, l0]
  refine sGb i rfl (by omega) (by decide) ?_
  rw [eCl (by omega), hS.stat ht hi]
  refine sLt ?_
  refine sJw (nI (if ρ (48 + 10 * t + i) = 0 ∨ ρ (48 + 10 * t + i) = 1 ∨ (ρ (48 + 10 * t + i) = 3 ∧ c = 2) then 1 else 0)) M (fun J => ?_) ?_
  · generalize ρ (48 + 10 * t + i) = x at *
    rcases (show x = 0 ∨ x = 1 ∨ x = 2 ∨ x = 3 ∨ x = 4 by omega) with rfl | rfl | rfl | rfl | rfl <;> rcases (show c = 0 ∨ c = 1 ∨ c = 2 by omega) with rfl | rfl | rfl <;> rfl
  · refine sBn (s_isOver hS hB) ?_
    unfold csR
    rcases ovR_le ρ with e | e
    · refine sT (by rw [e]; decide) ?_
      simp only [e, true_and]
      split
      · exact sF (by decide) rfl
      · exact sT (by decide) rfl
    · exact sF (by rw [e]; decide) (by rw [if_neg (fun q => by omega)])
def clR (t i : Nat) (ρ : Nat → Nat) : Nat := if ovR ρ = 0 ∧ ρ (32 + t) < 5 ∧ ρ (48 + 10 * t + i) = 0 then 1 else 0
theorem s_canLeave {M : xMem} {k t i : Nat} {ρ : Nat → Nat} (hk : xkd k = 8) (hS : StR M k ρ) (hR : RW ρ) (hB : BD ρ) (ht : t < 2) (hi : i < ρ (1 + t)) : fX8_canLeave k (nI t) (nI i) M = some (nI (clR t i ρ), M) := by
  have hm := hR.m ht
  obtain ⟨a, b, cc, -⟩ := st_rf hk
  obtain ⟨e0, l0⟩ := sd_0 hk ht
  have hst := ((hR.2 _ ht).2.1 i (by omega)).1
  have h5 := (hB.2.2.2.2 t ht).2.1
  unfold fX8_canLeave clR
  rw [a, b]
  refine sGb t rfl ht (by decide) (sBn (s_isOver hS hB) ?_)
  rcases ovR_le ρ with e | e
  · refine sT (by rw [e]; decide) ?_
    rw [eCl (by omega), cc t ht, (hS.2.2.2.2 t ht).2.2.2.1, e0, l0]
    by_cases q : ρ (32 + t) < 5
    · refine sF (by rw [eLe (by decide) (by omega)]; omega) (sGb i rfl (by omega) (by decide) ?_)
      rw [eCl (by omega), hS.stat ht hi]
      by_cases q2 : ρ (48 + 10 * t + i) = 0
      · exact sT (by rw [q2]; decide) (by rw [if_pos ⟨e, q, q2⟩])
      · exact sF (eN0 (by omega) q2) (by rw [if_neg (fun z => q2 z.2.2)])
    · exact sT (by rw [eLe (by decide) (by omega)]; omega) (by rw [if_neg (fun z => q z.2.1)])
  · exact sF (by rw [e]; decide) (by rw [if_neg (by omega)])
theorem s_canEnter {M : xMem} {k t i : Nat} {ρ : Nat → Nat} (hk : xkd k = 8) (hS : StR M k ρ) (hR : RW ρ) (ht : t < 2) (hi : i < ρ (1 + t)) : fX8_canEnter k (nI t) (nI i) M = some (nI (if ρ (48 + 10 * t + i) = 2 then 1 else 0), M) := by
  have hm := hR.m ht
  obtain ⟨a, b, cc, -⟩ := st_rf hk
  obtain ⟨e0, l0⟩ := sd_0 hk ht
  have hst := ((hR.2 _ ht).2.1 i (by omega)).1
  unfold fX8_canEnter
  rw [a, b]
  refine sGb t rfl ht (by decide) ?_
  rw [eCl (by omega), cc t ht, e0, l0]
  refine sGb i rfl (by omega) (by decide) ?_
  rw [eCl (by omega), hS.stat ht hi]
  by_cases q2 : ρ (48 + 10 * t + i) = 2
  · exact sT (by rw [q2]) (by rw [if_pos q2])
  · exact sF (by rw [eEq (by omega) (by decide)]; exact q2) (by rw [if_neg q2])
def caR (t : Nat) (ρ : Nat → Nat) : Nat := if ovR ρ = 0 ∧ ρ 29 = 1 ∧ ρ (34 + t) = 0 then 1 else 0
theorem s_canAsk {M : xMem} {k t : Nat} {ρ : Nat → Nat} (hk : xkd k = 8) (hS : StR M k ρ) (hB : BD ρ) (ht : t < 2) : fX8_canAsk k (nI t) M = some (nI (caR t ρ), M) := by
  obtain ⟨a, b, cc, -⟩ := st_rf hk
  have h29 := hB.2.2.2.1
  have h34 := (hB.2.2.2.2 t ht).2.2.1
  unfold fX8_canAsk caR
  refine sBn (s_isOver hS hB) ?_
  rcases ovR_le ρ with e | e
  · refine sT (by rw [e]; decide) ?_
    rw [hS.2.2.2.1]
    by_cases q : ρ 29 = 1
    · refine sF (eN0 (by omega) (by omega)) ?_
      rw [a, b]
      refine sGb t rfl ht (by decide) ?_
      rw [eCl (by omega), cc t ht, (hS.2.2.2.2 t ht).2.2.2.2]
      by_cases q2 : ρ (34 + t) = 0
      · exact sT (by rw [q2]; decide) (by rw [if_pos ⟨e, q, q2⟩])
      · exact sF (eN0 (by omega) q2) (by rw [if_neg (fun z => q2 z.2.2)])
    · have : ρ 29 = 0 := by omega
      exact sT (by rw [this]; decide) (by rw [if_neg (fun z => q z.2.1)])
  · exact sF (by rw [e]; decide) (by rw [if_neg (by omega)])
