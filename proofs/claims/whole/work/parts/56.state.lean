/-! ===== the class: a state ===== -/
theorem st_tab : ∀ k, k < 154 → xkd k = 8 → xrf k 0 = k + 1 ∧ xln (k + 1) = 2 ∧ xrf (k + 1) 0 = k + 2 ∧ xrf (k + 1) 1 = k + 7 ∧ xkd (k + 2) = 7 ∧ xkd (k + 7) = 7 := by decide +kernel
theorem st_rf {k : Nat} (h : xkd k = 8) : xrf k 0 = k + 1 ∧ xln (k + 1) = 2 ∧ (∀ t, t < 2 → xrf (k + 1) t = k + 2 + 5 * t) ∧ ∀ t, t < 2 → xkd (k + 2 + 5 * t) = 7 := by
  obtain ⟨a, b, c, d, e, f⟩ := st_tab k (xkd_lt (by omega)) h
  refine ⟨a, b, fun t ht => ?_, fun t ht => ?_⟩
  · rcases (show t = 0 ∨ t = 1 by omega) with rfl | rfl
    · exact c
    · exact d
  · rcases (show t = 0 ∨ t = 1 by omega) with rfl | rfl
    · exact e
    · exact f
theorem s_home {M : xMem} {k t : Nat} (hk : xkd k = 8) (h : M.1 k 1 = nI t) (ht : t < 2) : fX8_home k M = some (k + 2 + 5 * t, M) := by
  obtain ⟨a, b, c, -⟩ := st_rf hk
  unfold fX8_home
  rw [a, b, h, eGb ht (by decide), eCl (by omega), c t ht]
theorem s_away {M : xMem} {k t : Nat} (hk : xkd k = 8) (h : M.1 k 1 = nI t) (ht : t < 2) : fX8_away k M = some (k + 2 + 5 * (1 - t), M) := by
  obtain ⟨a, b, c, -⟩ := st_rf hk
  unfold fX8_away
  rw [a, b, h, eSub (by omega), eGb (by omega) (by decide), eCl (by omega), c (1 - t) (by omega)]
/-- a state holds the core of a row -/
def StR (M : xMem) (k : Nat) (ρ : Nat → Nat) : Prop :=
  M.1 k 1 = nI (ρ 28) ∧ M.1 k 2 = nI (ρ 27) ∧ M.1 k 3 = nI (ρ 26) ∧ M.1 k 4 = nI (ρ 29) ∧
  ∀ t, t < 2 → SdR M (k + 2 + 5 * t) t ρ ∧ M.1 (k + 2 + 5 * t) 6 = nI (scR t ρ) ∧ M.1 (k + 2 + 5 * t) 7 = nI (ρ (30 + t)) ∧ M.1 (k + 2 + 5 * t) 8 = nI (ρ (32 + t)) ∧ M.1 (k + 2 + 5 * t) 9 = nI (ρ (34 + t))
/-- a plan holds a raid -/
def PlR (M : xMem) (p r s b tk : Nat) (tl : List Nat) : Prop :=
  M.1 p 0 = nI r ∧ M.1 p 1 = nI s ∧ (s = 3 → M.1 p 2 = nI tk) ∧ M.1 p 3 = nI b ∧ M.1 p 4 = nI tl.length ∧ (∀ j (x : Nat), tl[j]? = some x → M.1 (p + 1) j = nI x) ∧ (s ≠ 1 → tl = []) ∧ r < 10 ∧ s < 5 ∧ b < 2 ∧ tk < 10
theorem PlR.keep {M M' : xMem} {p r s b tk : Nat} {tl : List Nat} (h : PlR M p r s b tk tl) (e : ∀ c, c = p ∨ c = p + 1 → M'.1 c = M.1 c) : PlR M' p r s b tk tl := by
  unfold PlR
  rw [e p (Or.inl rfl), e (p + 1) (Or.inr rfl)]
  exact h
theorem pl_tab : ∀ p, p < 154 → xkd p = 4 → xrf p 5 = p + 1 ∧ xln (p + 1) = 7 ∧ ((58 ≤ p ∧ p < 63) ∨ 144 ≤ p) := by decide +kernel
theorem pl_rf {p : Nat} (h : xkd p = 4) : xrf p 5 = p + 1 ∧ xln (p + 1) = 7 ∧ ((58 ≤ p ∧ p < 63) ∨ 144 ≤ p) := pl_tab p (xkd_lt (by omega)) h
theorem st_at : ∀ k, k < 154 → xkd k = 8 → k = 12 ∨ k = 46 ∨ k = 132 := by decide +kernel
theorem st_is {k : Nat} (h : xkd k = 8) : k = 12 ∨ k = 46 ∨ k = 132 := st_at k (xkd_lt (by omega)) h
/-- may the raid be made -/
def rdMay (ρ : Nat → Nat) (r s tk : Nat) (tl : List Nat) : Prop := r < ρ (1 + ρ 28) ∧ ρ (48 + 10 * ρ 28 + r) = 0 ∧ tl.Nodup ∧ (∀ x ∈ tl, x < ρ (1 + (1 - ρ 28)) ∧ ρ (48 + 10 * (1 - ρ 28) + x) = 0) ∧ (s = 1 → tl ≠ [])
theorem rdMay.len {ρ : Nat → Nat} {r s tk : Nat} {tl : List Nat} (h : rdMay ρ r s tk tl) (hR : RT ρ) : ρ (108 + (1 - ρ 28)) + tl.length ≤ 7 := (hR.2 (1 - ρ 28) (by have := hR.1.1; omega)).q7' h.2.2.1 h.2.2.2.1
theorem s_isRaiderLost {M : xMem} {k p r s b tk : Nat} {tl : List Nat} {ρ : Nat → Nat} (hk : xkd k = 8) (hS : StR M k ρ) (hP : PlR M p r s b tk tl) (ht : ρ 28 < 2) (he : ρ (30 + ρ 28) < 3) : fX8_isRaiderLost k p M = some (nI (otR s ρ), M) := by
  have hs := hP.2.2.2.2.2.2.2.2.1
  have hm : fX8_mustScore k M = some (nI (muR ρ), M) := by
    unfold fX8_mustScore
    rw [s_home hk hS.1 ht, eBn, (hS.2.2.2.2 (ρ 28) ht).2.2.1]
    unfold muR
    by_cases h : ρ (30 + ρ 28) = 2
    · exact sT (by rw [h]) (by rw [if_pos h])
    · exact sF (by rw [eEq (by omega) (by decide)]; exact h) (by rw [if_neg h])
  unfold fX8_isRaiderLost
  have hmu := muR_le ρ
  refine sJw (nI (if s = 0 then muR ρ else 0)) M (fun J => ?_) ?_
  · rw [hP.2.1]
    by_cases e : s = 0
    · refine sT (by rw [e]; decide) ?_
      rw [hm, eBn, if_pos e]
      rcases hmu with h | h
      · exact sT (by rw [h]; decide) (by rw [h])
      · exact sF (by rw [h]; decide) (by rw [h])
    · exact sF (eN0 (by omega) e) (by rw [if_neg e])
  · rw [hP.2.1]
    unfold otR
    rcases hmu with h | h <;> rw [h] <;> rcases (show s = 0 ∨ s = 1 ∨ s = 2 ∨ s = 3 ∨ s = 4 by omega) with rfl | rfl | rfl | rfl | rfl <;> rfl
theorem s_isSuper {M : xMem} {k p r s b tk : Nat} {tl : List Nat} {ρ σ : Nat → Nat} (hk : xkd k = 8) (ht : ρ 28 < 2) (h1 : M.1 k 1 = nI (ρ 28)) (hS : SdR M (k + 2 + 5 * (1 - ρ 28)) (1 - ρ 28) σ) (hR : RW σ) (hm : mOn (1 - ρ 28) σ = mOn (1 - ρ 28) ρ) (hP : PlR M p r s b tk tl) : fX8_isSuper k p M = some (nI (if s = 3 ∧ pcn (mOn (1 - ρ 28) ρ) ≤ 3 then 1 else 0), M) := by
  have hs := hP.2.2.2.2.2.2.2.2.1
  unfold fX8_isSuper
  rw [hP.2.1]
  by_cases e : s = 3
  · refine sT (by rw [e]) ?_
    rw [s_away hk h1 ht, eBn, s_countOf ((st_rf hk).2.2.2 _ (by omega)) hS (by omega) hR (by decide), eBn]
    have hp := pcn_le _ (mOn_lt (ρ := σ) (t := 1 - ρ 28) (hR.m (by omega)))
    rw [hm] at hp
    show (if nI 3 < nI (pcn (mOn (1 - ρ 28) σ)) then _ else _) = _
    rw [hm]
    by_cases e2 : pcn (mOn (1 - ρ 28) ρ) ≤ 3
    · exact sF (by rw [eLtI (by decide) (by omega)]; omega) (by rw [if_pos ⟨e, e2⟩])
    · exact sT (by rw [eLtI (by decide) (by omega)]; omega) (by rw [if_neg (fun q => e2 q.2)])
  · exact sF (by rw [eEq (by omega) (by decide)]; exact e) (by rw [if_neg (fun q => e q.1)])
/-- the cells of a state -/
def stC (k c : Nat) : Prop := k ≤ c ∧ c < k + 12
/-- both sides, and whose turn it is, as a row says -/
def St0 (M : xMem) (k t : Nat) (ρ : Nat → Nat) : Prop := M.1 k 1 = nI t ∧ ∀ u, u < 2 → SdR M (k + 2 + 5 * u) u ρ
/-- what the steps of a raid keep: cells outside, the sides' scalars but 'outs' -/
def stK (k : Nat) (M M' : xMem) : Prop := Fi (stC k) M M' ∧ ∀ u, u < 2 → ∀ j, j ≠ 5 → M'.1 (k + 2 + 5 * u) j = M.1 (k + 2 + 5 * u) j
theorem stK.refl (k : Nat) (M : xMem) : stK k M M := ⟨Fi.refl _ _, fun _ _ _ _ => rfl⟩
theorem stK.trans {k : Nat} {M M1 M2 : xMem} (h1 : stK k M M1) (h2 : stK k M1 M2) : stK k M M2 := ⟨h1.1.trans h2.1, fun u hu j hj => (h2.2 u hu j hj).trans (h1.2 u hu j hj)⟩
theorem stK.fld {k j : Nat} {v : Int32} {M M1 : xMem} (h : stK k M M1) : stK k M (xwI M1 k j v) := ⟨h.1.wI (by unfold stC; omega), fun u hu i hi => by rw [xwI_c (by omega)]; exact h.2 u hu i hi⟩
theorem stK.sd {k u : Nat} {M M' : xMem} (hu : u < 2) (h : sdK M M' (k + 2 + 5 * u)) : stK k M M' ∧ M'.1 k = M.1 k := by
  refine ⟨⟨h.1.mono (fun c hc => by unfold sdC at hc; unfold stC; omega), fun w hw j hj => ?_⟩, h.1.1 k (by unfold sdC; omega)⟩
  by_cases e : w = u
  · subst e; exact h.2 j hj
  · rw [h.1.1 _ (by unfold sdC; omega)]
theorem St0.sd {k t u : Nat} {ρ σ : Nat → Nat} {M M' : xMem} (hu : u < 2) (hS : St0 M k t ρ) (hR : RW ρ) (hK : sdK M M' (k + 2 + 5 * u)) (h : SdR M' (k + 2 + 5 * u) u σ) (e : ∀ j, j = 1 + (1 - u) ∨ j = 108 + (1 - u) ∨ (48 + 10 * (1 - u) ≤ j ∧ j < 58 + 10 * (1 - u)) ∨ (68 + 10 * (1 - u) ≤ j ∧ j < 78 + 10 * (1 - u)) ∨ (88 + 10 * (1 - u) ≤ j ∧ j < 98 + 10 * (1 - u)) ∨ (110 + 10 * (1 - u) ≤ j ∧ j < 120 + 10 * (1 - u)) → σ j = ρ j) : St0 M' k t σ := by
  refine ⟨by rw [(stK.sd hu hK).2]; exact hS.1, fun w hw => ?_⟩
  by_cases q : w = u
  · subst q; exact h
  · have hw1 : w = 1 - u := by omega
    subst hw1
    have S1 : SdR M' (k + 2 + 5 * (1 - u)) (1 - u) ρ := (hS.2 _ hw).keep (fun c h1 h2 => hK.1.1 c (by unfold sdC; omega))
    exact S1.row (hR.m hw) (hR.q hw).1 e
theorem St0.fld {k t j : Nat} {v : Int32} {ρ : Nat → Nat} {M : xMem} (hS : St0 M k t ρ) (hj : j ≠ 1) : St0 (xwI M k j v) k t ρ := ⟨by rw [xwI_ne (by omega)]; exact hS.1, fun u hu => (hS.2 u hu).keep (fun c h1 h2 => xwI_c (by omega))⟩
theorem St0.row {k t : Nat} {ρ σ : Nat → Nat} {M : xMem} (hS : St0 M k t ρ) (hR : RW ρ) (e : ∀ j, j < 130 → (j < 3 ∨ 48 ≤ j) → σ j = ρ j) : St0 M k t σ := ⟨hS.1, fun u hu => (hS.2 u hu).row (hR.m hu) (hR.q hu).1 (fun j hj => e j (by omega) (by omega))⟩
theorem RT.outs {t : Nat} (ht : t < 2) : ∀ (tl : List Nat) {ρ : Nat → Nat}, RT ρ → tl.Nodup → (∀ x ∈ tl, x < ρ (1 + t) ∧ ρ (48 + 10 * t + x) = 0) → RT (outsR t tl ρ)
  | [], ρ, h, _, _ => h
  | a :: l, ρ, h, hn, hl => by
    have ha := hl a List.mem_cons_self
    have hr := h.1.m ht
    have h7 := (h.2 t ht).q7
    rw [List.nodup_cons] at hn
    refine RT.outs ht l (h.out ht ha.1 ha.2) hn.2 (fun x hx => ?_)
    have hx' := hl x (List.mem_cons_of_mem _ hx)
    have hne : x ≠ a := fun q => hn.1 (q ▸ hx)
    show x < outR t a ρ (1 + t) ∧ outR t a ρ (48 + 10 * t + x) = 0
    rw [outR_ne (by omega) (by omega) (by omega), outR_ne (by omega) (by omega) (by omega)]
    exact hx'
