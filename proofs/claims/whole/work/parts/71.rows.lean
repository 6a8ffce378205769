def nTq (ρ : Nat → Nat) (k : Nat) : Nat := if rq ρ k 2 = 1 then pcn (rq ρ k 5) else 0
def pBq (ρ : Nat → Nat) (k : Nat) : Nat := (if rq ρ k 2 = 1 then pcn (rq ρ k 5) else if rq ρ k 2 = 2 then 1 else 0) + rq ρ k 6
def woq (ρ : Nat → Nat) (k : Nat) : Nat := if rq ρ k 2 = 3 ∨ rq ρ k 2 = 4 ∨ (rq ρ k 2 = 0 ∧ rq ρ k 7 = 1) then 1 else 0
def spq (ρ : Nat → Nat) (k : Nat) : Nat := if rq ρ k 2 = 3 ∧ pcn (rq ρ k (10 + (1 - rq ρ k 0))) ≤ 3 then 1 else 0
def inq (ρ : Nat → Nat) (k t i w : Nat) : Nat := inN (rq ρ k 0) (rq ρ k 1) (rq ρ k 2) (rq ρ k 5) (nTq ρ k) (pBq ρ k) (woq ρ k) (spq ρ k) t i w
def ptq (ρ : Nat → Nat) (k t w : Nat) : Nat := ptN (rq ρ k 0) (rq ρ k 2) (nTq ρ k) (pBq ρ k) (woq ρ k) (spq ρ k) (rq ρ k 9) t w
def tal (ρ : Nat → Nat) (t i w : Nat) : Nat := sumR (fun k => inq ρ k t i w) (ρ 25)
def gnq (ρ : Nat → Nat) (k t : Nat) : Nat := (if rq ρ k 0 = t then rq ρ k 3 else rq ρ k 4) + rq ρ k (13 + t)
def gsum (ρ : Nat → Nat) (t n : Nat) : Nat := sumR (fun k => gnq ρ k t) n
/-- a record that is as records are -/
def RcO (ρ : Nat → Nat) (k tk : Nat) (tl : List Nat) : Prop :=
  rq ρ k 0 < 2 ∧ rq ρ k 1 < 10 ∧ rq ρ k 2 < 5 ∧ rq ρ k 5 = setV (rq ρ k 2) tk tl ∧ rq ρ k 6 < 2 ∧ rq ρ k 7 < 2 ∧ rq ρ k 8 ≤ 20 ∧ rq ρ k 9 < 4 ∧ rq ρ k 10 < 1024 ∧ rq ρ k 11 < 1024 ∧ rq ρ k 12 = (if rq ρ k 2 = 1 then ordR tl else 0) ∧ rq ρ k 3 ≤ 13 ∧ rq ρ k 4 ≤ 4 ∧ rq ρ k 13 ≤ 2 * ρ 26 ∧ rq ρ k 14 ≤ 2 * ρ 26 ∧ tl.Nodup ∧ tl.length ≤ 7 ∧ (∀ x ∈ tl, x < 10) ∧ (rq ρ k 2 ≠ 1 → tl = []) ∧ (rq ρ k 2 = 1 → tl ≠ []) ∧ tk < 10 ∧ (rq ρ k 2 ≠ 3 → tk = 0) ∧ (rq ρ k 2 = 2 → rq ρ k 6 = 0)
theorem RcO.congr {ρ σ : Nat → Nat} {k tk : Nat} {tl : List Nat} (h : RcO ρ k tk tl) (e : ∀ w, w < 15 → rq σ k w = rq ρ k w) (e26 : ρ 26 ≤ σ 26) : RcO σ k tk tl := by
  unfold RcO at h ⊢
  rw [e 0 (by decide), e 1 (by decide), e 2 (by decide), e 3 (by decide), e 4 (by decide), e 5 (by decide), e 6 (by decide), e 7 (by decide), e 8 (by decide), e 9 (by decide), e 10 (by decide), e 11 (by decide), e 12 (by decide), e 13 (by decide), e 14 (by decide)]
  obtain ⟨a1, a2, a3, a4, a5, a6, a7, a8, a9, a10, a11, a12, a13, a14, a15, a16⟩ := h
  exact ⟨a1, a2, a3, a4, a5, a6, a7, a8, a9, a10, a11, a12, a13, by omega, by omega, a16⟩
theorem RcO.nT {ρ : Nat → Nat} {k tk : Nat} {tl : List Nat} (h : RcO ρ k tk tl) : nTq ρ k = tl.length := by
  obtain ⟨a1, a2, a3, a4, a5, a6, a7, a8, a9, a10, a11, a12, a13, a14, a15, b1, b2, b3, b4, b5, b6, b7, b8⟩ := h
  unfold nTq
  by_cases e : rq ρ k 2 = 1
  · rw [if_pos e, a4, e]
    exact setR_pc b1 b3
  · rw [if_neg e, b4 e]; rfl
theorem RcO.pB {ρ : Nat → Nat} {k tk : Nat} {tl : List Nat} (h : RcO ρ k tk tl) : pBq ρ k = tl.length + rq ρ k 6 + if rq ρ k 2 = 2 then 1 else 0 := by
  have hn := h.nT
  unfold nTq at hn
  unfold pBq
  by_cases e : rq ρ k 2 = 1
  · rw [if_pos e] at hn
    rw [if_pos e, hn, if_neg (by omega)]; rfl
  · rw [if_neg e] at hn
    rw [if_neg e, ← hn]
    omega
theorem RcO.set {ρ : Nat → Nat} {k tk : Nat} {tl : List Nat} (h : RcO ρ k tk tl) : (rq ρ k 2 = 3 → rq ρ k 5 = tk) ∧ (rq ρ k 2 = 1 → rq ρ k 5 = setR tl ∧ rq ρ k 5 < 1024) := by
  obtain ⟨a1, a2, a3, a4, a5, a6, a7, a8, a9, a10, a11, a12, a13, a14, a15, b1, b2, b3, b4, b5, b6, b7, b8⟩ := h
  refine ⟨fun e => by rw [a4, e]; rfl, fun e => ?_⟩
  have : rq ρ k 5 = setR tl := by rw [a4, e]; rfl
  rw [this]
  exact ⟨rfl, setR_lt (by decide) b3⟩
/-! equal records, equal sums -/
theorem rq_cong {ρ σ : Nat → Nat} {k : Nat} (e : ∀ w, w < 13 → rq σ k w = rq ρ k w) : nTq σ k = nTq ρ k ∧ pBq σ k = pBq ρ k ∧ woq σ k = woq ρ k ∧ (rq ρ k 0 < 2 → spq σ k = spq ρ k) := by
  unfold nTq pBq woq spq
  rw [e 2 (by decide), e 5 (by decide), e 6 (by decide), e 7 (by decide), e 0 (by decide)]
  refine ⟨rfl, rfl, rfl, fun h => ?_⟩
  rw [e (10 + (1 - rq ρ k 0)) (by omega)]
theorem inq_cong {ρ σ : Nat → Nat} {k t i w : Nat} (e : ∀ w, w < 13 → rq σ k w = rq ρ k w) (h : rq ρ k 0 < 2) : inq σ k t i w = inq ρ k t i w := by
  obtain ⟨a, b, c, d⟩ := rq_cong e
  unfold inq
  rw [a, b, c, d h, e 0 (by decide), e 1 (by decide), e 2 (by decide), e 5 (by decide)]
theorem ptq_cong {ρ σ : Nat → Nat} {k t w : Nat} (e : ∀ w, w < 13 → rq σ k w = rq ρ k w) (h : rq ρ k 0 < 2) : ptq σ k t w = ptq ρ k t w := by
  obtain ⟨a, b, c, d⟩ := rq_cong e
  unfold ptq
  rw [a, b, c, d h, e 0 (by decide), e 2 (by decide), e 9 (by decide)]
theorem gnq_cong {ρ σ : Nat → Nat} {k t : Nat} (ht : t < 2) (e : ∀ w, w < 15 → rq σ k w = rq ρ k w) : gnq σ k t = gnq ρ k t := by
  unfold gnq
  rw [e 0 (by decide), e 3 (by decide), e 4 (by decide), e (13 + t) (by omega)]
/-- what holds of a row, but for what is said of its latest raid -/
def RI0 (ρ : Nat → Nat) : Prop := RT ρ ∧ BD ρ ∧ (∀ k, k < ρ 25 → ∃ tk tl, RcO ρ k tk tl) ∧ (∀ t, t < 2 → scR t ρ = gsum ρ t (ρ 25)) ∧ (ρ 25 = 0 → ∀ t, t < 2 → ρ (108 + t) = 0)
def RI (ρ : Nat → Nat) : Prop := RI0 ρ ∧ (ρ 29 = 1 → RI0 (coreR ρ) ∧ coreR ρ 25 + 1 = ρ 25 ∧ coreR ρ 26 = ρ 26 ∧ ∀ t, t < 2 → ∀ w, w < 6 → ρ (36 + 6 * t + w) = coreR ρ (36 + 6 * t + w) + ptq ρ (ρ 25 - 1) t w)
theorem BD.congr {ρ σ : Nat → Nat} (h : BD ρ) (e : ∀ j, 25 ≤ j → j < 108 → σ j = ρ j) : BD σ := by
  obtain ⟨a, b, c, d, f⟩ := h
  unfold BD
  rw [e 25 (by decide) (by decide), e 26 (by decide) (by decide), e 27 (by decide) (by decide), e 29 (by decide) (by decide)]
  refine ⟨a, b, c, d, fun t ht => ?_⟩
  rw [e _ (by omega) (by omega), e _ (by omega) (by omega), e _ (by omega) (by omega), scR_congr (ρ := ρ) (fun k hk => e _ (by omega) (by omega))]
  obtain ⟨x1, x2, x3, x4, x5⟩ := f t ht
  exact ⟨x1, x2, x3, x4, fun i hi => by rw [e _ (by omega) (by omega)]; exact x5 i hi⟩
theorem gsum_cong {ρ σ : Nat → Nat} {t n : Nat} (ht : t < 2) (e : ∀ k, k < n → ∀ w, w < 15 → rq σ k w = rq ρ k w) : gsum σ t n = gsum ρ t n := sumR_congr (fun k hk => gnq_cong ht (e k hk))
theorem RI0.congr {ρ σ : Nat → Nat} (h : RI0 ρ) (e : ∀ j, j < 130 → σ j = ρ j) (er : ∀ k, k < ρ 25 → ∀ w, w < 15 → rq σ k w = rq ρ k w) : RI0 σ := by
  obtain ⟨a, b, c, d, f⟩ := h
  have e25 := e 25 (by decide)
  refine ⟨a.congr (fun k hk _ => e k hk), b.congr (fun j _ hj => e j (by omega)), fun k hk => ?_, fun t ht => ?_, fun h0 t ht => ?_⟩
  · rw [e25] at hk
    obtain ⟨tk, tl, hh⟩ := c k hk
    exact ⟨tk, tl, hh.congr (er k hk) (by rw [e 26 (by decide)]; exact Nat.le_refl _)⟩
  · rw [e25, scR_congr (ρ := ρ) (fun k hk => e _ (by omega)), gsum_cong ht er]
    exact d t ht
  · rw [e25] at h0
    rw [e _ (by omega)]
    exact f h0 t ht
/-! the parts, step by step -/
theorem addR_pt {t w t' w' v : Nat} {ρ : Nat → Nat} (hw : w < 6) (hw' : w' < 6) : addR (36 + 6 * t' + w') v ρ (36 + 6 * t + w) = ρ (36 + 6 * t + w) + if t' = t ∧ w' = w then v else 0 := by
  unfold addR
  by_cases h : t' = t ∧ w' = w
  · obtain ⟨h1, h2⟩ := h
    subst h1 h2
    rw [va_at_eq, if_pos ⟨rfl, rfl⟩]
  · rw [va_at_ne (by omega), if_neg h]; rfl
theorem ifadd_pt {c : Prop} [Decidable c] {t w t' w' v : Nat} {ρ : Nat → Nat} (hw : w < 6) (hw' : w' < 6) : (if c then addR (36 + 6 * t' + w') v ρ else ρ) (36 + 6 * t + w) = ρ (36 + 6 * t + w) + if c ∧ t' = t ∧ w' = w then v else 0 := by
  by_cases h : c
  · rw [if_pos h, addR_pt hw hw']
    by_cases h2 : t' = t ∧ w' = w
    · rw [if_pos h2, if_pos ⟨h, h2⟩]
    · rw [if_neg h2, if_neg (fun q => h2 q.2)]
  · rw [if_neg h, if_neg (fun q => h q.1)]; rfl
section
variable {r s b tk : Nat} {tl : List Nat} {ρ : Nat → Nat}
theorem raids_pt (h : RT ρ) (hm : rdMay ρ r s tk tl) (hr : r < 10) {t w : Nat} (ht : t < 2) (hw : w < 6) : raidsR r s b tk tl ρ (36 + 6 * t + w) = ρ (36 + 6 * t + w) + (if s = 1 ∧ ρ 28 = t ∧ 0 = w then tl.length else 0) + (if (b = 1 ∨ s = 2) ∧ ρ 28 = t ∧ 1 = w then 1 else 0) + (if otR s ρ = 1 ∧ 1 - ρ 28 = t ∧ (if s = 3 then 2 else 5) = w then 1 else 0) + (if (s = 3 ∧ pcn (mOn (1 - ρ 28) ρ) ≤ 3) ∧ 1 - ρ 28 = t ∧ 3 = w then 1 else 0) + (if isAll (1 - ρ 28) (rd9 r s b tk tl ρ) = true ∧ 1 - (1 - ρ 28) = t ∧ 4 = w then 2 else 0) + (if isAll (ρ 28) (rd10 r s b tk tl ρ) = true ∧ 1 - ρ 28 = t ∧ 4 = w then 2 else 0) := by
  have h28 := h.1.1
  have hl := hm.len h
  have hro := h.1.m (t := 1 - ρ 28) (by omega)
  have hx : ∀ x ∈ tl, x < 10 := fun x hx => by have := (hm.2.2.2.1 x hx).1; omega
  have hq := (h.2 _ h28).q7
  have R2 := (rd2_ok (s := s) (b := b) (tk := tk) h.1 hx hr (by omega) (by omega)).2 (36 + 6 * t + w) (by omega)
  have all_pt : ∀ {u : Nat} {σ : Nat → Nat}, u < 2 → RW σ → allR u σ (36 + 6 * t + w) = σ (36 + 6 * t + w) + if isAll u σ = true ∧ 1 - u = t ∧ 4 = w then 2 else 0 := fun {u} {σ} hu hR => by
    unfold allR
    by_cases c : isAll u σ = true
    · rw [if_pos c, addR_pt hw (by decide), backsR_ne hu (by omega) (by omega) (by omega) _ hR]
      by_cases c2 : 1 - u = t ∧ 4 = w
      · rw [if_pos c2, if_pos ⟨c, c2⟩]
      · rw [if_neg c2, if_neg (fun q => c2 q.2)]
    · rw [if_neg c, if_neg (fun q => c q.1)]; rfl
  have e3 : rd3 r s b tk tl ρ (36 + 6 * t + w) = ρ (36 + 6 * t + w) + if s = 1 ∧ ρ 28 = t ∧ 0 = w then tl.length else 0 := by
    unfold rd3; rw [ifadd_pt hw (by decide), R2]
  have e4 : rd4 r s b tk tl ρ (36 + 6 * t + w) = rd3 r s b tk tl ρ (36 + 6 * t + w) := by
    unfold rd4; split
    · exact backsR_ne h28 (by omega) (by omega) (by omega) _ (rt3 h hm).1
    · rfl
  have e5 : rd5 r s b tk tl ρ (36 + 6 * t + w) = rd4 r s b tk tl ρ (36 + 6 * t + w) + if (b = 1 ∨ s = 2) ∧ ρ 28 = t ∧ 1 = w then 1 else 0 := by
    unfold rd5; rw [ifadd_pt hw (by decide)]
  have e6 : rd6 r s b tk tl ρ (36 + 6 * t + w) = rd5 r s b tk tl ρ (36 + 6 * t + w) + if otR s ρ = 1 ∧ 1 - ρ 28 = t ∧ (if s = 3 then 2 else 5) = w then 1 else 0 := by
    unfold rd6; rw [ifadd_pt hw (by split <;> decide)]
  have e7 : rd7 r s b tk tl ρ (36 + 6 * t + w) = rd6 r s b tk tl ρ (36 + 6 * t + w) + if (s = 3 ∧ pcn (mOn (1 - ρ 28) ρ) ≤ 3) ∧ 1 - ρ 28 = t ∧ 3 = w then 1 else 0 := by
    unfold rd7; rw [ifadd_pt hw (by decide)]
  have e8 : rd8 r s b tk tl ρ (36 + 6 * t + w) = rd7 r s b tk tl ρ (36 + 6 * t + w) := by
    unfold rd8; split
    · exact backR_ne ((rt7 h hm).1.q (by omega)) (by omega) (by omega) (by omega)
    · rfl
  have R8' := (rt8' (b := b) h hm).1
  have e9 : rd9 r s b tk tl ρ (36 + 6 * t + w) = rd8 r s b tk tl ρ (36 + 6 * t + w) := by
    unfold rd9
    rw [waitsR_ne (R8'.m (t := 0) (by decide)) (R8'.m (t := 1) (by decide)) (by omega), va_at_ne (by omega)]
  rw [raids_core (by omega) (by omega) (by omega) (by omega) (by omega)]
  unfold rd11
  rw [all_pt h28 (rt10 h hm).1]
  have e10 : rd10 r s b tk tl ρ (36 + 6 * t + w) = _ := all_pt (u := 1 - ρ 28) (by omega) (rt9 h hm).1
  rw [e10, e9, e8, e7, e6, e5, e4, e3]
theorem ra_bit {x y : Bool} {t : Nat} (ht : t < 2) : ((if x = true then 2 ^ (1 - t) else 0) ||| (if y = true then 2 ^ t else 0)) / 2 ^ t % 2 = (if y = true then 1 else 0) ∧ ((if x = true then 2 ^ (1 - t) else 0) ||| (if y = true then 2 ^ t else 0)) / 2 ^ (1 - t) % 2 = (if x = true then 1 else 0) := by
  rcases (show t = 0 ∨ t = 1 by omega) with rfl | rfl <;> cases x <;> cases y <;> decide
/-- the new record is as records are -/
theorem rc_new (h : RT ρ) (hm : rdMay ρ r s tk tl) (hr : r < 10) (hs : s < 5) (hb : b < 2) (htk : tk < 10) (h3 : s ≠ 3 → tk = 0) (h1 : s ≠ 1 → tl = []) (hb2 : s = 2 → b = 0) : RcO (raidsR r s b tk tl ρ) (ρ 25) tk tl := by
  have h28 := h.1.1
  have hl := hm.len h
  have hro := h.1.m (t := 1 - ρ 28) (by omega)
  have hx : ∀ x ∈ tl, x < 10 := fun x hx => by have := (hm.2.2.2.1 x hx).1; omega
  have n : ∀ w, w < 15 → _ := fun w hw => rq_new (b := b) h hm hr hw
  have hrb := rb8_le r s b tk tl ρ
  unfold RcO
  rw [n 0 (by decide), n 1 (by decide), n 2 (by decide), n 3 (by decide), n 4 (by decide), n 5 (by decide), n 6 (by decide), n 7 (by decide), n 8 (by decide), n 9 (by decide), n 10 (by decide), n 11 (by decide), n 12 (by decide), n 13 (by decide), n 14 (by decide)]
  have hmu := muR_le ρ
  have hown : ownR r s b tk tl ρ ≤ 13 := by
    unfold ownR
    split <;> split <;> split <;> omega
  have hoth : othR r s b tk tl ρ ≤ 4 := by
    unfold othR
    split <;> split <;> split <;> omega
  have hra : ra11 r s b tk tl ρ < 4 := by
    unfold ra11
    rcases (show ρ 28 = 0 ∨ ρ 28 = 1 by omega) with e | e <;> rw [e] <;> split <;> split <;> decide
  have hmu2 : muR ρ < 2 := by omega
  have hrb2 : rb8 r s b tk tl ρ ≤ 20 := by omega
  exact ⟨h28, hr, hs, rfl, hb, hmu2, hrb2, hra, mOn_lt (h.1.m (by decide)), mOn_lt (h.1.m (by decide)), rfl, hown, hoth, Nat.zero_le _, Nat.zero_le _, hm.2.2.1, by omega, hx, h1, hm.2.2.2.2, htk, h3, hb2⟩
theorem wo_new (h : RT ρ) (hm : rdMay ρ r s tk tl) (hr : r < 10) : woq (raidsR r s b tk tl ρ) (ρ 25) = otR s ρ ∧ spq (raidsR r s b tk tl ρ) (ρ 25) = (if s = 3 ∧ pcn (mOn (1 - ρ 28) ρ) ≤ 3 then 1 else 0) := by
  have h28 := h.1.1
  unfold woq spq otR
  have n : ∀ w, w < 15 → _ := fun w hw => rq_new (b := b) h hm hr hw
  rw [n 2 (by decide), n 7 (by decide), n 0 (by decide), n _ (by simp only [if_true]; omega)]
  simp only [if_true]
  refine ⟨rfl, ?_⟩
  rcases (show ρ 28 = 0 ∨ ρ 28 = 1 by omega) with e | e <;> rw [e] <;> rfl
theorem pt_new (h : RT ρ) (hm : rdMay ρ r s tk tl) (hr : r < 10) (hs : s < 5) (hb : b < 2) (htk : tk < 10) (h3 : s ≠ 3 → tk = 0) (h1 : s ≠ 1 → tl = []) (hb2 : s = 2 → b = 0) {t w : Nat} (ht : t < 2) (hw : w < 6) : raidsR r s b tk tl ρ (36 + 6 * t + w) = ρ (36 + 6 * t + w) + ptq (raidsR r s b tk tl ρ) (ρ 25) t w := by
  have h28 := h.1.1
  have hc := rc_new h hm hr hs hb htk h3 h1 hb2
  obtain ⟨w1, w2⟩ := wo_new (b := b) h hm hr
  have n : ∀ w, w < 15 → _ := fun w hw => rq_new (b := b) h hm hr hw
  have hnT := hc.nT
  have hpB := hc.pB
  rw [n 6 (by decide), n 2 (by decide)] at hpB
  rw [raids_pt h hm hr ht hw]
  unfold ptq
  rw [hnT, hpB, w1, w2, n 0 (by decide), n 2 (by decide), n 9 (by decide)]
  simp only [if_true, Nat.reduceEqDiff, if_false]
  have ho := ot1 (s := s) (ρ := ρ)
  have hot3 : s = 3 → otR s ρ = 1 := fun e => by unfold otR; rw [if_pos (Or.inl e)]
  have hbit := ra_bit (x := isAll (1 - ρ 28) (rd9 r s b tk tl ρ)) (y := isAll (ρ 28) (rd10 r s b tk tl ρ)) h28
  have hra : ra11 r s b tk tl ρ = ((if isAll (1 - ρ 28) (rd9 r s b tk tl ρ) = true then 2 ^ (1 - ρ 28) else 0) ||| (if isAll (ρ 28) (rd10 r s b tk tl ρ) = true then 2 ^ ρ 28 else 0)) := rfl
  rw [← hra] at hbit
  have n1 : ¬ (1 - ρ 28 = ρ 28) := by omega
  have n2 : 1 - (1 - ρ 28) = ρ 28 := by omega
  rw [n2]
  unfold ptN
  have hot := otR_le s ρ
  rcases (show w = 0 ∨ w = 1 ∨ w = 2 ∨ w = 3 ∨ w = 4 ∨ w = 5 by omega) with rfl | rfl | rfl | rfl | rfl | rfl
  · by_cases e : s = 1
    · have hf : ¬ ((if s = 3 then 2 else 5) = 0) := by split <;> decide
      simp [e]
    · have hf : ¬ ((if s = 3 then 2 else 5) = 0) := by split <;> decide
      have hl0 : tl.length = 0 := by rw [h1 e]; rfl
      simp [e, hf, hl0]
  · have hf : ¬ ((if s = 3 then 2 else 5) = 1) := by split <;> decide
    simp only [hf, and_false, if_false, Nat.reduceEqDiff, and_true, Nat.add_zero, if_true]
    by_cases e : ρ 28 = t
    · simp only [e, and_true, if_true]
      by_cases e2 : s = 2
      · rw [if_pos (Or.inr e2), if_pos e2, hb2 e2]; omega
      · rw [if_neg e2]
        by_cases e1 : b = 1
        · rw [if_pos (Or.inl e1)]; omega
        · rw [if_neg (by omega)]; omega
    · simp only [e, and_false, if_false, Nat.add_zero]
  · simp only [and_false, if_false, Nat.reduceEqDiff, and_true, Nat.add_zero, if_true]
    by_cases e3 : s = 3
    · simp [e3, hot3 e3]
      rw [e3] at hot3
      simp [hot3]
    · simp [e3]
  · have hf : ¬ ((if s = 3 then 2 else 5) = 3) := by split <;> decide
    simp only [hf, and_false, if_false, Nat.reduceEqDiff, and_true, Nat.add_zero, if_true]
    by_cases e3 : s = 3 <;> by_cases c : 1 - ρ 28 = t <;> simp [e3, c]
  · have hf : ¬ ((if s = 3 then 2 else 5) = 4) := by split <;> decide
    simp only [hf, and_false, if_false, Nat.reduceEqDiff, and_true, Nat.add_zero, if_true]
    by_cases c : ρ 28 = t
    · rw [← c]
      simp only [n1, and_false, if_false, and_true, Nat.add_zero, hbit.2]
      split <;> rfl
    · have c' : 1 - ρ 28 = t := by omega
      have c2 : 1 - t = ρ 28 := by omega
      simp only [c, c', and_false, if_false, and_true, Nat.add_zero, c2, hbit.1]
      split <;> rfl
  · simp only [and_false, if_false, Nat.reduceEqDiff, and_true, Nat.add_zero, if_true]
    by_cases e3 : s = 3
    · simp [e3]
    · rcases hot with e | e <;> by_cases c : 1 - ρ 28 = t <;> simp [e3, c, e]
end
