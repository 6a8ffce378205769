/-! ===== records of a row ===== -/
theorem rd11_hi {r s b tk : Nat} {tl : List Nat} {ρ : Nat → Nat} (h : RT ρ) (hm : rdMay ρ r s tk tl) (hr : r < 10) {j : Nat} (hj : 130 ≤ j) : rd11 r s b tk tl ρ j = if j = 235 + 15 * ρ 25 + 8 then rb8 r s b tk tl ρ else recR r s b tk tl ρ j := by
  have h28 := h.1.1
  have hl := hm.len h
  have hro := h.1.m (t := 1 - ρ 28) (by omega)
  have hx : ∀ x ∈ tl, x < 10 := fun x hx => by have := (hm.2.2.2.1 x hx).1; omega
  have hq := (h.2 _ h28).q7
  have e0 : recR r s b tk tl ρ (108 + (1 - ρ 28)) = ρ (108 + (1 - ρ 28)) := rec_lo (by omega)
  have Q1 := rd1_q (r := r) (s := s) (b := b) (tk := tk) h.1 hx (by omega)
  have e1 : rd1 r s b tk tl ρ j = recR r s b tk tl ρ j := by
    unfold rd1; split
    · exact outsR_ne (by omega) (by omega) (by omega) (by omega) tl hx (by omega)
    · rfl
  have e2 : rd2 r s b tk tl ρ j = recR r s b tk tl ρ j := by
    rw [← e1]; unfold rd2; split
    · exact outR_ne (by omega) (by omega) (by omega)
    · rfl
  have e3 : rd3 r s b tk tl ρ j = recR r s b tk tl ρ j := by
    rw [← e2]; unfold rd3; split
    · unfold addR; exact va_at_ne (by omega)
    · rfl
  have e4 : rd4 r s b tk tl ρ j = recR r s b tk tl ρ j := by
    rw [← e3]; unfold rd4; split
    · exact backsR_ne h28 (by omega) (by omega) (by omega) _ (rt3 h hm).1
    · rfl
  have e5 : rd5 r s b tk tl ρ j = recR r s b tk tl ρ j := by
    rw [← e4]; unfold rd5; split
    · unfold addR; exact va_at_ne (by omega)
    · rfl
  have e6 : rd6 r s b tk tl ρ j = recR r s b tk tl ρ j := by
    rw [← e5]; unfold rd6; split
    · unfold addR; exact va_at_ne (by split <;> omega)
    · rfl
  have e7 : rd7 r s b tk tl ρ j = recR r s b tk tl ρ j := by
    rw [← e6]; unfold rd7; split
    · unfold addR; exact va_at_ne (by omega)
    · rfl
  have e8 : rd8 r s b tk tl ρ j = recR r s b tk tl ρ j := by
    rw [← e7]; unfold rd8; split
    · exact backR_ne ((rt7 h hm).1.q (by omega)) (by omega) (by omega) (by omega)
    · rfl
  have R8' := (rt8' (b := b) h hm).1
  have e9 : rd9 r s b tk tl ρ j = if j = 235 + 15 * ρ 25 + 8 then rb8 r s b tk tl ρ else recR r s b tk tl ρ j := by
    unfold rd9
    rw [waitsR_ne (R8'.m (t := 0) (by decide)) (R8'.m (t := 1) (by decide)) (by omega)]
    by_cases q : j = 235 + 15 * ρ 25 + 8
    · rw [if_pos q, q, va_at_eq]
    · rw [if_neg q, va_at_ne q, e8]
  rw [← e9]
  unfold rd11
  rw [allR_ne (rt10 h hm).1 h28 (by omega) (by omega) (by omega) (by omega)]
  unfold rd10
  exact allR_ne (rt9 h hm).1 (by omega) (by omega) (by omega) (by omega) (by omega)
theorem raids_hi {r s b tk : Nat} {tl : List Nat} {ρ : Nat → Nat} (h : RT ρ) (hm : rdMay ρ r s tk tl) (hr : r < 10) {j : Nat} (hj : 130 ≤ j) : raidsR r s b tk tl ρ j = if j = 235 + 15 * ρ 25 + 4 then othR r s b tk tl ρ else if j = 235 + 15 * ρ 25 + 3 then ownR r s b tk tl ρ else if j = 235 + 15 * ρ 25 + 9 then ra11 r s b tk tl ρ else if j = 235 + 15 * ρ 25 + 8 then rb8 r s b tk tl ρ else recR r s b tk tl ρ j := by
  have h28 := h.1.1
  have hl := hm.len h
  have hro := h.1.m (t := 1 - ρ 28) (by omega)
  have hx : ∀ x ∈ tl, x < 10 := fun x hx => by have := (hm.2.2.2.1 x hx).1; omega
  have hq := (h.2 _ h28).q7
  obtain ⟨z1, z2⟩ := sc11 (r := r) (s := s) (b := b) (tk := tk) (tl := tl) h.1 hx hr (by omega) (by omega)
  have e : raidsR r s b tk tl ρ j = rd12 r s b tk tl ρ j := by
    unfold raidsR
    rw [va_at_ne (by omega), va_at_ne (by omega), va_at_ne (by omega), va_at_ne (by omega)]
  rw [e]
  unfold rd12
  rw [z1, z2, Nat.add_sub_cancel_left, Nat.add_sub_cancel_left]
  by_cases q4 : j = 235 + 15 * ρ 25 + 4
  · rw [if_pos q4, q4, va_at_eq]
  · rw [if_neg q4, va_at_ne q4]
    by_cases q3 : j = 235 + 15 * ρ 25 + 3
    · rw [if_pos q3, q3, va_at_eq]
    · rw [if_neg q3, va_at_ne q3]
      by_cases q9 : j = 235 + 15 * ρ 25 + 9
      · rw [if_pos q9, q9, va_at_eq]
      · rw [if_neg q9, va_at_ne q9]
        exact rd11_hi h hm hr hj
def rq (ρ : Nat → Nat) (k w : Nat) : Nat := ρ (235 + 15 * k + w)
section
variable {r s b tk : Nat} {tl : List Nat} {ρ : Nat → Nat}
theorem rec_at {w : Nat} (hw : w < 15) (h28 : ρ 28 < 2) : recR r s b tk tl ρ (235 + 15 * ρ 25 + w) = if w = 14 then 0 else if w = 13 then 0 else if w = 12 then (if s = 1 then ordR tl else 0) else if w = 10 + (1 - ρ 28) then mOn (1 - ρ 28) ρ else if w = 10 + ρ 28 then mOn (ρ 28) ρ else if w = 7 then muR ρ else if w = 6 then b else if w = 5 then setV s tk tl else if w = 2 then s else if w = 1 then r else if w = 0 then ρ 28 else aheadR ρ (235 + 15 * ρ 25 + w) := by
  unfold recR
  rcases (show ρ 28 = 0 ∨ ρ 28 = 1 by omega) with e | e <;> rw [e] <;> rcases (show w = 0 ∨ w = 1 ∨ w = 2 ∨ w = 3 ∨ w = 4 ∨ w = 5 ∨ w = 6 ∨ w = 7 ∨ w = 8 ∨ w = 9 ∨ w = 10 ∨ w = 11 ∨ w = 12 ∨ w = 13 ∨ w = 14 by omega) with rfl | rfl | rfl | rfl | rfl | rfl | rfl | rfl | rfl | rfl | rfl | rfl | rfl | rfl | rfl <;> simp (disch := omega) only [va_at_ne, va_at_eq, Nat.add_zero] <;> simp
theorem rec_old {j : Nat} (hj : j < 235 + 15 * ρ 25) (h28 : ρ 28 < 2) : recR r s b tk tl ρ j = aheadR ρ j := by
  unfold recR
  simp (disch := omega) only [va_at_ne]
theorem rec_far {j : Nat} (hj : 235 + 15 * ρ 25 + 15 ≤ j) (h28 : ρ 28 < 2) : recR r s b tk tl ρ j = aheadR ρ j := by
  unfold recR
  simp (disch := omega) only [va_at_ne]
/-- what a new record says -/
theorem rq_new (h : RT ρ) (hm : rdMay ρ r s tk tl) (hr : r < 10) {w : Nat} (hw : w < 15) : rq (raidsR r s b tk tl ρ) (ρ 25) w = if w = 0 then ρ 28 else if w = 1 then r else if w = 2 then s else if w = 3 then ownR r s b tk tl ρ else if w = 4 then othR r s b tk tl ρ else if w = 5 then setV s tk tl else if w = 6 then b else if w = 7 then muR ρ else if w = 8 then rb8 r s b tk tl ρ else if w = 9 then ra11 r s b tk tl ρ else if w = 10 then mOn 0 ρ else if w = 11 then mOn 1 ρ else if w = 12 then (if s = 1 then ordR tl else 0) else 0 := by
  have h28 := h.1.1
  unfold rq
  rw [raids_hi h hm hr (by omega), rec_at hw h28]
  simp only [Nat.add_right_inj, Nat.add_left_cancel_iff]
  rcases (show ρ 28 = 0 ∨ ρ 28 = 1 by omega) with e | e <;> rw [e] <;> rcases (show w = 0 ∨ w = 1 ∨ w = 2 ∨ w = 3 ∨ w = 4 ∨ w = 5 ∨ w = 6 ∨ w = 7 ∨ w = 8 ∨ w = 9 ∨ w = 10 ∨ w = 11 ∨ w = 12 ∨ w = 13 ∨ w = 14 by omega) with rfl | rfl | rfl | rfl | rfl | rfl | rfl | rfl | rfl | rfl | rfl | rfl | rfl | rfl | rfl <;> rfl
theorem rq_old (h : RT ρ) (hm : rdMay ρ r s tk tl) (hr : r < 10) {k w : Nat} (hk : k < ρ 25) (hw : w < 15) : rq (raidsR r s b tk tl ρ) k w = rq ρ k w := by
  have h28 := h.1.1
  unfold rq
  rw [raids_hi h hm hr (by omega), if_neg (by omega), if_neg (by omega), if_neg (by omega), if_neg (by omega), rec_old (by omega) h28]
  unfold aheadR
  rw [if_neg (by omega)]
/-- the core that was ahead of the raid -/
theorem core_raids (h : RT ρ) (hm : rdMay ρ r s tk tl) (hr : r < 10) {j : Nat} (hj : j < 130) : coreR (raidsR r s b tk tl ρ) j = ρ j := by
  have h28 := h.1.1
  unfold coreR
  by_cases q : 25 ≤ j
  · rw [if_pos ⟨q, hj⟩, raids_hi h hm hr (by omega), if_neg (by omega), if_neg (by omega), if_neg (by omega), if_neg (by omega), rec_old (by omega) h28]
    unfold aheadR
    rw [if_pos (by omega), Nat.add_sub_cancel]
  · rw [if_neg (by omega)]
    exact raids_lo h hm hr (by omega) (by omega) (by omega) (by omega) (by omega)
end
/-! the number of a set's bits -/
theorem pc_step : ∀ v, v < 1024 → ∀ x, x < 10 → v / 2 ^ x % 2 = 0 → pcn (v ||| 2 ^ x) = pcn v + 1 := by decide +kernel
theorem bit_tb (v i : Nat) : v / 2 ^ i % 2 = if v.testBit i = true then 1 else 0 := by
  rw [Nat.testBit_eq_decide_div_mod_eq]
  have : v / 2 ^ i % 2 < 2 := Nat.mod_lt _ (by decide)
  by_cases h : v / 2 ^ i % 2 = 1
  · rw [h]; rfl
  · have h0 : v / 2 ^ i % 2 = 0 := by omega
    rw [h0]; rfl
theorem orS_bit (v x i : Nat) : (orS v x) / 2 ^ i % 2 = if i = x then 1 else v / 2 ^ i % 2 := by
  rw [bit_tb, bit_tb]
  unfold orS
  rw [Nat.testBit_or, Nat.testBit_two_pow]
  by_cases h : i = x
  · subst h; simp
  · have : ¬ x = i := fun q => h q.symm
    simp [h, this]
theorem set_bit (i : Nat) : ∀ (tl : List Nat) (v : Nat), tl.foldl orS v / 2 ^ i % 2 = if i ∈ tl then 1 else v / 2 ^ i % 2
  | [], v => by simp
  | a :: l, v => by
    show (l.foldl orS (orS v a)) / 2 ^ i % 2 = _
    rw [set_bit i l, orS_bit]
    by_cases h1 : i ∈ l
    · rw [if_pos h1, if_pos (List.mem_cons_of_mem _ h1)]
    · rw [if_neg h1]
      by_cases h2 : i = a
      · rw [if_pos h2, if_pos (by rw [h2]; exact List.mem_cons_self)]
      · rw [if_neg h2, if_neg (by simp [h1, h2])]
theorem setR_bit (tl : List Nat) (i : Nat) : setR tl / 2 ^ i % 2 = if i ∈ tl then 1 else 0 := by
  unfold setR
  rw [set_bit]
  simp
theorem set_pc : ∀ (tl : List Nat) (v : Nat), v < 1024 → tl.Nodup → (∀ x ∈ tl, x < 10 ∧ v / 2 ^ x % 2 = 0) → pcn (tl.foldl orS v) = pcn v + tl.length
  | [], v, _, _, _ => rfl
  | a :: l, v, hv, hn, h => by
    rw [List.nodup_cons] at hn
    have ha := h a List.mem_cons_self
    have hlt : orS v a < 1024 := by
      have : v ||| 2 ^ a < 2 ^ 10 := Nat.or_lt_two_pow hv (Nat.pow_lt_pow_right (by decide) ha.1)
      exact this
    show pcn (l.foldl orS (orS v a)) = _
    rw [set_pc l _ hlt hn.2 (fun x hx => ?_)]
    · have := pc_step v hv a ha.1 ha.2
      show pcn (v ||| 2 ^ a) + _ = _
      rw [this, List.length_cons]
      omega
    · have hx' := h x (List.mem_cons_of_mem _ hx)
      refine ⟨hx'.1, ?_⟩
      rw [orS_bit, if_neg (fun q : x = a => hn.1 (q ▸ hx))]
      exact hx'.2
theorem setR_pc {tl : List Nat} (hn : tl.Nodup) (h : ∀ x ∈ tl, x < 10) : pcn (setR tl) = tl.length := by
  unfold setR
  rw [set_pc tl 0 (by decide) hn (fun x hx => ⟨h x hx, by simp⟩), pcn_0, Nat.zero_add]
