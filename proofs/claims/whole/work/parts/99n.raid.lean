/-! ===== raids are read: what is read, and the model ===== -/
def thB (σ : Nat → Nat) (u : Nat) (tl : List Nat) (o : PS × Nat) : PS := xCan (if σ (48 + 10 * u + o.2) = 0 ∧ o.2 ∉ tl then 1 else 0) o.1
def thF (tp : List Nat) (σ : Nat → Nat) (tl : List Nat) (i : Nat) (R : List Nat → PS → PS × Nat × List Nat) : PS → PS × Nat × List Nat
  | .inl b => (.inl b, 0, tl)
  | .inr T => if xS tp 44 (xAd tp (.inr T)) = 1 then R (tl ++ [i]) (xAd tp (xAd tp (.inr T))) else (xBon tp σ (xAd tp (.inr T)), xW tp 14 (xAd tp (.inr T)), tl ++ [i])
def thL (tp : List Nat) (σ : Nat → Nat) (u : Nat) : Nat → List Nat → PS → PS × Nat × List Nat
  | 0, tl, st => (st, 0, tl)
  | k + 1, tl, st => thF tp σ tl (xOne tp σ u st).2 (thL tp σ u k) (thB σ u tl (xOne tp σ u st))
def tkU (tp : List Nat) (σ : Nat → Nat) (i : Nat) (st : PS) : PS × Nat × Nat := (xBon tp σ st, xW tp 14 st, i)
def tkV (tp : List Nat) (σ : Nat → Nat) (u : Nat) (o : PS × Nat) : PS × Nat × Nat := tkU tp σ o.2 (xAd tp (thB σ u [] o))
def rdL1 (r : Nat) (q : PS × Nat × List Nat) : PL := (q.1, .inl (r, 1, q.2.1, 0, q.2.2))
def rdL3 (r : Nat) (q : PS × Nat × Nat) : PL := (q.1, .inl (r, 3, q.2.1, q.2.2, []))
def rdV (tp : List Nat) (σ : Nat → Nat) (r : Nat) (st : PS) : PL :=
  if xW tp 12 st = 1 then (xAd tp st, .inl (r, 0, 0, 0, []))
  else if xW tp 13 st = 1 then rdL1 r (thL tp σ (1 - σ 28) 11 [] (xAd tp st))
  else if xW tp 14 st = 1 then (xBon tp σ st, .inl (r, 2, 0, 0, []))
  else if xW tp 15 st = 1 then rdL3 r (tkV tp σ (1 - σ 28) (xOne tp σ (1 - σ 28) (xAd tp st)))
  else if xW tp 16 st = 1 then (xAd tp st, .inl (r, 4, 0, 0, []))
  else (xE 1 st, .inl (r, 0, 0, 0, []))
def rdU (tp : List Nat) (σ : Nat → Nat) (o : PS × Nat) : PL := rdV tp σ o.2 (xAd tp (xCan (if ovR σ = 0 ∧ σ (48 + 10 * σ 28 + o.2) = 0 then 1 else 0) o.1))
def xRaid (tp : List Nat) (σ : Nat → Nat) (st : PS) : PL := rdU tp σ (xOne tp σ (σ 28) (xPass tp 1 (if σ 25 = 200 then xE 7 st else st)))
/-- who is touched is on the mat, and each but once -/
def glT (σ : Nat → Nat) (u : Nat) (tl : List Nat) : Prop := tl.Nodup ∧ ∀ x ∈ tl, x < σ (1 + u) ∧ σ (48 + 10 * u + x) = 0
theorem glT.len {σ : Nat → Nat} {u : Nat} {tl : List Nat} (h : glT σ u tl) (hT : RT σ) (hu : u < 2) : tl.length ≤ 7 := by
  have := (hT.2 u hu).q7' h.1 h.2
  omega
theorem glT.add {σ : Nat → Nat} {u i : Nat} {tl : List Nat} (h : glT σ u tl) (hi : i < σ (1 + u)) (h0 : σ (48 + 10 * u + i) = 0) (hn : i ∉ tl) : glT σ u (tl ++ [i]) := by
  refine ⟨?_, fun x hx => ?_⟩
  · rw [List.nodup_append]
    refine ⟨h.1, by simp, fun a ha b hb => ?_⟩
    have : b = i := by simpa using hb
    rw [this]
    exact fun e => hn (e ▸ ha)
  · rcases List.mem_append.1 hx with z | z
    · exact h.2 x z
    · have : x = i := by simpa using z
      rw [this]; exact ⟨hi, h0⟩
theorem xBon_inr {tp : List Nat} {σ : Nat → Nat} {st : PS} {T : TK} (e : xBon tp σ st = .inr T) : ∃ T', st = .inr T' := by
  unfold xBon at e
  split at e
  · obtain ⟨T1, e1⟩ := xAd_inr e
    exact ⟨T1, (xCan_inr e1).2⟩
  · exact ⟨T, e⟩
theorem xE_inr {f : Nat} {st : PS} {T : TK} : xE f st ≠ .inr T := by
  cases st <;> simp [xE]
section
variable {tp : List Nat} {σ : Nat → Nat} {u : Nat}
theorem xW_le (j : Nat) (st : PS) : xW tp j st < 2 := by rcases xW_lt tp j st with e | e <;> omega
theorem thL_ok (hT : RT σ) (hu : u < 2) : ∀ (k : Nat) (tl : List Nat) (st : PS), tl.length + k = 11 → glT σ u tl → glT σ u (thL tp σ u k tl st).2.2 ∧ (∀ T, (thL tp σ u k tl st).1 = .inr T → (thL tp σ u k tl st).2.2 ≠ [] ∧ ∃ T', st = .inr T') ∧ (thL tp σ u k tl st).2.1 < 2 := by
  intro k
  induction k with
  | zero =>
    intro tl st h1 h2
    have := h2.len hT hu
    omega
  | succ k ih =>
    intro tl st h1 h2
    show glT σ u (thF tp σ tl (xOne tp σ u st).2 (thL tp σ u k) (thB σ u tl (xOne tp σ u st))).2.2 ∧ (∀ T, (thF tp σ tl (xOne tp σ u st).2 (thL tp σ u k) (thB σ u tl (xOne tp σ u st))).1 = .inr T → (thF tp σ tl (xOne tp σ u st).2 (thL tp σ u k) (thB σ u tl (xOne tp σ u st))).2.2 ≠ [] ∧ ∃ T', st = .inr T') ∧ (thF tp σ tl (xOne tp σ u st).2 (thL tp σ u k) (thB σ u tl (xOne tp σ u st))).2.1 < 2
    cases e : thB σ u tl (xOne tp σ u st) with
    | inl b => exact ⟨h2, fun T y => absurd y (by simp [thF]), (by decide : (0 : Nat) < 2)⟩
    | inr T =>
      obtain ⟨e1, e2⟩ := xCan_inr e
      obtain ⟨e3, e4⟩ := ite_1 e1
      obtain ⟨e5, e6⟩ := xOne_inr e2
      have h2' := h2.add e6 e3 e4
      unfold thF
      simp only
      by_cases q : xS tp 44 (xAd tp (.inr T)) = 1
      · simp only [if_pos q]
        obtain ⟨a1, a2, a3⟩ := ih (tl ++ [(xOne tp σ u st).2]) (xAd tp (xAd tp (.inr T))) (by rw [List.length_append]; simp; omega) h2'
        exact ⟨a1, fun T' y => ⟨(a2 T' y).1, T, e5⟩, a3⟩
      · simp only [if_neg q]
        exact ⟨h2', fun T' y => ⟨by simp, T, e5⟩, xW_le _ _⟩
theorem rdU_ok {T : TK} {o : PS × Nat} (hI : RI σ) (h25 : σ 25 < 200) (ho : o.2 < σ (1 + σ 28)) (e : (rdU tp σ o).1 = .inr T) : okL (rdU tp σ o).2 σ := by
  have hT := hI.1.1
  have h28 := hT.1.1
  have h10 := hT.1.m h28
  unfold rdU at *
  generalize hs : xAd tp (xCan (if ovR σ = 0 ∧ σ (48 + 10 * σ 28 + o.2) = 0 then 1 else 0) o.1) = s2 at *
  have st0 : (∃ T', s2 = .inr T') → σ (48 + 10 * σ 28 + o.2) = 0 := by
    rintro ⟨T', y⟩
    rw [y] at hs
    obtain ⟨T1, e1⟩ := xAd_inr hs
    exact (ite_1 (xCan_inr e1).1).2
  unfold rdV at e ⊢
  by_cases w0 : xW tp 12 s2 = 1
  · simp only [if_pos w0] at e ⊢
    exact ⟨⟨⟨ho, st0 (xAd_inr e), List.nodup_nil, fun x hx => absurd hx (by simp), fun y => by omega⟩, by omega, by omega, by omega, by omega, fun _ => rfl, fun _ => rfl, fun _ => rfl⟩, h25, fun y => by omega⟩
  · simp only [if_neg w0] at e ⊢
    by_cases w1 : xW tp 13 s2 = 1
    · simp only [if_pos w1] at e ⊢
      obtain ⟨a1, a2, a3⟩ := thL_ok (tp := tp) hT (show 1 - σ 28 < 2 by omega) 11 [] (xAd tp s2) rfl ⟨List.nodup_nil, fun x hx => absurd hx (by simp)⟩
      obtain ⟨b1, T', b2⟩ := a2 T e
      exact ⟨⟨⟨ho, st0 (xAd_inr b2), a1.1, a1.2, fun _ => b1⟩, by omega, by omega, a3, by omega, fun _ => rfl, fun y => absurd rfl y, fun y => by omega⟩, h25, fun y => by omega⟩
    · simp only [if_neg w1] at e ⊢
      by_cases w2 : xW tp 14 s2 = 1
      · simp only [if_pos w2] at e ⊢
        exact ⟨⟨⟨ho, st0 (xBon_inr e), List.nodup_nil, fun x hx => absurd hx (by simp), fun y => by omega⟩, by omega, by omega, by omega, by omega, fun _ => rfl, fun _ => rfl, fun _ => rfl⟩, h25, fun y => by omega⟩
      · simp only [if_neg w2] at e ⊢
        by_cases w3 : xW tp 15 s2 = 1
        · simp only [if_pos w3] at e ⊢
          have e' : xBon tp σ (xAd tp (thB σ (1 - σ 28) [] (xOne tp σ (1 - σ 28) (xAd tp s2)))) = .inr T := e
          obtain ⟨T1, e1⟩ := xBon_inr e'
          obtain ⟨T2, e2⟩ := xAd_inr e1
          obtain ⟨e3, e4⟩ := xCan_inr e2
          obtain ⟨e5, e6⟩ := xOne_inr e4
          have m10 := hT.1.m (t := 1 - σ 28) (by omega)
          exact ⟨⟨⟨ho, st0 (xAd_inr e5), List.nodup_nil, fun x hx => absurd hx (by simp), fun y => by omega⟩, by omega, by omega, xW_le _ _, by show (xOne tp σ (1 - σ 28) (xAd tp s2)).2 < 10; omega, fun y => absurd rfl y, fun _ => rfl, fun y => by omega⟩, h25, fun _ => e6⟩
        · simp only [if_neg w3] at e ⊢
          by_cases w4 : xW tp 16 s2 = 1
          · simp only [if_pos w4] at e ⊢
            exact ⟨⟨⟨ho, st0 (xAd_inr e), List.nodup_nil, fun x hx => absurd hx (by simp), fun y => by omega⟩, by omega, by omega, by omega, by omega, fun _ => rfl, fun _ => rfl, fun _ => rfl⟩, h25, fun y => by omega⟩
          · simp only [if_neg w4] at e
            exact absurd e xE_inr
theorem rdU_inr {T : TK} {o : PS × Nat} (hI : RI σ) (e : (rdU tp σ o).1 = .inr T) : ∃ T', o.1 = .inr T' := by
  have hT := hI.1.1
  have h28 := hT.1.1
  unfold rdU at e
  generalize hs : xAd tp (xCan (if ovR σ = 0 ∧ σ (48 + 10 * σ 28 + o.2) = 0 then 1 else 0) o.1) = s2 at *
  have key : ∃ T', s2 = .inr T' := by
    cases s2 with
    | inr T' => exact ⟨T', rfl⟩
    | inl b =>
      exfalso
      have : rdV tp σ o.2 (.inl b) = (.inl b, .inl (o.2, 0, 0, 0, [])) := rfl
      rw [this] at e
      exact absurd e (by simp)
  obtain ⟨T', y⟩ := key
  rw [y] at hs
  obtain ⟨T1, e1⟩ := xAd_inr hs
  exact ⟨T1, (xCan_inr e1).2⟩
end
