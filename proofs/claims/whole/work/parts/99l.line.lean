/-! ===== lines: what is read of them ===== -/
/-- the line that was read; the row behind it -/
abbrev PL : Type := PS × xLn
def appS (σ : Nat → Nat) (st : PS) (l : xLn) : Nat → Nat := match st with
  | .inr _ => appR l σ
  | .inl _ => σ
def xHalf (tp : List Nat) (σ : Nat → Nat) (st : PS) : PL := (xPass tp 4 (xCan (if ovR σ = 0 then 1 else 0) st), .inr (3, 0, 0, 0))
def wlF (tp : List Nat) (st : PS) : PS := if xW tp 7 st = 1 ∨ xW tp 8 st = 1 then st else xE 1 st
def rvB (tp : List Nat) (t : Nat) (st : PS) : PL := (xAd tp (wlF tp st), .inr (4, t, xW tp 7 st, 0))
def rvA (tp : List Nat) (σ : Nat → Nat) (q : PS × Nat) : PL := rvB tp q.2 (xAd tp (xCan (if σ 26 < 40 ∧ caR q.2 σ = 1 then 1 else 0) q.1))
def xReview (tp : List Nat) (n : Nat → List Nat) (σ : Nat → Nat) (st : PS) : PL := rvA tp σ (xTm tp n (xPass tp 5 st))
def cW (tp : List Nat) (st : PS) : Nat := if xW tp 9 st = 1 then 0 else if xW tp 10 st = 1 then 1 else if xW tp 11 st = 1 then 2 else 3
def cWF (tp : List Nat) (st : PS) : PS := if cW tp st = 3 then xE 1 st else st
def cdC (tp : List Nat) (σ : Nat → Nat) (t i : Nat) (st : PS) : PL := (xAd tp (xCan (if σ (48 + 10 * t + i) = 3 ∧ cW tp st ≠ 2 then 0 else 1) (cWF tp st)), .inr (1, t, i, cW tp st))
def cdB (tp : List Nat) (σ : Nat → Nat) (t : Nat) (o : PS × Nat) : PL := cdC tp σ t o.2 (xAd tp (xCan (if ovR σ = 0 ∧ σ (48 + 10 * t + o.2) ≠ 2 ∧ σ (48 + 10 * t + o.2) ≠ 4 then 1 else 0) o.1))
def cdA (tp : List Nat) (σ : Nat → Nat) (q : PS × Nat) : PL := cdB tp σ q.2 (xOne tp σ q.2 (xAd tp q.1))
def xCard (tp : List Nat) (n : Nat → List Nat) (σ : Nat → Nat) (st : PS) : PL := cdA tp σ (xTm tp n (xPass tp 2 st))
def chC (tp : List Nat) (σ : Nat → Nat) (t f : Nat) (o : PS × Nat) : PL := (xAd tp (xCan (if σ (48 + 10 * t + o.2) = 2 then 1 else 0) o.1), .inr (2, t, f, o.2))
def chB (tp : List Nat) (σ : Nat → Nat) (t : Nat) (o : PS × Nat) : PL := chC tp σ t o.2 (xOne tp σ t (xPass tp 6 (xAd tp (xCan (clR t o.2 σ) o.1))))
def chA (tp : List Nat) (σ : Nat → Nat) (q : PS × Nat) : PL := chB tp σ q.2 (xOne tp σ q.2 (xAd tp q.1))
def xChange (tp : List Nat) (n : Nat → List Nat) (σ : Nat → Nat) (st : PS) : PL := chA tp σ (xTm tp n (xPass tp 3 st))
theorem gd_1 {st : PS} {T : TK} (e : st = .inr T) : gd st = 1 := by rw [e]; rfl
/-- a line is played on the row aside -/
theorem MS.play {tp : List Nat} {M : xMem} {σ : Nat → Nat} {st : PS} {l : xLn} {f : xMem → Option xMem} (h : MS tp M σ st) (hf : ∀ T, st = .inr T → f M = some (nwS M (appR l σ))) : ∃ M', (xBn (fX11_good 146 M) fun r M2 => if r = 0 then (some M2) else (xBv (f M2) fun M3 => some M3)) = some M' ∧ MS tp M' (appS σ st l) st ∧ Fx M M' := by
  cases st with
  | inl b => exact ⟨M, sBn (m_good h) (sT g0 rfl), h, Fx.refl M⟩
  | inr T => exact ⟨nwS M (appR l σ), sBn (m_good h) (sF g1 (sBv (hf T rfl) rfl)), h.nw, Fx.nw h.2.2.1⟩
section
variable {tp : List Nat} {M : xMem} {σ : Nat → Nat} {st : PS} {n : Nat → List Nat}
theorem xSemi_inr {T : TK} (e : xSemi tp st = .inr T) : st = .inr T := by
  unfold xSemi at e
  split at e
  · exact e
  · cases st with
    | inl b => exact e
    | inr T' => exact absurd e (by simp [xE])
theorem xAd_inr {T : TK} (e : xAd tp st = .inr T) : ∃ T', st = .inr T' := by
  cases st with
  | inl b => exact absurd e (by simp [xAd])
  | inr T' => exact ⟨T', rfl⟩
theorem xCan_inr {T : TK} {b : Nat} (e : xCan b st = .inr T) : b = 1 ∧ st = .inr T := by
  unfold xCan at e
  split at e
  · rename_i z; exact ⟨z, e⟩
  · cases st with
    | inl b => exact absurd e (by simp [xE])
    | inr T' => exact absurd e (by simp [xE])
theorem xPass_inr {T : TK} {j : Nat} (e : xPass tp j st = .inr T) : ∃ T', st = .inr T' ∧ wd tp T' = j := by
  unfold xPass at e
  split at e
  · rename_i z
    obtain ⟨T', h⟩ := xAd_inr e
    rw [h] at z
    exact ⟨T', h, ite_1 z⟩
  · cases st with
    | inl b => exact absurd e (by simp [xE])
    | inr T' => exact absurd e (by simp [xE])
theorem xOne_inr {T : TK} {t : Nat} (e : (xOne tp σ t st).1 = .inr T) : st = .inr T ∧ (xOne tp σ t st).2 < σ (1 + t) := by
  unfold xOne at e ⊢
  cases st with
  | inl b => exact absurd e (by simp [xSh])
  | inr T' =>
    unfold xSh at e ⊢
    by_cases k2 : T'.2.1 = 2
    · simp only [if_pos k2] at e ⊢
      by_cases q : 1 ≤ nvC (sg tp T') ∧ nvC (sg tp T') ≤ 99
      · simp only [if_pos q] at e ⊢
        unfold oneF at e ⊢
        by_cases z : fsI σ t (nvC (sg tp T')) < σ (1 + t)
        · simp only [if_pos z] at e ⊢
          exact ⟨e, z⟩
        · simp only [if_neg z] at e
          exact absurd e (by simp)
      · simp only [if_neg q] at e
        exact absurd e (by simp)
    · simp only [if_neg k2] at e
      exact absurd e (by simp)
theorem xTm_inr {T : TK} (e : (xTm tp n st).1 = .inr T) : st = .inr T := by
  unfold xTm at e
  cases st with
  | inl b => exact absurd e (by simp [xNm])
  | inr T' =>
    unfold xNm at e
    by_cases q : T'.2.1 = 1 ∧ T'.2.2 - T'.1 ≤ 6 ∧ wd tp T' = 17
    · simp only [if_pos q] at e
      unfold tmF at e
      split at e
      · exact e
      · split at e
        · exact e
        · exact absurd e (by simp)
    · simp only [if_neg q] at e
      exact absurd e (by simp)
theorem wlF_inr {T : TK} (e : wlF tp st = .inr T) : st = .inr T := by
  unfold wlF at e
  split at e
  · exact e
  · cases st with
    | inl b => exact e
    | inr T' => exact absurd e (by simp [xE])
theorem half_ok {T : TK} (hI : RI σ) (h26 : σ 26 < 40) (e : (xHalf tp σ st).1 = .inr T) : okL (xHalf tp σ st).2 σ := by
  obtain ⟨T', e1, -⟩ := xPass_inr e
  obtain ⟨e2, -⟩ := xCan_inr e1
  have e3 := ite_1 e2
  have h27 := hI.1.2.1.2.2.1
  have := ite_0 e3
  exact ⟨h26, Or.inr (Or.inr (Or.inl ⟨rfl, rfl, rfl, rfl, by omega⟩))⟩
theorem review_ok {T : TK} (h26 : σ 26 < 40) (e : (xReview tp n σ st).1 = .inr T) : okL (xReview tp n σ st).2 σ := by
  have ht := xTm_lt (tp := tp) (n := n) (xPass tp 5 st)
  unfold xReview rvA rvB at *
  simp only at e ⊢
  obtain ⟨T1, e1⟩ := xAd_inr e
  have e2 := wlF_inr e1
  obtain ⟨T3, e3⟩ := xAd_inr e2
  obtain ⟨e4, -⟩ := xCan_inr e3
  have e5 := (ite_1 e4).2
  unfold caR at e5
  have hw := xW_lt tp 7 (xAd tp (xCan (if σ 26 < 40 ∧ caR (xTm tp n (xPass tp 5 st)).2 σ = 1 then 1 else 0) (xTm tp n (xPass tp 5 st)).1))
  exact ⟨h26, Or.inr (Or.inr (Or.inr ⟨rfl, ht, by omega, rfl, (ite_1 e5).2.1⟩))⟩
theorem card_ok {T : TK} (h26 : σ 26 < 40) (e : (xCard tp n σ st).1 = .inr T) : okL (xCard tp n σ st).2 σ ∧ cW tp (xAd tp (xCan (if ovR σ = 0 ∧ σ (48 + 10 * (xTm tp n (xPass tp 2 st)).2 + (xOne tp σ (xTm tp n (xPass tp 2 st)).2 (xAd tp (xTm tp n (xPass tp 2 st)).1)).2) ≠ 2 ∧ σ (48 + 10 * (xTm tp n (xPass tp 2 st)).2 + (xOne tp σ (xTm tp n (xPass tp 2 st)).2 (xAd tp (xTm tp n (xPass tp 2 st)).1)).2) ≠ 4 then 1 else 0) (xOne tp σ (xTm tp n (xPass tp 2 st)).2 (xAd tp (xTm tp n (xPass tp 2 st)).1)).1)) < 3 := by
  have ht := xTm_lt (tp := tp) (n := n) (xPass tp 2 st)
  unfold xCard cdA cdB cdC at *
  simp only at e ⊢
  generalize (xTm tp n (xPass tp 2 st)).2 = t at *
  obtain ⟨T1, e1⟩ := xAd_inr e
  obtain ⟨-, e2⟩ := xCan_inr e1
  have lt4 : ∀ s, cW tp s ≤ 3 := by
    intro s; unfold cW
    split
    · omega
    · split
      · omega
      · split <;> omega
  generalize hs : xAd tp (xCan (if ovR σ = 0 ∧ σ (48 + 10 * t + (xOne tp σ t (xAd tp (xTm tp n (xPass tp 2 st)).1)).2) ≠ 2 ∧ σ (48 + 10 * t + (xOne tp σ t (xAd tp (xTm tp n (xPass tp 2 st)).1)).2) ≠ 4 then 1 else 0) (xOne tp σ t (xAd tp (xTm tp n (xPass tp 2 st)).1)).1) = s4 at *
  have e3 : cW tp s4 ≠ 3 ∧ s4 = .inr T1 := by
    unfold cWF at e2
    split at e2
    · cases s4 with
      | inl b => exact absurd e2 (by simp [xE])
      | inr T' => exact absurd e2 (by simp [xE])
    · rename_i z; exact ⟨z, e2⟩
  have l4 := lt4 s4
  rw [e3.2] at hs
  obtain ⟨T3, e5⟩ := xAd_inr hs
  obtain ⟨e6, e7⟩ := xCan_inr e5
  have e8 := ite_1 e6
  obtain ⟨-, e9⟩ := xOne_inr e7
  exact ⟨⟨h26, Or.inl ⟨rfl, ht, e9, by omega, e8.2.1⟩⟩, by omega⟩
theorem change_ok {T : TK} (h26 : σ 26 < 40) (e : (xChange tp n σ st).1 = .inr T) : okL (xChange tp n σ st).2 σ := by
  have ht := xTm_lt (tp := tp) (n := n) (xPass tp 3 st)
  unfold xChange chA chB chC at *
  simp only at e ⊢
  generalize (xTm tp n (xPass tp 3 st)).2 = t at *
  generalize (xTm tp n (xPass tp 3 st)).1 = s1 at *
  obtain ⟨T1, e1⟩ := xAd_inr e
  obtain ⟨e2, e3⟩ := xCan_inr e1
  have e4 := ite_1 e2
  obtain ⟨e5, e6⟩ := xOne_inr e3
  obtain ⟨T2, e7, -⟩ := xPass_inr e5
  obtain ⟨T3, e8⟩ := xAd_inr e7
  obtain ⟨e9, e10⟩ := xCan_inr e8
  obtain ⟨e11, e12⟩ := xOne_inr e10
  unfold clR at e9
  have e13 := ite_1 e9
  exact ⟨h26, Or.inr (Or.inl ⟨rfl, ht, e12, e6, e13.2.2, e4, e13.2.1⟩)⟩
end
