/-! ===== the whole text: what is read, and the model ===== -/
def N0 : Nat → List Nat := fun _ => []
def txA (tp : List Nat) : PS × (Nat → List Nat) × (Nat → List Nat) := xTeam tp 0 N0 N0 (.inr (adv tp 0))
def txB (tp : List Nat) : PS × (Nat → List Nat) × (Nat → List Nat) := xTeam tp 1 (txA tp).2.1 (txA tp).2.2 (txA tp).1
def txL (tp : List Nat) : PS × List xLn := alL tp (txB tp).2.1 (begR (txB tp).2.1 (txB tp).2.2) 281 [] (txB tp).1
def txT (tp : List Nat) : xTl := ((txB tp).2.1, (txB tp).2.2, (txL tp).2)
section
variable {tp : List Nat} {t : Nat} {n s : Nat → List Nat}
theorem xPassS_inr {T : TK} {c : Nat} {st : PS} (e : xPassS tp c st = .inr T) : ∃ T', st = .inr T' ∧ xS tp c st = 1 ∧ T = adv tp T'.2.2 := by
  unfold xPassS at e
  split at e
  · rename_i z
    obtain ⟨T', h⟩ := xAd_inr e
    rw [h] at e
    have : adv tp T'.2.2 = T := by simpa [xAd] using e
    exact ⟨T', h, z, this.symm⟩
  · exact absurd e xE_inr
theorem xTeam_ok (ht : t < 2) (hS : SOK s) (hs0 : s t = []) {st : PS} (hT : ∀ T, st = .inr T → TkO tp T) : SOK (xTeam tp t n s st).2.2 ∧ (∀ u, u ≠ t → (xTeam tp t n s st).2.1 u = n u ∧ (xTeam tp t n s st).2.2 u = s u) ∧ ∀ T', (xTeam tp t n s st).1 = .inr T' → nmOK ((xTeam tp t n s st).2.1 t) ∧ 7 ≤ ((xTeam tp t n s st).2.2 t).length ∧ (t = 1 → n 0 ≠ (xTeam tp t n s st).2.1 1) ∧ ∃ T, st = .inr T := by
  rw [xTeam_def]
  simp only
  obtain ⟨a1, a2, a3⟩ := shL_ok (tp := tp) (n := upS n t (xNm tp (xPass tp 0 st)).2) ht 11 s (xPassS tp 58 (nnF tp t n (xPass tp 0 st))) hS
  refine ⟨a1, fun u hu => ⟨upS_o hu, a2 u hu⟩, fun T' e => ?_⟩
  cases e1 : xPassS tp 58 (nnF tp t n (xPass tp 0 st)) with
  | inl b => rw [e1, shL_inl] at e; exact absurd e (by simp)
  | inr T1 =>
    obtain ⟨T2, e2, -, -⟩ := xPassS_inr e1
    unfold nnF at e2
    obtain ⟨T3, e3⟩ := xAd_inr e2
    have e4 : ¬ (t = 1 ∧ n 0 = (xNm tp (xPass tp 0 st)).2) ∧ (xNm tp (xPass tp 0 st)).1 = .inr T3 := by
      by_cases z : t = 1 ∧ n 0 = (xNm tp (xPass tp 0 st)).2
      · rw [if_pos z] at e3; exact absurd e3 xE_inr
      · rw [if_neg z] at e3; exact ⟨z, e3⟩
    have e5 : ∃ T4, xPass tp 0 st = .inr T4 ∧ (T4.2.1 = 1 ∧ T4.2.2 - T4.1 ≤ 6 ∧ wd tp T4 = 17) ∧ (xNm tp (xPass tp 0 st)).2 = ltr (sg tp T4) := by
      cases hp : xPass tp 0 st with
      | inl b => rw [hp] at e4; exact absurd e4.2 (by simp [xNm])
      | inr T4 =>
        rw [hp] at e4
        by_cases q : T4.2.1 = 1 ∧ T4.2.2 - T4.1 ≤ 6 ∧ wd tp T4 = 17
        · exact ⟨T4, rfl, q, by unfold xNm; simp only [if_pos q]⟩
        · have := e4.2
          unfold xNm at this
          simp only [if_neg q] at this
          exact absurd this (by simp)
    obtain ⟨T4, e6, q, e7⟩ := e5
    obtain ⟨T5, e8, e9⟩ := xPass_inr e6
    have T5O := hT T5 e8
    have e10 : T4 = adv tp T5.2.2 := by
      rw [e8] at e6
      have w : xW tp 0 (.inr T5) = 1 := by show (if wd tp T5 = 0 then 1 else 0) = 1; rw [if_pos e9]
      rw [xPass_1 w] at e6
      have : adv tp T5.2.2 = T4 := by simpa [xAd] using e6
      exact this.symm
    have T4O : TkO tp T4 := by rw [e10]; exact T5O.nx
    refine ⟨by rw [upS_t, e7]; exact xNm_ok T4O q, by rw [e1] at a3 e; exact a3 (by decide) T' (by rw [hs0]; rfl) e, fun z y => e4.1 ⟨z, ?_⟩, T5, e8⟩
    subst z
    rw [upS_t] at y
    exact y
theorem sok0 : SOK N0 := fun u hu => ⟨by simp [N0], List.nodup_nil, fun x hx => absurd hx (by simp [N0])⟩
theorem tk0 : ∀ T, (.inr (adv tp 0) : PS) = .inr T → TkO tp T := fun T e => by
  have : adv tp 0 = T := by simpa using e
  exact ⟨0, by omega, this.symm⟩
end
theorem e_clear {M : xMem} {α : Nat → Nat} (K : Int32 → xMem → Option (Int32 × xMem)) : fX11_readAll_l2 146 K xFU (nI 0) (nwS M α) = K (nI 3235) (nwS M (fun j => if j < 3235 then 0 else α j)) := by
  have hL := loopU (fun n k => fX11_readAll_l2 146 K n (nI k) (nwS M (fun j => if j < k then 0 else α j))) 3235 (K (nI 3235) (nwS M (fun j => if j < 3235 then 0 else α j))) (by decide) (fun n k hk => ?_) (fun n => ?_)
  · have e : (fun j => if j < 0 then 0 else α j) = α := by
      funext j
      rw [if_neg (by omega)]
    rw [e] at hL
    exact hL
  · rw [fX11_readAll_l2.eq_2]
    refine sF (by rw [eLe (by decide) (by omega)]; omega) (sGn k rfl hk (sWn k 0 rfl (eCl (by omega)) rfl ?_))
    refine sLe (nI_1 k) ?_
    congr 2
    funext j
    by_cases h : j = k
    · subst h
      rw [va_at_eq, if_pos (by omega)]
    · rw [va_at_ne h]
      by_cases h2 : j < k
      · rw [if_pos h2, if_pos (by omega)]
      · rw [if_neg h2, if_neg (by omega)]
  · rw [fX11_readAll_l2.eq_2]
    exact sT (by decide) rfl
theorem beg_N0 : begR N0 N0 = va_up (fun _ => 0) 0 1 := by
  funext j
  unfold begR N0
  by_cases h0 : j = 0
  · rw [if_pos h0, h0, va_at_eq]
  · rw [if_neg h0, va_at_ne h0]
    by_cases h3 : j < 3
    · rw [if_pos h3]; rfl
    · rw [if_neg h3]
      by_cases h5 : j < 5
      · rw [if_pos h5]; decide
      · rw [if_neg h5]
        by_cases h15 : j < 15
        · rw [if_pos h15]; simp
        · rw [if_neg h15]
          by_cases h25 : j < 25
          · rw [if_pos h25]; simp
          · rw [if_neg h25, if_neg (by simp; omega), if_neg (by simp; omega)]
section
variable {tp : List Nat}
theorem tx_ok (hA : ∀ T, (txA tp).1 = .inr T → TkO tp T) : SOK (txB tp).2.2 ∧ ∀ T, (txB tp).1 = .inr T → rsOK (txB tp).2.1 (txB tp).2.2 := by
  obtain ⟨a1, a2, a3⟩ := xTeam_ok (tp := tp) (t := 0) (n := N0) (s := N0) (st := .inr (adv tp 0)) (by decide) sok0 rfl tk0
  have s1 : (txA tp).2.2 1 = [] := (a2 1 (by decide)).2
  obtain ⟨b1, b2, b3⟩ := xTeam_ok (tp := tp) (t := 1) (n := (txA tp).2.1) (s := (txA tp).2.2) (st := (txA tp).1) (by decide) a1 s1 hA
  refine ⟨b1, fun T e => ?_⟩
  obtain ⟨c1, c2, c3, T', c4⟩ := b3 T e
  obtain ⟨d1, d2, -, -⟩ := a3 T' c4
  have e0 := b2 0 (by decide)
  refine ⟨fun t ht => ?_, ?_⟩
  · rcases (show t = 0 ∨ t = 1 by omega) with rfl | rfl
    · have u1 : (txB tp).2.1 0 = (txA tp).2.1 0 := e0.1
      have u2 : (txB tp).2.2 0 = (txA tp).2.2 0 := e0.2
      rw [u1, u2]
      exact ⟨d1, a1 0 (by decide), d2⟩
    · exact ⟨c1, b1 1 (by decide), c2⟩
  · have u1 : (txB tp).2.1 0 = (txA tp).2.1 0 := e0.1
    rw [u1]
    exact c3 rfl
theorem m_readAll (hl : tp.length ≤ 2000) (hb : ∀ b ∈ tp, b < 256) {M : xMem} {α : Nat → Nat} (hp : TpB tp M) (hw : xnw M = 148) (hα : M.2.1 148 = lf α) (hf : ∀ j, 3235 ≤ j → α j = 0) (h13 : M.1 146 13 = nI 0) (h17 : M.1 146 17 = nI 0) (h18 : M.1 146 18 = -1) : ∃ v M' β, fX11_readAll 146 M = some (v, M') ∧ MS tp M' β (txL tp).1 ∧ (∀ T, (txL tp).1 = .inr T → v = nI (txT tp).2.2.length ∧ β = rowT (txT tp) ∧ tdOK (txT tp)) ∧ (∀ j, 3235 ≤ j → β j = 0) ∧ Fx M M' ∧ (∀ T, (txA tp).1 = .inr T → TkO tp T) ∧ ∀ T, (txB tp).1 = .inr T → TkO tp T := by
  have eM : M = nwS M α := nwS_of (by rw [hw]; exact hα)
  have e0 : (fun j => if j < 3235 then 0 else α j) = fun _ => 0 := by
    funext j
    by_cases z : j < 3235
    · rw [if_pos z]
    · rw [if_neg z, hf j (by omega)]
  have E : ∀ K, fX11_readAll_l2 146 K xFU (nI 0) M = K (nI 3235) (nwS M fun _ => 0) := fun K => by
    have := e_clear (M := M) (α := α) K
    rw [← eM, e0] at this
    exact this
  have p1 : TpB tp (nwS M (begR N0 N0)) := hp
  obtain ⟨M1, f1, k1, F1⟩ := m_advance p1 hl hb (p := 0) (by omega) h13
  have k1' : MS tp M1 (begR N0 N0) (.inr (adv tp 0)) := by
    refine ⟨p1.fe F1.fe, TM.of_nw.fe F1.fe, nw.fe (by rw [nwS_w]; exact hw) F1.fe, ⟨0, by omega, rfl⟩, ?_, ?_, k1⟩
    · rw [F1.2.1 17 (by omega)]; exact h17
    · rw [F1.2.1 18 (by omega)]; exact h18
  obtain ⟨a1, a2, a3⟩ := xTeam_ok (tp := tp) (t := 0) (n := N0) (s := N0) (st := .inr (adv tp 0)) (by decide) sok0 rfl tk0
  obtain ⟨M2, f2, k2, F2⟩ := m_readTeam (t := 0) hl hb (by decide) sok0 rfl (fun y => by omega) k1'
  have hA : ∀ T, (txA tp).1 = .inr T → TkO tp T := fun T e => by
    have : MS tp M2 (begR (txA tp).2.1 (txA tp).2.2) (txA tp).1 := k2
    rw [e] at this
    exact this.2.2.2.1
  obtain ⟨b1, b2⟩ := tx_ok hA
  obtain ⟨M3, f3, k3, F3⟩ := m_readTeam (t := 1) (n := (txA tp).2.1) (s := (txA tp).2.2) hl hb (by decide) a1 (a2 1 (by decide)).2 (fun _ T e => (a3 T e).1) k2
  have k3' : MS tp M3 (begR (txB tp).2.1 (txB tp).2.2) (txB tp).1 := k3
  have hB : ∀ T, (txB tp).1 = .inr T → TkO tp T := fun T e => by
    rw [e] at k3'
    exact k3'.2.2.2.1
  have G1 : Fx M (nwS M (begR N0 N0)) := Fx.nw hw
  have head : ∀ z, fX11_readAll_l45 146 (fun (v15 : Int32) (M16 : xMem) => some (v15, M16)) xFU (nI 0) M3 = z → fX11_readAll 146 M = z := by
    intro z hz
    unfold fX11_readAll
    refine (E _).trans ?_
    refine sGn 0 rfl (by decide) (sWn 0 1 rfl (eCl (by decide)) rfl ?_)
    rw [← beg_N0]
    exact sBv f1 (sBv f2 (sBv f3 hz))
  have GF : Fx M M3 := ((G1.trans F1.fe.fx).trans F2).trans F3
  cases e : (txB tp).1 with
  | inl b =>
    rw [e] at k3'
    have eL : txL tp = (.inl b, []) := by unfold txL; rw [e]; rfl
    rw [eL]
    refine ⟨nI 0, M3, begR (txB tp).2.1 (txB tp).2.2, head _ ?_, k3', fun T y => absurd y (by simp), fun j hj => beg_0 (by omega) (by omega), GF, hA, fun T y => absurd y (by simp)⟩
    rw [show xFU = 39999 + 1 from rfl, fX11_readAll_l45.eq_2]
    exact sBn (m_good k3') (sT g0 rfl)
  | inr T =>
    have hr := b2 T e
    obtain ⟨v, M4, f4, k4, v4, c4, F4⟩ := m_lines hl hb hr 281 [] (txB tp).1 M3 xFU rfl (by decide) trivial k3'
    refine ⟨v, M4, rowF (begR (txB tp).2.1 (txB tp).2.2) (txL tp).2, head _ f4, k4, fun T' y => ⟨v4 T' y, rfl, hr, c4⟩, fun j hj => ?_, GF.trans F4, hA, fun T' y => hB T' (by rw [e]; exact y)⟩
    have c5 : okC (begR (txB tp).2.1 (txB tp).2.2) (txL tp).2 := c4
    rw [row_far hj (RI.beg hr) c5]
    exact beg_0 (by omega) (by omega)
end
