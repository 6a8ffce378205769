/-! ===== lines are read ===== -/
def alF (tp : List Nat) (ls : List xLn) (l : xLn) (R : List xLn → PS → PS × List xLn) : PS → PS × List xLn
  | .inl b => (.inl b, ls)
  | .inr T => R (ls ++ [l]) (xPassS tp 59 (.inr T))
def alL (tp : List Nat) (n : Nat → List Nat) (ρ : Nat → Nat) : Nat → List xLn → PS → PS × List xLn
  | 0, ls, st => (st, ls)
  | _ + 1, ls, .inl b => (.inl b, ls)
  | k + 1, ls, .inr T => if T.2.1 = 0 then (.inr T, ls) else alF tp ls (lnF tp n (rowF ρ ls) (.inr T)).2 (alL tp n ρ k) (xSemi tp (lnF tp n (rowF ρ ls) (.inr T)).1)
section
variable {tp : List Nat} {n s : Nat → List Nat} {σ : Nat → Nat}
theorem lnF_ok (hI : RI σ) {st : PS} {T' : TK} (e : (lnF tp n σ st).1 = .inr T') : okL (lnF tp n σ st).2 σ := by
  have hR := hI.1.1.1
  have h28 := hR.1
  have h25 := hI.1.2.1.1
  unfold lnF at e ⊢
  have lo : ∀ (f : PS → PL), (∀ b, (f (.inl b)).1 = .inl b) → (f (lnO σ st)).1 = .inr T' → σ 26 < 40 := by
    intro f hf y
    cases e0 : lnO σ st with
    | inl b => rw [e0, hf] at y; exact absurd y (by simp)
    | inr T2 => exact (lnO_inr hI e0).1
  by_cases w1 : xW tp 1 st = 1
  · simp only [if_pos w1] at e ⊢
    unfold xRaid at e ⊢
    have hr := xOne_lt (tp := tp) (t := σ 28) (σ := σ) (xPass tp 1 (if σ 25 = 200 then xE 7 st else st)) (hR.2 _ h28).1.1
    obtain ⟨T1, e1⟩ := rdU_inr hI e
    obtain ⟨e2, -⟩ := xOne_inr e1
    obtain ⟨T2, e3, -⟩ := xPass_inr e2
    refine rdU_ok hI ?_ hr e
    by_cases z : σ 25 = 200
    · rw [if_pos z] at e3; exact absurd e3 xE_inr
    · omega
  · simp only [if_neg w1] at e ⊢
    by_cases w2 : xW tp 2 st = 1
    · simp only [if_pos w2] at e ⊢
      exact (card_ok (lo _ card_inl e) e).1
    · simp only [if_neg w2] at e ⊢
      by_cases w3 : xW tp 3 st = 1
      · simp only [if_pos w3] at e ⊢
        exact change_ok (lo _ change_inl e) e
      · simp only [if_neg w3] at e ⊢
        by_cases w4 : xW tp 4 st = 1
        · simp only [if_pos w4] at e ⊢
          exact half_ok hI (lo _ half_inl e) e
        · simp only [if_neg w4] at e ⊢
          by_cases w5 : xW tp 5 st = 1
          · simp only [if_pos w5] at e ⊢
            exact review_ok (lo _ review_inl e) e
          · simp only [if_neg w5] at e
            exact absurd e xE_inr
theorem rs_nm (h : rsOK n s) {ls : List xLn} (hk : okC (begR n s) ls) : nmR n (rowF (begR n s) ls) := by
  intro t ht
  rw [row_ros (by omega) (RI.beg h) hk, beg_nm ht]
  exact ⟨rfl, (h.1 t ht).1⟩
theorem rs_sh (h : rsOK n s) {ls : List xLn} (hk : okC (begR n s) ls) : shR (rowF (begR n s) ls) := by
  have hS : SOK s := fun u hu => (h.1 u hu).2.1
  intro t ht
  rw [row_ros (by omega) (RI.beg h) hk]
  obtain ⟨a, b⟩ := hS.sh (n := n) t ht
  exact ⟨a, fun i hi => by rw [row_ros (by omega) (RI.beg h) hk]; exact b i hi⟩
theorem m_lines (hl : tp.length ≤ 2000) (hb : ∀ b ∈ tp, b < 256) (hr : rsOK n s) : ∀ (k : Nat) (ls : List xLn) (st : PS) (M : xMem) (F : Nat), ls.length + k = 281 → k < F → okC (begR n s) ls → MS tp M (rowF (begR n s) ls) st → ∃ v M', fX11_readAll_l45 146 (fun (v15 : Int32) (M16 : xMem) => some (v15, M16)) F (nI ls.length) M = some (v, M') ∧ MS tp M' (rowF (begR n s) (alL tp n (begR n s) k ls st).2) (alL tp n (begR n s) k ls st).1 ∧ (∀ T, (alL tp n (begR n s) k ls st).1 = .inr T → v = nI (alL tp n (begR n s) k ls st).2.length) ∧ okC (begR n s) (alL tp n (begR n s) k ls st).2 ∧ Fx M M' := by
  intro k
  induction k with
  | zero =>
    intro ls st M F h1 h2 h3
    have := (td_len (a := (n, s, ls)) ⟨hr, h3⟩).2
    simp only at this
    omega
  | succ k ih =>
    intro ls st M F h1 h2 h3 h
    obtain ⟨F, rfl⟩ : ∃ q, F = q + 1 := ⟨F - 1, by omega⟩
    rw [fX11_readAll_l45.eq_2]
    cases st with
    | inl b => exact ⟨nI ls.length, M, sBn (m_good h) (sT g0 rfl), h, fun T y => absurd y (by simp [alL]), h3, Fx.refl M⟩
    | inr T =>
      have h15 : M.1 146 15 = nI T.2.1 := h.2.2.2.2.2.2.2.2.1
      have hk4 := h.2.2.2.1.b.2.2.2.1
      by_cases z : T.2.1 = 0
      · have eA : alL tp n (begR n s) (k + 1) ls (.inr T) = (.inr T, ls) := by unfold alL; rw [if_pos z]
        rw [eA]
        exact ⟨nI ls.length, M, sBn (m_good h) (sF g1 (sT (by rw [h15, z]; decide) rfl)), h, fun _ _ => rfl, h3, Fx.refl M⟩
      · have eA : alL tp n (begR n s) (k + 1) ls (.inr T) = alF tp ls (lnF tp n (rowF (begR n s) ls) (.inr T)).2 (alL tp n (begR n s) k) (xSemi tp (lnF tp n (rowF (begR n s) ls) (.inr T)).1) := by
          show (if T.2.1 = 0 then _ else _) = _
          rw [if_neg z]
        rw [eA]
        have hI := (RI.beg hr).row h3
        obtain ⟨M1, f1, k1, F1⟩ := m_readLine hl hb hI (rs_nm hr h3) (rs_sh hr h3) h
        have step : ∀ w, fX11_readAll_l45 146 (fun (v15 : Int32) (M16 : xMem) => some (v15, M16)) F (nI (ls.length + 1)) M1 = w → (xBn (fX11_good 146 M) fun r11 M12 => if r11 = 0 then (some (nI ls.length, M12)) else (if (M12.1 146 15) = 0 then (some (nI ls.length, M12)) else (xBv (fX11_readLine 146 M12) fun M13 => xLt (nI ls.length + nI 1) fun x14 => fX11_readAll_l45 146 (fun (v15 : Int32) (M16 : xMem) => some (v15, M16)) F x14 M13))) = w := by
          intro w hw
          exact sBn (m_good h) (sF g1 (sF (by rw [h15]; exact eN0 (by omega) z) (sBv f1 (sLe (nI_add _ _) hw))))
        cases e : xSemi tp (lnF tp n (rowF (begR n s) ls) (.inr T)).1 with
        | inl b =>
          rw [e, xPassS_inl] at k1
          obtain ⟨F, rfl⟩ : ∃ q, F = q + 1 := ⟨F - 1, by omega⟩
          refine ⟨nI (ls.length + 1), M1, step _ ?_, k1, fun T y => absurd y (by simp [alF]), h3, F1⟩
          rw [fX11_readAll_l45.eq_2]
          exact sBn (m_good k1) (sT g0 rfl)
        | inr T1 =>
          rw [e] at k1
          have ok := lnF_ok hI (xSemi_inr e)
          have h3' : okC (begR n s) (ls ++ [(lnF tp n (rowF (begR n s) ls) (.inr T)).2]) := okC_app.2 ⟨h3, ok⟩
          have k1' : MS tp M1 (rowF (begR n s) (ls ++ [(lnF tp n (rowF (begR n s) ls) (.inr T)).2])) (xPassS tp 59 (.inr T1)) := by rw [rowF_app]; exact k1
          have hlen : (ls ++ [(lnF tp n (rowF (begR n s) ls) (.inr T)).2]).length = ls.length + 1 := by rw [List.length_append]; rfl
          obtain ⟨v, M2, f2, k2, v2, c2, F2⟩ := ih _ (xPassS tp 59 (.inr T1)) M1 F (by omega) (by omega) h3' k1'
          rw [hlen] at f2
          exact ⟨v, M2, step _ f2, k2, v2, c2, F1.trans F2⟩
end
