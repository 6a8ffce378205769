/-! ===== the class reads a team ===== -/
section
variable {tp : List Nat} {t : Nat}
def nmE (l : List Nat) : Prop := l = [] ∨ nmOK l
theorem nmE.lt {l : List Nat} (h : nmE l) : p5 l < 1073741824 := by
  rcases h with rfl | h
  · decide
  · exact p5_30 h
theorem nmE.eq {l m : List Nat} (h : nmE l) (hm : nmE m) : nI (p5 l) = nI (p5 m) ↔ l = m := by
  have h1 := h.lt
  have h2 := hm.lt
  rw [nI_eq (by omega) (by omega)]
  have hle : ∀ {k : List Nat}, nmE k → ∀ x ∈ k, 1 ≤ x ∧ x ≤ 26 := by
    intro k hk x hx
    rcases hk with rfl | hk
    · exact absurd hx (by simp)
    · exact hk.2.2 x hx
  exact ⟨fun e => p5_inj' _ l m (Nat.le_refl _) (hle h) (hle hm) e, fun e => by rw [e]⟩
def nnF (tp : List Nat) (t : Nat) (n : Nat → List Nat) (st : PS) : PS := xAd tp (if t = 1 ∧ n 0 = (xNm tp st).2 then xE 3 (xNm tp st).1 else (xNm tp st).1)
theorem c_newName (hl : tp.length ≤ 2000) (hb : ∀ b ∈ tp, b < 256) (ht : t < 2) {M : xMem} {n s : Nat → List Nat} {T : TK} (hn : ∀ u, u < 2 → if u < t then nmOK (n u) else n u = []) (hT : TkO tp T) (h : PkC tp M T) (hR : RwR M 1 tp) (hA : TaR M 6 (n, s, [])) : ∃ r M', fX3_readNewName 60 (nI t) M = some (r, M') ∧ OutC tp M' r (nnF tp t n (.inr T)) ∧ (∀ T', nnF tp t n (.inr T) = .inr T' → TaR M' 6 (upS n t (xNm tp (.inr T)).2, s, []) ∧ nmOK (xNm tp (.inr T)).2 ∧ (t = 1 → n 0 ≠ (xNm tp (.inr T)).2)) ∧ Fg M M' := by
  obtain ⟨-, x1, -⟩ := x60t
  have e80 : M.1 8 0 = nI (p5 (n 0)) := (hA.1 0 (by decide)).1
  have e81 : M.1 8 1 = nI (p5 (n 1)) := (hA.1 1 (by decide)).1
  unfold fX3_readNewName
  rw [c_isName hT hl h, eBn, x1, m50, m60, m78, l8]
  by_cases q : T.2.1 = 1 ∧ T.2.2 - T.1 ≤ 6 ∧ wd tp T = 17
  · have eN : xNm tp (.inr T) = (.inr T, ltr (sg tp T)) := by unfold xNm; simp only [if_pos q]
    have ok := xNm_ok hT q
    have e6 : Int64.toInt32 (M.2.1 60 6) = nI (p5 (ltr (sg tp T))) := by
      rw [h.2.2.2, eL2I]
      unfold vlT vlN
      rw [if_pos q.1]
    unfold nnF
    rw [eN]
    simp only
    generalize ltr (sg tp T) = l at *
    have okE : nmE l := Or.inr ok
    have nl : l ≠ [] := fun e => by rw [e] at ok; exact absurd ok.1 (by decide)
    have hE : ∀ u, u < 2 → nmE (n u) := by
      intro u hu
      have := hn u hu
      by_cases z : u < t
      · rw [if_pos z] at this; exact Or.inr this
      · rw [if_neg z] at this; exact Or.inl this
    have e1 : n 1 ≠ l := by
      have := hn 1 (by decide)
      rw [if_neg (by omega)] at this
      rw [this]; exact fun e => nl e.symm
    rw [if_pos q, c_teamNamed, eBn, e6, e80, e81]
    by_cases z : t = 1 ∧ n 0 = l
    · rw [if_pos z]
      refine ⟨nI 3, M, sF (by decide) ?_, OutC.f (by decide) (by decide) h.2.1, fun T' e => absurd e (by simp [xE, xAd]), Fg.refl M⟩
      rw [if_pos ((hE 0 (by decide)).eq okE |>.2 z.2)]
      exact sF (by decide) rfl
    · rw [if_neg z]
      have e0 : n 0 ≠ l := by
        intro e
        have := hn 0 (by decide)
        by_cases y : 0 < t
        · exact z ⟨by omega, e⟩
        · rw [if_neg y] at this
          rw [this] at e
          exact nl e.symm
      have P1 : PkC tp (xwI M 8 t (nI (p5 l))) T := h.of (by funext j; rw [xwI_c (by decide)]) rfl
      have R1 : RwR (xwI M 8 t (nI (p5 l))) 1 tp := hR.of (by funext j; rw [xwI_c (by decide)]) (by funext j; rw [xwI_c (by decide)])
      obtain ⟨M3, f3, k3, t3, F3⟩ := c_adv hl hb R1 hT P1
      have G : Fg M (xwI M 8 t (nI (p5 l))) := ⟨fun c a _ _ _ => by funext j; rw [xwI_c a], fun _ _ => rfl, rfl⟩
      refine ⟨nI 0, M3, sF (by decide) ?_, ⟨rfl, k3, t3⟩, fun T' _ => ⟨?_, ok, fun _ => e0⟩, G.trans F3.fz.fg⟩
      · rw [if_neg (fun y => e0 ((hE 0 (by decide)).eq okE |>.1 y)), if_neg (fun y => e1 ((hE 1 (by decide)).eq okE |>.1 y))]
        refine sT rfl (sGb t rfl ht (by decide) ?_)
        rw [eCl (show t < 2147483648 by omega)]
        exact sLt (sBv f3 rfl)
      · have A1 : TaR (xwI M 8 t (nI (p5 l))) 6 (upS n t l, s, []) := by
          obtain ⟨b1, b2, b3⟩ := hA
          refine ⟨fun u hu => ⟨?_, ?_, fun i x hi => ?_⟩, ?_, fun i l hi => by simp at hi⟩
          · show (xwI M 8 t (nI (p5 l))).1 8 u = nI (p5 (upS n t l u))
            by_cases e : u = t
            · subst e; rw [xwI_at, upS_t]
            · rw [xwI_ne (Or.inr e), upS_o e]; exact (b1 u hu).1
          · show (xwI M 8 t (nI (p5 l))).1 10 u = _
            rw [xwI_c (by decide)]; exact (b1 u hu).2.1
          · show (xwI M 8 t (nI (p5 l))).1 9 _ = _
            rw [xwI_c (by decide)]; exact (b1 u hu).2.2 i x hi
          · show (xwI M 8 t (nI (p5 l))).1 6 2 = _
            rw [xwI_c (by decide)]; exact b2
        exact A1.fz F3.fz
  · have eN : xNm tp (.inr T) = (.inl (1, T.1), []) := by unfold xNm; simp only [if_neg q]
    have eF : nnF tp t n (.inr T) = .inl (1, T.1) := by
      unfold nnF
      rw [eN]
      split <;> rfl
    rw [eF, if_neg q]
    exact ⟨nI 1, M, sT (by decide) rfl, OutC.f (by decide) (by decide) h.2.1, fun T' e => absurd e (by simp), Fg.refl M⟩
theorem xTeam_def (n s : Nat → List Nat) (st : PS) : xTeam tp t n s st = ((shL tp (upS n t (xNm tp (xPass tp 0 st)).2) t 11 s (xPassS tp 58 (nnF tp t n (xPass tp 0 st)))).1, upS n t (xNm tp (xPass tp 0 st)).2, (shL tp (upS n t (xNm tp (xPass tp 0 st)).2) t 11 s (xPassS tp 58 (nnF tp t n (xPass tp 0 st)))).2) := rfl
theorem xPassS_inl {c : Nat} (b : Nat × Nat) : xPassS tp c (.inl b) = .inl b := by unfold xPassS xS; rfl
theorem xPass_inl {j : Nat} (b : Nat × Nat) : xPass tp j (.inl b) = .inl b := by unfold xPass xW; rfl
theorem nnF_inl {n : Nat → List Nat} (b : Nat × Nat) : nnF tp t n (.inl b) = .inl b := by
  show xAd tp (if t = 1 ∧ n 0 = [] then xE 3 (.inl b) else (.inl b)) = _
  split <;> rfl
theorem shL_inl {n s : Nat → List Nat} {k : Nat} (b : Nat × Nat) : (shL tp n t k s (.inl b)).1 = .inl b := by
  cases k with
  | zero => rfl
  | succ k => rfl
theorem c_readTeam (hl : tp.length ≤ 2000) (hb : ∀ b ∈ tp, b < 256) (ht : t < 2) {M : xMem} {n s : Nat → List Nat} {T : TK} (hn : ∀ u, u < 2 → if u < t then nmOK (n u) else n u = []) (hS : SOK s) (hs0 : s t = []) (hT : TkO tp T) (h : PkC tp M T) (hR : RwR M 1 tp) (hA : TaR M 6 (n, s, [])) : ∃ r M', fX3_readTeam 60 (nI t) M = some (r, M') ∧ OutC tp M' r (xTeam tp t n s (.inr T)).1 ∧ (∀ T', (xTeam tp t n s (.inr T)).1 = .inr T' → TaR M' 6 ((xTeam tp t n s (.inr T)).2.1, (xTeam tp t n s (.inr T)).2.2, []) ∧ nmOK ((xTeam tp t n s (.inr T)).2.1 t) ∧ (t = 1 → n 0 ≠ (xTeam tp t n s (.inr T)).2.1 1)) ∧ Fg M M' := by
  rw [xTeam_def]
  simp only
  unfold fX3_readTeam
  obtain ⟨r1, M1, f1, o1, F1⟩ := c_takeWord hl hb hR hT h (j := 0) (by decide)
  rw [f1, eBn]
  have bad : ∀ {r : Int32} {M0 : xMem} {b : Nat × Nat}, OutC tp M0 r (.inl b) → ¬ r = 0 := by
    intro r M0 b o
    obtain ⟨c1, c2, c3, c4⟩ := o
    rw [c1]
    exact eN0 (by omega) (by omega)
  cases e1 : xPass tp 0 (.inr T) with
  | inl b =>
    rw [e1] at o1
    rw [nnF_inl, xPassS_inl, shL_inl]
    refine ⟨r1, M1, sLt (sLt ?_), o1, fun T' e => absurd e (by simp), F1.fz.fg⟩
    refine sF (bad o1) ?_
    refine sLt (sF (bad o1) (sF (bad o1) rfl))
  | inr T1 =>
    rw [e1] at o1
    obtain ⟨c1, P1, T1O⟩ := o1
    obtain ⟨r2, M2, f2, o2, g2, F2⟩ := c_newName hl hb ht (s := s) hn T1O P1 (hR.fz F1.fz) (hA.fz F1.fz)
    cases e2 : nnF tp t n (.inr T1) with
    | inl b =>
      rw [e2] at o2
      rw [xPassS_inl, shL_inl]
      refine ⟨r2, M2, sLt (sLt ?_), o2, fun T' e => absurd e (by simp), F1.fz.fg.trans F2⟩
      refine sT c1 (sBn f2 ?_)
      refine sLt (sF (bad o2) (sF (bad o2) rfl))
    | inr T2 =>
      rw [e2] at o2
      obtain ⟨d1, P2, T2O⟩ := o2
      obtain ⟨A2, ok2, ne2⟩ := g2 T2 e2
      generalize (xNm tp (.inr T1)).2 = l at *
      have R2 : RwR M2 1 tp := (hR.fz F1.fz).fg F2
      obtain ⟨r3, M3, f3, o3, F3, -⟩ := c_takeSign hl hb R2 T2O P2 (c := 58) (by decide)
      cases e3 : xPassS tp 58 (.inr T2) with
      | inl b =>
        rw [e3] at o3
        rw [shL_inl]
        refine ⟨r3, M3, sLt (sLt ?_), o3, fun T' e => absurd e (by simp), (F1.fz.fg.trans F2).trans F3.fz.fg⟩
        refine sT c1 (sBn f2 ?_)
        refine sLt (sT d1 (sBn f3 (sF (bad o3) rfl)))
      | inr T3 =>
        rw [e3] at o3
        obtain ⟨g1, P3, T3O⟩ := o3
        obtain ⟨r4, M4, f4, o4, A4, F4⟩ := c_shirts (n := upS n t l) hl hb ht 11 s M3 T3 xFU (by rw [hs0]; rfl) (by decide) hS T3O P3 (R2.fz F3.fz) (A2.fz F3.fz)
        rw [hs0] at f4
        refine ⟨r4, M4, sLt (sLt ?_), o4, fun T' e => ⟨A4, ?_, fun z => ?_⟩, ((F1.fz.fg.trans F2).trans F3.fz.fg).trans F4⟩
        · refine sT c1 (sBn f2 ?_)
          refine sLt (sT d1 (sBn f3 (sT g1 ?_)))
          exact sBn f4 rfl
        · rw [upS_t]; exact ok2
        · rw [← z, upS_t]; exact ne2 z
end
