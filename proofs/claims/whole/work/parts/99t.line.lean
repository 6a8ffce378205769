/-! ===== the class reads lines ===== -/
/-- what the class's parser has before it -/
def CS (tp : List Nat) (M : xMem) (n : Nat → List Nat) (σ : Nat → Nat) : Prop := RwR M 1 tp ∧ (∀ u, u < 2 → M.1 8 u = nI (p5 (n u)) ∧ nmOK (n u)) ∧ RosC M σ ∧ MR M σ ∧ RI σ
/-- only the parser's own numbers and its plan changed -/
def Fy (M M' : xMem) : Prop := (∀ c, c ≠ 60 → c ≠ 61 → c ≠ 62 → M'.1 c = M.1 c) ∧ (∀ c, c ≠ 60 → M'.2.1 c = M.2.1 c) ∧ M'.2.2 = M.2.2
theorem Fy.refl (M : xMem) : Fy M M := ⟨fun _ _ _ _ => rfl, fun _ _ => rfl, rfl⟩
theorem Fy.trans {M M1 M2 : xMem} (h1 : Fy M M1) (h2 : Fy M1 M2) : Fy M M2 := ⟨fun c a b d => (h2.1 c a b d).trans (h1.1 c a b d), fun c a => (h2.2.1 c a).trans (h1.2.1 c a), h2.2.2.trans h1.2.2⟩
theorem Fz.fy {M M' : xMem} (h : Fz M M') : Fy M M' := ⟨fun c a _ _ => h.1 c a, h.2.1, h.2.2⟩
theorem CS.fy {tp : List Nat} {M M' : xMem} {n : Nat → List Nat} {σ : Nat → Nat} (h : CS tp M n σ) (hF : Fy M M') : CS tp M' n σ := by
  obtain ⟨h1, h2, h3, h4, h5⟩ := h
  refine ⟨h1.of (hF.1 1 (by decide) (by decide) (by decide)) (hF.1 2 (by decide) (by decide) (by decide)), ?_, ?_, h4.keep (fun c a b => hF.1 c (by omega) (by omega) (by omega)) (hF.2.1 42 (by decide)), h5⟩
  · rw [hF.1 8 (by decide) (by decide) (by decide)]; exact h2
  · unfold RosC
    rw [hF.1 10 (by decide) (by decide) (by decide), hF.1 9 (by decide) (by decide) (by decide)]
    exact h3
def OutL (tp : List Nat) (M : xMem) (r : Int32) (q : PL) : Prop := OutC tp M r q.1 ∧ ∀ T, q.1 = .inr T → M.2.1 60 9 = lN (codL q.2)
theorem OutC.bad {tp : List Nat} {M : xMem} {r : Int32} {b : Nat × Nat} (o : OutC tp M r (.inl b)) : ¬ r = 0 := by
  obtain ⟨c1, c2, c3, c4⟩ := o
  rw [c1]
  exact eN0 (by omega) (by omega)
theorem OutL.inl {tp : List Nat} {M : xMem} {r : Int32} {q : PL} {b : Nat × Nat} (e : q.1 = .inl b) (o : OutC tp M r (.inl b)) : OutL tp M r q := ⟨by rw [e]; exact o, fun T y => by rw [e] at y; exact absurd y (by simp)⟩
section
variable {tp : List Nat} {n : Nat → List Nat} {σ : Nat → Nat} {M : xMem} {T : TK}
theorem c_wordIn {w lo hi : Nat} {M : xMem} (hw : w ≤ 17) (hlo : lo < 17) (hh : hi < 17) : fX10_isWithin (wI w) (nI lo) (nI hi) M = some (nI (if lo ≤ w ∧ w ≤ hi then 1 else 0), M) := by
  by_cases q : lo ≤ w ∧ w ≤ hi
  · rw [if_pos q]
    refine (c_within (by omega) (by omega)).1 ⟨w, q.1, q.2, ?_⟩
    unfold wI; rw [if_neg (by omega)]
  · rw [if_neg q]
    refine (c_within (by omega) (by omega)).2 ?_
    rintro ⟨m, a, b, c⟩
    rw [wI_eq hw (by omega)] at c
    exact q ⟨by omega, by omega⟩
theorem xW_T {j : Nat} : xW tp j (.inr T) = if wd tp T = j then 1 else 0 := rfl
/-- the class: a name of a team is looked at (nextName, behind its advance) -/
def fX3_checkName (a0 : Nat) (M : xMem) : Option (Int32 × xMem) :=
  xBn (fX3_isName a0 M) fun r1 M2 => if r1 = 0 then (some ((nI 1), M2)) else (xBn (fX5_teamNamed (xrf (xrf (xrf a0 1) 0) 0) (Int64.toInt32 (M2.2.1 a0 6)) M2) fun r3 M4 => xLt (xwI M4 a0 7 r3) fun M5 => if (M5.1 a0 7) = (-1) then (some ((nI 4), M5)) else (some ((nI 0), M5)))
theorem c_nextN {M M1 M2 : xMem} {r : Int32} (f1 : fX3_advance 60 M = some M1) (f2 : fX3_checkName 60 M1 = some (r, M2)) : fX3_nextName 60 M = some (r, M2) := by
  unfold fX3_nextName
  unfold fX3_checkName at f2
  exact sBv f1 f2
theorem c_nextS {M M1 M2 : xMem} {r t : Int32} (f1 : fX3_advance 60 M = some M1) (f2 : fX3_checkShirt 60 t M1 = some (r, M2)) : fX3_nextShirt 60 t M = some (r, M2) := by
  unfold fX3_nextShirt
  exact sBv f1 (sBn f2 rfl)
theorem c_checkName (hl : tp.length ≤ 2000) (hT : TkO tp T) (h : PkC tp M T) (hn : ∀ u, u < 2 → M.1 8 u = nI (p5 (n u)) ∧ nmOK (n u)) : ∃ r M', fX3_checkName 60 M = some (r, M') ∧ OutC tp M' r (xTm tp n (.inr T)).1 ∧ Fz M M' ∧ ((xTm tp n (.inr T)).1 = .inr T → M'.1 60 7 = nI (xTm tp n (.inr T)).2) := by
  obtain ⟨-, x1, -⟩ := x60t
  obtain ⟨n0, ok0⟩ := hn 0 (by decide)
  obtain ⟨n1, ok1⟩ := hn 1 (by decide)
  unfold fX3_checkName
  rw [c_isName hT hl h, eBn, x1, m50, m60]
  unfold xTm
  by_cases q : T.2.1 = 1 ∧ T.2.2 - T.1 ≤ 6 ∧ wd tp T = 17
  · have eN : xNm tp (.inr T) = (.inr T, ltr (sg tp T)) := by unfold xNm; simp only [if_pos q]
    have ok := xNm_ok hT q
    have e6 : Int64.toInt32 (M.2.1 60 6) = nI (p5 (ltr (sg tp T))) := by
      rw [h.2.2.2, eL2I]
      unfold vlT vlN
      rw [if_pos q.1]
    rw [eN, if_pos q, e6, c_teamNamed, eBn, n0, n1]
    simp only
    generalize ltr (sg tp T) = l at *
    have q0 : nI (p5 (n 0)) = nI (p5 l) ↔ n 0 = l := nmE.eq (Or.inr ok0) (Or.inr ok)
    have q1 : nI (p5 (n 1)) = nI (p5 l) ↔ n 1 = l := nmE.eq (Or.inr ok1) (Or.inr ok)
    unfold tmF
    by_cases z0 : n 0 = l
    · rw [if_pos z0, if_pos (q0.2 z0)]
      refine ⟨nI 0, xwI M 60 7 (nI 0), sF (by decide) (sLt (sF (by rw [xwI_at]; decide) rfl)), ⟨rfl, h.wI (by decide), hT⟩, Fz.wI, fun _ => xwI_at _ _ _ _⟩
    · rw [if_neg z0, if_neg (fun y => z0 (q0.1 y))]
      by_cases z1 : n 1 = l
      · rw [if_pos z1, if_pos (q1.2 z1)]
        refine ⟨nI 0, xwI M 60 7 (nI 1), sF (by decide) (sLt (sF (by rw [xwI_at]; decide) rfl)), ⟨rfl, h.wI (by decide), hT⟩, Fz.wI, fun _ => xwI_at _ _ _ _⟩
      · rw [if_neg z1, if_neg (fun y => z1 (q1.1 y))]
        refine ⟨nI 4, xwI M 60 7 (-1), sF (by decide) (sLt (sT (xwI_at _ _ _ _) rfl)), OutC.f (by decide) (by decide) ?_, Fz.wI, fun y => absurd y (by simp)⟩
        rw [xwI_ne (by omega)]; exact h.2.1
  · have eN : xNm tp (.inr T) = (.inl (1, T.1), []) := by unfold xNm; simp only [if_neg q]
    rw [eN, if_neg q]
    exact ⟨nI 1, M, sT (by decide) rfl, OutC.f (by decide) (by decide) h.2.1, Fz.refl M, fun y => absurd y (by simp)⟩
theorem c_half (hl : tp.length ≤ 2000) (hb : ∀ b ∈ tp, b < 256) (hT : TkO tp T) (h : PkC tp M T) (hC : CS tp M n σ) (hw : wd tp T = 4) : ∃ r M', fX3_readHalf 60 M = some (r, M') ∧ OutL tp M' r (xHalf tp σ (.inr T)) ∧ Fy M M' := by
  obtain ⟨-, x1, -⟩ := x60t
  unfold fX3_readHalf
  rw [x1, m51, s_isOver hC.2.2.2.1.1 hC.2.2.2.2.1.2.1, eBn]
  have : ovR σ < 2 := ite01 _
  have w4 : xW tp 4 (.inr T) = 1 := by rw [xW_T, if_pos hw]
  rcases (show ovR σ = 0 ∨ ovR σ = 1 by omega) with e | e
  · obtain ⟨M1, f1, k1, t1, F1⟩ := c_adv hl hb hC.1 hT h
    have eX : xHalf tp σ (.inr T) = (.inr (adv tp T.2.2), .inr (3, 0, 0, 0)) := by
      unfold xHalf
      rw [e, show (if 0 = 0 then 1 else 0) = 1 from rfl, show xCan 1 (.inr T) = .inr T from rfl, xPass_1 w4]
      rfl
    rw [eX, e]
    refine ⟨nI 0, xwL M1 60 9 (lN (codL (.inr (3, 0, 0, 0)))), sT (by decide) (sBv f1 (sBn (e_packOther (by decide) (by decide) (by decide) (by decide)) rfl)), ⟨⟨rfl, k1.wL, t1⟩, fun T' _ => xwL_at _ _ _ _⟩, (F1.fz.trans Fz.wL).fy⟩
  · have eX : xHalf tp σ (.inr T) = (.inl (5, T.1), .inr (3, 0, 0, 0)) := by
      unfold xHalf
      rw [e, show (if 1 = 0 then 1 else 0) = 0 from rfl]
      show (xPass tp 4 (xE 5 (.inr T)), _) = _
      show (xPass tp 4 (.inl (5, T.1)), _) = _
      rw [xPass_inl]
    rw [eX, e]
    exact ⟨nI 5, M, sF (by decide) rfl, OutL.inl rfl (OutC.f (by decide) (by decide) h.2.1), Fy.refl M⟩
theorem c_review (hl : tp.length ≤ 2000) (hb : ∀ b ∈ tp, b < 256) (hT : TkO tp T) (h : PkC tp M T) (hC : CS tp M n σ) (hw : wd tp T = 5) (h26 : σ 26 < 40) : ∃ r M', fX3_readReview 60 M = some (r, M') ∧ OutL tp M' r (xReview tp n σ (.inr T)) ∧ Fy M M' := by
  obtain ⟨-, x1, -⟩ := x60t
  have w5 : xW tp 5 (.inr T) = 1 := by rw [xW_T, if_pos hw]
  unfold fX3_readReview xReview
  rw [xPass_1 w5, x1, m51]
  show ∃ r M', _ ∧ OutL tp M' r (rvA tp σ (xTm tp n (.inr (adv tp T.2.2)))) ∧ Fy M M'
  obtain ⟨M1, f1, k1, t1, F1⟩ := c_adv hl hb hC.1 hT h
  generalize adv tp T.2.2 = T1 at *
  have C1 := hC.fy F1.fz.fy
  obtain ⟨r2, M2, f2, o2, F2, v2⟩ := c_checkName (n := n) hl t1 k1 C1.2.1
  have C2 := C1.fy F2.fy
  have f12 := c_nextN f1 f2
  have ht := xTm_lt (tp := tp) (n := n) (.inr T1)
  have hin := fun T' => xTm_inr (tp := tp) (n := n) (st := .inr T1) (T := T')
  generalize xTm tp n (.inr T1) = q at *
  obtain ⟨s1, t⟩ := q
  simp only at *
  cases s1 with
  | inl b =>
    exact ⟨r2, M2, sBn f12 (sF o2.bad rfl), OutL.inl (rvA_inl t b) o2, (F1.fz.trans F2).fy⟩
  | inr T1' =>
    have e1 : T1 = T1' := by have := hin T1' rfl; simpa using this
    subst e1
    have v7 := v2 rfl
    obtain ⟨c1, k2, -⟩ := o2
    unfold rvA
    simp only
    by_cases q : caR t σ = 1
    · rw [if_pos ⟨h26, q⟩]
      show ∃ r M', _ ∧ OutL tp M' r (rvB tp t (.inr (adv tp T1.2.2))) ∧ Fy M M'
      obtain ⟨M3, f3, k3, t3, F3⟩ := c_adv hl hb C2.1 t1 k2
      generalize adv tp T1.2.2 = T3 at *
      have C3 := C2.fy F3.fz.fy
      have hle := wd_le tp T3
      have hd : ∀ z, (xLt (fun  (M9 : xMem) => (xBv (fX3_advance 60 M9) fun M10 => xLt (fun (s11 : Int32) (M12 : xMem) => (xBn (fX4_packOther (nI 4) (M10.1 60 7) s11 (nI 0) M12) fun r13 M14 => xLt (xwL M14 60 9 r13) fun M15 => some ((nI 0), M15) : Option (Int32 × xMem))) fun J78 => if wI (wd tp T3) = (nI 7) then (J78 (nI 1) M10) else (J78 (nI 0) M10) : Option (Int32 × xMem))) fun J57 => if wI (wd tp T3) = (nI 7) then (J57  M3) else (if wI (wd tp T3) = (nI 8) then (J57  M3) else (some ((nI 1), M3)))) = z → (xBn (fX3_nextName 60 M) fun r2 M3 => if r2 = 0 then (xBn (fX8_canAsk 12 (M3.1 60 7) M3) fun r4 M5 => if r4 = 0 then (some ((nI 5), M5)) else (xBv (fX3_advance 60 M5) fun M6 => xBn (fX3_word 60 M6) fun r7 M8 => xLt (fun  (M9 : xMem) => (xBv (fX3_advance 60 M9) fun M10 => xLt (fun (s11 : Int32) (M12 : xMem) => (xBn (fX4_packOther (nI 4) (M10.1 60 7) s11 (nI 0) M12) fun r13 M14 => xLt (xwL M14 60 9 r13) fun M15 => some ((nI 0), M15) : Option (Int32 × xMem))) fun J78 => if r7 = (nI 7) then (J78 (nI 1) M10) else (J78 (nI 0) M10) : Option (Int32 × xMem))) fun J57 => if r7 = (nI 7) then (J57  M8) else (if r7 = (nI 8) then (J57  M8) else (some ((nI 1), M8))))) else (some (r2, M3))) = z := by
        intro z hz
        refine sBn f12 (sT c1 ?_)
        rw [v7, s_canAsk kd12 C2.2.2.2.1.1 C2.2.2.2.2.1.2.1 ht, eBn, q]
        exact sF (by decide) (sBv f3 (sBn (c_word k3 t3) hz))
      by_cases q78 : wd tp T3 = 7 ∨ wd tp T3 = 8
      · have eW : wlF tp (.inr T3) = .inr T3 := by
          unfold wlF
          rw [if_pos]
          rw [xW_T, xW_T]
          rcases q78 with y | y
          · left; rw [if_pos y]
          · right; rw [if_pos y]
        obtain ⟨M4, f4, k4, t4, F4⟩ := c_adv hl hb C3.1 t3 k3
        have w7 : M4.1 60 7 = nI t := by rw [F4.2.1 7 (by decide) (by decide) (by decide), F3.2.1 7 (by decide) (by decide) (by decide)]; exact v7
        have hlt := xW_le (tp := tp) 7 (.inr T3)
        unfold rvB
        rw [eW]
        refine ⟨nI 0, xwL M4 60 9 (lN (codL (.inr (4, t, xW tp 7 (.inr T3), 0)))), hd _ ?_, ⟨⟨rfl, k4.wL, t4⟩, fun T' _ => xwL_at _ _ _ _⟩, ((((F1.fz.trans F2).trans F3.fz).trans F4.fz).trans Fz.wL).fy⟩
        refine sJx M3 (fun J => ?_) (sBv f4 (sJw (nI (xW tp 7 (.inr T3))) M4 (fun J => ?_) ?_))
        · rcases q78 with y | y
          · exact sT (by rw [wI_eq hle (by decide)]; exact y) rfl
          · refine sF (by rw [wI_eq hle (by decide)]; omega) (sT (by rw [wI_eq hle (by decide)]; exact y) rfl)
        · rw [xW_T]
          rcases q78 with y | y
          · rw [if_pos y]; exact sT (by rw [wI_eq hle (by decide)]; exact y) rfl
          · rw [iN0 (show ¬ wd tp T3 = 7 by omega)]; exact sF (by rw [wI_eq hle (by decide)]; omega) rfl
        · rw [w7]
          exact sBn (e_packOther (by decide) (by omega) (by omega) (by decide)) rfl
      · have eW : wlF tp (.inr T3) = .inl (1, T3.1) := by
          unfold wlF
          rw [xW_T, xW_T, if_neg (fun y => q78 (Or.inl y)), if_neg (fun y => q78 (Or.inr y)), if_neg (by omega)]
          rfl
        refine ⟨nI 1, M3, hd _ ?_, OutL.inl (b := (1, T3.1)) ?_ (OutC.f (by decide) (by decide) k3.2.1), ((F1.fz.trans F2).trans F3.fz).fy⟩
        · exact sLt (sF (by rw [wI_eq hle (by decide)]; omega) (sF (by rw [wI_eq hle (by decide)]; omega) rfl))
        · unfold rvB; rw [eW]; rfl
    · rw [if_neg (fun y => q y.2)]
      have q0 : caR t σ = 0 := by
        have : caR t σ < 2 := ite01 _
        omega
      refine ⟨nI 5, M2, sBn f12 (sT c1 ?_), OutL.inl (b := (5, T1.1)) (rvB_inl _ _) (OutC.f (by decide) (by decide) k2.2.1), (F1.fz.trans F2).fy⟩
      rw [v7, s_canAsk kd12 C2.2.2.2.1.1 C2.2.2.2.2.1.2.1 ht, eBn, q0]
      exact sT (by decide) rfl
end
