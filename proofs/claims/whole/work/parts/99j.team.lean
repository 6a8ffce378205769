/-! ===== teams are read: the class ===== -/
def Fg (M M' : xMem) : Prop := (∀ c, c ≠ 8 → c ≠ 9 → c ≠ 10 → c ≠ 60 → M'.1 c = M.1 c) ∧ (∀ c, c ≠ 60 → M'.2.1 c = M.2.1 c) ∧ M'.2.2 = M.2.2
theorem Fg.refl (M : xMem) : Fg M M := ⟨fun _ _ _ _ _ => rfl, fun _ _ => rfl, rfl⟩
theorem Fg.trans {M M1 M2 : xMem} (h1 : Fg M M1) (h2 : Fg M1 M2) : Fg M M2 := ⟨fun c a b d e => (h2.1 c a b d e).trans (h1.1 c a b d e), fun c a => (h2.2.1 c a).trans (h1.2.1 c a), h2.2.2.trans h1.2.2⟩
theorem Fz.fg {M M' : xMem} (h : Fz M M') : Fg M M' := ⟨fun c _ _ _ a => h.1 c a, h.2.1, h.2.2⟩
theorem RwR.fg {M M' : xMem} {tp : List Nat} (h : RwR M 1 tp) (hF : Fg M M') : RwR M' 1 tp := h.of (hF.1 1 (by decide) (by decide) (by decide) (by decide)) (hF.1 2 (by decide) (by decide) (by decide) (by decide))
theorem TaR.fz {M M' : xMem} {a : xTl} (h : TaR M 6 a) (hF : Fz M M') : TaR M' 6 a := h.keep (fun c u v => hF.1 c (by omega)) (hF.2.1 _ (by decide))
section
variable {tp : List Nat} {n : Nat → List Nat} {t : Nat}
theorem TaR.ros {M : xMem} {n s : Nat → List Nat} {ls : List xLn} (h : TaR M 6 (n, s, ls)) (hS : SOK s) : RosC M (begR n s) := by
  intro t ht
  obtain ⟨-, a2, a3⟩ := h.1 t ht
  have h10 := (hS t ht).1
  refine ⟨by rw [beg_1 ht]; exact a2, by rw [beg_1 ht]; exact h10, fun i hi => ?_⟩
  rw [beg_1 ht] at hi
  have hg := List.getElem?_eq_getElem hi
  rw [beg_sh ht (by omega), List.getD_eq_getElem?_getD, hg]
  exact ⟨a3 i _ hg, ((hS t ht).2.2 _ (List.mem_of_getElem? hg)).2⟩
theorem c_addPlayer {M : xMem} {s : Nat → List Nat} {v : Nat} (hS : SOK s) (ht : t < 2) (h : TaR M 6 (n, s, [])) (hl : (s t).length < 10) : ∃ M', fX5_addPlayer 7 (nI t) (nI v) M = some M' ∧ TaR M' 6 (n, upS s t (s t ++ [v]), []) ∧ (∀ c, c ≠ 9 → c ≠ 10 → M'.1 c = M.1 c) ∧ M'.2 = M.2 := by
  obtain ⟨b1, b2, b3⟩ := id h
  obtain ⟨a1, a2, a3⟩ := b1 t ht
  generalize hL : (s t).length = L at *
  refine ⟨xwI (xwI M 9 (t * 10 + L) (nI v)) 10 t (nI (L + 1)), ?_, ⟨fun u hu => ⟨?_, ?_, fun i x hi => ?_⟩, ?_, fun i l hi => by simp at hi⟩, fun c u w => ?_, rfl⟩
  · unfold fX5_addPlayer
    rw [m79, m710, l9, l10]
    refine sGb t rfl ht (by decide) ?_
    have a2' : M.1 10 t = nI L := a2
    rw [eCl (show t < 2147483648 by omega), a2']
    refine sF (by rw [eLe (by decide) (by omega)]; omega) (sGb t rfl ht (by decide) ?_)
    rw [pk_mul, nI_add]
    refine sGb (t * 10 + L) rfl (by omega) (by decide) ?_
    rw [eCl (show t * 10 + L < 2147483648 by omega)]
    refine sLt (sGb t rfl ht (by decide) (sGb t rfl ht (by decide) ?_))
    rw [xwI_c (by decide), a2', nI_add]
    rfl
  · show (xwI (xwI M 9 (t * 10 + L) (nI v)) 10 t (nI (L + 1))).1 8 u = _
    rw [xwI_c (by decide), xwI_c (by decide)]
    exact (b1 u hu).1
  · show (xwI (xwI M 9 (t * 10 + L) (nI v)) 10 t (nI (L + 1))).1 10 u = _
    by_cases e : u = t
    · subst e
      show _ = nI (upS s u (s u ++ [v]) u).length
      rw [xwI_at, upS_t, List.length_append, hL]
      rfl
    · show _ = nI (upS s t (s t ++ [v]) u).length
      rw [xwI_ne (Or.inr e), xwI_c (by decide), upS_o e]
      exact (b1 u hu).2.1
  · show (xwI (xwI M 9 (t * 10 + L) (nI v)) 10 t (nI (L + 1))).1 9 (10 * u + i) = _
    have hi' : (upS s t (s t ++ [v]) u)[i]? = some x := hi
    rw [xwI_c (by decide)]
    by_cases e : u = t
    · subst e
      rw [upS_t] at hi'
      rcases snoc_at hi' with ⟨z1, z2⟩ | ⟨z1, z2⟩
      · rw [z1, hL, show 10 * u + L = u * 10 + L by omega, xwI_at, z2]
      · rw [xwI_ne (Or.inr (by omega))]
        exact a3 i x z2
    · rw [upS_o e] at hi'
      have hil : i < (s u).length := (List.getElem?_eq_some_iff.1 hi').1
      have hne : 10 * u + i ≠ t * 10 + L ∨ 10 * u + i = t * 10 + L := by omega
      rcases hne with z | z
      · rw [xwI_ne (Or.inr z)]
        exact (b1 u hu).2.2 i x hi'
      · exfalso
        have := (hS u hu).1
        omega
  · show (xwI (xwI M 9 (t * 10 + L) (nI v)) 10 t (nI (L + 1))).1 6 2 = _
    rw [xwI_c (by decide), xwI_c (by decide)]
    exact b2
  · rw [xwI_c w, xwI_c u]
def nsF (tp : List Nat) (σ : Nat → Nat) (t : Nat) (st : PS) : PS := match xNew tp σ t st with
  | (.inl b, _) => .inl b
  | (.inr T, _) => xAd tp (.inr T)
def nsL (tp : List Nat) (σ : Nat → Nat) (t : Nat) (s : Nat → List Nat) (st : PS) : Nat → List Nat := match xNew tp σ t st with
  | (.inl _, _) => s
  | (.inr _, v) => upS s t (s t ++ [v])
theorem c_newShirt (hl : tp.length ≤ 2000) (hb : ∀ b ∈ tp, b < 256) (ht : t < 2) {M : xMem} {s : Nat → List Nat} {T : TK} (hS : SOK s) (hT : TkO tp T) (h : PkC tp M T) (hR : RwR M 1 tp) (hA : TaR M 6 (n, s, [])) : ∃ r M', fX3_readNewShirt 60 (nI t) (nI (s t).length) M = some (r, M') ∧ OutC tp M' r (nsF tp (begR n s) t (.inr T)) ∧ TaR M' 6 (n, nsL tp (begR n s) t s (.inr T), []) ∧ Fg M M' := by
  obtain ⟨-, x1, -⟩ := x60t
  have h10 := (hS t ht).1
  obtain ⟨r1, M1, f1, o1, F1, P1, -, e1, -⟩ := c_checkShirt hT h (hA.ros hS) ht
  have A1 := hA.fz F1
  unfold fX3_readNewShirt
  rw [f1, eBn, x1, m50, m60]
  have hx : xNew tp (begR n s) t (.inr T) = (match xSh tp (.inr T) with | (.inr T, v) => newF (begR n s) t T v | (.inl b, _) => (.inl b, 0)) := rfl
  have ho : xOne tp (begR n s) t (.inr T) = (match xSh tp (.inr T) with | (.inr T, v) => oneF (begR n s) t T v | (.inl b, _) => (.inl b, 0)) := rfl
  unfold nsF nsL
  cases e : xSh tp (.inr T) with
  | mk p v =>
    rw [e] at hx ho
    cases p with
    | inl b =>
      simp only at hx ho
      rw [ho] at o1
      rw [hx]
      simp only
      obtain ⟨c1, c2, c3, c4⟩ := o1
      have hb12 : b.1 = 1 ∨ b.1 = 2 := by
        unfold xSh at e
        by_cases k2 : T.2.1 = 2
        · simp only [if_pos k2] at e
          by_cases q : 1 ≤ nvC (sg tp T) ∧ nvC (sg tp T) ≤ 99
          · simp only [if_pos q] at e
            exact absurd (congrArg Prod.fst e) (by simp)
          · simp only [if_neg q] at e
            have : (2, T.1) = b := by have := congrArg Prod.fst e; simpa using this
            exact Or.inr (by rw [← this])
        · simp only [if_neg k2] at e
          have : (1, T.1) = b := by have := congrArg Prod.fst e; simpa using this
          exact Or.inl (by rw [← this])
      refine ⟨r1, M1, ?_, ⟨c1, c2, c3, c4⟩, A1, F1.fg⟩
      rw [c1]
      exact sF (eN0 (by omega) (by omega)) (sF (by rw [eEq (by omega) (by decide)]; omega) rfl)
    | inr T' =>
      have eT : T' = T ∧ v = nvC (sg tp T) ∧ T.2.1 = 2 := by
        unfold xSh at e
        by_cases k2 : T.2.1 = 2
        · simp only [if_pos k2] at e
          by_cases q : 1 ≤ nvC (sg tp T) ∧ nvC (sg tp T) ≤ 99
          · simp only [if_pos q] at e
            have e1 := congrArg Prod.fst e
            have e2 := congrArg Prod.snd e
            simp only [Sum.inr.injEq] at e1 e2
            exact ⟨e1.symm, e2.symm, k2⟩
          · simp only [if_neg q] at e
            exact absurd (congrArg Prod.fst e) (by simp)
        · simp only [if_neg k2] at e
          exact absurd (congrArg Prod.fst e) (by simp)
      obtain ⟨rfl, ev, k2⟩ := eT
      have hv := xSh_1 e
      simp only at hx ho
      unfold newF at hx
      unfold oneF at ho
      by_cases q : fsI (begR n s) t v < begR n s (1 + t)
      · rw [if_pos q] at hx ho
        rw [ho] at o1
        rw [hx]
        simp only
        obtain ⟨c1, c2, c3⟩ := o1
        refine ⟨nI 3, M1, ?_, OutC.f (by decide) (by decide) P1.2.1, A1, F1.fg⟩
        rw [c1]
        exact sT (by decide) rfl
      · rw [if_neg q] at hx ho
        rw [ho] at o1
        obtain ⟨c1, c2, c3, c4⟩ := o1
        have c1' : r1 = nI 4 := c1
        by_cases q2 : begR n s (1 + t) = 10
        · rw [if_pos q2] at hx
          rw [hx]
          simp only
          rw [beg_1 ht] at q2
          refine ⟨nI 6, M1, ?_, OutC.f (by decide) (by decide) P1.2.1, A1, F1.fg⟩
          rw [c1']
          exact sF (by decide) (sT rfl (sF (by rw [eLtI (by omega) (by decide)]; omega) rfl))
        · rw [if_neg q2] at hx
          rw [hx]
          simp only
          rw [beg_1 ht] at q2
          obtain ⟨M2, f2, A2, F2, e2⟩ := c_addPlayer (v := v) hS ht A1 (by omega)
          have P2 : PkC tp M2 T' := P1.of (F2 60 (by decide) (by decide)) (by rw [e2])
          have R2 : RwR M2 1 tp := (hR.fz F1).of (F2 1 (by decide) (by decide)) (F2 2 (by decide) (by decide))
          obtain ⟨M3, f3, k3, t3, F3⟩ := c_adv hl hb R2 hT P2
          have G2 : Fg M1 M2 := ⟨fun c _ b d _ => F2 c b d, fun c _ => by rw [e2], by rw [e2]⟩
          refine ⟨nI 0, M3, ?_, ⟨rfl, k3, t3⟩, A2.fz F3.fz, (F1.fg.trans G2).trans F3.fz.fg⟩
          rw [c1']
          refine sF (by decide) (sT rfl (sT (by rw [eLtI (by omega) (by decide)]; omega) ?_))
          have e6 : Int64.toInt32 (M1.2.1 60 6) = nI v := by rw [P1.2.2.2, vl2 k2, eL2I, ev]
          rw [e6]
          exact sBv f2 (sBv f3 rfl)
theorem c_shirts (hl : tp.length ≤ 2000) (hb : ∀ b ∈ tp, b < 256) (ht : t < 2) : ∀ (k : Nat) (s : Nat → List Nat) (M : xMem) (T : TK) (F : Nat), (s t).length + k = 11 → k ≤ F → SOK s → TkO tp T → PkC tp M T → RwR M 1 tp → TaR M 6 (n, s, []) → ∃ r M', fX3_readShirts_l2 60 (nI t) (fun (v10 : Int32) (M11 : xMem) => some ((nI 1), M11)) F (nI (s t).length) M = some (r, M') ∧ OutC tp M' r (shL tp n t k s (.inr T)).1 ∧ TaR M' 6 (n, (shL tp n t k s (.inr T)).2, []) ∧ Fg M M' := by
  intro k
  induction k with
  | zero =>
    intro s M T F h1 h2 hS
    exact absurd (hS t ht).1 (by omega)
  | succ k ih =>
    intro s M T F h1 h2 hS hT h hR hA
    obtain ⟨F, rfl⟩ : ∃ q, F = q + 1 := ⟨F - 1, by omega⟩
    have h10 := (hS t ht).1
    obtain ⟨r1, M1, f1, o1, A1, F1⟩ := c_newShirt hl hb ht hS hT h hR hA
    rw [fX3_readShirts_l2.eq_2]
    unfold shL
    unfold nsF at o1
    unfold nsL at A1
    cases e : xNew tp (begR n s) t (.inr T) with
    | mk p v =>
      rw [e] at o1 A1
      cases p with
      | inl b =>
        simp only at o1 A1 ⊢
        obtain ⟨c1, c2, c3, c4⟩ := id o1
        refine ⟨r1, M1, ?_, o1, A1, F1⟩
        refine sF (by rw [eLtI (by decide) (by omega)]; omega) (sBn f1 (sF ?_ rfl))
        rw [c1]
        exact eN0 (by omega) (by omega)
      | inr T1 =>
        simp only at o1 A1 ⊢
        obtain ⟨v1, v2, v3, v4⟩ := xNew_1 ht hS e
        have hS' := hS.add ht v4 v1 v2 v3
        have hl' : (upS s t (s t ++ [v]) t).length = (s t).length + 1 := by rw [upS_t, List.length_append]; rfl
        obtain ⟨c1, P1, T1O⟩ : r1 = nI 0 ∧ PkC tp M1 (adv tp T1.2.2) ∧ TkO tp (adv tp T1.2.2) := o1
        have R1 := hR.fg F1
        generalize hT2 : adv tp T1.2.2 = T2 at *
        have eA : xAd tp (.inr T1) = .inr T2 := by show Sum.inr (adv tp T1.2.2) = _; rw [hT2]
        rw [eA]
        have pre : ∀ z, (xBn (fX3_isSign 60 (nI 59) M1) fun r3 M4 => if r3 = 0 then (xBn (fX3_takeSign 60 (nI 44) M4) fun r5 M6 => if r5 = 0 then (xLt (nI (s t).length + nI 1) fun x7 => fX3_readShirts_l2 60 (nI t) (fun (v10 : Int32) (M11 : xMem) => some ((nI 1), M11)) F x7 M6) else (some ((nI 1), M6))) else (if (nI 7) ≤ (nI (s t).length + (nI 1)) then (xBn (fX3_takeSign 60 (nI 59) M4) fun r8 M9 => some (r8, M9)) else (some ((nI 6), M4)))) = z → (if (nI 10) < nI (s t).length then (some ((nI 1), M)) else (xBn (fX3_readNewShirt 60 (nI t) (nI (s t).length) M) fun r1 M2 => if r1 = 0 then (xBn (fX3_isSign 60 (nI 59) M2) fun r3 M4 => if r3 = 0 then (xBn (fX3_takeSign 60 (nI 44) M4) fun r5 M6 => if r5 = 0 then (xLt (nI (s t).length + nI 1) fun x7 => fX3_readShirts_l2 60 (nI t) (fun (v10 : Int32) (M11 : xMem) => some ((nI 1), M11)) F x7 M6) else (some ((nI 1), M6))) else (if (nI 7) ≤ (nI (s t).length + (nI 1)) then (xBn (fX3_takeSign 60 (nI 59) M4) fun r8 M9 => some (r8, M9)) else (some ((nI 6), M4)))) else (some (r1, M2)))) = z := by
          intro z hz
          refine sF (by rw [eLtI (by decide) (by omega)]; omega) (sBn f1 (sT (by rw [c1]; decide) hz))
        by_cases q59 : T2.2.1 = 3 ∧ tp.getD T2.1 0 = 59
        · have e44 : xS tp 44 (.inr T2) = 0 := xS_0 (fun y => by have := y.2; rw [q59.2] at this; omega)
          simp only [if_neg (show ¬ xS tp 44 (.inr T2) = 1 by omega)]
          by_cases q7 : (s t).length + 1 < 7
          · have eS : shE tp (.inr T2) ((s t).length + 1) = .inl (6, T2.1) := by
              unfold shE
              rw [if_pos ⟨xS_1 q59.1 q59.2, q7⟩]
              rfl
            rw [eS]
            refine ⟨nI 6, M1, pre _ ?_, ?_, A1, F1⟩
            · rw [c_isSign P1 T1O hb (by decide), eBn, iN1 q59, nI_add]
              exact sF (by decide) (sF (by rw [eLe (by decide) (by omega)]; omega) rfl)
            · exact OutC.f (by decide) (by decide) P1.2.1
          · have eS : shE tp (.inr T2) ((s t).length + 1) = xPassS tp 59 (.inr T2) := by
              unfold shE
              rw [if_neg (fun y => q7 y.2)]
            rw [eS]
            obtain ⟨r2, M2, f2, o2, F2, -⟩ := c_takeSign hl hb R1 T1O P1 (c := 59) (by decide)
            refine ⟨r2, M2, pre _ ?_, o2, A1.fz F2.fz, F1.trans F2.fz.fg⟩
            rw [c_isSign P1 T1O hb (by decide), eBn, iN1 q59, nI_add]
            exact sF (by decide) (sT (by rw [eLe (by decide) (by omega)]; omega) (sBn f2 rfl))
        · obtain ⟨r2, M2, f2, o2, F2, -⟩ := c_takeSign hl hb R1 T1O P1 (c := 44) (by decide)
          rcases xS_lt tp 44 (.inr T2) with y | y
          · simp only [if_neg (show ¬ xS tp 44 (.inr T2) = 1 by omega)]
            rw [xPassS_0 y] at o2
            obtain ⟨d1, d2, d3, d4⟩ : r2 = nI 1 ∧ M2.1 60 4 = nI T2.1 ∧ _ ∧ _ := o2
            have eS : shE tp (.inr T2) ((s t).length + 1) = .inl (1, T2.1) := by
              unfold shE
              rw [if_neg (fun z => by have := z.1; rw [xS_0 q59] at this; omega), xPassS_0 (xS_0 q59)]
              rfl
            rw [eS]
            refine ⟨nI 1, M2, pre _ ?_, OutC.f (by decide) (by decide) d2, A1.fz F2.fz, F1.trans F2.fz.fg⟩
            rw [c_isSign P1 T1O hb (by decide), eBn, iN0 q59]
            refine sT (by decide) (sBn f2 (sF (by rw [d1]; decide) rfl))
          · simp only [if_pos y]
            rw [xPassS_1 y] at o2
            obtain ⟨d1, P2, T2O⟩ : r2 = nI 0 ∧ PkC tp M2 (adv tp T2.2.2) ∧ TkO tp (adv tp T2.2.2) := o2
            obtain ⟨r3, M3, f3, o3, A3, F3⟩ := ih (upS s t (s t ++ [v])) M2 (adv tp T2.2.2) F (by omega) (by omega) hS' T2O P2 (R1.fz F2.fz) (A1.fz F2.fz)
            refine ⟨r3, M3, pre _ ?_, o3, A3, (F1.trans F2.fz.fg).trans F3⟩
            rw [c_isSign P1 T1O hb (by decide), eBn, iN0 q59]
            refine sT (by decide) (sBn f2 (sT (by rw [d1]; decide) (sLe (nI_add _ _) ?_)))
            rw [hl'] at f3
            exact f3
end
