/-! ===== teams are read ===== -/
/-- all but the model's parser, its scratch and its row aside stays -/
def Fx (M M' : xMem) : Prop := (∀ c, c ≠ 146 → c ≠ 149 → M'.1 c = M.1 c) ∧ (∀ j, (10 < j ∧ j < 13) ∨ 18 < j → M'.1 146 j = M.1 146 j) ∧ (∀ c, c ≠ 148 → M'.2.1 c = M.2.1 c) ∧ M'.2.2 = M.2.2
theorem Fx.refl (M : xMem) : Fx M M := ⟨fun _ _ _ => rfl, fun _ _ => rfl, fun _ _ => rfl, rfl⟩
theorem Fx.trans {M M1 M2 : xMem} (h1 : Fx M M1) (h2 : Fx M1 M2) : Fx M M2 := ⟨fun c a b => (h2.1 c a b).trans (h1.1 c a b), fun j a => (h2.2.1 j a).trans (h1.2.1 j a), fun c a => (h2.2.2.1 c a).trans (h1.2.2.1 c a), h2.2.2.2.trans h1.2.2.2⟩
theorem Fe.fx {M M' : xMem} (h : Fe M M') : Fx M M' := ⟨fun c a _ => h.1 c a, fun j a => h.2.1 j (by omega), fun c _ => by rw [h.2.2], by rw [h.2.2]⟩
theorem Fx.nw {M : xMem} {σ : Nat → Nat} (h : xnw M = 148) : Fx M (nwS M σ) := ⟨fun _ _ _ => rfl, fun _ _ => rfl, fun c a => by unfold nwS; rw [h]; exact xwQ_ne a, rfl⟩
theorem MS.nw {tp : List Nat} {M : xMem} {σ σ' : Nat → Nat} {st : PS} (h : MS tp M σ st) : MS tp (nwS M σ') σ' st :=
  h.of (fun _ _ _ => rfl) (fun _ _ => rfl) TM.of_nw (by rw [nwS_w]; exact h.2.2.1)
def SOK (s : Nat → List Nat) : Prop := ∀ u, u < 2 → shOK (s u)
theorem SOK.sh {n s : Nat → List Nat} (h : SOK s) : shR (begR n s) := by
  intro t ht
  have := h t ht
  refine ⟨by rw [beg_1 ht]; exact this.1, fun i hi => ?_⟩
  rw [beg_1 ht] at hi
  rw [beg_sh ht (by have := this.1; omega)]
  have hg := List.getElem?_eq_getElem hi
  rw [List.getD_eq_getElem?_getD, hg]
  exact (this.2.2 _ (List.mem_of_getElem? hg)).2
theorem fsI_mem {n s : Nat → List Nat} {t v : Nat} (ht : t < 2) (hl : (s t).length ≤ 10) (h : ¬ fsI (begR n s) t v < begR n s (1 + t)) : v ∉ s t := by
  intro hv
  obtain ⟨i, hi⟩ := List.getElem?_of_mem hv
  have hil : i < (s t).length := (List.getElem?_eq_some_iff.1 hi).1
  unfold fsI at h
  have := fsP_no (fun i => begR n s (5 + 10 * t + i) == v) (begR n s (1 + t)) i (by rw [beg_1 ht] at h ⊢; omega)
  rw [beg_sh ht (by omega), List.getD_eq_getElem?_getD, hi] at this
  simp at this
theorem SOK.add {s : Nat → List Nat} {t v : Nat} (h : SOK s) (ht : t < 2) (hl : (s t).length < 10) (h1 : 1 ≤ v) (h9 : v ≤ 99) (hn : v ∉ s t) : SOK (upS s t (s t ++ [v])) := by
  intro u hu
  unfold upS
  by_cases e : u = t
  · subst e
    rw [if_pos rfl]
    obtain ⟨a1, a2, a3⟩ := h u hu
    refine ⟨by rw [List.length_append]; simp only [List.length_cons, List.length_nil]; omega, ?_, fun x hx => ?_⟩
    · rw [List.nodup_append]
      refine ⟨a2, by simp, fun x hx y hy => ?_⟩
      have : y = v := by simpa using hy
      rw [this]
      exact fun e => hn (by rw [← e]; exact hx)
    · rw [List.mem_append] at hx
      rcases hx with hx | hx
      · exact a3 x hx
      · have : x = v := by simpa using hx
        omega
  · rw [if_neg e]
    exact h u hu
theorem upS_t {s : Nat → List Nat} {t : Nat} {l : List Nat} : upS s t l t = l := by unfold upS; rw [if_pos rfl]
theorem upS_o {s : Nat → List Nat} {t u : Nat} {l : List Nat} (h : u ≠ t) : upS s t l u = s u := by unfold upS; rw [if_neg h]
theorem xSh_1 {tp : List Nat} {st : PS} {T : TK} {v : Nat} (h : xSh tp st = (.inr T, v)) : 1 ≤ v ∧ v ≤ 99 := by
  unfold xSh at h
  split at h
  · split at h
    · split at h
      · rename_i q
        have : v = nvC (sg tp _) := (congrArg Prod.snd h).symm
        rw [this]; exact q
      · exact absurd (congrArg Prod.fst h) (by simp)
    · exact absurd (congrArg Prod.fst h) (by simp)
  · exact absurd (congrArg Prod.fst h) (by simp)
theorem xNew_1 {tp : List Nat} {n s : Nat → List Nat} {t : Nat} {st : PS} {T : TK} {v : Nat} (ht : t < 2) (hS : SOK s) (h : xNew tp (begR n s) t st = (.inr T, v)) : 1 ≤ v ∧ v ≤ 99 ∧ v ∉ s t ∧ (s t).length < 10 := by
  have h10 := (hS t ht).1
  unfold xNew at h
  split at h
  · rename_i T' v' e
    unfold newF at h
    by_cases q : fsI (begR n s) t v' < begR n s (1 + t)
    · rw [if_pos q] at h
      exact absurd (congrArg Prod.fst h) (by simp)
    · rw [if_neg q] at h
      by_cases q2 : begR n s (1 + t) = 10
      · rw [if_pos q2] at h
        exact absurd (congrArg Prod.fst h) (by simp)
      · rw [if_neg q2] at h
        have ev : v' = v := congrArg Prod.snd h
        have := xSh_1 e
        rw [beg_1 ht] at q2
        rw [← ev]
        exact ⟨this.1, this.2, fsI_mem ht h10 q, by omega⟩
  · exact absurd (congrArg Prod.fst h) (by simp)
theorem shL_ok {tp : List Nat} {n : Nat → List Nat} {t : Nat} (ht : t < 2) : ∀ (k : Nat) (s : Nat → List Nat) (st : PS), SOK s → SOK (shL tp n t k s st).2 ∧ (∀ u, u ≠ t → (shL tp n t k s st).2 u = s u) ∧ (0 < k → ∀ T, (s t).length + k = 11 → (shL tp n t k s st).1 = .inr T → 7 ≤ ((shL tp n t k s st).2 t).length) := by
  intro k
  induction k with
  | zero => intro s st hS; exact ⟨hS, fun _ _ => rfl, fun q => absurd q (by decide)⟩
  | succ k ih =>
    intro s st hS
    unfold shL
    cases e : xNew tp (begR n s) t st with
    | mk p v =>
      cases p with
      | inl b => exact ⟨hS, fun _ _ => rfl, fun _ T _ h => absurd h (by simp)⟩
      | inr T =>
        obtain ⟨v1, v2, v3, v4⟩ := xNew_1 ht hS e
        have hS' := hS.add ht v4 v1 v2 v3
        simp only
        by_cases q : xS tp 44 (xAd tp (.inr T)) = 1
        · rw [if_pos q]
          obtain ⟨i1, i2, i3⟩ := ih (upS s t (s t ++ [v])) (xAd tp (xAd tp (.inr T))) hS'
          have hl : (upS s t (s t ++ [v]) t).length = (s t).length + 1 := by rw [upS_t, List.length_append]; rfl
          exact ⟨i1, fun u hu => by rw [i2 u hu, upS_o hu], fun _ T' hk h => i3 (by omega) T' (by omega) h⟩
        · rw [if_neg q]
          refine ⟨hS', fun u hu => upS_o hu, fun _ T' hk h => ?_⟩
          simp only
          rw [upS_t, List.length_append]
          show 7 ≤ (s t).length + 1
          rcases Nat.lt_or_ge ((s t).length + 1) 7 with z | z
          · exfalso
            unfold shE at h
            rcases xS_lt tp 59 (xAd tp (.inr T)) with y | y
            · simp only at h
              rw [if_neg (by omega), xPassS_0 y] at h
              exact absurd h (by simp [xE, xAd])
            · simp only at h
              rw [if_pos ⟨y, z⟩] at h
              exact absurd h (by simp [xE, xAd, xPassS, xS])
          · exact z
section
variable {tp : List Nat} {M : xMem} {n s : Nat → List Nat} {t : Nat} {st : PS}
theorem m_shE (hl : tp.length ≤ 2000) (hb : ∀ b ∈ tp, b < 256) (ht : t < 2) (h10 : (s t).length ≤ 10) (h : MS tp M (begR n s) st) : ∃ M', (xBn (fX11_good 146 M) fun r48 M49 => xLt (fun  (M50 : xMem) => (xBv (fX11_passesByte 146 (nI 59) M50) fun M51 => some M51 : Option (xMem))) fun J260 => if r48 = 0 then (J260  M49) else (if (M49.1 146 15) = (nI 3) then (if (M49.1 146 16) = (nI 59) then (xBn (fX11_many 146 (nI t) M49) fun r52 M53 => if (nI 7) ≤ r52 then (J260  M53) else (xBv (fX11_errs 146 (nI 6) (M53.1 146 14) M53) fun M54 => J260  M54)) else (J260  M49)) else (J260  M49))) = some M' ∧ MS tp M' (begR n s) (shE tp st (s t).length) ∧ Fe M M' := by
  unfold shE
  rw [m_good h, eBn]
  have fin : ∀ {M2 : xMem} {st2 : PS}, MS tp M2 (begR n s) st2 → Fe M M2 → ∃ M', (xBv (fX11_passesByte 146 (nI 59) M2) fun M51 => some M51) = some M' ∧ MS tp M' (begR n s) (xPassS tp 59 st2) ∧ Fe M M' := by
    intro M2 st2 h2 F2
    obtain ⟨M3, f3, k3, F3⟩ := m_passesByte hl hb h2 (c := 59) (by decide)
    exact ⟨M3, sBv f3 rfl, k3, F2.trans F3⟩
  cases st with
  | inl b =>
    obtain ⟨M', e, k, F⟩ := fin h (Fe.refl M)
    have e0 : xS tp 59 (.inl b) = 0 := rfl
    rw [if_neg (show ¬ (xS tp 59 (.inl b) = 1 ∧ (s t).length < 7) by omega)]
    exact ⟨M', sLt (sT g0 e), k, F⟩
  | inr T =>
    obtain ⟨b1, b2, b3, t1, t2, t3, t4⟩ := id h
    have hB := t1.b
    rw [t4.2.2.1]
    by_cases k3 : T.2.1 = 3
    · have hlt := hB.2.2.2.2.2.1 (by omega)
      have hg := List.getElem?_eq_getElem (show T.1 < tp.length by omega)
      have hb1 := hb _ (List.mem_of_getElem? hg)
      have e2 : tp.getD T.1 0 = tp[T.1] := by rw [List.getD_eq_getElem?_getD, hg]; rfl
      rw [t4.2.2.2.2 k3]
      by_cases q : tp.getD T.1 0 = 59
      · have mm : fX11_many 146 (nI t) M = some (nI (s t).length, M) := by rw [q_many b2 ht, beg_1 ht]
        by_cases q7 : (s t).length < 7
        · obtain ⟨M2, f2, k2, F2⟩ := m_errs h (f := 6) (by decide) (by decide)
          obtain ⟨M', e, k, F⟩ := fin k2 F2
          rw [if_pos ⟨xS_1 k3 q, q7⟩]
          exact ⟨M', sLt (sF g1 (sT (by rw [k3]) (sT (by rw [q]) (sBn mm (sF (by rw [eLe (by decide) (by omega)]; omega) (sBv f2 e)))))), k, F⟩
        · obtain ⟨M', e, k, F⟩ := fin h (Fe.refl M)
          rw [if_neg (fun z => q7 z.2)]
          exact ⟨M', sLt (sF g1 (sT (by rw [k3]) (sT (by rw [q]) (sBn mm (sT (by rw [eLe (by decide) (by omega)]; omega) e))))), k, F⟩
      · obtain ⟨M', e, k, F⟩ := fin h (Fe.refl M)
        rw [if_neg (fun z => by have := z.1; rw [xS_0 (fun y => q y.2)] at this; omega)]
        exact ⟨M', sLt (sF g1 (sT (by rw [k3]) (sF (by rw [eEq (by omega) (by decide)]; exact q) e))), k, F⟩
    · obtain ⟨M', e, k, F⟩ := fin h (Fe.refl M)
      rw [if_neg (fun z => by have := z.1; rw [xS_0 (fun y => k3 y.1)] at this; omega)]
      exact ⟨M', sLt (sF g1 (sF (by rw [eEq (by omega) (by decide)]; exact k3) e)), k, F⟩
end
