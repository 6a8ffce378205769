/-! ===== the class's parser: its steps ===== -/
def OutC (tp : List Nat) (M : xMem) (r : Int32) : PS → Prop
  | .inl b => r = nI b.1 ∧ M.1 60 4 = nI b.2 ∧ 1 ≤ b.1 ∧ b.1 ≤ 7
  | .inr T => r = nI 0 ∧ PkC tp M T ∧ TkO tp T
theorem OutC.f {tp : List Nat} {M : xMem} {f p : Nat} (h1 : 1 ≤ f) (h7 : f ≤ 7) (h : M.1 60 4 = nI p) : OutC tp M (nI f) (.inl (f, p)) := ⟨rfl, h, h1, h7⟩
/-- only the parser's own numbers changed -/
def Fz (M M' : xMem) : Prop := (∀ c, c ≠ 60 → M'.1 c = M.1 c) ∧ (∀ c, c ≠ 60 → M'.2.1 c = M.2.1 c) ∧ M'.2.2 = M.2.2
theorem Fz.refl (M : xMem) : Fz M M := ⟨fun _ _ => rfl, fun _ _ => rfl, rfl⟩
theorem Fz.trans {M M1 M2 : xMem} (h1 : Fz M M1) (h2 : Fz M1 M2) : Fz M M2 := ⟨fun c a => (h2.1 c a).trans (h1.1 c a), fun c a => (h2.2.1 c a).trans (h1.2.1 c a), h2.2.2.trans h1.2.2⟩
theorem Fp.fz {M M' : xMem} (h : Fp M M') : Fz M M' := ⟨h.1, h.2.2.1, h.2.2.2.2⟩
theorem Fz.wI {M : xMem} {j : Nat} {v : Int32} : Fz M (xwI M 60 j v) := ⟨fun c a => xwI_c a, fun _ _ => rfl, rfl⟩
theorem Fz.wL {M : xMem} {j : Nat} {v : Int64} : Fz M (xwL M 60 j v) := ⟨fun _ _ => rfl, fun c a => xwL_c a, rfl⟩
theorem PkC.wI {tp : List Nat} {M : xMem} {T : TK} {j : Nat} {v : Int32} (h : PkC tp M T) (hj : 6 < j) : PkC tp (xwI M 60 j v) T := by
  obtain ⟨h1, h2, h3, h4⟩ := h
  exact ⟨by rw [xwI_ne (by omega)]; exact h1, by rw [xwI_ne (by omega)]; exact h2, by rw [xwI_ne (by omega)]; exact h3, h4⟩
theorem PkC.wL {tp : List Nat} {M : xMem} {T : TK} {v : Int64} (h : PkC tp M T) : PkC tp (xwL M 60 9 v) T := by
  obtain ⟨h1, h2, h3, h4⟩ := h
  exact ⟨h1, h2, h3, by rw [xwL_ne (by decide)]; exact h4⟩
theorem PkC.of {tp : List Nat} {M M' : xMem} {T : TK} (h : PkC tp M T) (e : M'.1 60 = M.1 60) (e2 : M'.2.1 60 = M.2.1 60) : PkC tp M' T := by
  unfold PkC
  rw [e, e2]
  exact h
theorem RwR.of {M M' : xMem} {tp : List Nat} (h : RwR M 1 tp) (e1 : M'.1 1 = M.1 1) (e2 : M'.1 2 = M.1 2) : RwR M' 1 tp := ⟨by rw [e1]; exact h.1, by rw [e2]; exact h.2⟩
theorem RwR.fz {M M' : xMem} {tp : List Nat} (h : RwR M 1 tp) (hF : Fz M M') : RwR M' 1 tp := h.of (hF.1 1 (by decide)) (hF.1 2 (by decide))
section
variable {tp : List Nat} {M : xMem} {T : TK}
theorem c_adv (hl : tp.length ≤ 2000) (hb : ∀ b ∈ tp, b < 256) (hR : RwR M 1 tp) (hT : TkO tp T) (h : PkC tp M T) : ∃ M', fX3_advance 60 M = some M' ∧ PkC tp M' (adv tp T.2.2) ∧ TkO tp (adv tp T.2.2) ∧ Fp M M' := by
  obtain ⟨M', f, k, F⟩ := c_advance hR hl hb hT.b.2.2.1 h.2.2.1
  exact ⟨M', f, k, hT.nx, F⟩
theorem c_takeSign (hl : tp.length ≤ 2000) (hb : ∀ b ∈ tp, b < 256) (hR : RwR M 1 tp) (hT : TkO tp T) (h : PkC tp M T) {c : Nat} (hc : c < 256) : ∃ r M', fX3_takeSign 60 (nI c) M = some (r, M') ∧ OutC tp M' r (xPassS tp c (.inr T)) ∧ Fp M M' ∧ (xS tp c (.inr T) = 0 → M' = M) := by
  unfold fX3_takeSign
  rw [c_isSign h hT hb hc, eBn]
  by_cases q : T.2.1 = 3 ∧ tp.getD T.1 0 = c
  · obtain ⟨M', f, k, t, F⟩ := c_adv hl hb hR hT h
    rw [xPassS_1 (xS_1 q.1 q.2), iN1 q]
    exact ⟨nI 0, M', sF (by decide) (sBv f rfl), ⟨rfl, k, t⟩, F, fun z => by rw [xS_1 q.1 q.2] at z; omega⟩
  · rw [xPassS_0 (xS_0 q), iN0 q]
    exact ⟨nI 1, M, sT (by decide) rfl, OutC.f (by decide) (by decide) h.2.1, Fp.refl M, fun _ => rfl⟩
theorem wI_eq {n j : Nat} (hn : n ≤ 17) (hj : j < 17) : (wI n = nI j) = (n = j) := by
  apply propext
  unfold wI
  by_cases q : n = 17
  · rw [if_pos q]
    exact ⟨fun z => absurd z.symm (m1_ne (by omega)), fun z => by omega⟩
  · rw [if_neg q, nI_eq (by omega) (by omega)]
theorem wI_m1 {n : Nat} (hn : n ≤ 17) : (wI n = -1) = (n = 17) := by
  apply propext
  unfold wI
  by_cases q : n = 17
  · rw [if_pos q]; exact ⟨fun _ => q, fun _ => rfl⟩
  · rw [if_neg q]; exact ⟨fun z => absurd z (m1_ne (by omega)), fun z => absurd z q⟩
theorem c_takeWord (hl : tp.length ≤ 2000) (hb : ∀ b ∈ tp, b < 256) (hR : RwR M 1 tp) (hT : TkO tp T) (h : PkC tp M T) {j : Nat} (hj : j < 17) : ∃ r M', fX3_takeWord 60 (nI j) M = some (r, M') ∧ OutC tp M' r (xPass tp j (.inr T)) ∧ Fp M M' := by
  unfold fX3_takeWord
  rw [c_word h hT, eBn]
  have hle := wd_le tp T
  by_cases q : wd tp T = j
  · obtain ⟨M', f, k, t, F⟩ := c_adv hl hb hR hT h
    have e : xW tp j (.inr T) = 1 := by show (if wd tp T = j then 1 else 0) = 1; rw [if_pos q]
    rw [xPass_1 e]
    exact ⟨nI 0, M', sT (by rw [wI_eq hle hj]; exact q) (sBv f rfl), ⟨rfl, k, t⟩, F⟩
  · have e : xW tp j (.inr T) = 0 := by show (if wd tp T = j then 1 else 0) = 0; rw [if_neg q]
    rw [xPass_0 e]
    exact ⟨nI 1, M, sF (by rw [wI_eq hle hj]; exact q) rfl, OutC.f (by decide) (by decide) h.2.1, Fp.refl M⟩
theorem c_isName (hT : TkO tp T) (hl : tp.length ≤ 2000) (h : PkC tp M T) : fX3_isName 60 M = some (nI (if T.2.1 = 1 ∧ T.2.2 - T.1 ≤ 6 ∧ wd tp T = 17 then 1 else 0), M) := by
  have hB := hT.b
  have hle := wd_le tp T
  unfold fX3_isName
  rw [h.1, h.2.1, h.2.2.1, eSub (by omega)]
  by_cases k1 : T.2.1 = 1
  · refine sT (by rw [k1]) ?_
    by_cases h6 : T.2.2 - T.1 ≤ 6
    · refine sF (by rw [eLtI (by decide) (by omega)]; omega) ?_
      rw [c_word h hT, eBn]
      by_cases h17 : wd tp T = 17
      · rw [iN1 ⟨k1, h6, h17⟩]
        exact sT (by rw [wI_m1 hle]; exact h17) rfl
      · rw [iN0 (fun z => h17 z.2.2)]
        exact sF (by rw [wI_m1 hle]; exact h17) rfl
    · rw [iN0 (fun z => h6 z.2.1)]
      exact sT (by rw [eLtI (by decide) (by omega)]; omega) rfl
  · rw [iN0 (fun z => k1 z.1)]
    exact sF (by rw [eEq (by omega) (by decide)]; exact k1) rfl
/-- the roster as a row holds it -/
def RosC (M : xMem) (σ : Nat → Nat) : Prop := ∀ t, t < 2 → M.1 10 t = nI (σ (1 + t)) ∧ σ (1 + t) ≤ 10 ∧ ∀ i, i < σ (1 + t) → M.1 9 (10 * t + i) = nI (σ (5 + 10 * t + i)) ∧ σ (5 + 10 * t + i) ≤ 99
theorem RosC.sh {σ : Nat → Nat} (h : RosC M σ) : shR σ := fun t ht => ⟨(h t ht).2.1, fun i hi => ((h t ht).2.2 i hi).2⟩
theorem c_playerW {σ : Nat → Nat} (h : RosC M σ) {t x : Nat} (ht : t < 2) (hx : x < 2147483648) : fX5_playerWith 7 (nI t) (nI x) M = some (fsh σ t x, M) := by
  obtain ⟨e, h10, hs⟩ := h t ht
  unfold fX5_playerWith
  refine loopR (S := Unit) (fun n i _ => fX5_playerWith_l2 7 (nI t) (nI x) (fun (v4 : Int32) (M5 : xMem) => some ((-1), M5)) n (nI i) M) _ _ (σ (1 + t)) () (by omega) (fun n i s hi => ?_) (fun n s => ?_)
  · obtain ⟨z1, z3⟩ := hs i hi
    rw [fX5_playerWith_l2.eq_2, m710, m79, l10, l9]
    refine sGb t rfl ht (by decide) ?_
    rw [eCl (show t < 2147483648 by omega), e]
    refine sF (by rw [eLe (by omega) (by omega)]; omega) ?_
    rw [pk_mul, nI_add]
    refine sGb (t * 10 + i) rfl (by omega) (by decide) ?_
    rw [eCl (by omega), Nat.mul_comm t 10, z1]
    by_cases q : σ (5 + 10 * t + i) = x
    · rw [if_pos q]
      exact sT (by rw [q]) rfl
    · rw [if_neg q]
      exact sF (by rw [eEq (by omega) hx]; exact q) (sLe (nI_1 i) rfl)
  · rw [fX5_playerWith_l2.eq_2, m710, l10]
    refine sGb t rfl ht (by decide) ?_
    rw [eCl (show t < 2147483648 by omega), e]
    exact sT (by rw [eLe (by omega) (by omega)]; exact Nat.le_refl _) rfl
theorem vl2 {tp : List Nat} {T : TK} (k2 : T.2.1 = 2) : vlT tp T = nvC (sg tp T) := by
  unfold vlT vlN
  rw [if_neg (by omega), if_pos k2]
theorem c_checkShirt {σ : Nat → Nat} (hT : TkO tp T) (h : PkC tp M T) (hs : RosC M σ) {t : Nat} (ht : t < 2) : ∃ r M', fX3_checkShirt 60 (nI t) M = some (r, M') ∧ OutC tp M' r (xOne tp σ t (.inr T)).1 ∧ Fz M M' ∧ PkC tp M' T ∧ (∀ j, j ≠ 8 → M'.1 60 j = M.1 60 j) ∧ M'.2 = M.2 ∧ ((xOne tp σ t (.inr T)).1 = .inr T → M'.1 60 8 = nI (xOne tp σ t (.inr T)).2) := by
  obtain ⟨-, x1, -⟩ := x60t
  have hB := hT.b
  unfold fX3_checkShirt
  rw [h.1, x1, m50, m60]
  by_cases k2 : T.2.1 = 2
  · have hnv := nv_ok (l := sg tp T) (fun c hc => kd_2.1 (by rw [sg_mem hT hc]; exact k2))
    have e6 : Int64.toInt32 (M.2.1 60 6) = nI (nvC (sg tp T)) := by rw [h.2.2.2, vl2 k2, eL2I]
    by_cases q : 1 ≤ nvC (sg tp T) ∧ nvC (sg tp T) ≤ 99
    · have e : xOne tp σ t (.inr T) = oneF σ t T (nvC (sg tp T)) := by
        unfold xOne xSh
        simp only [if_pos k2, if_pos q]
      have hm := (hs t ht).2.1
      refine ⟨if fsI σ t (nvC (sg tp T)) < σ (1 + t) then nI 0 else nI 4, xwI M 60 8 (fsh σ t (nvC (sg tp T))), ?_, ?_, Fz.wI, h.wI (by decide), fun j hj => xwI_ne (Or.inr hj), rfl, ?_⟩
      · refine sT (by rw [k2]) (sLe e6 (sBn ((c_within (by decide) (by decide)).1 ⟨_, q.1, q.2, rfl⟩) (sF (by decide) (sBn (c_playerW hs ht (by omega)) (sLt ?_)))))
        rw [xwI_at, fsh_eq hm]
        by_cases z : fsI σ t (nvC (sg tp T)) < σ (1 + t)
        · rw [if_pos z, if_pos z]; exact sF (m1_ne (by omega)) rfl
        · rw [if_neg z, if_neg z]; exact sT rfl rfl
      · rw [e]
        unfold oneF
        by_cases z : fsI σ t (nvC (sg tp T)) < σ (1 + t)
        · rw [if_pos z, if_pos z]; exact ⟨rfl, h.wI (by decide), hT⟩
        · rw [if_neg z, if_neg z]; exact OutC.f (by decide) (by decide) (h.wI (by decide)).2.1
      · rw [e]
        unfold oneF
        by_cases z : fsI σ t (nvC (sg tp T)) < σ (1 + t)
        · rw [if_pos z]; intro _; rw [xwI_at, fsh_eq hm, if_pos z]
        · rw [if_neg z]; intro w; exact absurd w (by simp)
    · have e : xOne tp σ t (.inr T) = (.inl (2, T.1), 0) := by
        unfold xOne xSh
        simp only [if_pos k2, if_neg q]
      refine ⟨nI 2, M, ?_, by rw [e]; exact OutC.f (by decide) (by decide) h.2.1, Fz.refl M, h, fun _ _ => rfl, rfl, fun w => by rw [e] at w; exact absurd w (by simp)⟩
      refine sT (by rw [k2]) (sLe e6 (sBn ((c_within (by decide) (by decide)).2 ?_) (sT (by decide) rfl)))
      rintro ⟨n, u1, u2, e3⟩
      rw [nI_eq (by omega) (by omega)] at e3
      omega
  · have e : xOne tp σ t (.inr T) = (.inl (1, T.1), 0) := by
      unfold xOne xSh
      simp only [if_neg k2]
    exact ⟨nI 1, M, sF (by rw [eEq (by omega) (by decide)]; exact k2) rfl, by rw [e]; exact OutC.f (by decide) (by decide) h.2.1, Fz.refl M, h, fun _ _ => rfl, rfl, fun w => by rw [e] at w; exact absurd w (by simp)⟩
theorem get_lastN {l : List Nat} {x : Nat} : (l ++ [x])[l.length]? = some x := by rw [List.getElem?_append_right (Nat.le_refl _), Nat.sub_self]; rfl
/-! teams -/
def upS (s : Nat → List Nat) (t : Nat) (l : List Nat) : Nat → List Nat := fun u => if u = t then l else s u
def newF (σ : Nat → Nat) (t : Nat) (T : TK) (v : Nat) : PS × Nat := if fsI σ t v < σ (1 + t) then (.inl (3, T.1), 0) else if σ (1 + t) = 10 then (.inl (6, T.1), 0) else (.inr T, v)
def xNew (tp : List Nat) (σ : Nat → Nat) (t : Nat) (st : PS) : PS × Nat := match xSh tp st with
  | (.inr T, v) => newF σ t T v
  | (.inl b, _) => (.inl b, 0)
def shE (tp : List Nat) (st : PS) (n : Nat) : PS := xPassS tp 59 (if xS tp 59 st = 1 ∧ n < 7 then xE 6 st else st)
def shL (tp : List Nat) (n : Nat → List Nat) (t : Nat) : Nat → (Nat → List Nat) → PS → PS × (Nat → List Nat)
  | 0, s, st => (st, s)
  | k + 1, s, st => match xNew tp (begR n s) t st with
    | (.inl b, _) => (.inl b, s)
    | (.inr T, v) => if xS tp 44 (xAd tp (.inr T)) = 1 then shL tp n t k (upS s t (s t ++ [v])) (xAd tp (xAd tp (.inr T))) else (shE tp (xAd tp (.inr T)) ((s t).length + 1), upS s t (s t ++ [v]))
def xTeam (tp : List Nat) (t : Nat) (n s : Nat → List Nat) (st : PS) : PS × (Nat → List Nat) × (Nat → List Nat) :=
  (fun r : PS × List Nat => (fun q : PS × (Nat → List Nat) => (q.1, upS n t r.2, q.2)) (shL tp (upS n t r.2) t 11 s (xPassS tp 58 (xAd tp (if t = 1 ∧ n 0 = r.2 then xE 3 r.1 else r.1))))) (xNm tp (xPass tp 0 st))
theorem begR_n {n n' s : Nat → List Nat} {j : Nat} (hj : j < 3 ∨ 5 ≤ j) : begR n s j = begR n' s j := by
  unfold begR
  by_cases h0 : j = 0
  · rw [if_pos h0, if_pos h0]
  · rw [if_neg h0, if_neg h0]
    by_cases h1 : j < 3
    · rw [if_pos h1, if_pos h1]
    · have h5 : ¬ j < 5 := by omega
      rw [if_neg h1, if_neg h1, if_neg h5, if_neg h5]
theorem begR_add {n s : Nat → List Nat} {t v : Nat} (ht : t < 2) (hl : (s t).length < 10) : begR n (upS s t (s t ++ [v])) = va_up (va_up (va_up (begR n s) (5 + 10 * t + (s t).length) v) (48 + 10 * t + (s t).length) (if (s t).length < 7 then 0 else 2)) (1 + t) ((s t).length + 1) := by
  have ut : upS s t (s t ++ [v]) t = s t ++ [v] := by unfold upS; rw [if_pos rfl]
  have uo : ∀ u, u ≠ t → upS s t (s t ++ [v]) u = s u := fun u hu => by unfold upS; rw [if_neg hu]
  have lt : (s t ++ [v]).length = (s t).length + 1 := by rw [List.length_append]; rfl
  have gd' : ∀ i, i ≠ (s t).length → (s t ++ [v]).getD i 0 = (s t).getD i 0 := fun i hi => by
    rw [List.getD_eq_getElem?_getD, List.getD_eq_getElem?_getD]
    rcases Nat.lt_or_ge i (s t).length with z | z
    · rw [List.getElem?_append_left z]
    · rw [List.getElem?_eq_none (by rw [lt]; omega), List.getElem?_eq_none (by omega)]
  have gl : (s t ++ [v]).getD (s t).length 0 = v := by
    rw [List.getD_eq_getElem?_getD, get_lastN]
    rfl
  have st0 : ∀ (n s : Nat → List Nat) (j : Nat), 25 ≤ j → begR n s j = if 55 ≤ j ∧ j < 58 ∧ j < 48 + (s 0).length then 2 else if 65 ≤ j ∧ j < 68 ∧ j < 58 + (s 1).length then 2 else 0 := fun n s j hj => by
    unfold begR
    rw [if_neg (by omega), if_neg (by omega), if_neg (by omega), if_neg (by omega), if_neg (by omega)]
  funext j
  by_cases j1 : j = 1 + t
  · rw [j1, va_at_eq, beg_1 ht, ut, lt]
  · rw [va_at_ne j1]
    by_cases j2 : j = 48 + 10 * t + (s t).length
    · rw [j2, va_at_eq, beg_st ht hl (by rw [ut, lt]; omega)]
    · rw [va_at_ne j2]
      by_cases j3 : j = 5 + 10 * t + (s t).length
      · rw [j3, va_at_eq, beg_sh ht hl, ut, gl]
      · rw [va_at_ne j3]
        rcases Nat.lt_or_ge j 25 with z | z
        · rcases Nat.lt_or_ge j 5 with z2 | z2
          · rcases (show j = 0 ∨ (∃ u, u < 2 ∧ j = 1 + u) ∨ ∃ u, u < 2 ∧ j = 3 + u by
              rcases (show j = 0 ∨ j = 1 ∨ j = 2 ∨ j = 3 ∨ j = 4 by omega) with h | h | h | h | h
              · exact Or.inl h
              · exact Or.inr (Or.inl ⟨0, by decide, h⟩)
              · exact Or.inr (Or.inl ⟨1, by decide, h⟩)
              · exact Or.inr (Or.inr ⟨0, by decide, h⟩)
              · exact Or.inr (Or.inr ⟨1, by decide, h⟩)) with h | ⟨u, hu, h⟩ | ⟨u, hu, h⟩
            · rw [h]; rfl
            · rw [h, beg_1 hu, beg_1 hu, uo u (by omega)]
            · rw [h, beg_nm hu, beg_nm hu]
          · obtain ⟨u, i, hu, hi, h⟩ : ∃ u i, u < 2 ∧ i < 10 ∧ j = 5 + 10 * u + i := ⟨(j - 5) / 10, (j - 5) % 10, by omega, by omega, by omega⟩
            rw [h, beg_sh hu hi, beg_sh hu hi]
            by_cases e : u = t
            · subst e
              rw [ut, gd' i (by omega)]
            · rw [uo u e]
        · rw [st0 _ _ j z, st0 _ _ j z]
          rcases (show t = 0 ∨ t = 1 by omega) with rfl | rfl
          · rw [ut, uo 1 (by decide), lt]
            by_cases c1 : 55 ≤ j ∧ j < 58 ∧ j < 48 + (s 0).length
            · rw [if_pos c1, if_pos (by omega)]
            · rw [if_neg c1, if_neg (by omega)]
          · rw [ut, uo 0 (by decide), lt]
            by_cases c1 : 65 ≤ j ∧ j < 68 ∧ j < 58 + (s 1).length
            · by_cases c0 : 55 ≤ j ∧ j < 58 ∧ j < 48 + (s 0).length
              · rw [if_pos c0, if_pos c0]
              · rw [if_neg c0, if_neg c0, if_pos c1, if_pos (by omega)]
            · by_cases c0 : 55 ≤ j ∧ j < 58 ∧ j < 48 + (s 0).length
              · rw [if_pos c0, if_pos c0]
              · rw [if_neg c0, if_neg c0, if_neg c1, if_neg (by omega)]
end
