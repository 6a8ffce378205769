/-! ===== the class reads a raid ===== -/
section
variable {tp : List Nat} {n : Nat → List Nat} {σ : Nat → Nat} {M : xMem} {T : TK} {r s b tk : Nat} {tl : List Nat}
theorem PlF.fz {M' : xMem} (h : PlF M 61 r s b tk tl) (hF : Fz M M') : PlF M' 61 r s b tk tl := h.keep (fun c y => hF.1 c (by omega))
theorem x602 : xrf 60 2 = 61 := x60t.2.2.1
theorem c_checkDef (hT : TkO tp T) (h : PkC tp M T) (hC : CS tp M n σ) (hP : PlF M 61 r s b tk tl) : ∃ r' M', fX3_checkDefender 60 M = some (r', M') ∧ OutC tp M' r' (thB σ (1 - σ 28) tl (xOne tp σ (1 - σ 28) (.inr T))) ∧ Fz M M' ∧ (∀ T', thB σ (1 - σ 28) tl (xOne tp σ (1 - σ 28) (.inr T)) = .inr T' → T' = T ∧ M'.1 60 8 = nI (xOne tp σ (1 - σ 28) (.inr T)).2) := by
  obtain ⟨-, x1, -⟩ := x60t
  have hR := hC.2.2.2.2.1.1.1
  have h28 := hR.1
  have hu : 1 - σ 28 < 2 := by omega
  have h121 : M.1 12 1 = nI (σ 28) := hC.2.2.2.1.1.1
  obtain ⟨r1, M1, f1, o1, F1, k1, e1, -, v1⟩ := c_checkShirt (t := 1 - σ 28) hT h hC.2.2.1 hu
  have C1 := hC.fy F1.fy
  have P1 := hP.fz F1
  have hin := fun T' => xOne_inr (tp := tp) (σ := σ) (t := 1 - σ 28) (st := .inr T) (T := T')
  unfold fX3_checkDefender thB
  rw [x1, m51, x602, h121, eSub (by omega)]
  generalize xOne tp σ (1 - σ 28) (.inr T) = o at *
  obtain ⟨s1, i⟩ := o
  simp only at *
  cases s1 with
  | inl b' =>
    rw [xCan_inl]
    exact ⟨r1, M1, sBn f1 (sF o1.bad rfl), o1, F1, fun T' y => absurd y (by simp)⟩
  | inr T1 =>
    obtain ⟨e2, hi⟩ := hin T1 rfl
    have e3 : T = T1 := by simpa using e2
    subst e3
    have v8 := v1 rfl
    obtain ⟨c1, -, -⟩ := o1
    have m10 := hR.m hu
    have hst := ((hR.2 _ hu).2.1 i (by omega)).1
    have hset : setR tl < 1024 := setR_lt (by decide) P1.2.2.2
    have h121' : M1.1 12 1 = nI (σ 28) := C1.2.2.2.1.1.1
    have aw := s_away kd12 h121' h28
    have st := C1.2.2.2.1.1.stat hu hi
    have hbit : ((nI (setR tl) >>> ((M1.1 60 8) &&& 31)) &&& nI 1) = nI (if i ∈ tl then 1 else 0) := by
      rw [v8, e_bitI (by omega) (by omega), setR_bit]
    by_cases q : σ (48 + 10 * (1 - σ 28) + i) = 0 ∧ i ∉ tl
    · rw [if_pos q]
      refine ⟨nI 0, M1, ?_, ⟨rfl, k1, hT⟩, F1, fun T' y => ⟨?_, v8⟩⟩
      · refine sBn f1 (sT c1 (sBn (s_touchedMask kd61 P1) (sLt ?_)))
        rw [hbit, if_neg q.2]
        refine sF (by decide) (sT (by decide) (sBn aw ?_))
        rw [(sdF hu).1.1, (sdF hu).2.1]
        refine sGb i v8 (by omega) (by decide) ?_
        rw [v8, eCl (by omega), st, q.1]
        exact sT (by decide) rfl
      · have : (.inr T : PS) = .inr T' := y
        simpa using this.symm
    · rw [if_neg q]
      refine ⟨nI 5, M1, ?_, OutC.f (by decide) (by decide) k1.2.1, F1, fun T' y => absurd y (by simp [xCan, xE])⟩
      refine sBn f1 (sT c1 (sBn (s_touchedMask kd61 P1) (sLt ?_)))
      rw [hbit]
      by_cases q2 : i ∈ tl
      · rw [if_pos q2]
        exact sT rfl (sF (by decide) rfl)
      · rw [if_neg q2]
        refine sF (by decide) (sT (by decide) (sBn aw ?_))
        rw [(sdF hu).1.1, (sdF hu).2.1]
        refine sGb i v8 (by omega) (by decide) ?_
        rw [v8, eCl (by omega), st]
        exact sF (eN0 (by omega) (fun y => q ⟨y, q2⟩)) rfl
theorem c_with (hl : tp.length ≤ 2000) (hb : ∀ b ∈ tp, b < 256) (hT : TkO tp T) (h : PkC tp M T) (hC : CS tp M n σ) (hP : PlF M 61 r s 0 tk tl) : ∃ r' M' b', fX3_readWith 60 M = some (r', M') ∧ OutC tp M' r' (xBon tp σ (.inr T)) ∧ PlF M' 61 r s b' tk tl ∧ (∀ T', xBon tp σ (.inr T) = .inr T' → b' = xW tp 14 (.inr T)) ∧ Fy M M' := by
  obtain ⟨-, x1, -⟩ := x60t
  have hR := hC.2.2.2.2.1.1.1
  have hle := wd_le tp T
  unfold fX3_readWith xBon
  rw [c_word h hT, eBn, x1, m51, x602, xW_T]
  by_cases q : wd tp T = 14
  · rw [if_pos q, if_pos rfl]
    rcases boR_le σ with z | z
    · rw [z]
      refine ⟨nI 5, M, 0, sT (by rw [wI_eq hle (by decide)]; exact q) (sBn (s_isBonusOpen kd12 hC.2.2.2.1.1 hR) (sT (by rw [z]; decide) rfl)), OutC.f (by decide) (by decide) h.2.1, hP, fun T' y => absurd y (by simp [xCan, xE, xAd]), Fy.refl M⟩
    · rw [z]
      have P1 : PlF (xwI M 61 3 (nI 1)) 61 r s 1 tk tl := by
        obtain ⟨⟨a0, a1, a2, a3, a4, a5, a6, a7, a8, a9, a10⟩, b1, b2, b3⟩ := hP
        exact ⟨⟨by rw [xwI_ne (by omega)]; exact a0, by rw [xwI_ne (by omega)]; exact a1, fun y => by rw [xwI_ne (by omega)]; exact a2 y, xwI_at _ _ _ _, by rw [xwI_ne (by omega)]; exact a4, fun j x hj => by rw [xwI_ne (by omega)]; exact a5 j x hj, a6, a7, a8, by omega, a10⟩, by rw [xwI_ne (by omega)]; exact b1, b2, b3⟩
      have k1 : PkC tp (xwI M 61 3 (nI 1)) T := h.of (xwI_c (by decide)) rfl
      have G1 : Fy M (xwI M 61 3 (nI 1)) := ⟨fun c _ a _ => xwI_c a, fun _ _ => rfl, rfl⟩
      have C1 := hC.fy G1
      obtain ⟨M2, f2, k2, t2, F2⟩ := c_adv hl hb C1.1 hT k1
      exact ⟨nI 0, M2, 1, sT (by rw [wI_eq hle (by decide)]; exact q) (sBn (s_isBonusOpen kd12 hC.2.2.2.1.1 hR) (sF (by rw [z]; decide) (sLt (sBv f2 rfl)))), ⟨rfl, k2, t2⟩, P1.fz F2.fz, fun _ _ => rfl, G1.trans F2.fz.fy⟩
  · have e0 : (if wd tp T = 14 then 1 else 0) = 0 := if_neg q
    rw [e0, if_neg (show ¬ 0 = 1 by decide)]
    exact ⟨nI 0, M, 0, sF (by rw [wI_eq hle (by decide)]; exact q) rfl, ⟨rfl, h, hT⟩, hP, fun _ _ => rfl, Fy.refl M⟩
theorem s_addT2 {i : Nat} (hP : PlF M 61 r 1 b tk tl) (hi : i < 10) (h7 : tl.length < 7) : ∃ M', fX4_addTouched 61 (nI i) M = some M' ∧ PlF M' 61 r 1 b tk (tl ++ [i]) ∧ (∀ c, c ≠ 61 → c ≠ 62 → M'.1 c = M.1 c) ∧ M'.2 = M.2 := by
  obtain ⟨p5', pl, -⟩ := pl_rf kd61
  obtain ⟨⟨a0, a1, a2, a3, a4, a5, a6, a7, a8, a9, a10⟩, b1, b2, b3⟩ := hP
  have a5' : ∀ j (x : Nat), tl[j]? = some x → M.1 62 j = nI x := a5
  have hlen : (tl ++ [i]).length = tl.length + 1 := by rw [List.length_append]; rfl
  refine ⟨xwI (xwI M 62 tl.length (nI i)) 61 4 (nI (tl.length + 1)), ?_, ⟨⟨?_, ?_, fun y => by omega, ?_, ?_, fun j x hj => ?_, fun y => absurd rfl y, a7, a8, a9, a10⟩, ?_, by omega, fun x hx => ?_⟩, fun c u v => ?_, rfl⟩
  · unfold fX4_addTouched
    rw [p5', pl, a4]
    refine sF (by rw [eLe (by decide) (by omega)]; omega) (sGb tl.length rfl h7 (by decide) ?_)
    rw [eCl (by omega)]
    show xLt (xwI M 62 tl.length (nI i)) _ = _
    refine sLt ?_
    rw [xwI_c (by decide), a4, nI_add]
    rfl
  · rw [xwI_ne (by omega), xwI_ne (by omega)]; exact a0
  · rw [xwI_ne (by omega), xwI_ne (by omega)]; exact a1
  · rw [xwI_ne (by omega), xwI_ne (by omega)]; exact a3
  · rw [hlen]; exact xwI_at _ _ _ _
  · show (xwI (xwI M 62 tl.length (nI i)) 61 4 (nI (tl.length + 1))).1 62 j = _
    rw [xwI_c (by decide)]
    rcases snoc_at hj with ⟨z1, z2⟩ | ⟨z1, z2⟩
    · rw [z1, xwI_at, z2]
    · rw [xwI_ne (by omega)]; exact a5' j x z2
  · rw [xwI_ne (by omega), xwI_ne (by omega)]; exact b1
  · rcases List.mem_append.1 hx with z | z
    · exact b3 x z
    · have : x = i := by simpa using z
      omega
  · rw [xwI_c u, xwI_c v]
theorem c_touched' (hl : tp.length ≤ 2000) (hb : ∀ b ∈ tp, b < 256) : ∀ (k : Nat) (tl : List Nat) (T : TK) (M : xMem) (F : Nat), tl.length + k = 11 → k ≤ F → glT σ (1 - σ 28) tl → TkO tp T → PkC tp M T → CS tp M n σ → PlF M 61 r 1 0 0 tl → ∃ r' M' b' tl', fX3_readDefenders_l2 60 (fun (v13 : Int32) (M14 : xMem) => some ((nI 1), M14)) F (nI tl.length) M = some (r', M') ∧ OutC tp M' r' (thL tp σ (1 - σ 28) k tl (.inr T)).1 ∧ PlF M' 61 r 1 b' 0 tl' ∧ (∀ T', (thL tp σ (1 - σ 28) k tl (.inr T)).1 = .inr T' → b' = (thL tp σ (1 - σ 28) k tl (.inr T)).2.1 ∧ tl' = (thL tp σ (1 - σ 28) k tl (.inr T)).2.2) ∧ Fy M M' := by
  obtain ⟨-, x1, -⟩ := x60t
  intro k
  induction k with
  | zero =>
    intro tl T M F h1 h2 h3 hT h hC
    have hRT := hC.2.2.2.2.1.1
    have := h3.len hRT (by have := hRT.1.1; omega)
    omega
  | succ k ih =>
    intro tl T M F h1 h2 h3 hT h hC hP
    have hRT := hC.2.2.2.2.1.1
    have h28 := hRT.1.1
    have hu : 1 - σ 28 < 2 := by omega
    have h7 := h3.len hRT hu
    have m10 := hRT.1.m hu
    obtain ⟨F, rfl⟩ : ∃ q, F = q + 1 := ⟨F - 1, by omega⟩
    rw [fX3_readDefenders_l2.eq_2, x602]
    show ∃ r' M' b' tl', _ ∧ OutC tp M' r' (thF tp σ tl (xOne tp σ (1 - σ 28) (.inr T)).2 (thL tp σ (1 - σ 28) k) (thB σ (1 - σ 28) tl (xOne tp σ (1 - σ 28) (.inr T)))).1 ∧ PlF M' 61 r 1 b' 0 tl' ∧ (∀ T', (thF tp σ tl (xOne tp σ (1 - σ 28) (.inr T)).2 (thL tp σ (1 - σ 28) k) (thB σ (1 - σ 28) tl (xOne tp σ (1 - σ 28) (.inr T)))).1 = .inr T' → b' = (thF tp σ tl (xOne tp σ (1 - σ 28) (.inr T)).2 (thL tp σ (1 - σ 28) k) (thB σ (1 - σ 28) tl (xOne tp σ (1 - σ 28) (.inr T)))).2.1 ∧ tl' = (thF tp σ tl (xOne tp σ (1 - σ 28) (.inr T)).2 (thL tp σ (1 - σ 28) k) (thB σ (1 - σ 28) tl (xOne tp σ (1 - σ 28) (.inr T)))).2.2) ∧ Fy M M'
    obtain ⟨r1, M1, f1, o1, F1, v1⟩ := c_checkDef hT h hC hP
    have C1 := hC.fy F1.fy
    have P1 := hP.fz F1
    cases e : thB σ (1 - σ 28) tl (xOne tp σ (1 - σ 28) (.inr T)) with
    | inl b' =>
      rw [e] at o1
      exact ⟨r1, M1, 0, tl, sF (by rw [eLtI (by decide) (by omega)]; omega) (sBn f1 (sF o1.bad rfl)), o1, P1, fun T' y => absurd y (by simp [thF]), F1.fy⟩
    | inr T1 =>
      rw [e] at o1
      obtain ⟨rfl, v8⟩ := v1 T1 e
      obtain ⟨e1, e2⟩ := xCan_inr e
      obtain ⟨e3, e4⟩ := ite_1 e1
      obtain ⟨-, e6⟩ := xOne_inr e2
      generalize (xOne tp σ (1 - σ 28) (.inr T1)).2 = i at *
      have h3' := h3.add e6 e3 e4
      have h7' := h3'.len hRT hu
      have hlen : (tl ++ [i]).length = tl.length + 1 := by rw [List.length_append]; rfl
      obtain ⟨c1, k1, -⟩ := o1
      obtain ⟨M2, f2, k2, t2, F2⟩ := c_adv hl hb C1.1 hT k1
      have P2 := P1.fz F2.fz
      have C2 := C1.fy F2.fz.fy
      have v8' : M2.1 60 8 = nI i := by rw [F2.2.1 8 (by decide) (by decide) (by decide)]; exact v8
      obtain ⟨M3, f3, P3, g3, g3'⟩ := s_addT2 (i := i) P2 (by omega) (by omega)
      have G3 : Fy M2 M3 := ⟨fun c _ a b => g3 c a b, fun c _ => by rw [g3'], by rw [g3']⟩
      have C3 := C2.fy G3
      have k3 : PkC tp M3 (adv tp T1.2.2) := k2.of (g3 60 (by decide) (by decide)) (by rw [g3'])
      generalize hT2 : adv tp T1.2.2 = T2 at *
      have eA : xAd tp (.inr T1) = .inr T2 := by show Sum.inr (adv tp T1.2.2) = _; rw [hT2]
      obtain ⟨r4, M4, f4, o4, F4, e4'⟩ := c_takeSign hl hb C3.1 t2 k3 (c := 44) (by decide)
      have FA : Fy M M3 := (F1.fy.trans F2.fz.fy).trans G3
      have s1 : M2.1 61 1 = nI 1 := P2.1.2.1
      have pre : ∀ z, (if r4 = 0 then (xLt (nI tl.length + nI 1) fun x7 => fX3_readDefenders_l2 60 (fun (v13 : Int32) (M14 : xMem) => some ((nI 1), M14)) F x7 M4) else (xBn (fX3_readWith 60 M4) fun r8 M9 => some (r8, M9))) = z → (if (nI 10) < nI tl.length then (some (nI 1, M)) else (xBn (fX3_checkDefender 60 M) fun r1 M2 => if r1 = 0 then (xBv (fX3_advance 60 M2) fun M3 => if (M3.1 61 1) = (nI 3) then (xLt (xwI M3 61 2 (M3.1 60 8)) fun M10 => xBn (fX3_readWith 60 M10) fun r11 M12 => some (r11, M12)) else (xBv (fX4_addTouched 61 (M3.1 60 8) M3) fun M4 => xBn (fX3_takeSign 60 (nI 44) M4) fun r5 M6 => if r5 = 0 then (xLt (nI tl.length + nI 1) fun x7 => fX3_readDefenders_l2 60 (fun (v13 : Int32) (M14 : xMem) => some ((nI 1), M14)) F x7 M6) else (xBn (fX3_readWith 60 M6) fun r8 M9 => some (r8, M9)))) else (some (r1, M2)))) = z := by
        intro z hz
        refine sF (by rw [eLtI (by decide) (by omega)]; omega) (sBn f1 (sT c1 (sBv f2 (sF (by rw [s1]; decide) ?_))))
        rw [v8']
        exact sBv f3 (sBn f4 hz)
      unfold thF
      simp only
      rw [eA]
      rcases xS_lt tp 44 (.inr T2) with q | q
      · simp only [if_neg (show ¬ xS tp 44 (.inr T2) = 1 by omega)]
        have e5 := e4' q
        subst e5
        rw [xPassS_0 q] at o4
        have o4' : OutC tp M4 r4 (.inl (1, T2.1)) := o4
        obtain ⟨r5, M5, b5, f5, o5, P5, w5, F5⟩ := c_with hl hb t2 k3 C3 P3
        exact ⟨r5, M5, b5, tl ++ [i], pre _ (sF o4'.bad (sBn f5 rfl)), o5, P5, fun T' y => ⟨w5 T' y, rfl⟩, FA.trans F5⟩
      · simp only [if_pos q]
        rw [xPassS_1 q] at o4
        obtain ⟨d1, k4, t4⟩ : r4 = nI 0 ∧ PkC tp M4 (adv tp T2.2.2) ∧ TkO tp (adv tp T2.2.2) := o4
        have C4 := C3.fy F4.fz.fy
        obtain ⟨r5, M5, b5, tl5, f5, o5, P5, w5, F5⟩ := ih (tl ++ [i]) (adv tp T2.2.2) M4 F (by omega) (by omega) h3' t4 k4 C4 (P3.fz F4.fz)
        rw [hlen] at f5
        exact ⟨r5, M5, b5, tl5, pre _ (sT d1 (sLe (nI_add _ _) f5)), o5, P5, w5, (FA.trans F4.fz.fy).trans F5⟩
end
