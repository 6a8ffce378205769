/-! ===== the class reads cards and changes ===== -/
section
variable {tp : List Nat} {n : Nat → List Nat} {σ : Nat → Nat} {M : xMem} {T : TK}
theorem cW_T : cW tp (.inr T) = if wd tp T = 9 then 0 else if wd tp T = 10 then 1 else if wd tp T = 11 then 2 else 3 := by
  unfold cW
  rw [xW_T, xW_T, xW_T]
  have e : ∀ j, ((if wd tp T = j then 1 else 0) = 1) = (wd tp T = j) := by
    intro j
    apply propext
    exact ⟨fun y => ite_1 y, fun y => by rw [if_pos y]⟩
  simp only [e]
theorem c_card (hl : tp.length ≤ 2000) (hb : ∀ b ∈ tp, b < 256) (hT : TkO tp T) (h : PkC tp M T) (hC : CS tp M n σ) (hw : wd tp T = 2) : ∃ r M', fX3_readCard 60 M = some (r, M') ∧ OutL tp M' r (xCard tp n σ (.inr T)) ∧ Fy M M' := by
  obtain ⟨-, x1, -⟩ := x60t
  have hR := hC.2.2.2.2.1.1.1
  have hBD := hC.2.2.2.2.1.2.1
  have w2 : xW tp 2 (.inr T) = 1 := by rw [xW_T, if_pos hw]
  unfold fX3_readCard xCard
  rw [xPass_1 w2, x1, m51]
  show ∃ r M', _ ∧ OutL tp M' r (cdA tp σ (xTm tp n (.inr (adv tp T.2.2)))) ∧ Fy M M'
  obtain ⟨M1, f1, k1, t1, F1⟩ := c_adv hl hb hC.1 hT h
  generalize adv tp T.2.2 = T1 at *
  have C1 := hC.fy F1.fz.fy
  obtain ⟨r2, M2, f2, o2, F2, v2⟩ := c_checkName (n := n) hl t1 k1 C1.2.1
  have C2 := C1.fy F2.fy
  have f12 := c_nextN f1 f2
  have ht := xTm_lt (tp := tp) (n := n) (.inr T1)
  have hin := fun T' => xTm_inr (tp := tp) (n := n) (st := .inr T1) (T := T')
  generalize xTm tp n (.inr T1) = q at *
  obtain ⟨s1, t⟩ := q
  simp only at *
  cases s1 with
  | inl b =>
    exact ⟨r2, M2, sBn f12 (sLt (sF o2.bad (sF o2.bad rfl))), OutL.inl (cdA_inl t b) o2, (F1.fz.trans F2).fy⟩
  | inr T1' =>
    have e1 : T1 = T1' := by have := hin T1' rfl; simpa using this
    subst e1
    have v7 := v2 rfl
    obtain ⟨c1, k2, -⟩ := o2
    unfold cdA
    simp only
    show ∃ r M', _ ∧ OutL tp M' r (cdB tp σ t (xOne tp σ t (.inr (adv tp T1.2.2)))) ∧ Fy M M'
    obtain ⟨M3, f3, k3, t3, F3⟩ := c_adv hl hb C2.1 t1 k2
    generalize adv tp T1.2.2 = T3 at *
    have C3 := C2.fy F3.fz.fy
    have w7 : M3.1 60 7 = nI t := by rw [F3.2.1 7 (by decide) (by decide) (by decide)]; exact v7
    obtain ⟨r4, M4, f4, o4, F4, k4, e4, -, v4⟩ := c_checkShirt t3 k3 C3.2.2.1 ht
    have C4 := C3.fy F4.fy
    have f34 := c_nextS f3 f4
    have hin2 := fun T' => xOne_inr (tp := tp) (σ := σ) (t := t) (st := .inr T3) (T := T')
    generalize xOne tp σ t (.inr T3) = o at *
    obtain ⟨s4, i⟩ := o
    simp only at *
    have FA := (((F1.fz.trans F2).trans F3.fz).trans F4).fy
    cases s4 with
    | inl b =>
      refine ⟨r4, M4, sBn f12 (sLt (sT c1 ?_)), OutL.inl (cdB_inl t i b) o4, FA⟩
      rw [v7]
      exact sBn f34 (sF o4.bad rfl)
    | inr T3' =>
      obtain ⟨e3, hi⟩ := hin2 T3' rfl
      have e3' : T3 = T3' := by simpa using e3
      subst e3'
      have v8 := v4 rfl
      have v7' : M4.1 60 7 = nI t := by rw [e4 7 (by decide)]; exact w7
      obtain ⟨d1, -, -⟩ := o4
      have h10 := hR.m ht
      have hst := ((hR.2 t ht).2.1 i (by omega)).1
      have pre : ∀ z, (xBn (fX8_canShow 12 (nI t) (nI i) (nI 2) M4) fun r7 M8 => if r7 = 0 then (some ((nI 5), M8)) else (xBv (fX3_advance 60 M8) fun M9 => xBn (fX3_word 60 M9) fun r10 M11 => xBn (fX10_isWithin r10 (nI 9) (nI 11) M11) fun r12 M13 => if r12 = 0 then (some ((nI 1), M13)) else (xLt (r10 - (nI 9)) fun x14 => xBn (fX8_canShow 12 (M13.1 60 7) (M13.1 60 8) x14 M13) fun r15 M16 => if r15 = 0 then (some ((nI 5), M16)) else (xBv (fX3_advance 60 M16) fun M17 => xBn (fX4_packOther (nI 1) (M17.1 60 7) (M17.1 60 8) x14 M17) fun r18 M19 => xLt (xwL M19 60 9 r18) fun M20 => some ((nI 0), M20))))) = z → (xBn (fX3_nextName 60 M) fun r1 M2 => xLt (fun (v3 : Int32) (M4 : xMem) => (if v3 = 0 then (xBn (fX8_canShow 12 (M4.1 60 7) (M4.1 60 8) (nI 2) M4) fun r5 M6 => if r5 = 0 then (some ((nI 5), M6)) else (xBv (fX3_advance 60 M6) fun M7 => xBn (fX3_word 60 M7) fun r8 M9 => xBn (fX10_isWithin r8 (nI 9) (nI 11) M9) fun r10 M11 => if r10 = 0 then (some ((nI 1), M11)) else (xLt (r8 - (nI 9)) fun x12 => xBn (fX8_canShow 12 (M11.1 60 7) (M11.1 60 8) x12 M11) fun r13 M14 => if r13 = 0 then (some ((nI 5), M14)) else (xBv (fX3_advance 60 M14) fun M15 => xBn (fX4_packOther (nI 1) (M15.1 60 7) (M15.1 60 8) x12 M15) fun r16 M17 => xLt (xwL M17 60 9 r16) fun M18 => some ((nI 0), M18))))) else (some (v3, M4)) : Option (Int32 × xMem))) fun J18 => if r1 = 0 then (xBn (fX3_nextShirt 60 (M2.1 60 7) M2) fun r19 M20 => J18 r19 M20) else (J18 r1 M2)) = z := by
        intro z hz
        refine sBn f12 (sLt (sT c1 ?_))
        rw [v7]
        refine sBn f34 (sT d1 ?_)
        rw [v7', v8]
        exact hz
      unfold cdB
      simp only
      have cs2 := s_canShow kd12 C4.2.2.2.1.1 hR hBD ht hi (c := 2) (by decide)
      generalize hx : σ (48 + 10 * t + i) = x at *
      by_cases q : ovR σ = 0 ∧ x ≠ 2 ∧ x ≠ 4
      · have cs : csR t i 2 σ = 1 := by
          unfold csR
          rw [hx, if_pos ⟨q.1, by omega⟩]
        rw [if_pos q]
        show ∃ r M', _ ∧ OutL tp M' r (cdC tp σ t i (.inr (adv tp T3.2.2))) ∧ Fy M M'
        obtain ⟨M5, f5, k5, t5, F5⟩ := c_adv hl hb C4.1 t3 k4
        generalize adv tp T3.2.2 = T5 at *
        have C5 := C4.fy F5.fz.fy
        have hle := wd_le tp T5
        have z7 : M5.1 60 7 = nI t := by rw [F5.2.1 7 (by decide) (by decide) (by decide)]; exact v7'
        have z8 : M5.1 60 8 = nI i := by rw [F5.2.1 8 (by decide) (by decide) (by decide)]; exact v8
        by_cases qw : 9 ≤ wd tp T5 ∧ wd tp T5 ≤ 11
        · have ec : cW tp (.inr T5) = wd tp T5 - 9 := by
            rw [cW_T]
            rcases (show wd tp T5 = 9 ∨ wd tp T5 = 10 ∨ wd tp T5 = 11 by omega) with y | y | y <;> rw [y] <;> rfl
          have ex : wI (wd tp T5) - nI 9 = nI (wd tp T5 - 9) := by
            unfold wI; rw [if_neg (by omega), eSub (by omega)]
          have csc := s_canShow kd12 C5.2.2.2.1.1 hR hBD ht hi (c := wd tp T5 - 9) (by omega)
          unfold cdC cWF
          rw [ec, if_neg (show ¬ wd tp T5 - 9 = 3 by omega), hx]
          by_cases q3 : x = 3 ∧ wd tp T5 - 9 ≠ 2
          · rw [if_pos q3]
            have cs3 : csR t i (wd tp T5 - 9) σ = 0 := by
              unfold csR
              rw [hx, if_neg (by omega)]
            refine ⟨nI 5, M5, pre _ ?_, OutL.inl (b := (5, T5.1)) rfl (OutC.f (by decide) (by decide) k5.2.1), FA.trans F5.fz.fy⟩
            refine sBn cs2 ?_
            rw [cs]
            refine sF (by decide) (sBv f5 (sBn (c_word k5 t5) (sBn (c_wordIn hle (by decide) (by decide)) ?_)))
            rw [if_pos qw]
            refine sF (by decide) (sLe ex ?_)
            rw [z7, z8]
            refine sBn csc ?_
            rw [cs3]
            exact sT (by decide) rfl
          · rw [if_neg q3]
            have cs3 : csR t i (wd tp T5 - 9) σ = 1 := by
              unfold csR
              rw [hx, if_pos ⟨q.1, by omega⟩]
            obtain ⟨M6, f6, k6, t6, F6⟩ := c_adv hl hb C5.1 t5 k5
            have y7 : M6.1 60 7 = nI t := by rw [F6.2.1 7 (by decide) (by decide) (by decide)]; exact z7
            have y8 : M6.1 60 8 = nI i := by rw [F6.2.1 8 (by decide) (by decide) (by decide)]; exact z8
            refine ⟨nI 0, xwL M6 60 9 (lN (codL (.inr (1, t, i, wd tp T5 - 9)))), pre _ ?_, ⟨⟨rfl, k6.wL, t6⟩, fun T' _ => xwL_at _ _ _ _⟩, (FA.trans F5.fz.fy).trans (F6.fz.trans Fz.wL).fy⟩
            refine sBn cs2 ?_
            rw [cs]
            refine sF (by decide) (sBv f5 (sBn (c_word k5 t5) (sBn (c_wordIn hle (by decide) (by decide)) ?_)))
            rw [if_pos qw]
            refine sF (by decide) (sLe ex ?_)
            rw [z7, z8]
            refine sBn csc ?_
            rw [cs3]
            refine sF (by decide) (sBv f6 ?_)
            rw [y7, y8]
            exact sBn (e_packOther (by decide) (by omega) (by omega) (by omega)) rfl
        · have ec : cW tp (.inr T5) = 3 := by
            rw [cW_T, if_neg (by omega), if_neg (by omega), if_neg (by omega)]
          refine ⟨nI 1, M5, pre _ ?_, OutL.inl (b := (1, T5.1)) ?_ (OutC.f (by decide) (by decide) k5.2.1), FA.trans F5.fz.fy⟩
          · refine sBn cs2 ?_
            rw [cs]
            refine sF (by decide) (sBv f5 (sBn (c_word k5 t5) (sBn (c_wordIn hle (by decide) (by decide)) ?_)))
            rw [if_neg qw]
            exact sT (by decide) rfl
          · unfold cdC cWF
            rw [ec, if_pos rfl]
            show xAd tp (xCan _ (.inl (1, T5.1))) = _
            rw [xCan_inl]
            rfl
      · have cs : csR t i 2 σ = 0 := by
          unfold csR
          rw [hx, if_neg (fun y => q ⟨y.1, by omega, by omega⟩)]
        rw [if_neg q]
        refine ⟨nI 5, M4, pre _ ?_, OutL.inl (b := (5, T3.1)) (cdC_inl _ _ _) (OutC.f (by decide) (by decide) k4.2.1), FA⟩
        refine sBn cs2 ?_
        rw [cs]
        exact sT (by decide) rfl
theorem c_change (hl : tp.length ≤ 2000) (hb : ∀ b ∈ tp, b < 256) (hT : TkO tp T) (h : PkC tp M T) (hC : CS tp M n σ) (hw : wd tp T = 3) : ∃ r M', fX3_readChange 60 M = some (r, M') ∧ OutL tp M' r (xChange tp n σ (.inr T)) ∧ Fy M M' := by
  obtain ⟨-, x1, -⟩ := x60t
  have hR := hC.2.2.2.2.1.1.1
  have hBD := hC.2.2.2.2.1.2.1
  have w3 : xW tp 3 (.inr T) = 1 := by rw [xW_T, if_pos hw]
  unfold fX3_readChange xChange
  rw [xPass_1 w3, x1, m51]
  show ∃ r M', _ ∧ OutL tp M' r (chA tp σ (xTm tp n (.inr (adv tp T.2.2)))) ∧ Fy M M'
  obtain ⟨M1, f1, k1, t1, F1⟩ := c_adv hl hb hC.1 hT h
  generalize adv tp T.2.2 = T1 at *
  have C1 := hC.fy F1.fz.fy
  obtain ⟨r2, M2, f2, o2, F2, v2⟩ := c_checkName (n := n) hl t1 k1 C1.2.1
  have C2 := C1.fy F2.fy
  have f12 := c_nextN f1 f2
  have ht := xTm_lt (tp := tp) (n := n) (.inr T1)
  have hin := fun T' => xTm_inr (tp := tp) (n := n) (st := .inr T1) (T := T')
  generalize xTm tp n (.inr T1) = q at *
  obtain ⟨s1, t⟩ := q
  simp only at *
  cases s1 with
  | inl b =>
    exact ⟨r2, M2, sBn f12 (sLt (sF o2.bad (sF o2.bad rfl))), OutL.inl (chA_inl t b) o2, (F1.fz.trans F2).fy⟩
  | inr T1' =>
    have e1 : T1 = T1' := by have := hin T1' rfl; simpa using this
    subst e1
    have v7 := v2 rfl
    obtain ⟨c1, k2, -⟩ := o2
    unfold chA
    simp only
    show ∃ r M', _ ∧ OutL tp M' r (chB tp σ t (xOne tp σ t (.inr (adv tp T1.2.2)))) ∧ Fy M M'
    obtain ⟨M3, f3, k3, t3, F3⟩ := c_adv hl hb C2.1 t1 k2
    generalize adv tp T1.2.2 = T3 at *
    have C3 := C2.fy F3.fz.fy
    have w7 : M3.1 60 7 = nI t := by rw [F3.2.1 7 (by decide) (by decide) (by decide)]; exact v7
    obtain ⟨r4, M4, f4, o4, F4, k4, e4, -, v4⟩ := c_checkShirt t3 k3 C3.2.2.1 ht
    have C4 := C3.fy F4.fy
    have f34 := c_nextS f3 f4
    have hin2 := fun T' => xOne_inr (tp := tp) (σ := σ) (t := t) (st := .inr T3) (T := T')
    generalize xOne tp σ t (.inr T3) = o at *
    obtain ⟨s4, f⟩ := o
    simp only at *
    have FA := (((F1.fz.trans F2).trans F3.fz).trans F4).fy
    cases s4 with
    | inl b =>
      refine ⟨r4, M4, sBn f12 (sLt (sT c1 ?_)), OutL.inl (chB_inl t f b) o4, FA⟩
      rw [v7]
      exact sBn f34 (sF o4.bad rfl)
    | inr T3' =>
      obtain ⟨e3, hi⟩ := hin2 T3' rfl
      have e3' : T3 = T3' := by simpa using e3
      subst e3'
      have v8 := v4 rfl
      have v7' : M4.1 60 7 = nI t := by rw [e4 7 (by decide)]; exact w7
      obtain ⟨d1, -, -⟩ := o4
      have h10 := hR.m ht
      have pre : ∀ z, (xBn (fX8_canLeave 12 (nI t) (nI f) M4) fun r8 M9 => if r8 = 0 then (some ((nI 5), M9)) else (xBv (fX3_advance 60 M9) fun M10 => xBn (fX3_takeWord 60 (nI 6) M10) fun r11 M12 => xLt (fun (v13 : Int32) (M14 : xMem) => (if v13 = 0 then (xBn (fX8_canEnter 12 (M14.1 60 7) (M14.1 60 8) M14) fun r15 M16 => if r15 = 0 then (some ((nI 5), M16)) else (xBv (fX3_advance 60 M16) fun M17 => xBn (fX4_packOther (nI 2) (M17.1 60 7) (nI f) (M17.1 60 8) M17) fun r18 M19 => xLt (xwL M19 60 9 r18) fun M20 => some ((nI 0), M20))) else (some (v13, M14)) : Option (Int32 × xMem))) fun J83 => if r11 = 0 then (xBn (fX3_checkShirt 60 (M12.1 60 7) M12) fun r21 M22 => J83 r21 M22) else (J83 r11 M12))) = z → (xBn (fX3_nextName 60 M) fun r1 M2 => xLt (fun (v3 : Int32) (M4 : xMem) => (if v3 = 0 then (xLt (M4.1 60 8) fun x5 => xBn (fX8_canLeave 12 (M4.1 60 7) x5 M4) fun r6 M7 => if r6 = 0 then (some ((nI 5), M7)) else (xBv (fX3_advance 60 M7) fun M8 => xBn (fX3_takeWord 60 (nI 6) M8) fun r9 M10 => xLt (fun (v11 : Int32) (M12 : xMem) => (if v11 = 0 then (xBn (fX8_canEnter 12 (M12.1 60 7) (M12.1 60 8) M12) fun r13 M14 => if r13 = 0 then (some ((nI 5), M14)) else (xBv (fX3_advance 60 M14) fun M15 => xBn (fX4_packOther (nI 2) (M15.1 60 7) x5 (M15.1 60 8) M15) fun r16 M17 => xLt (xwL M17 60 9 r16) fun M18 => some ((nI 0), M18))) else (some (v11, M12)) : Option (Int32 × xMem))) fun J73 => if r9 = 0 then (xBn (fX3_checkShirt 60 (M10.1 60 7) M10) fun r19 M20 => J73 r19 M20) else (J73 r9 M10))) else (some (v3, M4)) : Option (Int32 × xMem))) fun J18 => if r1 = 0 then (xBn (fX3_nextShirt 60 (M2.1 60 7) M2) fun r21 M22 => J18 r21 M22) else (J18 r1 M2)) = z := by
        intro z hz
        refine sBn f12 (sLt (sT c1 ?_))
        rw [v7]
        refine sBn f34 (sT d1 (sLe v8 ?_))
        rw [v7']
        exact hz
      unfold chB
      simp only
      have cl := s_canLeave kd12 C4.2.2.2.1.1 hR hBD ht hi
      have hcl : clR t f σ < 2 := ite01 _
      rcases (show clR t f σ = 0 ∨ clR t f σ = 1 by omega) with q | q
      · rw [q] at cl ⊢
        refine ⟨nI 5, M4, pre _ (sBn cl (sT (by decide) rfl)), OutL.inl (b := (5, T3.1)) ?_ (OutC.f (by decide) (by decide) k4.2.1), FA⟩
        show (chC tp σ t f (xOne tp σ t (xPass tp 6 (xAd tp (.inl (5, T3.1)))))).1 = _
        rw [xAd_inl, xPass_inl, xOne_inl, chC_inl]
      · rw [q] at cl ⊢
        show ∃ r M', _ ∧ OutL tp M' r (chC tp σ t f (xOne tp σ t (xPass tp 6 (.inr (adv tp T3.2.2))))) ∧ Fy M M'
        obtain ⟨M5, f5, k5, t5, F5⟩ := c_adv hl hb C4.1 t3 k4
        generalize adv tp T3.2.2 = T5 at *
        have C5 := C4.fy F5.fz.fy
        have z7 : M5.1 60 7 = nI t := by rw [F5.2.1 7 (by decide) (by decide) (by decide)]; exact v7'
        obtain ⟨r6, M6, f6, o6, F6⟩ := c_takeWord hl hb C5.1 t5 k5 (j := 6) (by decide)
        have C6 := C5.fy F6.fz.fy
        have y7 : M6.1 60 7 = nI t := by rw [F6.2.1 7 (by decide) (by decide) (by decide)]; exact z7
        have FB := (FA.trans F5.fz.fy).trans F6.fz.fy
        cases e6 : xPass tp 6 (.inr T5) with
        | inl b =>
          rw [e6] at o6
          refine ⟨r6, M6, pre _ (sBn cl (sF (by decide) (sBv f5 (sBn f6 ?_)))), OutL.inl (b := b) (by rw [xOne_inl, chC_inl]) o6, FB⟩
          exact sLt (sF o6.bad (sF o6.bad rfl))
        | inr T6 =>
          rw [e6] at o6
          obtain ⟨g1', k6, t6⟩ := o6
          obtain ⟨r7, M7, f7, o7, F7, k7, e7, -, v9⟩ := c_checkShirt t6 k6 C6.2.2.1 ht
          have C7 := C6.fy F7.fy
          have hin3 := fun T' => xOne_inr (tp := tp) (σ := σ) (t := t) (st := .inr T6) (T := T')
          generalize xOne tp σ t (.inr T6) = o at *
          obtain ⟨s7, j⟩ := o
          simp only at *
          have FC := FB.trans F7.fy
          cases s7 with
          | inl b =>
            refine ⟨r7, M7, pre _ (sBn cl (sF (by decide) (sBv f5 (sBn f6 ?_)))), OutL.inl (b := b) (chC_inl _ _ _ _) o7, FC⟩
            refine sLt (sT g1' ?_)
            rw [y7]
            exact sBn f7 (sF o7.bad rfl)
          | inr T6' =>
            obtain ⟨e9, hj⟩ := hin3 T6' rfl
            have e9' : T6 = T6' := by simpa using e9
            subst e9'
            have u8 := v9 rfl
            have u7 : M7.1 60 7 = nI t := by rw [e7 7 (by decide)]; exact y7
            obtain ⟨d7, -, -⟩ := o7
            have ce := s_canEnter kd12 C7.2.2.2.1.1 hR ht hj
            unfold chC
            simp only
            by_cases qe : σ (48 + 10 * t + j) = 2
            · rw [if_pos qe] at ce ⊢
              obtain ⟨M8, f8, k8, t8, F8⟩ := c_adv hl hb C7.1 t6 k7
              have p7 : M8.1 60 7 = nI t := by rw [F8.2.1 7 (by decide) (by decide) (by decide)]; exact u7
              have p8 : M8.1 60 8 = nI j := by rw [F8.2.1 8 (by decide) (by decide) (by decide)]; exact u8
              refine ⟨nI 0, xwL M8 60 9 (lN (codL (.inr (2, t, f, j)))), pre _ (sBn cl (sF (by decide) (sBv f5 (sBn f6 ?_)))), ⟨⟨rfl, k8.wL, t8⟩, fun T' _ => xwL_at _ _ _ _⟩, FC.trans (F8.fz.trans Fz.wL).fy⟩
              refine sLt (sT g1' ?_)
              rw [y7]
              refine sBn f7 (sT d7 ?_)
              rw [u7, u8]
              refine sBn ce (sF (by decide) (sBv f8 ?_))
              rw [p7, p8]
              exact sBn (e_packOther (by decide) (by omega) (by omega) (by omega)) rfl
            · rw [if_neg qe] at ce ⊢
              refine ⟨nI 5, M7, pre _ (sBn cl (sF (by decide) (sBv f5 (sBn f6 ?_)))), OutL.inl (b := (5, T6.1)) rfl (OutC.f (by decide) (by decide) k7.2.1), FC⟩
              refine sLt (sT g1' ?_)
              rw [y7]
              refine sBn f7 (sT d7 ?_)
              rw [u7, u8]
              exact sBn ce (sT (by decide) rfl)
end
