/-! ===== tell: a raid, all raids ===== -/
def rdB (f g : Nat → Nat) (r s b tk : Nat) (tl : List Nat) : List Nat :=
  txt 24 ++ sB (f r) ++ txt (if s = 0 then 25 else if s = 1 then 26 else if s = 2 then 27 else if s = 3 then 28 else 29) ++ (if s = 3 then sB (g tk) else []) ++ (if s = 1 then tcL g tl tl.length else []) ++ (if b = 1 then txt 27 else []) ++ [59]
theorem sB_lt {v : Nat} (hv : v ≤ 99) : ∀ b ∈ sB v, b < 128 := by
  intro b hb
  unfold sB at hb
  rw [List.mem_append] at hb
  rcases hb with hb | hb
  · split at hb
    · exact absurd hb (by simp)
    · simp at hb; omega
  · simp at hb; omega
theorem tcL_lt {g : Nat → Nat} {tl : List Nat} (h : ∀ x ∈ tl, g x ≤ 99) : ∀ i, i ≤ tl.length → ∀ b ∈ tcL g tl i, b < 128
  | 0, _, b, hb => by unfold tcL at hb; exact absurd hb (by simp)
  | i + 1, hi, b, hb => by
    unfold tcL at hb
    rw [List.mem_append, List.mem_append] at hb
    rcases hb with hb | hb | hb
    · exact tcL_lt h i (by omega) b hb
    · split at hb
      · exact absurd hb (by simp)
      · simp at hb; omega
    · have hg : tl[i]? = some tl[i] := List.getElem?_eq_getElem (by omega)
      have hgd : tl.getD i 0 = tl[i] := by rw [List.getD_eq_getElem?_getD, hg]; rfl
      rw [hgd] at hb
      exact sB_lt (h _ (List.mem_of_getElem? hg)) b hb
theorem rdB_lt {f g : Nat → Nat} {r s b tk : Nat} {tl : List Nat} (hr : f r ≤ 99) (h3 : s = 3 → g tk ≤ 99) (h1 : ∀ x ∈ tl, g x ≤ 99) : ∀ c ∈ rdB f g r s b tk tl, c < 128 := by
  intro c hc
  unfold rdB at hc
  simp only [List.mem_append] at hc
  rcases hc with (((((hc | hc) | hc) | hc) | hc) | hc) | hc
  · exact txt_lt 24 (by decide) c hc
  · exact sB_lt hr c hc
  · refine txt_lt _ ?_ c hc
    split
    · decide
    · split
      · decide
      · split
        · decide
        · split <;> decide
  · split at hc
    · exact sB_lt (h3 (by assumption)) c hc
    · exact absurd hc (by simp)
  · split at hc
    · exact tcL_lt h1 _ (Nat.le_refl _) c hc
    · exact absurd hc (by simp)
  · split at hc
    · exact txt_lt 27 (by decide) c hc
    · exact absurd hc (by simp)
  · simp at hc; omega
theorem txt_len : (txt 24).length = 5 ∧ (txt 25).length = 6 ∧ (txt 26).length = 7 ∧ (txt 27).length = 6 ∧ (txt 28).length = 9 ∧ (txt 29).length = 4 ∧ (txt 1).length = 5 ∧ (txt 2).length = 6 ∧ (txt 3).length = 6 ∧ (txt 4).length = 6 ∧ (txt 5).length = 8 ∧ (txt 6).length = 4 := by decide +kernel
theorem rdB_len {f g : Nat → Nat} {r s b tk : Nat} {tl : List Nat} (h7 : tl.length ≤ 7) : (rdB f g r s b tk tl).length ≤ 60 := by
  obtain ⟨t1, t2, t3, t4, t5, t6, -⟩ := txt_len
  have e1 := sB_len (v := f r)
  have e2 := sB_len (v := g tk)
  have e3 := tcL_len g tl tl.length
  unfold rdB
  simp only [List.length_append, t1, List.length_cons, List.length_nil]
  have a1 : (txt (if s = 0 then 25 else if s = 1 then 26 else if s = 2 then 27 else if s = 3 then 28 else 29)).length ≤ 9 := by
    split
    · omega
    · split
      · omega
      · split
        · omega
        · split <;> omega
  have a2 : (if s = 3 then sB (g tk) else []).length ≤ 2 := by split <;> (try simp only [List.length_nil]) <;> omega
  have a3 : (if s = 1 then tcL g tl tl.length else []).length ≤ 21 := by split <;> (try simp only [List.length_nil]) <;> omega
  have a4 : (if b = 1 then txt 27 else []).length ≤ 6 := by split <;> (try simp only [List.length_nil]) <;> omega
  omega
/-- the class writes a blank ahead of the first -/
def tcC (f : Nat → Nat) (tl : List Nat) : Nat → List Nat
  | 0 => []
  | i + 1 => tcC f tl i ++ ((if i = 0 then [32] else [44]) ++ sB (f (tl.getD i 0)))
theorem tcC_eq (f : Nat → Nat) (tl : List Nat) : ∀ i, tcC f tl (i + 1) = 32 :: tcL f tl (i + 1)
  | 0 => by simp [tcC, tcL]
  | i + 1 => by
    have ih := tcC_eq f tl i
    have e1 : tcC f tl (i + 1 + 1) = tcC f tl (i + 1) ++ ((if i + 1 = 0 then [32] else [44]) ++ sB (f (tl.getD (i + 1) 0))) := rfl
    have e2 : tcL f tl (i + 1 + 1) = tcL f tl (i + 1) ++ ((if i + 1 = 0 then [] else [44]) ++ sB (f (tl.getD (i + 1) 0))) := rfl
    rw [e1, e2, ih, if_neg (by omega), if_neg (by omega), List.cons_append]
theorem tcC_len (f : Nat → Nat) (tl : List Nat) : ∀ i, (tcC f tl i).length ≤ 3 * i
  | 0 => Nat.le_refl _
  | i + 1 => by
    have := tcC_len f tl i
    have h2 := sB_len (v := f (tl.getD i 0))
    unfold tcC
    rw [List.length_append, List.length_append]
    split <;> simp only [List.length_nil, List.length_cons] <;> omega
theorem rdB_c {f g : Nat → Nat} {r s b tk : Nat} {tl : List Nat} (hs : s < 5) (h1 : s ≠ 1 → tl = []) (h1' : s = 1 → tl ≠ []) : txt 1 ++ sB (f r) ++ txt (2 + s) ++ tcC g tl tl.length ++ (if s = 3 then [32] ++ sB (g tk) else []) ++ (if b = 1 then txt 4 else []) ++ [59] = rdB f g r s b tk tl := by
  have w1 : txt 1 = txt 24 := by decide +kernel
  have w4 : txt 4 = txt 27 := by decide +kernel
  have w2 : txt 2 = txt 25 := by decide +kernel
  have w3 : txt 3 ++ [32] = txt 26 := by decide +kernel
  have w5 : txt 5 ++ [32] = txt 28 := by decide +kernel
  have w6 : txt 6 = txt 29 := by decide +kernel
  unfold rdB
  rw [w1, w4]
  rcases (show s = 0 ∨ s = 1 ∨ s = 2 ∨ s = 3 ∨ s = 4 by omega) with rfl | rfl | rfl | rfl | rfl
  · rw [h1 (by decide)]
    simp [tcC, w2]
  · obtain ⟨m, hm⟩ : ∃ m, tl.length = m + 1 := by
      refine ⟨tl.length - 1, ?_⟩
      have : tl.length ≠ 0 := fun z => h1' rfl (List.eq_nil_of_length_eq_zero z)
      omega
    rw [hm, tcC_eq]
    simp only [if_pos, if_neg, Nat.reduceAdd, Nat.one_ne_zero, if_false, if_true, Nat.reduceEqDiff, List.append_nil]
    rw [← w3]
    simp
  · rw [h1 (by decide)]
    simp [tcC, w4]
  · rw [h1 (by decide)]
    simp only [tcC, List.length_nil, if_true, Nat.reduceAdd, Nat.reduceEqDiff, if_false, List.append_nil]
    rw [← w5]
    simp
  · rw [h1 (by decide)]
    simp [tcC, w6]
def Fw (c : Nat) : Prop := c = 3 ∨ c = 4 ∨ c = 58 ∨ c = 59
theorem Fi.w3 {M M' : xMem} (h : Fi F34 M M') : Fi Fw M M' := h.mono (fun c q => by unfold F34 at q; unfold Fw; omega)
theorem Fi.w58 {M M' : xMem} (h : Fi (fun c => c = 58 ∨ c = 58 + 1) M M') : Fi Fw M M' := h.mono (fun c q => by unfold Fw; omega)
theorem x58r : xrf 58 5 = 59 := by decide +kernel
theorem l59 : xln 59 = 7 := by decide +kernel
theorem c_shirtOf {M : xMem} {t i v : Nat} (ht : t < 2) (hi : i < 10) (h : M.1 9 (10 * t + i) = nI v) : fX5_shirtOf 7 (nI t) (nI i) M = some (nI v, M) := by
  unfold fX5_shirtOf
  rw [m79, l9, pk_mul, nI_add]
  refine sGb _ rfl (by omega) (by decide) ?_
  rw [eCl (by omega), Nat.mul_comm t 10, h]
/-- a raid as it is told: what both sides hold of it -/
def RV (ρ : Nat → Nat) (k tk : Nat) (tl : List Nat) : Prop := RcO ρ k tk tl ∧ rq ρ k 1 < ρ (1 + rq ρ k 0) ∧ (rq ρ k 2 = 3 → tk < ρ (1 + (1 - rq ρ k 0))) ∧ ∀ x ∈ tl, x < ρ (1 + (1 - rq ρ k 0))
def rB (ρ : Nat → Nat) (k tk : Nat) (tl : List Nat) : List Nat := rdB (fun x => ρ (5 + 10 * rq ρ k 0 + x)) (fun x => ρ (5 + 10 * (1 - rq ρ k 0) + x)) (rq ρ k 1) (rq ρ k 2) (rq ρ k 6) tk tl
theorem c_writeRaid {M : xMem} {ρ : Nat → Nat} {k tk : Nat} {tl l : List Nat} (hk : k < 200) (hs : ∀ t i, t < 2 → i < ρ (1 + t) → M.1 9 (10 * t + i) = nI (ρ (5 + 10 * t + i)) ∧ ρ (5 + 10 * t + i) ≤ 99) (hm : ∀ t, t < 2 → ρ (1 + t) ≤ 10) (hv : RV ρ k tk tl) (hT : M.1 26 k = nI (rq ρ k 0)) (hp : M.2.1 42 k = lN (rdC (rq ρ k 1) (rq ρ k 2) (rq ρ k 6) tk tl)) (h : RwR M 3 l) (hl : l.length ≤ 2000) : ∃ M', fX2_writeRaid 5 (nI k) 3 M = some M' ∧ RwR M' 3 (l ++ rB ρ k tk tl) ∧ Fi Fw M M' := by
  obtain ⟨hR, v1, v3, vt⟩ := hv
  obtain ⟨a1, a2, a3, a4, a5, a6, a7, a8, a9, a10, a11, a12, a13, a14, a15, b1, b2, b3, b4, b5, b6, b7, b8⟩ := id hR
  obtain ⟨-, -, -, -, -, -, n1, n2, n3, n4, n5, n6⟩ := txt_len
  generalize hr : rq ρ k 1 = r at *
  generalize hss : rq ρ k 2 = s at *
  generalize hb : rq ρ k 6 = b at *
  generalize ht : rq ρ k 0 = t at *
  have h10 := hm t a1
  have h10' := hm (1 - t) (by omega)
  obtain ⟨M1, f1, P1, F1⟩ := s_unpack (M := M) kd58 a2 a3 a5 b6 b2 b3 b4
  have e9 : ∀ {M2 : xMem}, Fi Fw M M2 → M2.1 9 = M.1 9 := fun hF => hF.1 9 (fun q => by unfold Fw at q; omega)
  have r1 : RwR M1 3 l := ⟨by rw [F1.1 3 (fun q => by omega)]; exact h.1, fun j c hj => by rw [F1.1 4 (fun q => by omega)]; exact h.2 j c hj⟩
  have keep : ∀ {M2 M3 : xMem}, Fi F34 M2 M3 → PlF M2 58 r s b tk tl → PlF M3 58 r s b tk tl := fun hF hP => hP.keep (fun c hc => hF.1 c (fun q => by unfold F34 at q; omega))
  obtain ⟨M2, f2, r2, F2⟩ := c_words (i := 1) (by decide) r1 (by omega)
  have P2 := keep F2 P1
  have G2 := F1.w58.trans F2.w3
  obtain ⟨s1, s2⟩ := hs t r a1 v1
  obtain ⟨M3, f3, r3, F3⟩ := c_shirt (v := ρ (5 + 10 * t + r)) s2 r2 (by rw [List.length_append]; omega)
  have P3 := keep F3 P2
  have G3 := G2.trans F3.w3
  have q1 := sB_len (v := ρ (5 + 10 * t + r))
  have tl1 : (txt (2 + s)).length ≤ 8 := by
    rcases (show s = 0 ∨ s = 1 ∨ s = 2 ∨ s = 3 ∨ s = 4 by omega) with rfl | rfl | rfl | rfl | rfl
    · exact (by omega : (txt 2).length ≤ 8)
    · exact (by omega : (txt 3).length ≤ 8)
    · exact (by omega : (txt 4).length ≤ 8)
    · exact (by omega : (txt 5).length ≤ 8)
    · exact (by omega : (txt 6).length ≤ 8)
  obtain ⟨M4, f4, r4, F4⟩ := c_words (i := 2 + s) (by omega) r3 (by rw [List.length_append, List.length_append]; omega)
  have P4 := keep F4 P3
  have G4 := G3.trans F4.w3
  have rw4 : fX2_resultWord (nI s) M3 = some (2 + s, M3) := by
    rcases (show s = 0 ∨ s = 1 ∨ s = 2 ∨ s = 3 ∨ s = 4 by omega) with rfl | rfl | rfl | rfl | rfl <;> rfl
  generalize hl4 : l ++ txt 1 ++ sB (ρ (5 + 10 * t + r)) ++ txt (2 + s) = l4 at r4
  have hl4' : l4.length ≤ l.length + 15 := by
    rw [← hl4]
    simp only [List.length_append]
    omega
  -- those who were touched
  have loop : ∀ K : Int32 → xMem → Option xMem, (∀ v w M, K v M = K w M) → ∃ M5, fX2_writeRaid_l73 5 (nI k) 3 (nI t) K xFU (nI 0) M4 = K (nI 0) M5 ∧ RwR M5 3 (l4 ++ tcC (fun x => ρ (5 + 10 * (1 - t) + x)) tl tl.length) ∧ PlF M5 58 r s b tk tl ∧ Fi F34 M4 M5 := by
    intro K hK
    obtain ⟨M5, n, ⟨i1, i2, i3⟩, e⟩ := loopE (fun n k' M => fX2_writeRaid_l73 5 (nI k) 3 (nI t) K n (nI k') M) (fun k' M' => RwR M' 3 (l4 ++ tcC (fun x => ρ (5 + 10 * (1 - t) + x)) tl k') ∧ PlF M' 58 r s b tk tl ∧ Fi F34 M4 M') tl.length (M := M4) (by omega) ⟨by show RwR M4 3 (l4 ++ []); rw [List.append_nil]; exact r4, P4, Fi.refl _ _⟩ (fun n k' M5 hk' hI => by
      obtain ⟨i1, i2, i3⟩ := hI
      have hlen := tcC_len (fun x => ρ (5 + 10 * (1 - t) + x)) tl k'
      have hg : tl[k']? = some tl[k'] := List.getElem?_eq_getElem hk'
      have hgd : tl.getD k' 0 = tl[k'] := by rw [List.getD_eq_getElem?_getD, hg]; rfl
      have hxk := vt _ (List.mem_of_getElem? hg)
      obtain ⟨c1, c2⟩ := hs (1 - t) tl[k'] (by omega) hxk
      obtain ⟨M6, f6, r6, F6⟩ := c_put3 (x := if k' = 0 then 32 else 44) i1 (by rw [List.length_append]; omega) (by split <;> decide)
      obtain ⟨M7, f7, r7, F7⟩ := c_shirt (v := ρ (5 + 10 * (1 - t) + tl[k'])) c2 r6 (by rw [List.length_append, List.length_append]; simp only [List.length_cons, List.length_nil]; omega)
      have P6 := keep F6 i2
      refine ⟨M7, ?_, ?_, keep F7 P6, (i3.trans F6).trans F7⟩
      · simp only [fX2_writeRaid_l73.eq_2]
        rw [m54, x58r, l59, m50, m60, i2.1.2.2.2.2.1]
        refine sF (by rw [eLe (by omega) (by omega)]; omega) (sF (by rw [eLe (by decide) (by omega)]; omega) ?_)
        refine sJw (nI (if k' = 0 then 32 else 44)) M5 (fun J => ?_) (sBv f6 (sGb k' rfl (by omega) (by decide) ?_))
        · by_cases z : k' = 0
          · rw [if_pos (c := k' = 0) z]; exact sT (by rw [z]; decide) rfl
          · rw [if_neg (c := k' = 0) z]; exact sF (eN0 (by omega) z) rfl
        · rw [eCl (by omega), eSub (by omega)]
          have e59 : M6.1 59 k' = nI tl[k'] := P6.1.2.2.2.2.2.1 k' _ hg
          rw [e59]
          refine sBn (c_shirtOf (v := ρ (5 + 10 * (1 - t) + tl[k'])) (by omega) (by omega) ?_) (sBv f7 (sLe (nI_1 k') rfl))
          rw [F6.1 9 (fun q => by unfold F34 at q; omega), i3.1 9 (fun q => by unfold F34 at q; omega), e9 G4]
          exact c1
      · unfold tcC
        rw [hgd, ← List.append_assoc, ← List.append_assoc]
        have e : (if k' = 0 then [32] else [44]) = [if k' = 0 then 32 else 44] := by split <;> rfl
        rw [e]
        exact r7)
    refine ⟨M5, ?_, i1, i2, i3⟩
    refine e.trans ?_
    simp only [fX2_writeRaid_l73.eq_2]
    rw [m54, i2.1.2.2.2.2.1]
    exact sT (by rw [eLe (by omega) (by omega)]; exact Nat.le_refl _) (hK _ _ _)
  obtain ⟨M5, f5, r5, P5, F5⟩ := loop (fun (v23 : Int32) (M24 : xMem) => xLt (fun  (M25 : xMem) => (xLt (fun  (M26 : xMem) => (xBv (fX6_put 3 (nI 59) M26) fun M27 => some M27 : Option (xMem))) fun J205 => if (M25.1 58 3) = (nI 1) then (xBv (fX6_putWords 3 4 M25) fun M28 => J205  M28) else (J205  M25) : Option (xMem))) fun J188 => if (M24.1 58 1) = (nI 3) then (xBv (fX6_put 3 (nI 32) M24) fun M29 => xBn (fX5_shirtOf 7 ((nI 1) - nI t) (M29.1 58 2) M29) fun r30 M31 => xBv (fX6_putShirt 3 r30 M31) fun M32 => J188  M32) else (J188  M24)) (fun _ _ _ => rfl)
  have G5 := G4.trans F5.w3
  have q5 := tcC_len (fun x => ρ (5 + 10 * (1 - t) + x)) tl tl.length
  -- the one who tackles
  have tack : ∃ M6, RwR M6 3 (l4 ++ tcC (fun x => ρ (5 + 10 * (1 - t) + x)) tl tl.length ++ (if s = 3 then [32] ++ sB (ρ (5 + 10 * (1 - t) + tk)) else [])) ∧ PlF M6 58 r s b tk tl ∧ Fi F34 M5 M6 ∧ ∀ J : xMem → Option xMem, (if (M5.1 58 1) = (nI 3) then (xBv (fX6_put 3 (nI 32) M5) fun M29 => xBn (fX5_shirtOf 7 ((nI 1) - nI t) (M29.1 58 2) M29) fun r30 M31 => xBv (fX6_putShirt 3 r30 M31) fun M32 => J M32) else (J M5)) = J M6 := by
    by_cases s3 : s = 3
    · obtain ⟨c1, c2⟩ := hs (1 - t) tk (by omega) (v3 s3)
      obtain ⟨M6, f6, r6, F6⟩ := c_put3 (x := 32) r5 (by rw [List.length_append]; omega) (by decide)
      obtain ⟨M7, f7, r7, F7⟩ := c_shirt (v := ρ (5 + 10 * (1 - t) + tk)) c2 r6 (by rw [List.length_append, List.length_append]; simp only [List.length_cons, List.length_nil]; omega)
      have P6 := keep F6 P5
      refine ⟨M7, ?_, keep F7 P6, F6.trans F7, fun J => ?_⟩
      · rw [if_pos s3, ← List.append_assoc]; exact r7
      · rw [P5.1.2.1]
        refine sT (by rw [s3]) (sBv f6 ?_)
        rw [P6.2.1, eSub (by omega)]
        refine sBn (c_shirtOf (v := ρ (5 + 10 * (1 - t) + tk)) (by omega) (by omega) ?_) (sBv f7 rfl)
        rw [F6.1 9 (fun q => by unfold F34 at q; omega), e9 G5]
        exact c1
    · refine ⟨M5, ?_, P5, Fi.refl _ _, fun J => ?_⟩
      · rw [if_neg s3, List.append_nil]; exact r5
      · rw [P5.1.2.1]
        exact sF (by rw [eEq (by omega) (by decide)]; exact s3) rfl
  obtain ⟨M6, r6, P6, F6, k6⟩ := tack
  have q6 : (if s = 3 then [32] ++ sB (ρ (5 + 10 * (1 - t) + tk)) else []).length ≤ 3 := by
    have := sB_len (v := ρ (5 + 10 * (1 - t) + tk))
    split
    · rw [List.length_append]; simp only [List.length_cons, List.length_nil]; omega
    · simp
  have bon : ∃ M7, RwR M7 3 (l4 ++ tcC (fun x => ρ (5 + 10 * (1 - t) + x)) tl tl.length ++ (if s = 3 then [32] ++ sB (ρ (5 + 10 * (1 - t) + tk)) else []) ++ (if b = 1 then txt 4 else [])) ∧ Fi F34 M6 M7 ∧ ∀ J : xMem → Option xMem, (if (M6.1 58 3) = (nI 1) then (xBv (fX6_putWords 3 4 M6) fun M28 => J M28) else (J M6)) = J M7 := by
    by_cases b1 : b = 1
    · obtain ⟨M7, f7, r7, F7⟩ := c_words (i := 4) (by decide) r6 (by simp only [List.length_append] at *; omega)
      refine ⟨M7, by rw [if_pos b1]; exact r7, F7, fun J => ?_⟩
      rw [P6.1.2.2.2.1]
      exact sT (by rw [b1]) (sBv f7 rfl)
    · refine ⟨M6, by rw [if_neg b1, List.append_nil]; exact r6, Fi.refl _ _, fun J => ?_⟩
      rw [P6.1.2.2.2.1]
      exact sF (by rw [eEq (by omega) (by decide)]; exact b1) rfl
  obtain ⟨M7, r7, F7, k7⟩ := bon
  have q7 : (if b = 1 then txt 4 else []).length ≤ 6 := by split <;> (try simp only [List.length_nil]) <;> omega
  obtain ⟨M8, f8, r8, F8⟩ := c_put3 (x := 59) r7 (by simp only [List.length_append] at *; omega) (by decide)
  refine ⟨M8, ?_, ?_, ((G5.trans F6.w3).trans F7.w3).trans F8.w3⟩
  · unfold fX2_writeRaid
    rw [m52, m50, m54, m60]
    refine sCo 0 k (by decide) hk rfl ?_
    rw [eCo (by decide) hk rfl, hT]
    refine sLt ?_
    rw [h1, hl42]
    refine sGb k rfl hk (by decide) ?_
    rw [eCl (by omega), hp]
    refine sBv f1 (sBv f2 ?_)
    rw [P2.1.1]
    refine sBn (c_shirtOf (v := ρ (5 + 10 * t + r)) a1 a2 (by rw [e9 G2]; exact s1)) (sBv f3 ?_)
    rw [P3.1.2.1]
    refine sBn rw4 (sBv f4 ?_)
    rw [f5]
    refine sJx M6 k6 (sJx M7 k7 (sBv f8 rfl))
  · have := rdB_c (f := fun x => ρ (5 + 10 * t + x)) (g := fun x => ρ (5 + 10 * (1 - t) + x)) (r := r) (b := b) (tk := tk) a3 b4 b5
    unfold rB
    rw [ht, hr, hss, hb, ← this]
    rw [← hl4] at r8
    simp only [List.append_assoc] at r8 ⊢
    exact r8
theorem m_tellsRaid {M : xMem} {ρ : Nat → Nat} {k tk : Nat} {tl : List Nat} (hk : k < 200) (hT : TM M ρ) (hs : ∀ t i, t < 2 → i < ρ (1 + t) → ρ (5 + 10 * t + i) ≤ 99) (hm : ∀ t, t < 2 → ρ (1 + t) ≤ 10) (hv : RV ρ k tk tl) : ∃ M', fX11_tellsRaid 146 (nI k) M = some M' ∧ LnR M' (rB ρ k tk tl) ∧ Fl M M' := by
  obtain ⟨hR, v1, v3, vt⟩ := hv
  have hset := hR.set
  obtain ⟨a1, a2, a3, a4, a5, a6, a7, a8, a9, a10, a11, a12, a13, a14, a15, b1, b2, b3, b4, b5, b6, b7, b8⟩ := id hR
  obtain ⟨n1, n2, n3, n4, n5, n6, -⟩ := txt_len
  have rcq : ∀ {M2 : xMem} {w : Nat}, Fl M M2 → w < 15 → fX11_rec 146 (nI k) (nI w) M2 = some (nI (rq ρ k w), M2) := fun hF hw => q_rec (hF.tm hT) hk hw
  have F0 : Fl M (xwI M 146 24 (nI 0)) := ⟨fun c u v => xwI_c u, fun j u => xwI_ne (Or.inr u), rfl⟩
  have l0 : LnR (xwI M 146 24 (nI 0)) [] := ⟨by rw [xwI_at]; rfl, fun j b hj => by simp at hj⟩
  have h10 := hm _ a1
  have h10' := hm (1 - rq ρ k 0) (by omega)
  obtain ⟨M1, f1, r1, F1⟩ := m_text (i := 24) (by decide) l0 (by simp only [List.length_nil]; omega)
  have G1 := F0.trans F1
  obtain ⟨M2, f2, r2, F2⟩ := m_shirt (G1.tm hT) a1 a2 (hs _ _ a1 v1) r1 (by rw [List.nil_append]; omega)
  have G2 := G1.trans F2
  have q1 := sB_len (v := ρ (5 + 10 * rq ρ k 0 + rq ρ k 1))
  generalize hi : (if rq ρ k 2 = 0 then 25 else if rq ρ k 2 = 1 then 26 else if rq ρ k 2 = 2 then 27 else if rq ρ k 2 = 3 then 28 else 29) = i
  have hiw : i < 30 ∧ (txt i).length ≤ 9 := by
    rw [← hi]
    split
    · omega
    · split
      · omega
      · split
        · omega
        · split <;> omega
  obtain ⟨M3, f3, r3, F3⟩ := m_text (i := i) hiw.1 r2 (by rw [List.nil_append, List.length_append]; omega)
  have G3 := G2.trans F3
  have tack : ∃ M4, LnR M4 ([] ++ txt 24 ++ sB (ρ (5 + 10 * rq ρ k 0 + rq ρ k 1)) ++ txt i ++ (if rq ρ k 2 = 3 then sB (ρ (5 + 10 * (1 - rq ρ k 0) + tk)) else [])) ∧ Fl M3 M4 ∧ ∀ J : xMem → Option xMem, (if nI (rq ρ k 2) = (nI 3) then (xBn (fX11_rec 146 (nI k) (nI 5) M3) fun r22 M23 => xBv (fX11_saysShirt 146 ((nI 1) - nI (rq ρ k 0)) r22 M23) fun M24 => J M24) else (J M3)) = J M4 := by
    by_cases s3 : rq ρ k 2 = 3
    · obtain ⟨M4, f4, r4, F4⟩ := m_shirt (t := 1 - rq ρ k 0) (i := tk) (G3.tm hT) (by omega) b6 (hs _ _ (by omega) (v3 s3)) r3 (by simp only [List.length_append, List.length_nil]; omega)
      refine ⟨M4, by rw [if_pos s3]; exact r4, F4, fun J => ?_⟩
      rw [rcq G3 (by decide), eBn, hset.1 s3, eSub (by omega)]
      exact sT (by rw [s3]) (sBv f4 rfl)
    · refine ⟨M3, by rw [if_neg s3, List.append_nil]; exact r3, Fl.refl _, fun J => ?_⟩
      exact sF (by rw [eEq (by omega) (by decide)]; exact s3) rfl
  obtain ⟨M4, r4, F4, k4⟩ := tack
  have G4 := G3.trans F4
  have q4 : (if rq ρ k 2 = 3 then sB (ρ (5 + 10 * (1 - rq ρ k 0) + tk)) else []).length ≤ 2 := by
    split
    · exact sB_len
    · simp
  have tch : ∃ M5, LnR M5 ([] ++ txt 24 ++ sB (ρ (5 + 10 * rq ρ k 0 + rq ρ k 1)) ++ txt i ++ (if rq ρ k 2 = 3 then sB (ρ (5 + 10 * (1 - rq ρ k 0) + tk)) else []) ++ (if rq ρ k 2 = 1 then tcL (fun x => ρ (5 + 10 * (1 - rq ρ k 0) + x)) tl tl.length else [])) ∧ Fl M4 M5 ∧ ∀ J : xMem → Option xMem, (if nI (rq ρ k 2) = (nI 1) then (xGb (((nI 235) + ((nI 15) * nI k)) + (nI 12)) (xln (xnw M4)) (xBv (fX11_saysTouched 146 ((nI 1) - nI (rq ρ k 0)) (M4.2.1 (xnw M4) (Int32.toNatClampNeg (((nI 235) + ((nI 15) * nI k)) + (nI 12)))) M4) fun M21 => J M21)) else (J M4)) = J M5 := by
    by_cases s1 : rq ρ k 2 = 1
    · obtain ⟨M5, f5, r5, F5⟩ := m_touched (t := 1 - rq ρ k 0) (G4.tm hT) (by omega) (b5 s1) b2 b3 (fun x hx => hs _ _ (by omega) (vt x hx)) r4 (by simp only [List.length_append, List.length_nil]; omega)
      refine ⟨M5, by rw [if_pos s1]; exact r5, F5, fun J => ?_⟩
      refine sT (by rw [s1]) ?_
      rw [pk_mul, nI_add, nI_add]
      refine sGb (235 + 15 * k + 12) rfl (by rw [xlnw]; omega) (by rw [xlnw]; decide) ?_
      have e12 : ρ (235 + 15 * k + 12) = ordR tl := by
        have := a11
        unfold rq at this
        rw [show ρ (235 + 15 * k + 2) = 1 from s1, if_pos rfl] at this
        exact this
      rw [G4.tm hT, eCl (by omega), lf_at, e12, eSub (by omega)]
      exact sBv f5 rfl
    · refine ⟨M4, by rw [if_neg s1, List.append_nil]; exact r4, Fl.refl _, fun J => ?_⟩
      exact sF (by rw [eEq (by omega) (by decide)]; exact s1) rfl
  obtain ⟨M5, r5, F5, k5⟩ := tch
  have G5 := G4.trans F5
  have q5 : (if rq ρ k 2 = 1 then tcL (fun x => ρ (5 + 10 * (1 - rq ρ k 0) + x)) tl tl.length else []).length ≤ 21 := by
    have := tcL_len (fun x => ρ (5 + 10 * (1 - rq ρ k 0) + x)) tl tl.length
    split
    · omega
    · simp
  have bon : ∃ M6, LnR M6 ([] ++ txt 24 ++ sB (ρ (5 + 10 * rq ρ k 0 + rq ρ k 1)) ++ txt i ++ (if rq ρ k 2 = 3 then sB (ρ (5 + 10 * (1 - rq ρ k 0) + tk)) else []) ++ (if rq ρ k 2 = 1 then tcL (fun x => ρ (5 + 10 * (1 - rq ρ k 0) + x)) tl tl.length else []) ++ (if rq ρ k 6 = 1 then txt 27 else [])) ∧ Fl M5 M6 ∧ ∀ J : xMem → Option xMem, (if nI (rq ρ k 6) = (nI 1) then (xBv (fX11_saysText 146 27 M5) fun M19 => J M19) else (J M5)) = J M6 := by
    by_cases b1 : rq ρ k 6 = 1
    · obtain ⟨M6, f6, r6, F6⟩ := m_text (i := 27) (by decide) r5 (by simp only [List.length_append, List.length_nil] at *; omega)
      exact ⟨M6, by rw [if_pos b1]; exact r6, F6, fun J => sT (by rw [b1]) (sBv f6 rfl)⟩
    · exact ⟨M5, by rw [if_neg b1, List.append_nil]; exact r5, Fl.refl _, fun J => sF (by rw [eEq (by omega) (by decide)]; exact b1) rfl⟩
  obtain ⟨M6, r6, F6, k6⟩ := bon
  have q6 : (if rq ρ k 6 = 1 then txt 27 else []).length ≤ 6 := by split <;> (try simp only [List.length_nil]) <;> omega
  obtain ⟨M7, f7, r7, F7⟩ := m_says (x := 59) r6 (by simp only [List.length_append, List.length_nil] at *; omega) (by decide)
  refine ⟨M7, ?_, ?_, (G5.trans F6).trans F7⟩
  · unfold fX11_tellsRaid
    rw [rcq (Fl.refl M) (by decide), eBn]
    refine sLt (sBv f1 ?_)
    rw [rcq G1 (by decide), eBn]
    refine sBv f2 ?_
    rw [rcq G2 (by decide), eBn]
    refine sJw i M2 (fun J => ?_) (sBv f3 (sJx M4 k4 (sJx M5 k5 ?_)))
    · rw [← hi]
      generalize rq ρ k 2 = s at *
      rcases (show s = 0 ∨ s = 1 ∨ s = 2 ∨ s = 3 ∨ s = 4 by omega) with rfl | rfl | rfl | rfl | rfl <;> rfl
    · rw [rcq G5 (by decide), eBn]
      exact sJx M6 k6 (sBv f7 rfl)
  · unfold rB rdB
    rw [hi]
    rw [List.nil_append] at r7
    exact r7
