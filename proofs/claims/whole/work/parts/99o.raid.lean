/-! ===== the model reads a raid ===== -/
def F8 (M M' : xMem) : Prop := (∀ c, c ≠ 146 → c ≠ 149 → M'.1 c = M.1 c) ∧ (∀ j, (j < 13 ∧ j ≠ 6 ∧ j ≠ 8) ∨ 18 < j → M'.1 146 j = M.1 146 j) ∧ M'.2 = M.2
theorem F8.refl (M : xMem) : F8 M M := ⟨fun _ _ _ => rfl, fun _ _ => rfl, rfl⟩
theorem F8.trans {M M1 M2 : xMem} (h1 : F8 M M1) (h2 : F8 M1 M2) : F8 M M2 := ⟨fun c a b => (h2.1 c a b).trans (h1.1 c a b), fun j a => (h2.2.1 j a).trans (h1.2.1 j a), h2.2.2.trans h1.2.2⟩
theorem F6.f8 {M M' : xMem} (h : F6 M M') : F8 M M' := ⟨fun c a _ => h.1 c a, fun j a => h.2.1 j (by omega), h.2.2⟩
theorem F8.fx {M M' : xMem} (h : F8 M M') : Fx M M' := ⟨h.1, fun j a => h.2.1 j (by omega), fun c _ => by rw [h.2.2], by rw [h.2.2]⟩
theorem Fx.w {M : xMem} {j : Nat} {v : Int32} (hj : j ≤ 10) : Fx M (xwI M 146 j v) := ⟨fun c a _ => xwI_c a, fun i a => xwI_ne (Or.inr (by omega)), fun _ _ => rfl, rfl⟩
theorem tlOk.fe {M M' : xMem} {tl : List Nat} (h : tlOk M tl) (hF : Fe M M') : tlOk M' tl := ⟨h.1, by rw [hF.2.1 8 (by omega)]; exact h.2.1, by rw [hF.1 149 (by decide)]; exact h.2.2.1, h.2.2.2⟩
theorem tlOk.f6 {M M' : xMem} {tl : List Nat} (h : tlOk M tl) (hF : F6 M M') : tlOk M' tl := ⟨h.1, by rw [hF.2.1 8 (by omega)]; exact h.2.1, by rw [hF.1 149 (by decide)]; exact h.2.2.1, h.2.2.2⟩
section
variable {tp : List Nat} {σ : Nat → Nat} {u : Nat}
theorem m_rdTouched (hl : tp.length ≤ 2000) (hb : ∀ b ∈ tp, b < 256) (hI : RI σ) (hs : shR σ) (hu : u < 2) : ∀ (k : Nat) (tl : List Nat) (st : PS) (M : xMem) (F : Nat), tl.length + k = 11 → k ≤ F → glT σ u tl → MS tp M σ st → tlOk M tl → M.1 146 6 = nI 0 → ∃ M', fX11_readTouched_l0 146 (nI u) (fun  (M21 : xMem) => xBv (fX11_readBonus 146 M21) fun M22 => some M22) F M = some M' ∧ MS tp M' σ (thL tp σ u k tl st).1 ∧ (∀ T, (thL tp σ u k tl st).1 = .inr T → tlOk M' (thL tp σ u k tl st).2.2 ∧ M'.1 146 6 = nI (thL tp σ u k tl st).2.1) ∧ F8 M M' := by
  have hT := hI.1.1
  have hR := hT.1
  intro k
  induction k with
  | zero =>
    intro tl st M F h1 h2 h3
    have := h3.len hT hu
    omega
  | succ k ih =>
    intro tl st M F h1 h2 h3 h ht h6
    have h7 := h3.len hT hu
    obtain ⟨F, rfl⟩ : ∃ q, F = q + 1 := ⟨F - 1, by omega⟩
    have o1 := (hR.2 u hu).1.1
    have o10 := hR.m hu
    obtain ⟨M1, f1, k1, F1⟩ := m_oneHere hu hs h
    have hi := xOne_lt (tp := tp) (t := u) (σ := σ) st o1
    rw [fX11_readTouched_l0.eq_2]
    show ∃ M', _ ∧ MS tp M' σ (thF tp σ tl (xOne tp σ u st).2 (thL tp σ u k) (thB σ u tl (xOne tp σ u st))).1 ∧ (∀ T, (thF tp σ tl (xOne tp σ u st).2 (thL tp σ u k) (thB σ u tl (xOne tp σ u st))).1 = .inr T → tlOk M' (thF tp σ tl (xOne tp σ u st).2 (thL tp σ u k) (thB σ u tl (xOne tp σ u st))).2.2 ∧ M'.1 146 6 = nI (thF tp σ tl (xOne tp σ u st).2 (thL tp σ u k) (thB σ u tl (xOne tp σ u st))).2.1) ∧ F8 M M'
    unfold thB
    generalize ho : xOne tp σ u st = o at *
    obtain ⟨s1, i⟩ := o
    simp only at *
    have hst := ((hR.2 u hu).2.1 i (by omega)).1
    have io := q_isOf k1.2.1 hu (show i < 10 by omega)
    have ht1 := ht.fe F1
    obtain ⟨M2, f2, k2, F2⟩ := m_can k1 (b := if σ (48 + 10 * u + i) = 0 ∧ i ∉ tl then 1 else 0) (ite01 _)
    have pre : ∀ z, (xBn (fX11_good 146 M2) fun r8 M9 => if r8 = 0 then (some M9) else (xGb (M9.1 146 8) (xln (xrf 146 7)) (xLt (xwI M9 (xrf 146 7) (Int32.toNatClampNeg (M9.1 146 8)) (nI i)) fun M11 => xLt (xwI M11 146 8 ((M11.1 146 8) + (nI 1))) fun M12 => xBv (fX11_advance 146 M12) fun M13 => xBn (fX11_eatsByte 146 (nI 44) M13) fun r14 M15 => if r14 = 0 then (xBv (fX11_readBonus 146 M15) fun M22 => some M22) else (fX11_readTouched_l0 146 (nI u) (fun  (M21 : xMem) => xBv (fX11_readBonus 146 M21) fun M22 => some M22) F  M15)))) = z → (xBn (fX11_oneHere 146 (nI u) M) fun r1 M2 => xBn (fX11_isOf 146 (nI u) r1 M2) fun r3 M4 => xLt (fun (s5 : Int32) (M6 : xMem) => (xBv (fX11_can 146 s5 M6) fun M7 => xBn (fX11_good 146 M7) fun r8 M9 => if r8 = 0 then (some M9) else (xGb (M9.1 146 8) (xln (xrf 146 7)) (xLt (xwI M9 (xrf 146 7) (Int32.toNatClampNeg (M9.1 146 8)) r1) fun M11 => xLt (xwI M11 146 8 ((M11.1 146 8) + (nI 1))) fun M12 => xBv (fX11_advance 146 M12) fun M13 => xBn (fX11_eatsByte 146 (nI 44) M13) fun r14 M15 => if r14 = 0 then (xBv (fX11_readBonus 146 M15) fun M22 => some M22) else (fX11_readTouched_l0 146 (nI u) (fun  (M21 : xMem) => xBv (fX11_readBonus 146 M21) fun M22 => some M22) F  M15))) : Option (xMem))) fun J32 => xLt (fun  (M16 : xMem) => (J32 (nI 0) M16 : Option (xMem))) fun J31 => if r3 = 0 then (xBn (fX11_setOf 146 M4) fun r17 M18 => xBn (fX11_has r17 r1 M18) fun r19 M20 => if r19 = 0 then (J32 (nI 1) M20) else (J31  M20)) else (J31  M4)) = z := by
      intro z hz
      refine sBn f1 (sBn io (sJw (nI (if σ (48 + 10 * u + i) = 0 ∧ i ∉ tl then 1 else 0)) M1 (fun J => sLt ?_) (sBv f2 hz)))
      by_cases e0 : σ (48 + 10 * u + i) = 0
      · refine sT (by rw [e0]; decide) (sBn (e_setOf ht1) (sBn (m_has (setR_lt (by decide) ht1.2.2.2) (by omega)) ?_))
        rw [setR_bit]
        by_cases em : i ∈ tl
        · rw [if_pos em, iN0 (fun y => y.2 em)]
          exact sF (by decide) rfl
        · rw [if_neg em, iN1 ⟨e0, em⟩]
          exact sT (by decide) rfl
      · rw [iN0 (fun y => e0 y.1)]
        exact sF (eN0 (by omega) e0) rfl
    have ht2 := ht1.fe F2
    cases e : xCan (if σ (48 + 10 * u + i) = 0 ∧ i ∉ tl then 1 else 0) s1 with
    | inl b =>
      rw [e] at k2
      refine ⟨M2, pre _ (sBn (m_good k2) (sT g0 rfl)), k2, fun T y => absurd y (by simp [thF]), (F1.trans F2).f6.f8⟩
    | inr T =>
      rw [e] at k2
      obtain ⟨e1, e2⟩ := xCan_inr e
      obtain ⟨e3, e4⟩ := ite_1 e1
      have e6 : i < σ (1 + u) := hi
      have h3' := h3.add e6 e3 e4
      have hlen : (tl ++ [i]).length = tl.length + 1 := by rw [List.length_append]; rfl
      -- the list grows
      let M3 := xwI (xwI M2 149 tl.length (nI i)) 146 8 (nI (tl.length + 1))
      have k3 : MS tp M3 σ (.inr T) := k2.of (fun c a b => by show (xwI (xwI M2 149 tl.length (nI i)) 146 8 (nI (tl.length + 1))).1 c = _; rw [xwI_c a, xwI_c b]) (fun j a => by show (xwI (xwI M2 149 tl.length (nI i)) 146 8 (nI (tl.length + 1))).1 146 j = _; rw [xwI_ne (Or.inr (by omega)), xwI_c (by decide)]) k2.2.1 k2.2.2.1
      have t3 : tlOk M3 (tl ++ [i]) := by
        refine ⟨by omega, ?_, fun j x hj => ?_, fun x hx => ?_⟩
        · rw [hlen]; exact xwI_at _ _ _ _
        · show (xwI (xwI M2 149 tl.length (nI i)) 146 8 (nI (tl.length + 1))).1 149 j = _
          rw [xwI_c (by decide)]
          rcases snoc_at hj with ⟨z1, z2⟩ | ⟨z1, z2⟩
          · rw [z1, xwI_at, z2]
          · rw [xwI_ne (Or.inr (by omega))]
            exact ht2.2.2.1 j x z2
        · rcases List.mem_append.1 hx with z | z
          · exact ht2.2.2.2 x z
          · have : x = i := by simpa using z
            omega
      have G3 : F8 M2 M3 := ⟨fun c a b => by show (xwI (xwI M2 149 tl.length (nI i)) 146 8 (nI (tl.length + 1))).1 c = _; rw [xwI_c a, xwI_c b], fun j a => by show (xwI (xwI M2 149 tl.length (nI i)) 146 8 (nI (tl.length + 1))).1 146 j = _; rw [xwI_ne (Or.inr (by omega)), xwI_c (by decide)], rfl⟩
      obtain ⟨M4, f4, k4, F4⟩ := m_adv hl hb k3
      obtain ⟨M5, f5, k5, F5⟩ := m_eatsByte hl hb k4 (c := 44) (by decide)
      have t5 := (t3.fe F4).fe F5
      have b5 : M5.1 146 6 = nI 0 := by
        rw [F5.2.1 6 (by omega), F4.2.1 6 (by omega)]
        show (xwI (xwI M2 149 tl.length (nI i)) 146 8 (nI (tl.length + 1))).1 146 6 = _
        rw [xwI_ne (Or.inr (by decide)), xwI_c (by decide), F2.2.1 6 (by omega), F1.2.1 6 (by omega)]
        exact h6
      have G5 : F8 M M5 := ((F1.trans F2).f6.f8.trans G3).trans (F4.trans F5).f6.f8
      have head : ∀ z, (if nI (xS tp 44 (xAd tp (.inr T))) = 0 then (xBv (fX11_readBonus 146 M5) fun M22 => some M22) else (fX11_readTouched_l0 146 (nI u) (fun  (M21 : xMem) => xBv (fX11_readBonus 146 M21) fun M22 => some M22) F  M5)) = z → (xBn (fX11_good 146 M2) fun r8 M9 => if r8 = 0 then (some M9) else (xGb (M9.1 146 8) (xln (xrf 146 7)) (xLt (xwI M9 (xrf 146 7) (Int32.toNatClampNeg (M9.1 146 8)) (nI i)) fun M11 => xLt (xwI M11 146 8 ((M11.1 146 8) + (nI 1))) fun M12 => xBv (fX11_advance 146 M12) fun M13 => xBn (fX11_eatsByte 146 (nI 44) M13) fun r14 M15 => if r14 = 0 then (xBv (fX11_readBonus 146 M15) fun M22 => some M22) else (fX11_readTouched_l0 146 (nI u) (fun  (M21 : xMem) => xBv (fX11_readBonus 146 M21) fun M22 => some M22) F  M15)))) = z := by
        intro z hz
        refine sBn (m_good k2) (sF g1 ?_)
        rw [x1467, l149]
        refine sGb tl.length ht2.2.1 (by omega) (by decide) ?_
        rw [ht2.2.1, eCl (by omega)]
        refine sLt (sLe (b := M3) ?_ (sBv f4 (sBn f5 hz)))
        show xwI (xwI M2 149 tl.length (nI i)) 146 8 _ = xwI (xwI M2 149 tl.length (nI i)) 146 8 _
        rw [xwI_c (by decide), ht2.2.1, nI_add]
      unfold thF
      simp only
      rcases xS_lt tp 44 (xAd tp (.inr T)) with q | q
      · simp only [if_neg (show ¬ xS tp 44 (xAd tp (.inr T)) = 1 by omega)]
        rw [xEatS_0 q] at k5
        obtain ⟨M6, f6, k6, F6', b6⟩ := m_readBonus hl hb hR k5
        refine ⟨M6, pre _ (head _ (sT (by rw [q]; decide) (sBv f6 rfl))), k6, fun T' y => ⟨t5.f6 F6', ?_⟩, G5.trans F6'.f8⟩
        rw [b6, b5]
        rcases xW_lt tp 14 (xAd tp (.inr T)) with w | w
        · rw [w]; rfl
        · rw [w]; rfl
      · simp only [if_pos q]
        rw [xEatS_1 q] at k5
        obtain ⟨M6, f6, k6, t6, F6'⟩ := ih (tl ++ [i]) (xAd tp (xAd tp (.inr T))) M5 F (by omega) (by omega) h3' k5 t5 b5
        exact ⟨M6, pre _ (head _ (sF (by rw [q]; decide) f6)), k6, t6, G5.trans F6'⟩
end
