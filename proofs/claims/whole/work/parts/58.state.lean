/-! ===== the class: a raid is played ===== -/
theorem va_up_comm {α : Type} {f : Nat → α} {k j : Nat} {v w : α} (h : k ≠ j) : va_up (va_up f k v) j w = va_up (va_up f j w) k v := by
  funext i
  unfold va_up
  by_cases h1 : i = j
  · have h2 : i ≠ k := fun q => h (q.symm.trans h1)
    simp [h1, h2]
    intro q; exact absurd q.symm h
  · simp [h1]
theorem outR_add {t i k v : Nat} {ρ : Nat → Nat} (hk : k < 48) : outR t i (addR k v ρ) = addR k v (outR t i ρ) := by
  have e1 : addR k v ρ (108 + t) = ρ (108 + t) := va_at_ne (by omega)
  have e2 : outR t i ρ k = ρ k := outR_ne (by omega) (by omega) (by omega)
  have e3 : addR k v (outR t i ρ) = va_up (outR t i ρ) k (ρ k + v) := by unfold addR; rw [e2]
  rw [e3]
  unfold outR
  rw [e1]
  unfold addR
  rw [va_up_comm (k := k) (by omega), va_up_comm (k := k) (by omega), va_up_comm (k := k) (by omega)]
theorem outsR_add {t k v : Nat} (hk : k < 48) : ∀ (tl : List Nat) {ρ : Nat → Nat}, outsR t tl (addR k v ρ) = addR k v (outsR t tl ρ)
  | [], _ => rfl
  | a :: l, ρ => by
    show outsR t l (outR t a (addR k v ρ)) = addR k v (outsR t l (outR t a ρ))
    rw [outR_add hk]
    exact outsR_add hk l
theorem RT.all {ρ : Nat → Nat} (h : RT ρ) {t : Nat} (ht : t < 2) : RT (allR t ρ) := by
  unfold allR
  split
  · exact (RT.backs ht _ h).add (Or.inl (by omega))
  · exact h
theorem RT.turn {ρ : Nat → Nat} (h : RT ρ) {v : Nat} (hv : v < 2) : RT (va_up ρ 28 v) := by
  have e : ∀ k, k ≠ 28 → va_up ρ 28 v k = ρ k := fun k hk => va_at_ne hk
  refine ⟨⟨by rw [va_at_eq]; exact hv, fun t ht => ?_⟩, fun t ht => (h.2 t ht).congr (h.1.m ht) (fun j hj => e _ (by omega))⟩
  obtain ⟨a, b, c⟩ := h.1.2 t ht
  have c1 := c.1
  refine ⟨by rw [e _ (by omega)]; exact a, fun i hi => by rw [e _ (by omega), e _ (by omega)]; exact b i hi, ?_⟩
  have e1 : qL (va_up ρ 28 v) t = qL ρ t := qL_congr (e _ (by omega)) (fun j hj => e _ (by omega))
  exact qOk_of (by rw [e1, qL_len]; exact c.1) (by rw [e1]; exact c.2)
theorem RT.lo {ρ : Nat → Nat} (h : RT ρ) {k v : Nat} (h1 : (3 ≤ k ∧ k < 48 ∧ k ≠ 28) ∨ (88 ≤ k ∧ k < 108) ∨ 130 ≤ k) : RT (va_up ρ k v) := h.congr (fun j _ hj => va_at_ne (by omega))
section
variable {r s b tk : Nat} {tl : List Nat} {ρ : Nat → Nat}
theorem rt0 (h : RT ρ) : RT (recR r s b tk tl ρ) := h.congr (fun k hk _ => rec_lo hk)
theorem rt1 (h : RT ρ) (hm : rdMay ρ r s tk tl) : RT (rd1 r s b tk tl ρ) := by
  have h28 := h.1.1
  unfold rd1
  split
  · refine RT.outs (by omega) tl (rt0 h) hm.2.2.1 (fun x hx => ?_)
    have hx' := hm.2.2.2.1 x hx
    have hr := h.1.m (t := 1 - ρ 28) (by omega)
    rw [rec_lo (by omega), rec_lo (by omega)]
    exact hx'
  · exact rt0 h
theorem ot1 (h : otR s ρ = 1) : s ≠ 1 ∧ s ≠ 2 := by
  unfold otR at h
  split at h
  · omega
  · omega
theorem rt2 (h : RT ρ) (hm : rdMay ρ r s tk tl) : RT (rd2 r s b tk tl ρ) := by
  have h28 := h.1.1
  have hr := h.1.m h28
  unfold rd2
  split
  · rename_i q
    have hm1 := hm.1
    refine (rt1 h hm).out h28 ?_ ?_
    · unfold rd1
      rw [if_neg (ot1 q).1, rec_lo (by omega)]
      exact hm.1
    · unfold rd1
      rw [if_neg (ot1 q).1, rec_lo (by omega)]
      exact hm.2.1
  · exact rt1 h hm
theorem rt3 (h : RT ρ) (hm : rdMay ρ r s tk tl) : RT (rd3 r s b tk tl ρ) := by
  have h28 := h.1.1
  unfold rd3
  split
  · exact (rt2 h hm).add (Or.inl (by omega))
  · exact rt2 h hm
theorem rt4 (h : RT ρ) (hm : rdMay ρ r s tk tl) : RT (rd4 r s b tk tl ρ) := by
  unfold rd4
  split
  · exact RT.backs h.1.1 _ (rt3 h hm)
  · exact rt3 h hm
theorem rt5 (h : RT ρ) (hm : rdMay ρ r s tk tl) : RT (rd5 r s b tk tl ρ) := by
  have h28 := h.1.1
  unfold rd5
  split
  · exact (rt4 h hm).add (Or.inl (by omega))
  · exact rt4 h hm
theorem rt6 (h : RT ρ) (hm : rdMay ρ r s tk tl) : RT (rd6 r s b tk tl ρ) := by
  have h28 := h.1.1
  unfold rd6
  split
  · exact (rt5 h hm).add (Or.inl (by split <;> omega))
  · exact rt5 h hm
theorem rt7 (h : RT ρ) (hm : rdMay ρ r s tk tl) : RT (rd7 r s b tk tl ρ) := by
  have h28 := h.1.1
  unfold rd7
  split
  · exact (rt6 h hm).add (Or.inl (by omega))
  · exact rt6 h hm
theorem rt8 (h : RT ρ) (hm : rdMay ρ r s tk tl) : RT (rd8 r s b tk tl ρ) := by
  have h28 := h.1.1
  unfold rd8
  split
  · exact (rt7 h hm).back (by omega)
  · exact rt7 h hm
theorem rt8' (h : RT ρ) (hm : rdMay ρ r s tk tl) : RT (va_up (rd8 r s b tk tl ρ) (235 + 15 * ρ 25 + 8) (rb8 r s b tk tl ρ)) := (rt8 h hm).add (Or.inr (Or.inr (by omega)))
theorem rt9 (h : RT ρ) (hm : rdMay ρ r s tk tl) : RT (rd9 r s b tk tl ρ) := (rt8' h hm).waits
theorem rt10 (h : RT ρ) (hm : rdMay ρ r s tk tl) : RT (rd10 r s b tk tl ρ) := (rt9 h hm).all (by have := h.1.1; omega)
theorem rt11 (h : RT ρ) (hm : rdMay ρ r s tk tl) : RT (rd11 r s b tk tl ρ) := (rt10 h hm).all h.1.1
theorem rtR (h : RT ρ) (hm : rdMay ρ r s tk tl) : RT (raidsR r s b tk tl ρ) := by
  have h28 := h.1.1
  have h12 : RT (rd12 r s b tk tl ρ) := (((rt11 h hm).lo (Or.inr (Or.inr (by omega)))).lo (Or.inr (Or.inr (by omega)))).lo (Or.inr (Or.inr (by omega)))
  exact ((((h12.lo (Or.inl (by omega))).turn (by omega)).lo (Or.inl (by omega))).lo (Or.inl (by omega)))
end
/-- what one team's part is -/
def tmP (t j : Nat) : Prop := j = 1 + t ∨ j = 108 + t ∨ (48 + 10 * t ≤ j ∧ j < 58 + 10 * t) ∨ (68 + 10 * t ≤ j ∧ j < 78 + 10 * t) ∨ (88 + 10 * t ≤ j ∧ j < 98 + 10 * t) ∨ (110 + 10 * t ≤ j ∧ j < 120 + 10 * t)
theorem wS_side {t i : Nat} {ρ σ : Nat → Nat} (hi : i < 10) (ht : t < 2) (e : ∀ j, tmP t j → σ j = ρ j) : ∀ j, tmP t j → wS t i σ j = wS t i ρ j := by
  intro j hj
  have e1 : σ (48 + 10 * t + i) = ρ (48 + 10 * t + i) := e _ (by unfold tmP; omega)
  have e2 : σ (68 + 10 * t + i) = ρ (68 + 10 * t + i) := e _ (by unfold tmP; omega)
  unfold wS
  rw [e1, e2]
  by_cases h3 : ρ (48 + 10 * t + i) = 3
  · rw [if_pos h3, if_pos h3]
    by_cases h4 : ρ (68 + 10 * t + i) - 1 = 0
    · rw [if_pos h4, if_pos h4]
      unfold va_up
      rw [e j hj]
    · rw [if_neg h4, if_neg h4]
      unfold va_up
      rw [e j hj]
  · rw [if_neg h3, if_neg h3]; exact e j hj
theorem waitsT_side {t : Nat} {ρ σ : Nat → Nat} (ht : t < 2) (e : ∀ j, tmP t j → σ j = ρ j) : ∀ n, n ≤ 10 → ∀ j, tmP t j → waitsT t n σ j = waitsT t n ρ j
  | 0, _ => e
  | n + 1, hn => wS_side (by omega) ht (waitsT_side ht e n (by omega))
theorem waitsR_side {t : Nat} {ρ : Nat → Nat} (ht : t < 2) (h0 : ρ 1 ≤ 10) (h1 : ρ 2 ≤ 10) : ∀ j, tmP t j → waitsR ρ j = waitsT t (ρ (1 + t)) ρ j := by
  intro j hj
  unfold waitsR
  rcases (show t = 0 ∨ t = 1 by omega) with rfl | rfl
  · exact waitsT_ne (by unfold tmP at hj; omega) h1
  · exact waitsT_side (by decide) (fun i hi => waitsT_ne (by unfold tmP at hi; omega) h0) _ h1 j hj
theorem s_passBoth {M : xMem} {k t : Nat} {ρ : Nat → Nat} (hk : xkd k = 8) (ht : t < 2) (hS : St0 M k t ρ) (hR : RW ρ) :
    ∃ M', (∀ F : xMem → Option xMem, (xBv (fX7_passRaid (k + 2 + 5 * t) M) fun M21 => xBv (fX7_passRaid (k + 2 + 5 * (1 - t)) M21) F) = F M') ∧ St0 M' k t (waitsR ρ) ∧ stK k M M' ∧ M'.1 k = M.1 k := by
  obtain ⟨-, -, -, kd7⟩ := st_rf hk
  have ho : 1 - t < 2 := by omega
  have m0 := hR.m (t := 0) (by decide)
  have m1 := hR.m (t := 1) (by decide)
  obtain ⟨M1, f1, S1, K1⟩ := s_passRaid (kd7 t ht) (hS.2 t ht) ht hR
  obtain ⟨k1, e1⟩ := stK.sd ht K1
  have Sx : SdR M1 (k + 2 + 5 * (1 - t)) (1 - t) ρ := (hS.2 _ ho).keep (fun c h1 h2 => K1.1.1 c (by unfold sdC; omega))
  obtain ⟨M2, f2, S2, K2⟩ := s_passRaid (kd7 _ ho) Sx ho hR
  obtain ⟨k2, e2⟩ := stK.sd ho K2
  refine ⟨M2, fun F => by rw [f1, eBv, f2, eBv], ⟨by rw [e2, e1]; exact hS.1, fun u hu => ?_⟩, k1.trans k2, e2.trans e1⟩
  have hw : ∀ u, u < 2 → ∀ n, n ≤ 10 → waitsT u n ρ (1 + u) = ρ (1 + u) ∧ waitsT u n ρ (108 + u) = ρ (108 + u) := fun u hu n hn => ⟨waitsT_stat hu hn (by omega), waitsT_stat hu hn (by omega)⟩
  by_cases q : u = t
  · subst q
    have S1' : SdR M2 (k + 2 + 5 * u) u (waitsT u (ρ (1 + u)) ρ) := S1.keep (fun c h1 h2 => K2.1.1 c (by unfold sdC; omega))
    refine S1'.row (by rw [(hw u hu _ (hR.m hu)).1]; exact hR.m hu) (by rw [(hw u hu _ (hR.m hu)).2]; exact (hR.q hu).1) (fun j hj => waitsR_side hu m0 m1 j hj)
  · have hu1 : u = 1 - t := by omega
    subst hu1
    refine S2.row (by rw [(hw _ hu _ (hR.m hu)).1]; exact hR.m hu) (by rw [(hw _ hu _ (hR.m hu)).2]; exact (hR.q hu).1) (fun j hj => waitsR_side hu m0 m1 j hj)
/-- the first half of a raid: those who go out, the backs, and what is noted -/
theorem s_play1 {M : xMem} {k p r s b tk : Nat} {tl : List Nat} {ρ : Nat → Nat} (hk : xkd k = 8) (hp : xkd p = 4) (hS : St0 M k (ρ 28) ρ) (hP : PlR M p r s b tk tl) (hR : RT ρ) (hm : rdMay ρ r s tk tl) (h5 : M.1 k 5 = nI (b + if s = 2 then 1 else 0)) (h6 : M.1 k 6 = nI 0) (h7 : M.1 k 7 = nI 0) :
    ∃ M', (∀ F : xMem → Option xMem, (xLt (fun  (M16 : xMem) => (xLt F fun J100 => if nI (otR s ρ) = 0 then (J100  M16) else (xBn (fX8_isSuper k p M16) fun r29 M30 => xLt (fun (s31 : Int32) (M32 : xMem) => (xLt (xwI M32 k 6 s31) fun M33 => xBv (fX7_goOut (k + 2 + 5 * ρ 28) (M33.1 p 0) M33) fun M34 => xBn (fX7_comeBack (k + 2 + 5 * (1 - ρ 28)) M34) fun r35 M36 => xLt (xwI M36 k 7 r35) fun M37 => J100  M37 : Option (xMem))) fun J81 => if r29 = 0 then (J81 (nI 1) M30) else (J81 (nI 2) M30)) : Option (xMem))) fun J62 => if (M.1 p 1) = (nI 1) then (xBv (fX8_touchOut k p M) fun M38 => J62  M38) else (J62  M)) = F M') ∧ St0 M' k (ρ 28) (rd8 r s b tk tl ρ) ∧ stK k M M' ∧ M'.1 k 5 = nI ((b + if s = 2 then 1 else 0) + if s = 1 then tl.length else 0) ∧ M'.1 k 6 = nI ((if otR s ρ = 1 then 1 else 0) + (if s = 3 ∧ pcn (mOn (1 - ρ 28) ρ) ≤ 3 then 1 else 0)) ∧ M'.1 k 7 = nI (rb8 r s b tk tl ρ) ∧ ∀ j, j < 5 → M'.1 k j = M.1 k j := by
  have ht := hR.1.1
  have ho : 1 - ρ 28 < 2 := by omega
  obtain ⟨-, -, -, kd7⟩ := st_rf hk
  obtain ⟨p5, pl, pr⟩ := pl_rf hp
  have hkk := st_is hk
  have hs := hP.2.2.2.2.2.2.2.2.1
  have hlen := hm.len hR
  have hra : r < 10 := by have := hm.1; have := hR.1.m ht; omega
  have Srec : St0 M k (ρ 28) (recR r s b tk tl ρ) := hS.row hR.1 (fun j hj _ => rec_lo hj)
  by_cases e1 : s = 1
  · -- a touch
    have e0 : otR s ρ = 0 := by
      rcases otR_le s ρ with h | h
      · exact h
      · exact absurd e1 (ot1 h).1
    have R0 := rt0 (r := r) (s := s) (b := b) (tk := tk) (tl := tl) hR
    have Ra : RT (addR (36 + 6 * ρ 28 + 0) tl.length (recR r s b tk tl ρ)) := R0.add (Or.inl (by omega))
    have lo : ∀ j, j < 130 → (j < 3 ∨ 48 ≤ j) → addR (36 + 6 * ρ 28 + 0) tl.length (recR r s b tk tl ρ) j = ρ j := fun j h1 h2 => by
      unfold addR
      rw [va_at_ne (by omega), rec_lo h1]
    have Sa : St0 M k (ρ 28) (addR (36 + 6 * ρ 28 + 0) tl.length (recR r s b tk tl ρ)) := hS.row hR.1 lo
    have hro := hR.1.m ho
    obtain ⟨M1, f1, S1, K1, a1, a2, a3⟩ := s_touchOut hk hp ht Sa hP Ra hm.2.2.1 (fun x hx => by
      have := hm.2.2.2.1 x hx
      rw [lo _ (by omega) (by omega), lo _ (by omega) (by omega)]
      exact this)
    have e3 : rd3 r s b tk tl ρ = outsR (1 - ρ 28) tl (addR (36 + 6 * ρ 28 + 0) tl.length (recR r s b tk tl ρ)) := by
      unfold rd3 rd2 rd1
      rw [if_pos e1, if_neg (by omega), if_pos e1, outsR_add (by omega)]
    rw [← e3] at S1 a3
    have e4 : rd4 r s b tk tl ρ = backsR (ρ 28) tl.length (rd3 r s b tk tl ρ) := by unfold rd4; rw [if_pos e1]
    rw [← e4] at S1
    have R4 := rt4 (b := b) hR hm
    have e8 : ∀ j, j < 130 → (j < 3 ∨ 48 ≤ j) → rd8 r s b tk tl ρ j = rd4 r s b tk tl ρ j := fun j h1 h2 => by
      unfold rd8 rd7 rd6 rd5
      rw [if_neg (by omega), if_neg (by omega), if_neg (by omega)]
      split
      · unfold addR
        exact va_at_ne (by omega)
      · rfl
    refine ⟨M1, fun F => ?_, S1.row R4.1 e8, K1, ?_, ?_, ?_, fun j hj => a1 j (by omega) (by omega)⟩
    · refine sLt ?_
      rw [hP.2.1, e0]
      exact sT (by rw [e1]) (sBv f1 (sLt (sT (by decide) rfl)))
    · rw [a2, h5, nI_add, if_pos e1]
    · rw [a1 6 (by decide) (by decide), h6, if_neg (by omega), if_neg (by omega)]
    · rw [a3, h7, nI_add, Nat.zero_add]
      unfold rb8 rb4
      rw [if_neg (by omega), if_pos e1]
  · have e7 : ∀ j, j < 130 → (j < 3 ∨ 48 ≤ j) → rd7 r s b tk tl ρ j = rd2 r s b tk tl ρ j := fun j h1 h2 => by
      have x3 : rd4 r s b tk tl ρ = rd2 r s b tk tl ρ := by unfold rd4 rd3; rw [if_neg e1, if_neg e1]
      have x5 : rd5 r s b tk tl ρ j = rd2 r s b tk tl ρ j := by
        unfold rd5
        rw [x3]
        split
        · unfold addR
          exact va_at_ne (by omega)
        · rfl
      have x6 : rd6 r s b tk tl ρ j = rd2 r s b tk tl ρ j := by
        rw [← x5]
        unfold rd6
        split
        · unfold addR
          exact va_at_ne (by split <;> omega)
        · rfl
      rw [← x6]
      unfold rd7
      split
      · unfold addR
        exact va_at_ne (by omega)
      · rfl
    have b4 : rb4 r s b tk tl ρ = 0 := by unfold rb4; rw [if_neg e1]
    rcases otR_le s ρ with e0 | e0
    · -- nobody goes out
      have x8 : rd8 r s b tk tl ρ = rd7 r s b tk tl ρ := by unfold rd8; rw [if_neg (by omega)]
      have x2 : rd2 r s b tk tl ρ = recR r s b tk tl ρ := by unfold rd2 rd1; rw [if_neg (by omega), if_neg e1]
      have hs3 : s ≠ 3 := fun q => by unfold otR at e0; rw [if_pos (Or.inl q)] at e0; omega
      refine ⟨M, fun F => ?_, ?_, stK.refl _ _, ?_, ?_, ?_, fun _ _ => rfl⟩
      · refine sLt ?_
        rw [hP.2.1, e0]
        exact sF (by rw [eEq (by omega) (by decide)]; exact e1) (sLt (sT (by decide) rfl))
      · rw [x8]
        rw [x2] at e7
        exact Srec.row (rt0 hR).1 e7
      · rw [if_neg e1]; exact h5
      · rw [if_neg (by omega), if_neg (fun q => hs3 q.1)]; exact h6
      · unfold rb8
        rw [if_neg (by omega), b4]; exact h7
    · -- the raider goes out
      have x1 : rd1 r s b tk tl ρ = recR r s b tk tl ρ := by unfold rd1; rw [if_neg e1]
      have hsup := s_isSuper (M := M) (σ := ρ) hk ht hS.1 (hS.2 _ ho) hR.1 rfl hP
      have hq7 := (hR.2 _ ht).q7
      have S6 : ∀ v : Int32, St0 (xwI M k 6 v) k (ρ 28) (recR r s b tk tl ρ) := fun v => Srec.fld (by decide)
      have key : ∀ v : Int32, ∃ M', (∀ F : xMem → Option xMem, (xLt (xwI M k 6 v) fun M33 => xBv (fX7_goOut (k + 2 + 5 * ρ 28) (M33.1 p 0) M33) fun M34 => xBn (fX7_comeBack (k + 2 + 5 * (1 - ρ 28)) M34) fun r35 M36 => xLt (xwI M36 k 7 r35) fun M37 => F M37) = F M') ∧ St0 M' k (ρ 28) (rd8 r s b tk tl ρ) ∧ stK k M M' ∧ M'.1 k 7 = nI (rb8 r s b tk tl ρ) ∧ M'.1 k 6 = v ∧ ∀ j, j < 6 → M'.1 k j = M.1 k j := by
        intro v
        have R0 := rt0 (r := r) (s := s) (b := b) (tk := tk) (tl := tl) hR
        have hm1 := hm.1
        have hr2 := hR.1.m ht
        obtain ⟨M1, f1, S1, F1, k1⟩ := s_goOut (i := r) (kd7 _ ht) ((S6 v).2 _ ht) ht R0.1 (by rw [rec_lo (by omega)]; exact hm.1) (by rw [rec_lo (by omega)]; omega)
        have K1 : sdK (xwI M k 6 v) M1 (k + 2 + 5 * ρ 28) := ⟨F1, k1⟩
        obtain ⟨kk1, g1⟩ := stK.sd ht K1
        have x2 : outR (ρ 28) r (recR r s b tk tl ρ) = rd2 r s b tk tl ρ := by unfold rd2; rw [if_pos e0, x1]
        rw [x2] at S1
        have hrq : recR r s b tk tl ρ (108 + ρ 28) = ρ (108 + ρ 28) := rec_lo (by omega)
        have T1 : St0 M1 k (ρ 28) (rd2 r s b tk tl ρ) := (S6 v).sd ht R0.1 K1 S1 (fun j hj => by rw [← x2]; exact outR_ne (by omega) (by omega) (by omega))
        have T7 : St0 M1 k (ρ 28) (rd7 r s b tk tl ρ) := T1.row (rt2 hR hm).1 e7
        have R7 := rt7 (b := b) hR hm
        obtain ⟨M2, f2, S2, K2⟩ := s_comeBack (kd7 _ ho) (T7.2 _ ho) ho R7
        obtain ⟨kk2, g2⟩ := stK.sd ho K2
        have x8 : rd8 r s b tk tl ρ = backR (1 - ρ 28) (rd7 r s b tk tl ρ) := by unfold rd8; rw [if_pos e0]
        have T8 : St0 M2 k (ρ 28) (backR (1 - ρ 28) (rd7 r s b tk tl ρ)) := T7.sd ho R7.1 K2 S2 (fun j hj => backR_ne (R7.1.q ho) (by omega) (by omega) (by omega))
        refine ⟨xwI M2 k 7 (nI (backN (1 - ρ 28) (rd7 r s b tk tl ρ))), fun F => ?_, by rw [x8]; exact T8.fld (by decide), ((((stK.refl k M).fld).trans kk1).trans kk2).fld, ?_, ?_, fun j hj => ?_⟩
        · refine sLt ?_
          rw [xwI_c (by omega), hP.1]
          exact sBv f1 (sBn f2 rfl)
        · rw [xwI_at]
          unfold rb8
          rw [if_pos e0, b4, Nat.zero_add]
        · rw [xwI_ne (by omega), g2, g1, xwI_at]
        · rw [xwI_ne (by omega), g2, g1, xwI_ne (by omega)]
      obtain ⟨M', hF, a1, a2, a3, a4, a5⟩ := key (nI ((if otR s ρ = 1 then 1 else 0) + (if s = 3 ∧ pcn (mOn (1 - ρ 28) ρ) ≤ 3 then 1 else 0)))
      refine ⟨M', fun F => ?_, a1, a2, ?_, a4, a3, fun j hj => a5 j (by omega)⟩
      · refine sLt ?_
        rw [hP.2.1]
        refine sF (by rw [eEq (by omega) (by decide)]; exact e1) (sLt ?_)
        rw [← hF F, e0]
        refine sF (by decide) (sBn hsup ?_)
        refine sJw (nI (1 + if s = 3 ∧ pcn (mOn (1 - ρ 28) ρ) ≤ 3 then 1 else 0)) M (fun J => ?_) rfl
        split
        · exact sF (by decide) rfl
        · exact sT (by decide) rfl
      · rw [a5 5 (by decide), h5, if_neg e1, Nat.add_zero]
