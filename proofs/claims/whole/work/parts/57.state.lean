theorem outs_stat {o x : Nat} {ρ : Nat → Nat} (ho : o < 2) : ∀ (tl : List Nat) {σ : Nat → Nat}, (∀ y ∈ tl, y < 10) → σ (108 + o) + tl.length ≤ 10 → x ∉ tl → x < 10 → outsR o tl σ (48 + 10 * o + x) = σ (48 + 10 * o + x)
  | [], _, _, _, _, _ => rfl
  | a :: l, σ, h1, h2, h3, h4 => by
    simp only [List.length_cons] at h2
    have ha := h1 a List.mem_cons_self
    show outsR o l (outR o a σ) (48 + 10 * o + x) = _
    rw [outs_stat (ρ := ρ) ho l (fun y hy => h1 y (List.mem_cons_of_mem _ hy)) (by rw [outR_outs]; omega) (fun q => h3 (List.mem_cons_of_mem _ q)) h4]
    have hne : x ≠ a := fun q => h3 (q ▸ List.mem_cons_self)
    exact outR_ne (by omega) (by omega) (by omega)
/-- the touched ones go out, the raider's team has its backs -/
theorem s_touchOut {M : xMem} {k p t r s b tk : Nat} {tl : List Nat} {ρ : Nat → Nat} (hk : xkd k = 8) (hp : xkd p = 4) (ht : t < 2) (hS : St0 M k t ρ) (hP : PlR M p r s b tk tl) (hR : RT ρ) (hn : tl.Nodup) (hl : ∀ x ∈ tl, x < ρ (1 + (1 - t)) ∧ ρ (48 + 10 * (1 - t) + x) = 0) :
    ∃ M', fX8_touchOut k p M = some M' ∧ St0 M' k t (backsR t tl.length (outsR (1 - t) tl ρ)) ∧ stK k M M' ∧ (∀ j, j ≠ 5 → j ≠ 7 → M'.1 k j = M.1 k j) ∧ M'.1 k 5 = M.1 k 5 + nI tl.length ∧ M'.1 k 7 = M.1 k 7 + nI (backsN t tl.length (outsR (1 - t) tl ρ)) := by
  obtain ⟨p5, pl, pr⟩ := pl_rf hp
  obtain ⟨-, -, -, kd7⟩ := st_rf hk
  have hkk := st_is hk
  have ho : 1 - t < 2 := by omega
  have hlen : ρ (108 + (1 - t)) + tl.length ≤ 7 := (hR.2 (1 - t) ho).q7' hn hl
  have h10 : ∀ x ∈ tl, x < 10 := fun x hx => by have := (hl x hx).1; have := hR.1.m ho; omega
  have key : ∀ m, m ≤ tl.length → ∀ K : Int32 → xMem → Option xMem, ∃ M', St0 M' k t (outsR (1 - t) (tl.take m) ρ) ∧ stK k M M' ∧ M'.1 k = M.1 k ∧ ∀ n, fX8_touchOut_l2 k p K (n + m) (nI 0) M = fX8_touchOut_l2 k p K n (nI m) M' := by
    intro m
    induction m with
    | zero => intro _ K; exact ⟨M, by simpa [outsR] using hS, stK.refl _ _, rfl, fun n => rfl⟩
    | succ m ih =>
      intro hm K
      obtain ⟨M1, S1, K1, f1, h1⟩ := ih (by omega) K
      have hx : tl[m]? = some tl[m] := List.getElem?_eq_getElem (by omega)
      have hxl := hl _ (List.mem_of_getElem? hx)
      have hR1 : RT (outsR (1 - t) (tl.take m) ρ) := RT.outs ho _ hR (List.Nodup.sublist (List.take_sublist _ _) hn) (fun x hx => hl x (List.mem_of_mem_take hx))
      have hq1 := (outsR_ok ho (tl.take m) hR.1 (fun x hx => h10 x (List.mem_of_mem_take hx)) (by rw [List.length_take]; omega)).2
      rw [List.length_take] at hq1
      have hsz : outsR (1 - t) (tl.take m) ρ (1 + (1 - t)) = ρ (1 + (1 - t)) := outsR_ne ho (by omega) (by omega) (by omega) _ (fun x hx => h10 x (List.mem_of_mem_take hx)) (by rw [List.length_take]; omega)
      obtain ⟨M2, f2, S2, F2, s2⟩ := s_goOut (i := tl[m]) (kd7 _ ho) (S1.2 _ ho) ho hR1.1 (by rw [hsz]; exact hxl.1) (by omega)
      have K2 : sdK M1 M2 (k + 2 + 5 * (1 - t)) := ⟨F2, s2⟩
      obtain ⟨k2, e2⟩ := stK.sd ho K2
      have P1 : PlR M1 p r s b tk tl := hP.keep (fun c hc => K1.1.1 c (by unfold stC; omega))
      refine ⟨M2, ?_, K1.trans k2, e2.trans f1, fun n => ?_⟩
      · rw [outsR_take hx]
        exact S1.sd ho hR1.1 K2 S2 (fun j hj => outR_ne (by have := h10 _ (List.mem_of_getElem? hx); omega) (by omega) (by omega))
      · rw [show n + (m + 1) = n + 1 + m by omega, h1 (n + 1), fX8_touchOut_l2.eq_2, P1.2.2.2.2.1, p5, pl]
        refine sF (by rw [eLe (by omega) (by omega)]; omega) (sF (by rw [eLe (by decide) (by omega)]; omega) ?_)
        rw [s_away hk S1.1 ht, eBn]
        refine sGb m rfl (by omega) (by decide) ?_
        rw [eCl (by omega), P1.2.2.2.2.2.1 m _ hx, f2, eBv]
        exact sLe (nI_1 m) rfl
  have key2 : ∀ {Ma : xMem}, St0 Ma k t (outsR (1 - t) tl ρ) → PlR Ma p r s b tk tl → ∀ m, m ≤ tl.length → ∀ K : Int32 → xMem → Option xMem, ∃ M', St0 M' k t (backsR t m (outsR (1 - t) tl ρ)) ∧ stK k Ma M' ∧ (∀ j, j ≠ 7 → M'.1 k j = Ma.1 k j) ∧ M'.1 k 7 = Ma.1 k 7 + nI (backsN t m (outsR (1 - t) tl ρ)) ∧ ∀ n, fX8_touchOut_l53 k p K (n + m) (nI 0) Ma = fX8_touchOut_l53 k p K n (nI m) M' := by
    intro Ma Sa Pa m
    have hRo : RT (outsR (1 - t) tl ρ) := RT.outs ho _ hR hn hl
    induction m with
    | zero =>
      intro _ K
      refine ⟨Ma, Sa, stK.refl _ _, fun _ _ => rfl, ?_, fun n => rfl⟩
      show _ = _ + nI 0
      rw [nI_0]; simp
    | succ m ih =>
      intro hm K
      obtain ⟨M1, S1, K1, f1, g1, h1⟩ := ih (by omega) K
      have hR1 := RT.backs ht m hRo
      obtain ⟨M2, f2, S2, K2⟩ := s_comeBack (kd7 t ht) (S1.2 t ht) ht hR1
      obtain ⟨k2, e2⟩ := stK.sd ht K2
      have P1 : PlR M1 p r s b tk tl := Pa.keep (fun c hc => K1.1.1 c (by unfold stC; omega))
      refine ⟨xwI M2 k 7 (M1.1 k 7 + nI (backN t (backsR t m (outsR (1 - t) tl ρ)))), ?_, (K1.trans k2).fld, fun j hj => ?_, ?_, fun n => ?_⟩
      · rw [backsR_succ]
        exact (S1.sd ht hR1.1 K2 S2 (fun j hj => backR_ne (hR1.1.q ht) (by omega) (by omega) (by omega))).fld (by decide)
      · rw [xwI_ne (Or.inr hj), e2]; exact f1 j hj
      · rw [xwI_at, g1, backsN_succ, ← nI_add, Int32.add_assoc]
      · rw [show n + (m + 1) = n + 1 + m by omega, h1 (n + 1), fX8_touchOut_l53.eq_2, P1.2.2.2.2.1]
        refine sF (by rw [eLe (by omega) (by omega)]; omega) ?_
        rw [s_home hk S1.1 ht, eBn, f2, eBn, eLt]
        exact sLe (nI_1 m) rfl
  unfold fX8_touchOut
  obtain ⟨M1, S1, K1, f1, h1⟩ := key tl.length (Nat.le_refl _) (fun v8 M9 => xLt (xwI M9 k 5 ((M9.1 k 5) + (M9.1 p 4))) fun M10 => fX8_touchOut_l53 k p (fun v19 M20 => some M20) xFU (nI 0) M10)
  rw [List.take_length] at S1
  have P1 : PlR M1 p r s b tk tl := hP.keep (fun c hc => K1.1.1 c (by unfold stC; omega))
  have P2 : PlR (xwI M1 k 5 (M1.1 k 5 + M1.1 p 4)) p r s b tk tl := P1.keep (fun c hc => xwI_c (by omega))
  obtain ⟨M3, S3, K3, f3, g3, h3⟩ := key2 (S1.fld (by decide)) P2 tl.length (Nat.le_refl _) (fun v19 M20 => some M20)
  refine ⟨M3, ?_, S3, (K1.fld).trans K3, fun j h5 h7 => ?_, ?_, ?_⟩
  · have e : xFU = (39990 + (9 - tl.length)) + 1 + tl.length := by rw [xFU_eq]; omega
    have hx1 : fX8_touchOut_l2 k p (fun v8 M9 => xLt (xwI M9 k 5 ((M9.1 k 5) + (M9.1 p 4))) fun M10 => fX8_touchOut_l53 k p (fun v19 M20 => some M20) xFU (nI 0) M10) xFU (nI 0) M = fX8_touchOut_l53 k p (fun v19 M20 => some M20) xFU (nI 0) (xwI M1 k 5 (M1.1 k 5 + M1.1 p 4)) := by
      have e1 : fX8_touchOut_l2 k p (fun v8 M9 => xLt (xwI M9 k 5 ((M9.1 k 5) + (M9.1 p 4))) fun M10 => fX8_touchOut_l53 k p (fun v19 M20 => some M20) xFU (nI 0) M10) ((39990 + (9 - tl.length)) + 1 + tl.length) (nI 0) M = _ := h1 _
      rw [← e] at e1
      rw [e1, fX8_touchOut_l2.eq_2, P1.2.2.2.2.1]
      exact sT (by rw [eLe (by omega) (by omega)]; exact Nat.le_refl _) rfl
    rw [hx1]
    have e2 : fX8_touchOut_l53 k p (fun v19 M20 => some M20) ((39990 + (9 - tl.length)) + 1 + tl.length) (nI 0) (xwI M1 k 5 (M1.1 k 5 + M1.1 p 4)) = _ := h3 _
    rw [← e] at e2
    have P3 : PlR M3 p r s b tk tl := P2.keep (fun c hc => K3.1.1 c (by unfold stC; omega))
    rw [e2, fX8_touchOut_l53.eq_2, P3.2.2.2.2.1]
    exact sT (by rw [eLe (by omega) (by omega)]; exact Nat.le_refl _) rfl
  · rw [f3 j h7, xwI_ne (Or.inr h5), f1]
  · rw [f3 5 (by decide), xwI_at, f1, P1.2.2.2.2.1]
  · rw [g3, xwI_ne (by omega), f1]
/-- all out of both -/
theorem s_settle {M : xMem} {k t : Nat} {ρ : Nat → Nat} (hk : xkd k = 8) (ht : t < 2) (hS : St0 M k t ρ) (hR : RT ρ) (hR2 : RT (allR (1 - t) ρ)) :
    ∃ M', fX8_settleAllOuts k M = some M' ∧ St0 M' k t (allR t (allR (1 - t) ρ)) ∧ stK k M M' ∧ (∀ j, j < 5 ∨ j = 7 → M'.1 k j = M.1 k j) ∧ M'.1 k 5 = M.1 k 5 + nI (if isAll (1 - t) ρ then 2 else 0) ∧ M'.1 k 6 = M.1 k 6 + nI (if isAll t (allR (1 - t) ρ) then 2 else 0) ∧ M'.1 k 8 = nI ((if isAll (1 - t) ρ then 2 ^ (1 - t) else 0) ||| (if isAll t (allR (1 - t) ρ) then 2 ^ t else 0)) := by
  obtain ⟨-, -, -, kd7⟩ := st_rf hk
  have ho : 1 - t < 2 := by omega
  have S0 : St0 (xwI M k 8 (nI 0)) k t ρ := hS.fld (by decide)
  obtain ⟨M1, f1, S1, K1⟩ := s_standUp (kd7 _ ho) (S0.2 _ ho) ho hR
  obtain ⟨k1, e1⟩ := stK.sd ho K1
  have T1 : St0 M1 k t (allR (1 - t) ρ) := S0.sd ho hR.1 K1 S1 (fun j hj => allR_ne hR.1 ho (by omega) (by omega) (by omega) (by omega))
  -- behind the first
  obtain ⟨Ma, hA, Sa, Ka, a5, a6, a7, a8⟩ : ∃ Ma, (∀ J : xMem → Option xMem, (if nI (if isAll (1 - t) ρ then 1 else 0) = 0 then J M1 else (xLt (xwI M1 k 5 ((M1.1 k 5) + (nI 2))) fun M17 => xLt (xwI M17 k 8 ((M17.1 k 8) ||| ((nI 1) <<< (((nI 1) - (M17.1 k 1)) &&& 31)))) fun M18 => J M18)) = J Ma) ∧ St0 Ma k t (allR (1 - t) ρ) ∧ stK k M Ma ∧ Ma.1 k 5 = M.1 k 5 + nI (if isAll (1 - t) ρ then 2 else 0) ∧ (∀ j, j < 5 ∨ j = 6 ∨ j = 7 → Ma.1 k j = M.1 k j) ∧ Ma.1 k 8 = nI (if isAll (1 - t) ρ then 2 ^ (1 - t) else 0) ∧ True := by
    by_cases h : isAll (1 - t) ρ = true
    · rw [if_pos h, if_pos h, if_pos h]
      have m8 : M1.1 k 8 = nI 0 := by rw [e1, xwI_at]
      refine ⟨xwI (xwI M1 k 5 (M1.1 k 5 + nI 2)) k 8 (nI (2 ^ (1 - t))), fun J => ?_, (T1.fld (by decide)).fld (by decide), (((stK.refl k M).fld).trans k1).fld.fld, ?_, fun j hj => ?_, by rw [xwI_at], trivial⟩
      · refine sF (by decide) ?_
        rw [eLt, eLt, xwI_ne (by omega), xwI_ne (by omega), m8, T1.1, eSub (by omega), e_shl1 _ (by omega), e_orN, Nat.zero_or]
      · rw [xwI_ne (by omega), xwI_at, e1, xwI_ne (by omega)]
      · rw [xwI_ne (by omega), xwI_ne (by omega), e1, xwI_ne (by omega)]
    · rw [if_neg h, if_neg h, if_neg h]
      refine ⟨M1, fun J => sT (by decide) rfl, T1, ((stK.refl k M).fld).trans k1, ?_, fun j hj => ?_, ?_, trivial⟩
      · rw [e1, xwI_ne (by omega), nI_0]; simp
      · rw [e1, xwI_ne (by omega)]
      · rw [e1, xwI_at]
  obtain ⟨M2, f2, S2, K2⟩ := s_standUp (kd7 t ht) (Sa.2 t ht) ht hR2
  obtain ⟨k2, e2⟩ := stK.sd ht K2
  have T2 : St0 M2 k t (allR t (allR (1 - t) ρ)) := Sa.sd ht hR2.1 K2 S2 (fun j hj => allR_ne hR2.1 ht (by omega) (by omega) (by omega) (by omega))
  have start : fX8_settleAllOuts k M = (xBn (fX8_home k Ma) fun r9 M10 => xBn (fX7_standUp r9 M10) fun r13 M14 => if r13 = 0 then (some M14) else (xLt (xwI M14 k 6 ((M14.1 k 6) + (nI 2))) fun M15 => xLt (xwI M15 k 8 ((M15.1 k 8) ||| ((nI 1) <<< ((M15.1 k 1) &&& 31)))) fun M16 => some M16)) := by
    unfold fX8_settleAllOuts
    rw [eLt, s_away hk S0.1 ht, eBn, f1, eBn]
    exact sJx Ma hA rfl
  rw [start, s_home hk Sa.1 ht, eBn, f2, eBn]
  by_cases h : isAll t (allR (1 - t) ρ) = true
  · rw [if_pos h, if_pos h, if_pos h]
    refine ⟨xwI (xwI M2 k 6 (M2.1 k 6 + nI 2)) k 8 (nI ((if isAll (1 - t) ρ then 2 ^ (1 - t) else 0) ||| 2 ^ t)), ?_, (T2.fld (by decide)).fld (by decide), (Ka.trans k2).fld.fld, fun j hj => ?_, ?_, ?_, by rw [xwI_at]⟩
    · refine sF (by decide) ?_
      rw [eLt, eLt, xwI_ne (by omega), xwI_ne (by omega), e2, a7, Sa.1, e_shl1 _ (by omega), e_orN]
    · rw [xwI_ne (by omega), xwI_ne (by omega), e2]; exact a6 j (by omega)
    · rw [xwI_ne (by omega), xwI_ne (by omega), e2]; exact a5
    · rw [xwI_ne (by omega), xwI_at, e2, a6 6 (by omega)]
  · rw [if_neg h, if_neg h, if_neg h]
    refine ⟨M2, sT (by decide) rfl, T2, Ka.trans k2, fun j hj => ?_, by rw [e2]; exact a5, ?_, ?_⟩
    · rw [e2]; exact a6 j (by omega)
    · rw [e2, a6 6 (by omega), nI_0]; simp
    · rw [e2, a7, Nat.or_zero]
