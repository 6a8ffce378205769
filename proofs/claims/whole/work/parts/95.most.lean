/-! ===== the greatest raid; most ===== -/
theorem bl_pcn (v : Nat) : (blP (btP v) 10).length = pcn v := by
  have key : ∀ n, (blP (btP v) n).length = pcn.mkC v n := by
    intro n
    induction n with
    | zero => rfl
    | succ n ih =>
      rw [blP_succ, List.length_append, ih]
      show _ = pcn.mkC v n + v / 2 ^ n % 2
      have hm : v / 2 ^ n % 2 < 2 := Nat.mod_lt _ (by decide)
      by_cases q : v / 2 ^ n % 2 = 1
      · have hb : btP v n = true := by unfold btP; rw [q]; rfl
        rw [if_pos hb, q]
        rfl
      · have hb : ¬ btP v n = true := by unfold btP; simpa using q
        rw [if_neg hb, show v / 2 ^ n % 2 = 0 by omega]
        rfl
  exact key 10
def grL (f : Nat) (σ : Nat → Nat) : List Nat := if f = 1 then blP (fun i => σ (48 + 10 * (1 - σ 28) + i) == 0) (σ (1 + (1 - σ 28))) else []
def grS (f : Nat) (σ : Nat → Nat) : Nat := if (grL f σ).length = 0 then 0 else 1
def grB (f : Nat) (σ : Nat → Nat) : Nat := if 6 ≤ (grL f σ).length then 1 else 0
theorem gr_len {σ : Nat → Nat} (hR : RW σ) : (grL 1 σ).length = pcn (mOn (1 - σ 28) σ) ∧ grL 1 σ = blP (btP (mOn (1 - σ 28) σ)) 10 := by
  have h28 := hR.1
  have e : grL 1 σ = blP (btP (mOn (1 - σ 28) σ)) 10 := by
    unfold grL mOn
    rw [if_pos rfl, btP_mk (hR.m (by omega))]
  exact ⟨by rw [e, bl_pcn], e⟩
theorem gr_mem {σ : Nat → Nat} {f x : Nat} (h : x ∈ grL f σ) : x < σ (1 + (1 - σ 28)) ∧ σ (48 + 10 * (1 - σ 28) + x) = 0 := by
  unfold grL at h
  by_cases q : f = 1
  · rw [if_pos q, blP_mem] at h
    exact ⟨h.1, by simpa using h.2⟩
  · rw [if_neg q] at h
    exact absurd h (by simp)
theorem gr_may {σ : Nat → Nat} (hT : RT σ) (hf : mOn (σ 28) σ ≠ 0) (f : Nat) : rdOK σ (fOn (σ 28) σ) (grS f σ) (grB f σ) 0 (grL f σ) ∧ (grL f σ).length ≤ 7 ∧ ∀ x ∈ grL f σ, x < 10 := by
  have h28 := hT.1.1
  have hm1 := hT.1.m h28
  have hm2 := hT.1.m (t := 1 - σ 28) (by omega)
  have hlt := fOn_lt.2 hf
  have hnd : (grL f σ).Nodup := by
    unfold grL
    split
    · exact blP_nodup _ _
    · exact List.nodup_nil
  have hmay : rdMay σ (fOn (σ 28) σ) (grS f σ) 0 (grL f σ) := by
    refine ⟨hlt, fOn_on hlt, hnd, fun x hx => gr_mem hx, fun q e => ?_⟩
    unfold grS at q
    rw [e] at q
    simp at q
  have hlen := hmay.len hT
  refine ⟨⟨hmay, by omega, ?_, ?_, by decide, fun _ => rfl, fun q => ?_, fun q => ?_⟩, by omega, fun x hx => by have := (gr_mem hx).1; omega⟩
  · unfold grS; split <;> omega
  · unfold grB; split <;> omega
  · unfold grS at q
    by_cases z : (grL f σ).length = 0
    · exact List.eq_nil_of_length_eq_zero z
    · rw [if_neg z] at q; omega
  · exfalso
    unfold grS at q
    split at q <;> omega
theorem q_firstOn {M : xMem} {σ : Nat → Nat} {t : Nat} (h : TM M σ) (hR : RW σ) (ht : t < 2) : fX11_firstOn 146 (nI t) M = some (if mOn t σ = 0 then -1 else nI (fOn t σ), M) := by
  have hm := hR.m ht
  have hst := (hR.2 t ht).2.1
  unfold fX11_firstOn
  by_cases q : mOn t σ = 0
  · rw [if_pos q]
    unfold mOn at q
    rw [mkP_zero] at q
    refine loopU (fun n k => fX11_firstOn_l2 146 (nI t) _ n (nI k) M) (σ (1 + t)) _ (by omega) (fun n k hk => ?_) (fun n => ?_)
    · rw [fX11_firstOn_l2.eq_2]
      have := (hst k (by omega)).1
      refine sBn (q_many h ht) (sF (by rw [eLe (by omega) (by omega)]; omega) (sBn (q_isOf h ht (by omega)) (sF (eN0 (by omega) (fun z => ?_)) (sLe (nI_1 k) rfl))))
      have := q k hk
      rw [z] at this
      exact absurd this (by decide)
    · rw [fX11_firstOn_l2.eq_2]
      exact sBn (q_many h ht) (sT (by rw [eLe (by omega) (by omega)]; exact Nat.le_refl _) rfl)
  · rw [if_neg q]
    have hlt := fOn_lt.2 q
    refine loopU (fun n k => fX11_firstOn_l2 146 (nI t) _ n (nI k) M) (fOn t σ) _ (by omega) (fun n k hk => ?_) (fun n => ?_)
    · rw [fX11_firstOn_l2.eq_2]
      have := (hst k (by omega)).1
      refine sBn (q_many h ht) (sF (by rw [eLe (by omega) (by omega)]; omega) (sBn (q_isOf h ht (by omega)) (sF (eN0 (by omega) (fun z => ?_)) (sLe (nI_1 k) rfl))))
      have := fsP_no _ _ _ hk
      rw [z] at this
      exact absurd this (by decide)
    · rw [fX11_firstOn_l2.eq_2]
      refine sBn (q_many h ht) (sF (by rw [eLe (by omega) (by omega)]; omega) (sBn (q_isOf h ht (by omega)) (sT ?_ rfl)))
      rw [fOn_on hlt]
      decide
def grR (f : Nat) (σ : Nat → Nat) : Nat → Nat := raidsR (fOn (σ 28) σ) (grS f σ) (grB f σ) 0 (grL f σ) σ
theorem e_greatest {M : xMem} {σ : Nat → Nat} {f : Nat} (h : TM M σ) (hT : RT σ) (hf : f < 2) (hm0 : mOn (σ 28) σ ≠ 0) (h25 : σ 25 < 200) (hem : σ (30 + σ 28) < 3) : ∃ M', fX11_greatest 146 (nI f) M = some (nwS M' (grR f σ)) ∧ Fs M M' := by
  have h28 := hT.1.1
  have hR := hT.1
  have hm10 := hR.m (t := 1 - σ 28) (by omega)
  have hm7 : 7 ≤ σ (1 + (1 - σ 28)) := (hT.2 (1 - σ 28) (by omega)).1
  have hst := (hR.2 (1 - σ 28) (by omega)).2.1
  obtain ⟨hok, hl7, hx10⟩ := gr_may hT hm0 f
  have hlt := fOn_lt.2 hm0
  have hm1 := hR.m h28
  generalize hB : xwI (xwI M 146 4 (nI (fOn (σ 28) σ))) 146 8 (nI 0) = MB
  have FB : Fs M MB := by
    rw [← hB]
    exact (Fs.wI (by unfold scr; omega)).trans (Fs.wI (by unfold scr; omega))
  have tB : TM MB σ := by rw [← hB]; exact h
  have b4 : MB.1 146 4 = nI (fOn (σ 28) σ) := by rw [← hB, xwI_ne (by omega), xwI_at]
  have b8 : MB.1 146 8 = nI 0 := by rw [← hB, xwI_at]
  have tF : ∀ {M1 : xMem}, Fs MB M1 → TM M1 σ := fun hF => by
    unfold TM xnw at tB ⊢
    rw [hF.2.2]
    exact tB
  have loop : ∀ K : Int32 → xMem → Option xMem, (∀ v w M, K v M = K w M) → ∃ M', fX11_greatest_l30 146 (nI f) (nI (1 - σ 28)) K xFU (nI 0) MB = K (nI 0) M' ∧ Fs MB M' ∧ M'.1 146 4 = nI (fOn (σ 28) σ) ∧ M'.1 146 8 = nI (grL f σ).length ∧ ∀ j (y : Nat), (grL f σ)[j]? = some y → M'.1 149 j = nI y := by
    intro K hK
    by_cases f1 : f = 1
    · subst f1
      have eg : grL 1 σ = blP (fun i => σ (48 + 10 * (1 - σ 28) + i) == 0) (σ (1 + (1 - σ 28))) := by unfold grL; rw [if_pos rfl]
      rw [eg]
      generalize hp : (fun i => σ (48 + 10 * (1 - σ 28) + i) == 0) = p
      obtain ⟨M', n, ⟨i1, i2, i3, i4⟩, e⟩ := loopE (fun n k M => fX11_greatest_l30 146 (nI 1) (nI (1 - σ 28)) K n (nI k) M) (fun k M' => M'.1 146 8 = nI (blP p k).length ∧ (∀ j (y : Nat), (blP p k)[j]? = some y → M'.1 149 j = nI y) ∧ Fs MB M' ∧ M'.1 146 4 = nI (fOn (σ 28) σ)) (σ (1 + (1 - σ 28))) (M := MB) (by omega) ⟨b8, fun j y h => by simp [blP] at h, Fs.refl _, b4⟩ (fun n k M1 hk hI => by
        obtain ⟨i1, i2, i3, i4⟩ := hI
        have hlen := blP_len p k
        have t1 := tF i3
        have hs1 := (hst k (by omega)).1
        simp only [fX11_greatest_l30.eq_2]
        rw [q_many t1 (by omega), eBn, q_isOf t1 (by omega) (by omega), eBn, x1467, l149]
        have hpk : p k = (σ (48 + 10 * (1 - σ 28) + k) == 0) := by rw [← hp]
        by_cases q : σ (48 + 10 * (1 - σ 28) + k) = 0
        · have hb : p k = true := by rw [hpk, q]; rfl
          rw [blP_succ, if_pos hb]
          refine ⟨xwI (xwI M1 149 (blP p k).length (nI k)) 146 8 (nI ((blP p k).length + 1)), ?_, ?_, ?_, ?_, ?_⟩
          · refine sF (by rw [eLe (by omega) (by omega)]; omega) (sF (by decide) (sT (by rw [q]; decide) ?_))
            rw [i1]
            refine sGb _ rfl (by omega) (by decide) ?_
            rw [eCl (by omega)]
            refine sLt ?_
            rw [xwI_c (by decide), i1]
            refine sLe (by rw [nI_add]) (sLe (nI_1 k) rfl)
          · rw [xwI_at, List.length_append]; rfl
          · intro j y hj
            rw [xwI_c (by decide)]
            by_cases z : j = (blP p k).length
            · subst z
              rw [xwI_at]
              rw [List.getElem?_append_right (Nat.le_refl _)] at hj
              simp at hj
              rw [hj]
            · rw [xwI_ne (Or.inr z)]
              have hlt : j < (blP p k).length := by
                have := (List.getElem?_eq_some_iff.mp hj).1
                rw [List.length_append] at this
                simp only [List.length_cons, List.length_nil] at this
                omega
              rw [List.getElem?_append_left hlt] at hj
              exact i2 j y hj
          · exact (i3.trans Fs.w9).trans (Fs.wI (by unfold scr; omega))
          · rw [xwI_ne (by omega), xwI_c (by decide)]
            exact i4
        · have hb : ¬ p k = true := by rw [hpk]; simpa using q
          rw [blP_succ, if_neg hb, List.append_nil]
          refine ⟨M1, ?_, i1, i2, i3, i4⟩
          exact sF (by rw [eLe (by omega) (by omega)]; omega) (sF (by decide) (sF (eN0 (by omega) q) (sLe (nI_1 k) rfl))))
      refine ⟨M', ?_, i3, i4, i1, i2⟩
      refine e.trans ?_
      simp only [fX11_greatest_l30.eq_2]
      rw [q_many (tF i3) (by omega), eBn]
      exact sT (by rw [eLe (by omega) (by omega)]; exact Nat.le_refl _) (hK _ _ _)
    · have f0 : f = 0 := by omega
      subst f0
      have eg : grL 0 σ = [] := by unfold grL; rw [if_neg (by decide)]
      rw [eg]
      refine ⟨MB, ?_, Fs.refl _, b4, b8, fun j y e => by simp at e⟩
      rw [show xFU = 39999 + 1 from rfl, fX11_greatest_l30.eq_2, q_many tB (by omega), eBn]
      exact sF (by rw [eLe (by omega) (by omega)]; omega) (sT (by decide) rfl)
  unfold fX11_greatest
  obtain ⟨M1, l1, l2, l3, l4, l5⟩ := loop (fun (v19 : Int32) (M20 : xMem) => xLt (fun (s21 : Int32) (M22 : xMem) => (xLt (xwI M22 146 5 s21) fun M23 => xLt (fun (s24 : Int32) (M25 : xMem) => (xGd (s24 = 0 ∨ s24 = 1) (xLt (xwI M25 146 6 s24) fun M27 => xLt (xwI M27 146 9 (-1)) fun M28 => xBv (fX11_raids 146 M28) fun M29 => some M29) : Option (xMem))) fun J112 => if (M23.1 146 8) < (nI 6) then (J112 (nI 0) M23) else (J112 (nI 1) M23) : Option (xMem))) fun J94 => if (M20.1 146 8) ≤ 0 then (J94 (nI 0) M20) else (J94 (nI 1) M20)) (fun _ _ _ => rfl)
  generalize hC : xwI (xwI (xwI M1 146 5 (nI (grS f σ))) 146 6 (nI (grB f σ))) 146 9 (-1) = MC
  have FC : Fs M1 MC := by
    rw [← hC]
    exact ((Fs.wI (by unfold scr; omega)).trans (Fs.wI (by unfold scr; omega))).trans (Fs.wI (by unfold scr; omega))
  have FMC : Fs M MC := (FB.trans l2).trans FC
  have tC : TM MC σ := tF (l2.trans FC)
  have hrd : rdOk MC (fOn (σ 28) σ) (grS f σ) (grB f σ) 0 (grL f σ) := by
    refine ⟨?_, ?_, ?_, fun q => ?_, ⟨by omega, ?_, ?_, hx10⟩, hok.2.1, hok.2.2.1, hok.2.2.2.1, by decide⟩
    · rw [← hC, xwI_ne (by omega), xwI_ne (by omega), xwI_ne (by omega)]; exact l3
    · rw [← hC, xwI_ne (by omega), xwI_ne (by omega), xwI_at]
    · rw [← hC, xwI_ne (by omega), xwI_at]
    · exfalso; unfold grS at q; split at q <;> omega
    · rw [← hC, xwI_ne (by omega), xwI_ne (by omega), xwI_ne (by omega)]; exact l4
    · rw [← hC, xwI_c (by decide), xwI_c (by decide), xwI_c (by decide)]; exact l5
  have ec := e_raids (M := MC) (ρ := σ) hR hrd h25 (by have := hok.1.len hT; omega) (hT.q9 h28) hem
  rw [tC.nw] at ec
  refine ⟨MC, ?_, FMC⟩
  refine sBn (q_get h (by decide)) (sLe (eSub (a := 1) (b := σ 28) (by omega)) (sBn (q_get h (by decide)) (sBn (q_firstOn h hR h28) ?_)))
  rw [if_neg hm0]
  refine sLt (sLe hB ?_)
  rw [l1]
  refine sJw (nI (grS f σ)) M1 (fun J => ?_) (sLt ?_)
  · rw [l4]
    unfold grS
    by_cases q : (grL f σ).length = 0
    · rw [if_pos q, q]; exact sT (by decide) rfl
    · rw [if_neg q]; exact sF (by rw [e_le0 (by omega)]; exact q) rfl
  · refine sJw (nI (grB f σ)) (xwI M1 146 5 (nI (grS f σ))) (fun J => ?_) (sGd ?_ (sLt (sLe hC ?_)))
    · rw [xwI_ne (by omega), l4]
      unfold grB
      by_cases q : 6 ≤ (grL f σ).length
      · rw [if_pos q]; exact sF (by rw [eLtI (by omega) (by decide)]; omega) rfl
      · rw [if_neg q]; exact sT (by rw [eLtI (by omega) (by decide)]; omega) rfl
    · unfold grB
      split
      · exact Or.inr (by decide)
      · exact Or.inl (by decide)
    · rw [ec, eBv]
      rfl
/-- the class's plan to touch all -/
theorem c_planAll {M : xMem} {σ : Nat → Nat} {r : Nat} (h : StR M 132 σ) (hT : RT σ) (hr : r < 10) (hl7 : (grL 1 σ).length ≤ 7) : ∃ M', fX10_planAllTouched 0 132 (nI r) M = some M' ∧ Fi (fun c => c = 144 ∨ c = 145) M M' ∧ PlR M' 144 r (grS 1 σ) (grB 1 σ) 0 (grL 1 σ) := by
  have h28 := hT.1.1
  have hR := hT.1
  have hm10 := hR.m (t := 1 - σ 28) (by omega)
  have hmo := mOn_lt (ρ := σ) (t := 1 - σ 28) hm10
  obtain ⟨e1, e2⟩ := gr_len hR
  have ez : mOn (1 - σ 28) σ = 0 ↔ (grL 1 σ).length = 0 := by
    rw [e1]
    constructor
    · intro q; rw [q]; exact pcn_0
    · intro q
      by_cases z : mOn (1 - σ 28) σ = 0
      · exact z
      · have := (pcn_step _ hmo z).1
        omega
  obtain ⟨M1, f1, a0, a1, a2, a3, a4, F1⟩ := s_plBegin (M := M) (p := 144) (r := nI r) (s := nI (grS 1 σ))
  obtain ⟨M2, f2, k4, k5, F2, k6⟩ := s_touchAll (M := M1) (v := mOn (1 - σ 28) σ) kd144 hmo a4
  rw [← e2, List.take_of_length_le hl7] at k4 k5
  have hS2 : StR M2 132 σ := h.keep (fun c u v => by rw [F2.1 c (fun q => by omega), F1.1 c (fun q => by omega)])
  have hP : PlR (xwI M2 144 3 (nI (grB 1 σ))) 144 r (grS 1 σ) (grB 1 σ) 0 (grL 1 σ) := by
    refine ⟨?_, ?_, fun q => ?_, ?_, ?_, ?_, fun q => ?_, hr, ?_, ?_, by decide⟩
    · rw [xwI_ne (by omega), k6 0 (by decide)]; exact a0
    · rw [xwI_ne (by omega), k6 1 (by decide)]; exact a1
    · exfalso; unfold grS at q; split at q <;> omega
    · rw [xwI_at]
    · rw [xwI_ne (by omega)]; exact k4
    · rw [xwI_c (by decide)]; exact k5
    · unfold grS at q
      by_cases z : (grL 1 σ).length = 0
      · exact List.eq_nil_of_length_eq_zero z
      · rw [if_neg z] at q; omega
    · unfold grS; split <;> omega
    · unfold grB; split <;> omega
  refine ⟨xwI M2 144 3 (nI (grB 1 σ)), ?_, (F1.trans F2).wI (Or.inl rfl), hP⟩
  unfold fX10_planAllTouched
  rw [x07]
  refine sBn (s_away kd132' h.1 h28) (sBn (s_maskOf ((st_rf kd132').2.2.2 _ (by omega)) (h.2.2.2.2 _ (by omega)).1 (by omega) hR (by decide)) ?_)
  show xLt _ (fun J23 => if nI (mOn (1 - σ 28) σ) = 0 then _ else _) = _
  refine sJw (nI (grS 1 σ)) M (fun J => ?_) (sBv f1 (sBv f2 ?_))
  · unfold grS
    by_cases q : mOn (1 - σ 28) σ = 0
    · rw [if_pos (ez.1 q)]; exact sT (by rw [q]; decide) rfl
    · rw [if_neg (fun z => q (ez.2 z))]; exact sF (eN0 (by omega) q) rfl
  · refine sJw (nI (grB 1 σ)) M2 (fun J => ?_) rfl
    refine sLt ?_
    by_cases q : mOn (1 - σ 28) σ = 0
    · refine sT (by show nI (mOn (1 - σ 28) σ) = 0; rw [q]; decide) ?_
      unfold grB
      rw [if_neg (by have := ez.1 q; omega)]
    · refine sF (by show ¬ nI (mOn (1 - σ 28) σ) = 0; exact eN0 (by omega) q) (sBn (s_isBonusOpen kd132' hS2 hR) ?_)
      unfold grB boR
      rw [← e1]
      by_cases z : 6 ≤ (grL 1 σ).length
      · rw [if_pos z]; exact sF (by decide) rfl
      · rw [if_neg z]; exact sT (by decide) rfl
