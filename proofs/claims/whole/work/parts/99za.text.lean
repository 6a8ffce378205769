/-! ===== text ===== -/
theorem e_text_l65 {M : xMem} {ρ α : Nat → Nat} (p1 : Int32) (h148 : M.2.1 148 = lf ρ) (K : Int32 → xMem → Option (Int32 × xMem)) :
    fX11_text_l65 146 p1 K xFU (nI 0) (xwQ M 147 (lf α)) = K (nI 3235) (xwQ M 147 (lf (fun j => if j < 3235 then ρ j else α j))) := by
  have hL := loopU (fun n k => fX11_text_l65 146 p1 K n (nI k) (xwQ M 147 (lf (fun j => if j < k then ρ j else α j)))) 3235 (K (nI 3235) (xwQ M 147 (lf (fun j => if j < 3235 then ρ j else α j)))) (by decide) (fun n k hk => ?_) (fun n => ?_)
  · have e : (fun j => if j < 0 then ρ j else α j) = α := by
      funext j
      rw [if_neg (by omega)]
    rw [e] at hL
    exact hL
  · rw [fX11_text_l65.eq_2]
    refine sF (by rw [eLe (by decide) (by omega)]; omega) (sGb k rfl (by rw [xl148]; exact hk) (by rw [xl148]; decide) (sGb k rfl (by rw [xl147]; exact hk) (by rw [xl147]; decide) ?_))
    refine sWq k (ρ k) (eCl (by omega)) (by rw [x148, xwQ_ne (by decide), h148, eCl (by omega), lf_at]) ?_
    refine sLe (nI_1 k) ?_
    congr 2
    apply congrArg lf
    funext j
    by_cases h : j = k
    · subst h
      rw [va_at_eq, if_pos (by omega)]
    · rw [va_at_ne h]
      by_cases h2 : j < k
      · rw [if_pos h2, if_pos (by omega)]
      · rw [if_neg h2, if_neg (by omega)]
  · rw [fX11_text_l65.eq_2]
    exact sT (by decide) rfl
theorem km_text {N : xMem} {a : xTl} {hs : List xTl} {tp : List Nat} {fk fp : Int32} {ou : List Nat} (hR : KM N a hs tp fk fp ou) (hl : tp.length ≤ 2000) (hb : ∀ b ∈ tp, b < 256) (h10 : hs.length ≤ 10) (hokA : tdOK a ∨ noT a) : (∀ T, (txA tp).1 = .inr T → TkO tp T) ∧ (∀ b, (txL tp).1 = .inl b → ∃ M', fX11_text 146 N = some (-4, M') ∧ KM M' a hs [] (nI b.1) (nI b.2) ou ∧ FdM N M') ∧ (∀ T, (txL tp).1 = .inr T → tdOK (txT tp) ∧ ∃ M', fX11_text 146 N = some (nI (txT tp).2.2.length, M') ∧ KM M' (txT tp) (psh hs a) [] (nI 0) (-1) ou ∧ FdM N M') := by
  obtain ⟨r1, r2, ⟨α, r3, r3'⟩, ⟨r4, κ, r5, r6⟩, ⟨r7, r7'⟩, r8, r9, r10⟩ := id hR
  generalize hMS : xwW (xwI (xwI (xwI (xwI (xwI N 146 12 (N.1 146 11)) 146 11 (nI 0)) 146 13 (nI 0)) 146 17 (nI 0)) 146 18 (-1)) true = S
  have s1 : ∀ c, c ≠ 146 → S.1 c = N.1 c := fun c hc => by
    rw [← hMS]
    show (xwI (xwI (xwI (xwI (xwI N 146 12 (N.1 146 11)) 146 11 (nI 0)) 146 13 (nI 0)) 146 17 (nI 0)) 146 18 (-1)).1 c = _
    rw [xwI_c hc, xwI_c hc, xwI_c hc, xwI_c hc, xwI_c hc]
  have s2 : ∀ j, j ≠ 11 → j ≠ 12 → j ≠ 13 → j ≠ 17 → j ≠ 18 → S.1 146 j = N.1 146 j := fun j q1 q2 q3 q4 q5 => by
    rw [← hMS]
    show (xwI (xwI (xwI (xwI (xwI N 146 12 (N.1 146 11)) 146 11 (nI 0)) 146 13 (nI 0)) 146 17 (nI 0)) 146 18 (-1)).1 146 j = _
    rw [xwI_ne (Or.inr q5), xwI_ne (Or.inr q4), xwI_ne (Or.inr q3), xwI_ne (Or.inr q1), xwI_ne (Or.inr q2)]
  have s12 : S.1 146 12 = nI tp.length := by
    rw [← hMS]
    show (xwI (xwI (xwI (xwI (xwI N 146 12 (N.1 146 11)) 146 11 (nI 0)) 146 13 (nI 0)) 146 17 (nI 0)) 146 18 (-1)).1 146 12 = _
    rw [xwI_ne (by omega), xwI_ne (by omega), xwI_ne (by omega), xwI_ne (by omega), xwI_at]
    exact r7
  have s11 : S.1 146 11 = nI 0 := by
    rw [← hMS]
    show (xwI (xwI (xwI (xwI (xwI N 146 12 (N.1 146 11)) 146 11 (nI 0)) 146 13 (nI 0)) 146 17 (nI 0)) 146 18 (-1)).1 146 11 = _
    rw [xwI_ne (by omega), xwI_ne (by omega), xwI_ne (by omega), xwI_at]
  have s13 : S.1 146 13 = nI 0 := by
    rw [← hMS]
    show (xwI (xwI (xwI (xwI (xwI N 146 12 (N.1 146 11)) 146 11 (nI 0)) 146 13 (nI 0)) 146 17 (nI 0)) 146 18 (-1)).1 146 13 = _
    rw [xwI_ne (by omega), xwI_ne (by omega), xwI_at]
  have s17 : S.1 146 17 = nI 0 := by
    rw [← hMS]
    show (xwI (xwI (xwI (xwI (xwI N 146 12 (N.1 146 11)) 146 11 (nI 0)) 146 13 (nI 0)) 146 17 (nI 0)) 146 18 (-1)).1 146 17 = _
    rw [xwI_ne (by omega), xwI_at]
  have s18 : S.1 146 18 = -1 := by
    rw [← hMS]
    show (xwI (xwI (xwI (xwI (xwI N 146 12 (N.1 146 11)) 146 11 (nI 0)) 146 13 (nI 0)) 146 17 (nI 0)) 146 18 (-1)).1 146 18 = _
    exact xwI_at _ _ _ _
  have sq : S.2.1 = N.2.1 := by rw [← hMS]; rfl
  have sp : S.2.2.2 = N.2.2.2 := by rw [← hMS]; rfl
  have sw : xnw S = 148 := by rw [← hMS]; rfl
  have hT : TpB tp S := ⟨s12, by rw [s1 150 (by decide)]; exact r7'⟩
  obtain ⟨v, M1, β, f1, k1, g1, b1, F1, hA, hB⟩ := m_readAll hl hb hT sw (by rw [sq]; exact r3) r3' s13 s17 s18
  have hd : ∀ z, (xBn (fX11_good 146 (xwW M1 false)) fun r10 M11 => if r10 = 0 then (some ((-4), M11)) else (xBv (fX11_keeps 146 M11) fun M12 => fX11_text_l65 146 v (fun (v17 : Int32) (M18 : xMem) => some (v, M18)) xFU (nI 0) M12)) = z → fX11_text 146 N = z := by
    intro z hz
    unfold fX11_text
    refine sLt (sLt (sLt (sLt (sLt (sLe (b := S) hMS (sBn f1 (sLt hz)))))))
  -- the fields behind it
  have q1 : (xwW M1 false).2.2.1 = false := rfl
  have qd : FdM N (xwW M1 false) := by
    refine ⟨fun c hc => ?_, fun c hc => ?_, ?_⟩
    · show M1.1 c = N.1 c
      rw [F1.1 c (by omega) (by omega), s1 c (by omega)]
    · show M1.2.1 c = N.2.1 c
      rw [F1.2.2.1 c (by omega), sq]
    · show M1.2.2.2 = N.2.2.2
      rw [F1.2.2.2, sp]
  have km : ∀ x y, M1.1 146 17 = x → M1.1 146 18 = y → KM (xwW M1 false) a hs [] x y ou := by
    intro x y e17 e18
    have e148 : M1.2.1 148 = lf β := by have := k1.2.1; unfold TM at this; rw [k1.2.2.1] at this; exact this
    refine ⟨rfl, ?_, ⟨β, e148, b1⟩, ⟨?_, κ, ?_, r6⟩, ⟨?_, fun j b hj => by simp at hj⟩, e17, e18, ?_⟩
    · show M1.2.1 147 = _
      rw [F1.2.2.1 147 (by decide), sq]; exact r2
    · show M1.1 146 19 = _
      rw [F1.2.1 19 (by omega), s2 19 (by decide) (by decide) (by decide) (by decide) (by decide)]; exact r4
    · show M1.2.1 151 = _
      rw [F1.2.2.1 151 (by decide), sq]; exact r5
    · show M1.1 146 11 = _
      rw [F1.2.1 11 (by omega)]; exact s11
    · refine ⟨?_, fun j b hj => ?_⟩
      · show M1.1 146 22 = _
        rw [F1.2.1 22 (by omega), s2 22 (by decide) (by decide) (by decide) (by decide) (by decide)]; exact r10.1
      · show M1.1 152 j = _
        rw [F1.1 152 (by decide) (by decide), s1 152 (by decide)]; exact r10.2 j b hj
  refine ⟨hA, fun b e => ?_, fun T e => ?_⟩
  · rw [e] at k1
    obtain ⟨w1, w2, w3, w4, w5⟩ := k1.2.2.2
    refine ⟨xwW M1 false, hd _ ?_, km _ _ w4 w5, qd⟩
    unfold fX11_good
    have : ¬ (xwW M1 false).1 146 17 = 0 := by
      show ¬ M1.1 146 17 = 0
      rw [w4]; exact eN0 (by omega) (by omega)
    rw [if_neg this, eBn]
    exact sT (by decide) rfl
  · obtain ⟨g2, g3, g4⟩ := g1 T e
    rw [e] at k1
    obtain ⟨w1, w2, w3, w4⟩ := k1.2.2.2
    obtain ⟨Mk, h1, h2, h3, h4, h5, h6, h7, h8⟩ := (km _ _ w2 w3).keep1 h10
    refine ⟨g4, nwS Mk (rowX (txT tp)), hd _ ?_, h8 (txT tp), qd.trans ?_⟩
    · unfold fX11_good
      have : (xwW M1 false).1 146 17 = 0 := by
        show M1.1 146 17 = 0
        rw [w2]; decide
      rw [if_pos this, eBn]
      refine sF (by decide) (sBv h1 ?_)
      have e147 : Mk.2.1 147 = lf (rowX a) := by have := h2; unfold TM at this; rw [h7] at this; exact this
      have kk := km _ _ w2 w3
      obtain ⟨y1, y2, -, ⟨y4, κ', y5, -⟩, -⟩ := kk
      have ek := e_keeps h10 y2 y5 y4
      rw [h1] at ek
      have eMk := Option.some.inj ek
      have u3 : Mk.2.1 148 = lf β := by
        rw [eMk]
        show (xwQ (xwW M1 false) 151 _).2.1 148 = _
        rw [xwQ_ne (by decide)]
        show M1.2.1 148 = _
        have := k1.2.1; unfold TM at this; rw [k1.2.2.1] at this; exact this
      have E := e_text_l65 (M := Mk) (ρ := β) (α := rowX a) v u3 (fun (v17 : Int32) (M18 : xMem) => some (v, M18))
      rw [← xwQ_of e147] at E
      refine E.trans ?_
      have eB : (fun j => if j < 3235 then β j else rowX a j) = rowX (txT tp) := by
        rw [rowX_td g4, ← g3]
        funext j
        by_cases z : j < 3235
        · rw [if_pos z]
        · rw [if_neg z, rowX_far hokA (by omega), b1 j (by omega)]
      rw [eB, g2]
      show some (_, xwQ Mk 147 (lf (rowX (txT tp)))) = some (_, nwS Mk (rowX (txT tp)))
      unfold nwS
      rw [h7]
    · refine h5.trans ⟨fun c hc => rfl, fun c hc => ?_, rfl⟩
      unfold nwS; rw [h7]; exact xwQ_ne (by omega)
theorem kc_text {M : xMem} {a : xTl} {hs : List xTl} {tp : List Nat} {fk fp : Int32} {ou : List Nat} (hC : KC M a hs tp fk fp ou) (hA : ∀ T, (txA tp).1 = .inr T → TkO tp T) (hok : ∀ T, (txL tp).1 = .inr T → tdOK (txT tp)) : (∀ b, (txL tp).1 = .inl b → ∃ M', fX10_text 0 M = some (-4, M') ∧ KC M' a hs [] (nI b.1) (nI b.2) ou ∧ Fc M M') ∧ (∀ T, (txL tp).1 = .inr T → ∃ M', fX10_text 0 M = some (nI (txT tp).2.2.length, M') ∧ KC M' (txT tp) (psh hs a) [] (nI 0) (-1) ou ∧ Fc M M') := by
  have hokA := hC.okA
  obtain ⟨c1, c2, ⟨p1, p2, p3, p4⟩, c4, c5, c6⟩ := hC
  obtain ⟨-, -, -, -, x03, x05⟩ := x60t
  have s10 : ∀ t, t < 2 → (a.2.1 t).length ≤ 10 := by
    intro t ht
    rcases hokA with h | h
    · exact (h.1.1 t ht).2.1.1
    · rw [(h.1 t ht).2]; decide
  have l280 : a.2.2.length ≤ 280 := by
    rcases hokA with h | h
    · exact (td_len h).2
    · rw [h.2]; decide
  obtain ⟨M1, f1, A1, F1⟩ := t_copy kd126 kd6 (by decide) c1.1 s10 l280
  have R1 : RwR M1 1 tp := by
    refine ⟨by rw [F1.1 1 (by decide)]; exact p1, fun j b hj => ?_⟩
    rw [F1.1 2 (by decide)]; exact p4 j b hj
  obtain ⟨r2, M3, f3, o3, g3, F3⟩ := c_readText p2 p3 R1 hA
  -- what the fault's two numbers and the tape's cut leave
  have rest : ∀ y : Int32, ∃ M8, fX6_cut 1 (nI 0) (xwI (xwI M3 0 8 r2) 0 9 y) = some M8 ∧ RwR M8 1 [] ∧ M8.1 0 8 = r2 ∧ M8.1 0 9 = y ∧ (∀ c, 2 ≤ c → M8.1 c = M3.1 c) ∧ M8.2 = M3.2 := by
    intro y
    have R7 : RwR (xwI (xwI M3 0 8 r2) 0 9 y) 1 tp := (R1.fj F3).of (by rw [xwI_c (by decide), xwI_c (by decide)]) (by rw [xwI_c (by decide), xwI_c (by decide)])
    obtain ⟨M8, f8, R8, F8⟩ := c_cut R7 (by omega) (n := 0) (by omega)
    refine ⟨M8, f8, R8, ?_, ?_, fun c hc => ?_, ?_⟩
    · rw [F8.1 0 (by decide), xwI_ne (by omega), xwI_at]
    · rw [F8.1 0 (by decide)]; exact xwI_at _ _ _ _
    · rw [F8.1 c (by omega), xwI_c (by omega), xwI_c (by omega)]
    · rw [F8.2]; rfl
  refine ⟨fun b e => ?_, fun T e => ?_⟩
  · rw [e] at o3
    obtain ⟨d1, d2, d3, d4⟩ := id o3
    obtain ⟨M8, f8, R8, v8, v9, e8, e8'⟩ := rest (nI b.2)
    have A8 : TaR M8 126 a := A1.keep (fun c u w => by rw [e8 c (by omega), F3.1 c (by omega)]) (by rw [e8', F3.2.1 _ (by decide) (by decide) (by decide)])
    obtain ⟨M9, f9, A9, F9⟩ := t_copy kd6 kd126 (by decide) A8 s10 l280
    obtain ⟨M10, f10, B10, F10⟩ := m_replay A9 hokA
    have ec : ∀ c, 3 ≤ c → (c < 6 ∨ 63 ≤ c) → (c < 126 ∨ 132 ≤ c) → M10.1 c = M.1 c := by
      intro c h1 h2 h3
      rw [F10.1 c (by omega), F9.1 c (by omega), e8 c (by omega), F3.1 c (by omega), F1.1 c (by omega)]
    have eq : ∀ c, 63 ≤ c → c ≠ 131 → M10.2.1 c = M.2.1 c := by
      intro c h1 h3
      rw [F10.2.1 c (by omega), F9.2.1 c (by omega), e8', F3.2.1 c (by omega) (by omega) (by omega), F1.2.1 c (by omega)]
    have ew : M10.2.2 = M.2.2 := by rw [F10.2.2, F9.2.2, e8', F3.2.2, F1.2.2]
    refine ⟨M10, ?_, ⟨B10, c2.keep (fun c u w => ec c (by omega) (by omega) (by omega)) (fun c u w => eq c (by omega) (by omega)) (by rw [ew]), ⟨?_, by decide, fun b hb => by simp at hb, fun j b hj => by simp at hj⟩, ?_, ?_, ?_⟩, fun c hc => ec c (by omega) (by omega) (by omega), fun c hc => eq c (by omega) (by omega), by rw [ew]⟩
    · unfold fX10_text
      rw [x02, m50, x03, x05, x00, x04]
      refine sBv f1 (sBn f3 (sLt (sJw (nI b.2) (xwI M3 0 8 r2) (fun J => ?_) (sLt (sBv f8 ?_)))))
      · refine sF (by rw [xwI_at]; exact o3.bad) ?_
        unfold fX3_place
        rw [xwI_c (by decide), d2]
        rfl
      · refine sF (by rw [v8]; exact o3.bad) (sBv f9 (sBv f10 rfl))
    · rw [F10.1 1 (by decide), F9.1 1 (by decide)]; exact R8.1
    · rw [F10.1 0 (by decide), F9.1 0 (by decide), v8]; exact d1
    · rw [F10.1 0 (by decide), F9.1 0 (by decide)]; exact v9
    · rw [ec 3 (by decide) (by decide) (by decide), ec 4 (by decide) (by decide) (by decide)]; exact c6
  · rw [e] at o3
    obtain ⟨d1, d2, d3⟩ := id o3
    obtain ⟨A3, hM3⟩ := g3 T e
    obtain ⟨M8, f8, R8, v8, v9, e8, e8'⟩ := rest (-1)
    have A8 : TaR M8 126 a := A1.keep (fun c u w => by rw [e8 c (by omega), F3.1 c (by omega)]) (by rw [e8', F3.2.1 _ (by decide) (by decide) (by decide)])
    have c8 : AcR M8 hs a := c2.keep (fun c u w => by rw [e8 c (by omega), F3.1 c (by omega), F1.1 c (by omega)]) (fun c u w => by rw [e8', F3.2.1 c (by omega) (by omega) (by omega), F1.2.1 c (by omega)]) (by rw [e8', F3.2.2, F1.2.2])
    obtain ⟨M9, f9, B9, g9, g9', g9''⟩ := c_noteText (b := txT tp) c8 hokA A8
    have A9 : TaR M9 6 (txT tp) := A3.keep (fun c u w => by rw [g9 c (by omega), e8 c (by omega)]) (by rw [g9' _ (by decide), e8'])
    have hM9 : MR M9 (rowT (txT tp)) := hM3.keep (fun c u w => by rw [g9 c (by omega), e8 c (by omega)]) (by rw [g9' _ (by decide), e8'])
    refine ⟨M9, ?_, ⟨⟨A9, Or.inl ⟨hok T e, hM9⟩⟩, B9, ⟨?_, by decide, fun b hb => by simp at hb, fun j b hj => by simp at hj⟩, ?_, ?_, ?_⟩, fun c hc => ?_, fun c hc => ?_, ?_⟩
    · unfold fX10_text
      rw [x02, m50, x03, x05, x00, x04]
      refine sBv f1 (sBn f3 (sLt (sJw (-1) (xwI M3 0 8 r2) (fun J => ?_) (sLt (sBv f8 ?_)))))
      · exact sT (by rw [xwI_at]; exact d1) rfl
      · refine sT (by rw [v8]; exact d1) (sBv f9 ?_)
        rw [A9.2.1]
    · rw [g9 1 (by decide)]; exact R8.1
    · rw [g9 0 (by decide), v8]; exact d1
    · rw [g9 0 (by decide)]; exact v9
    · rw [g9 3 (by decide), g9 4 (by decide), e8 3 (by decide), e8 4 (by decide), F3.1 3 (by decide), F3.1 4 (by decide), F1.1 3 (by decide), F1.1 4 (by decide)]; exact c6
    · rw [g9 c (by omega), e8 c (by omega), F3.1 c (by omega), F1.1 c (by omega)]
    · rw [g9' c (by omega), e8', F3.2.1 c (by omega) (by omega) (by omega), F1.2.1 c (by omega)]
    · rw [g9'', e8', F3.2.2, F1.2.2]
theorem s_text : STEP (fX10_text 0) (fX11_text 146) := by
  intro M hM
  obtain ⟨a, hs, tp, fk, fp, ou, hC, hR⟩ := id hM
  have hl := hC.2.2.1.2.1
  have hb := hC.2.2.1.2.2.1
  have h10 := hC.2.1.2.1
  obtain ⟨hA, -, hg⟩ := km_text hR hl hb h10 hC.okA
  obtain ⟨k0, k1⟩ := kc_text hC hA (fun T e => (hg T e).1)
  cases e : (txL tp).1 with
  | inl b =>
    obtain ⟨M1, f1, K1, F1⟩ := k0 b e
    obtain ⟨-, m0, -⟩ := km_text (hR.fc F1) hl hb h10 hC.okA
    obtain ⟨M2, f2, K2, F2⟩ := m0 b e
    exact ⟨-4, M1, M2, f1, f2, a, hs, [], nI b.1, nI b.2, ou, K1.keep (fun c hc => F2.1 c (by omega)) (fun c hc => F2.2.1 c (by omega)) F2.2.2, K2⟩
  | inr T =>
    obtain ⟨M1, f1, K1, F1⟩ := k1 T e
    obtain ⟨-, -, m1⟩ := km_text (hR.fc F1) hl hb h10 hC.okA
    obtain ⟨-, M2, f2, K2, F2⟩ := m1 T e
    exact ⟨nI (txT tp).2.2.length, M1, M2, f1, f2, txT tp, psh hs a, [], nI 0, -1, ou, K1.keep (fun c hc => F2.1 c (by omega)) (fun c hc => F2.2.1 c (by omega)) F2.2.2, K2⟩
