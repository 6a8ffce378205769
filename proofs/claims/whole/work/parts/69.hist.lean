/-! ===== the class: a raid is written ===== -/
def wrC (M : xMem) (k : Nat) (v : Nat → Int32) : Nat → xMem
  | 0 => M
  | n + 1 => xwI (wrC M k v n) (26 + n) k (v n)
theorem wrC_ne {M : xMem} {k : Nat} {v : Nat → Int32} {c : Nat} : ∀ {n : Nat}, (c < 26 ∨ 26 + n ≤ c) → (wrC M k v n).1 c = M.1 c
  | 0, _ => rfl
  | n + 1, h => by
    show (xwI (wrC M k v n) (26 + n) k (v n)).1 c = _
    rw [xwI_c (by omega)]
    exact wrC_ne (by omega)
theorem wrC_at {M : xMem} {k : Nat} {v : Nat → Int32} {w j : Nat} : ∀ {n : Nat}, w < n → (wrC M k v n).1 (26 + w) j = if j = k then v w else M.1 (26 + w) j
  | 0, h => by omega
  | n + 1, h => by
    show (xwI (wrC M k v n) (26 + n) k (v n)).1 (26 + w) j = _
    by_cases e : w = n
    · subst e
      by_cases q : j = k
      · subst q; rw [xwI_at, if_pos rfl]
      · rw [xwI_ne (by omega), if_neg q, wrC_ne (by omega)]
    · rw [xwI_c (by omega)]
      exact wrC_at (by omega)
theorem wrC_2 (M : xMem) (k : Nat) (v : Nat → Int32) : ∀ n, (wrC M k v n).2 = M.2
  | 0 => rfl
  | n + 1 => wrC_2 M k v n
theorem sG1 {β : Type} {F z : Option β} (w : Nat) (hw : w < 16) (kk : F = z) : xGb (nI w) (xln (xrf 24 0)) F = z := by
  rw [h0]
  exact sGb w rfl (by rw [hl25]; exact hw) (by rw [hl25]; decide) kk
theorem sG2 {β : Type} {F z : Option β} (w k : Nat) (hw : w < 16) (hk : k < 200) (kk : F = z) : xGb (nI k) (xln (xrf (xrf 24 0) (Int32.toNatClampNeg (nI w)))) F = z := by
  rw [h0, eCl (by omega), (hs_col w hw).1]
  exact sGb k rfl (by rw [(hs_col w hw).2]; exact hk) (by rw [(hs_col w hw).2]; decide) kk
theorem sWc {β : Type} {M : xMem} {v : Nat → Int32} {F : xMem → Option β} {z : Option β} {x : Int32} (n k : Nat) (hn : n < 16) (hk : k < 200) (hx : x = v n) (kk : F (wrC M k v (n + 1)) = z) : xLt (xwI (wrC M k v n) (xrf (xrf 24 0) (Int32.toNatClampNeg (nI n))) (Int32.toNatClampNeg (nI k)) x) F = z := by
  rw [h0, eCl (by omega), (hs_col n hn).1, eCl (by omega), hx]
  exact kk
/-- the values of a raid's column -/
def wrV (r s b tk : Nat) (tl : List Nat) (ρ : Nat → Nat) (w : Nat) : Int32 :=
  if w = 0 then nI (ρ 28) else if w = 1 then nI r else if w = 2 then nI s else if w = 3 then nI (ownR r s b tk tl ρ) else if w = 4 then nI (othR r s b tk tl ρ) else if w = 5 then nI (setV s tk tl) else if w = 6 then nI b else if w = 7 then nI (muR ρ) else if w = 8 then nI (rb8 r s b tk tl ρ) else if w = 9 then nI (mOn 0 ρ) else if w = 10 then nI (mOn 1 ρ) else if w = 11 then nI (ra11 r s b tk tl ρ) else if w = 12 then nI tl.length else if w = 13 then nI (tl.length + b + if s = 2 then 1 else 0) else if w = 14 then nI (otR s ρ) else nI (if s = 3 ∧ pcn (mOn (1 - ρ 28) ρ) ≤ 3 then 1 else 0)
theorem s_mustScore {M : xMem} {k : Nat} {ρ : Nat → Nat} (hk : xkd k = 8) (hS : StR M k ρ) (ht : ρ 28 < 2) (he : ρ (30 + ρ 28) < 3) : fX8_mustScore k M = some (nI (muR ρ), M) := by
  unfold fX8_mustScore
  rw [s_home hk hS.1 ht, eBn, (hS.2.2.2.2 (ρ 28) ht).2.2.1]
  unfold muR
  by_cases h : ρ (30 + ρ 28) = 2
  · exact sT (by rw [h]) (by rw [if_pos h])
  · exact sF (by rw [eEq (by omega) (by decide)]; exact h) (by rw [if_neg h])
theorem StR.keep {M M' : xMem} {k : Nat} {ρ : Nat → Nat} (h : StR M k ρ) (e : ∀ c, k ≤ c → c < k + 12 → M'.1 c = M.1 c) : StR M' k ρ := by
  obtain ⟨a, b, c, d, f⟩ := h
  refine ⟨by rw [e k (by omega) (by omega)]; exact a, by rw [e k (by omega) (by omega)]; exact b, by rw [e k (by omega) (by omega)]; exact c, by rw [e k (by omega) (by omega)]; exact d, fun t ht => ?_⟩
  obtain ⟨x1, x2⟩ := f t ht
  rw [e (k + 2 + 5 * t) (by omega) (by omega)]
  exact ⟨x1.keep (fun c h1 h2 => e c (by omega) (by omega)), x2⟩
theorem kd46 : xkd 46 = 8 := by decide +kernel
theorem kd12 : xkd 12 = 8 := by decide +kernel
theorem kd58 : xkd 58 = 4 := by decide +kernel
theorem kd132 : xkd 132 = 8 := by decide +kernel
theorem kd144 : xkd 144 = 4 := by decide +kernel
theorem kd61 : xkd 61 = 4 := by decide +kernel
theorem s_setLead {M : xMem} {K : Nat} {σ : Nat → Nat} (hS : StR M 12 σ) (hK : M.1 24 5 = nI K) (hlt : K < 201) : fX1_setLead 24 12 M = some (xwI M 43 K (nI (scR 0 σ) - nI (scR 1 σ))) := by
  unfold fX1_setLead
  rw [s_leadOf (t := 0) kd12 hS (by decide), eBn, hK, h2]
  refine sGb K rfl (by rw [hl43]; exact hlt) (by rw [hl43]; decide) ?_
  rw [eCl (by omega)]
  rfl
set_option maxRecDepth 4000 in
theorem s_write {M : xMem} {r s b tk K : Nat} {tl : List Nat} {ρ σ : Nat → Nat} (hS : StR M 46 ρ) (hR : RT ρ) (he : ρ (30 + ρ 28) < 3) (hP : PlF M 58 r s b tk tl) (hK : M.1 24 5 = nI K) (hlt : K < 200) (hT : StR M 12 σ)
    (h5 : M.1 12 5 = nI (ownR r s b tk tl ρ)) (h6 : M.1 12 6 = nI (othR r s b tk tl ρ)) (h7 : M.1 12 7 = nI (rb8 r s b tk tl ρ)) (h8 : M.1 12 8 = nI (ra11 r s b tk tl ρ)) (htk : s = 3 → tk < 10) :
    ∃ M', fX1_write 24 46 58 12 M = some M' ∧ (∀ c, c < 24 ∨ 46 ≤ c → M'.1 c = M.1 c) ∧ M'.1 24 5 = nI (K + 1) ∧ (∀ w, w < 16 → ∀ j, M'.1 (26 + w) j = if j = K then wrV r s b tk tl ρ w else M.1 (26 + w) j) ∧ (∀ c, c ≠ 42 → M'.2.1 c = M.2.1 c) ∧ (∀ j, M'.2.1 42 j = if j = K then lN (rdC r s b tk tl) else M.2.1 42 j) ∧ M'.2.2 = M.2.2 ∧ (∀ j, M'.1 43 j = if j = K + 1 then nI (scR 0 σ) - nI (scR 1 σ) else M.1 43 j) ∧
      M'.1 44 = addL (M.1 44) (bkT (nI 1) (ρ 28) r s (setV s tk tl) tl.length (tl.length + b + if s = 2 then 1 else 0) (otR s ρ) (if s = 3 ∧ pcn (mOn (1 - ρ 28) ρ) ≤ 3 then 1 else 0)) ∧ M'.1 45 = addL (M.1 45) (bkP (nI 1) (ρ 28) s tl.length (tl.length + b + if s = 2 then 1 else 0) (otR s ρ) (if s = 3 ∧ pcn (mOn (1 - ρ 28) ρ) ≤ 3 then 1 else 0) (ra11 r s b tk tl ρ)) := by
  have ht := hR.1.1
  have hPR := hP.1
  obtain ⟨q0, q1, q2, q3, q4, q5, q6, hr, hs, hb, htk'⟩ := id hPR
  obtain ⟨a46, b46, c46, d46⟩ := st_rf kd46
  have hx10 := hP.2.2.2
  have hset : setR tl < 1024 := setR_lt (by decide) hx10
  have hra : ra11 r s b tk tl ρ < 4 := by
    unfold ra11
    rcases (show ρ 28 = 0 ∨ ρ 28 = 1 by omega) with e | e <;> rw [e] <;> split <;> split <;> decide
  -- what the column's writing leaves
  generalize hv : wrV r s b tk tl ρ = v
  have v0 : v 0 = nI (ρ 28) := by rw [← hv]; rfl
  have v1 : v 1 = nI r := by rw [← hv]; rfl
  have v2 : v 2 = nI s := by rw [← hv]; rfl
  have v3 : v 3 = nI (ownR r s b tk tl ρ) := by rw [← hv]; rfl
  have v4 : v 4 = nI (othR r s b tk tl ρ) := by rw [← hv]; rfl
  have v5 : v 5 = nI (setV s tk tl) := by rw [← hv]; rfl
  have v6 : v 6 = nI b := by rw [← hv]; rfl
  have v7 : v 7 = nI (muR ρ) := by rw [← hv]; rfl
  have v8 : v 8 = nI (rb8 r s b tk tl ρ) := by rw [← hv]; rfl
  have v9 : v 9 = nI (mOn 0 ρ) := by rw [← hv]; rfl
  have v10 : v 10 = nI (mOn 1 ρ) := by rw [← hv]; rfl
  have v11 : v 11 = nI (ra11 r s b tk tl ρ) := by rw [← hv]; rfl
  have v12 : v 12 = nI tl.length := by rw [← hv]; rfl
  have v13 : v 13 = nI (tl.length + b + if s = 2 then 1 else 0) := by rw [← hv]; rfl
  have v14 : v 14 = nI (otR s ρ) := by rw [← hv]; rfl
  have v15 : v 15 = nI (if s = 3 ∧ pcn (mOn (1 - ρ 28) ρ) ≤ 3 then 1 else 0) := by rw [← hv]; rfl
  have nc : ∀ n, n ≤ 16 → ∀ c, c < 26 ∨ 42 ≤ c → (wrC M K v n).1 c = M.1 c := fun n hn c hc => wrC_ne (by omega)
  have Sn : ∀ n, n ≤ 16 → StR (wrC M K v n) 46 ρ := fun n hn => hS.keep (fun c h1 h2 => nc n hn c (by omega))
  have Tn : ∀ n, n ≤ 16 → StR (wrC M K v n) 12 σ := fun n hn => hT.keep (fun c h1 h2 => nc n hn c (by omega))
  have Pn : ∀ n, n ≤ 16 → PlF (wrC M K v n) 58 r s b tk tl := fun n hn => hP.keep (fun c hc => nc n hn c (by omega))
  -- behind the column
  generalize hMc : wrC M K v 16 = Mc
  generalize hMd : xwL Mc 42 K (lN (rdC r s b tk tl)) = Md
  generalize hMe : xwI Md 24 5 (nI (K + 1)) = Me
  generalize hMf : xwI Me 43 (K + 1) (nI (scR 0 σ) - nI (scR 1 σ)) = Mf
  have md1 : Md.1 = Mc.1 := by rw [← hMd]; rfl
  have cE : ∀ c, c ≠ 24 → Me.1 c = Mc.1 c := fun c hc => by rw [← hMe, xwI_c hc, md1]
  have cF : ∀ c, c ≠ 43 → Mf.1 c = Me.1 c := fun c hc => by rw [← hMf, xwI_c hc]
  have Te : StR Me 12 σ := (Tn 16 (by decide)).keep (fun c h1 h2 => by rw [cE _ (by omega), hMc])
  have ke : Me.1 24 5 = nI (K + 1) := by rw [← hMe, xwI_at]
  have col : ∀ w, w < 16 → Mf.1 (26 + w) K = v w := fun w hw => by
    rw [cF _ (by omega), cE _ (by omega), ← hMc, wrC_at hw, if_pos rfl]
  have hC : CoR Mf K (ρ 28) r s (setV s tk tl) tl.length (tl.length + b + if s = 2 then 1 else 0) (otR s ρ) (if s = 3 ∧ pcn (mOn (1 - ρ 28) ρ) ≤ 3 then 1 else 0) (ra11 r s b tk tl ρ) :=
    ⟨(col 0 (by decide)).trans v0, (col 1 (by decide)).trans v1, (col 2 (by decide)).trans v2, (col 5 (by decide)).trans v5, (col 12 (by decide)).trans v12, (col 13 (by decide)).trans v13, (col 14 (by decide)).trans v14, (col 15 (by decide)).trans v15, (col 11 (by decide)).trans v11⟩
  have hbk := s_book (sg := nI 1) (f := Mf.1 44) (g := Mf.1 45) hC hlt ht hr hs (fun e => by unfold setV; rw [if_pos e]; exact htk e) (fun e => by unfold setV; rw [if_neg (by omega), if_pos e]; exact hset) (by split <;> decide) (by rcases otR_le s ρ with e | e <;> rw [e] <;> decide) hra
  rw [← xT_self] at hbk
  have f44 : Mf.1 44 = M.1 44 := by rw [cF _ (by decide), cE _ (by decide), ← hMc, nc 16 (by decide) _ (by decide)]
  have f45 : Mf.1 45 = M.1 45 := by rw [cF _ (by decide), cE _ (by decide), ← hMc, nc 16 (by decide) _ (by decide)]
  rw [f44, f45] at hbk
  generalize bkT (nI 1) (ρ 28) r s (setV s tk tl) tl.length (tl.length + b + if s = 2 then 1 else 0) (otR s ρ) (if s = 3 ∧ pcn (mOn (1 - ρ 28) ρ) ≤ 3 then 1 else 0) = lT at hbk ⊢
  generalize bkP (nI 1) (ρ 28) s tl.length (tl.length + b + if s = 2 then 1 else 0) (otR s ρ) (if s = 3 ∧ pcn (mOn (1 - ρ 28) ρ) ≤ 3 then 1 else 0) (ra11 r s b tk tl ρ) = lP at hbk ⊢
  refine ⟨xT Mf (addL (M.1 44) lT) (addL (M.1 45) lP), ?_, fun c hc => ?_, ?_, fun w hw j => ?_, fun c hc => ?_, fun j => ?_, ?_, fun j => ?_, xT_44 _ _ _, xT_45 _ _ _⟩
  · unfold fX1_write
    rw [hK]
    refine sLt (sT (by rw [eLtI (by omega) (by decide)]; exact hlt) ?_)
    refine sG1 0 (by decide) (sG2 0 K (by decide) hlt ?_)
    refine sWc (v := v) (M := M) 0 K (by decide) hlt (by rw [v0]; exact hS.1) ?_
    refine sG1 1 (by decide) (sG2 1 K (by decide) hlt ?_)
    refine sWc 1 K (by decide) hlt (by rw [v1, nc 1 (by decide) 58 (by decide)]; exact q0) ?_
    refine sG1 2 (by decide) (sG2 2 K (by decide) hlt ?_)
    refine sWc 2 K (by decide) hlt (by rw [v2, nc 2 (by decide) 58 (by decide)]; exact q1) ?_
    refine sG1 3 (by decide) (sG2 3 K (by decide) hlt ?_)
    refine sWc 3 K (by decide) hlt (by rw [v3, nc 3 (by decide) 12 (by decide)]; exact h5) ?_
    refine sG1 4 (by decide) (sG2 4 K (by decide) hlt ?_)
    refine sWc 4 K (by decide) hlt (by rw [v4, nc 4 (by decide) 12 (by decide)]; exact h6) ?_
    refine sG1 5 (by decide) (sBn (a := nI (setV s tk tl)) (M := wrC M K v 5) ?_ ?_)
    · unfold fX1_setOf
      rw [(Pn 5 (by decide)).1.2.1]
      by_cases e1 : s = 1
      · refine sT (by rw [e1]) ?_
        rw [s_touchedMask kd58 (Pn 5 (by decide)), eBn]
        unfold setV
        rw [if_neg (by omega), if_pos e1]
      · refine sF (by rw [eEq (by omega) (by decide)]; exact e1) ?_
        by_cases e3 : s = 3
        · refine sT (by rw [e3]) ?_
          rw [(Pn 5 (by decide)).2.1]
          unfold setV
          rw [if_pos e3]
        · refine sF (by rw [eEq (by omega) (by decide)]; exact e3) ?_
          unfold setV
          rw [if_neg e3, if_neg e1]
          rfl
    refine sG2 5 K (by decide) hlt (sWc 5 K (by decide) hlt (by rw [v5]) ?_)
    refine sG1 6 (by decide) (sG2 6 K (by decide) hlt ?_)
    refine sWc 6 K (by decide) hlt (by rw [v6, nc 6 (by decide) 58 (by decide)]; exact q3) ?_
    refine sG1 7 (by decide) (sBn (s_mustScore kd46 (Sn 7 (by decide)) ht he) ?_)
    refine sJw (nI (muR ρ)) (wrC M K v 7) (fun J => ?_) ?_
    · rcases muR_le ρ with e | e
      · exact sT (by rw [e]; decide) (by rw [e])
      · exact sF (by rw [e]; decide) (by rw [e])
    refine sG2 7 K (by decide) hlt (sWc 7 K (by decide) hlt (by rw [v7]) ?_)
    refine sG1 8 (by decide) (sG2 8 K (by decide) hlt ?_)
    refine sWc 8 K (by decide) hlt (by rw [v8, nc 8 (by decide) 12 (by decide)]; exact h7) ?_
    rw [a46, b46]
    refine sG1 9 (by decide) (sGb 0 rfl (by decide) (by decide) ?_)
    rw [eCl (show 0 < 2147483648 by decide), c46 0 (by decide)]
    refine sBn (a := nI (mOn 0 ρ)) (M := wrC M K v 9) (s_maskOf (d46 0 (by decide)) ((Sn 9 (by decide)).2.2.2.2 0 (by decide)).1 (by decide) hR.1 (by decide)) ?_
    refine sG2 9 K (by decide) hlt (sWc 9 K (by decide) hlt (by rw [v9]) ?_)
    refine sG1 10 (by decide) (sGb 1 rfl (by decide) (by decide) ?_)
    rw [eCl (show 1 < 2147483648 by decide), c46 1 (by decide)]
    refine sBn (a := nI (mOn 1 ρ)) (M := wrC M K v 10) (s_maskOf (d46 1 (by decide)) ((Sn 10 (by decide)).2.2.2.2 1 (by decide)).1 (by decide) hR.1 (by decide)) ?_
    refine sG2 10 K (by decide) hlt (sWc 10 K (by decide) hlt (by rw [v10]) ?_)
    refine sG1 11 (by decide) (sG2 11 K (by decide) hlt ?_)
    refine sWc 11 K (by decide) hlt (by rw [v11, nc 11 (by decide) 12 (by decide)]; exact h8) ?_
    refine sG1 12 (by decide) (sG2 12 K (by decide) hlt ?_)
    refine sWc 12 K (by decide) hlt (by rw [v12, nc 12 (by decide) 58 (by decide)]; exact q4) ?_
    refine sG1 13 (by decide) ?_
    rw [nc 13 (by decide) 58 (by decide), q1, q3, q4, nI_add]
    refine sJw (nI (if s = 2 then 1 else 0)) (wrC M K v 13) (fun J => ?_) ?_
    · by_cases e : s = 2
      · exact sT (by rw [e]) (by rw [if_pos e])
      · exact sF (by rw [eEq (by omega) (by decide)]; exact e) (by rw [if_neg e])
    refine sG2 13 K (by decide) hlt (sWc 13 K (by decide) hlt (by rw [v13, nI_add]) ?_)
    refine sG1 14 (by decide) (sBn (s_isRaiderLost kd46 (Sn 14 (by decide)) (Pn 14 (by decide)).1 ht he) ?_)
    refine sJw (nI (otR s ρ)) (wrC M K v 14) (fun J => ?_) ?_
    · rcases otR_le s ρ with e | e
      · exact sT (by rw [e]; decide) (by rw [e])
      · exact sF (by rw [e]; decide) (by rw [e])
    refine sG2 14 K (by decide) hlt (sWc 14 K (by decide) hlt (by rw [v14]) ?_)
    refine sG1 15 (by decide) (sBn (s_isSuper kd46 ht (Sn 15 (by decide)).1 ((Sn 15 (by decide)).2.2.2.2 _ (by omega)).1 hR.1 rfl (Pn 15 (by decide)).1) ?_)
    refine sJw (nI (if s = 3 ∧ pcn (mOn (1 - ρ 28) ρ) ≤ 3 then 1 else 0)) (wrC M K v 15) (fun J => ?_) ?_
    · split
      · exact sF (by decide) rfl
      · exact sT (by decide) rfl
    refine sG2 15 K (by decide) hlt (sWc 15 K (by decide) hlt (by rw [v15]) ?_)
    rw [s_pack kd58 (Pn 16 (by decide)), eBn, h1, hMc]
    refine sGb K rfl (by rw [hl42]; exact hlt) (by rw [hl42]; decide) ?_
    rw [eCl (by omega)]
    refine sLe hMd ?_
    have e24 : Md.1 24 5 = nI K := by rw [md1, ← hMc, nc 16 (by decide) 24 (by decide)]; exact hK
    rw [e24, nI_add]
    refine sLe hMe ?_
    rw [s_setLead Te ke (by omega), eBv, hMf, hbk, eBv]
  · rw [xT_ne (by omega) (by omega), cF _ (by omega), cE _ (by omega), ← hMc, nc 16 (by decide) _ (by omega)]
  · rw [xT_ne (by decide) (by decide), cF _ (by decide)]; exact ke
  · rw [xT_ne (by omega) (by omega), cF _ (by omega), cE _ (by omega), ← hMc, wrC_at hw]
  · rw [xT_2, ← hMf, ← hMe, ← hMd]
    show (xwL Mc 42 K (lN (rdC r s b tk tl))).2.1 c = _
    unfold xwL
    rw [xwQ_ne hc, ← hMc, wrC_2]
  · rw [xT_2, ← hMf, ← hMe, ← hMd]
    show (xwL Mc 42 K (lN (rdC r s b tk tl))).2.1 42 j = _
    unfold xwL
    rw [xwQ_at, ← hMc, wrC_2]
    rfl
  · rw [xT_2, ← hMf, ← hMe, ← hMd]
    show Mc.2.2 = _
    rw [← hMc, wrC_2]
  · rw [xT_ne (by decide) (by decide), ← hMf]
    by_cases q : j = K + 1
    · rw [if_pos q, q, xwI_at]
    · rw [if_neg q, xwI_ne (Or.inr q), cE _ (by decide), ← hMc, nc 16 (by decide) _ (by decide)]
