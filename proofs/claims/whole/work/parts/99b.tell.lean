/-! ===== tell ===== -/
def tlV (B : Nat → List Nat) (T : Nat → Bool) : Nat → Nat → Nat → List Nat → Nat × List Nat
  | 0, _, n, ou => (n, ou)
  | m + 1, k, n, ou => if T k = true then (if ou.length + (B k).length ≤ 2000 then tlV B T m (k + 1) (n + 1) (ou ++ B k) else (n, ou)) else tlV B T m (k + 1) n ou
theorem tlV_ok (B : Nat → List Nat) (T : Nat → Bool) (N : Nat) (hB : ∀ k, k < N → ∀ c ∈ B k, c < 128) : ∀ m k n ou, k + m ≤ N → ou.length ≤ 2000 → (∀ c ∈ ou, c < 128) → (tlV B T m k n ou).2.length ≤ 2000 ∧ ∀ c ∈ (tlV B T m k n ou).2, c < 128 := by
  intro m
  induction m with
  | zero => intro k n ou _ h1 h2; exact ⟨h1, h2⟩
  | succ m ih =>
    intro k n ou hk h1 h2
    unfold tlV
    split
    · split
      · refine ih (k + 1) (n + 1) (ou ++ B k) (by omega) (by rw [List.length_append]; assumption) (fun c hc => ?_)
        rw [List.mem_append] at hc
        rcases hc with hc | hc
        · exact h2 c hc
        · exact hB k (by omega) c hc
      · exact ⟨h1, h2⟩
    · exact ih (k + 1) n ou (by omega) h1 h2
def tT (ρ : Nat → Nat) (w k : Nat) : Bool := w == 0 || rq ρ k 0 + 1 == w
theorem tT_1 {ρ : Nat → Nat} {w k : Nat} : tT ρ w k = true ↔ w = 0 ∨ rq ρ k 0 + 1 = w := by
  unfold tT
  simp
theorem x01' : xrf 0 1 = 3 := x01
theorem c_tellL {M0 : xMem} {a : xTl} {ρ : Nat → Nat} {g : Nat → Nat × List Nat} {w : Nat} (h : TQ M0 a ρ) (hw : w ≤ 2) (hg : ∀ k, k < ρ 25 → RV ρ k (g k).1 (g k).2 ∧ M0.2.1 42 k = lN (rdC (rq ρ k 1) (rq ρ k 2) (rq ρ k 6) (g k).1 (g k).2)) : ∀ (m k : Nat) (M : xMem) (n : Nat) (ou : List Nat) (F : Nat), k + m = ρ 25 → m < F → Fi Fw M0 M → RwR M 3 ou → ou.length ≤ 2000 → ∃ M', fX10_tell_l34 0 (nI w) (fun (v18 : Int32) (v19 : Int32) (M20 : xMem) => some (v18, M20)) F (nI n) (nI k) M = some (nI (tlV (fun k => rB ρ k (g k).1 (g k).2) (tT ρ w) m k n ou).1, M') ∧ RwR M' 3 (tlV (fun k => rB ρ k (g k).1 (g k).2) (tT ρ w) m k n ou).2 ∧ Fi Fw M0 M' := by
  have hn := h.n25
  intro m
  induction m with
  | zero =>
    intro k M n ou F h1 h2 hF hR hl
    obtain ⟨F, rfl⟩ : ∃ q, F = q + 1 := ⟨F - 1, by omega⟩
    refine ⟨M, ?_, hR, hF⟩
    rw [fX10_tell_l34.eq_2, x02, m52, hF.1 24 (fun q => by unfold Fw at q; omega), h.hs.1]
    exact sT (by rw [eLe (by omega) (by omega)]; omega) rfl
  | succ m ih =>
    intro k M n ou F h1 h2 hF hR hl
    obtain ⟨F, rfl⟩ : ∃ q, F = q + 1 := ⟨F - 1, by omega⟩
    have hk : k < ρ 25 := by omega
    obtain ⟨g1, g2⟩ := hg k hk
    have hb0 := (h.rb hk).1
    have e26 : M.1 26 k = nI (rq ρ k 0) := by rw [hF.1 26 (fun q => by unfold Fw at q; omega)]; exact c_col h hk (w := 0) (by decide)
    rw [fX10_tell_l34.eq_2, x01, x02, m52, hF.1 24 (fun q => by unfold Fw at q; omega), h.hs.1]
    unfold tlV
    by_cases q : tT ρ w k = true
    · have q' := tT_1.1 q
      rw [if_pos q]
      obtain ⟨M1, f1, r1, F1⟩ := c_writeRaid (ρ := ρ) (l := ou) (k := k) (by omega) (fun t i ht hi => by
        have := h.shirt ht hi
        rw [hF.1 9 (fun q => by unfold Fw at q; omega)]
        exact ⟨this.1, this.2.2⟩) (fun t ht => (h.sz ht).2.2) g1 e26 (by rw [hF.2]; exact g2) hR hl
      have hlen : (ou ++ rB ρ k (g k).1 (g k).2).length = ou.length + (rB ρ k (g k).1 (g k).2).length := List.length_append
      have h60 : (rB ρ k (g k).1 (g k).2).length ≤ 60 := by
        unfold rB
        exact rdB_len g1.1.2.2.2.2.2.2.2.2.2.2.2.2.2.2.2.2.1
      have pre : ∀ (X : xMem → Option (Int32 × xMem)), (xLt X fun J75 => if nI w = 0 then (J75  M) else (xGb (nI 0) (xln (xrf 24 0)) (xGb (nI k) (xln (xrf (xrf 24 0) (Int32.toNatClampNeg (nI 0)))) (if (M.1 (xrf (xrf 24 0) (Int32.toNatClampNeg (nI 0))) (Int32.toNatClampNeg (nI k))) = (nI w - (nI 1)) then (J75  M) else (xLt (nI k + nI 1) fun x17 => fX10_tell_l34 0 (nI w) (fun (v18 : Int32) (v19 : Int32) (M20 : xMem) => some (v18, M20)) F (nI n) x17 M))))) = X M := by
        intro X
        refine sLt ?_
        by_cases z : w = 0
        · exact sT (by rw [z]; decide) rfl
        · refine sF (eN0 (by omega) z) (sCo 0 k (by decide) (by omega) rfl ?_)
          rw [eCo (by decide) (by omega) rfl, e26, eSub (by omega)]
          refine sT ?_ rfl
          rw [show w - 1 = rq ρ k 0 by omega]
      by_cases q2 : ou.length + (rB ρ k (g k).1 (g k).2).length ≤ 2000
      · obtain ⟨M2, e2, r2, F2⟩ := ih (k + 1) M1 (n + 1) (ou ++ rB ρ k (g k).1 (g k).2) F (by omega) (by omega) (hF.trans F1) r1 (by omega)
        rw [if_pos q2]
        refine ⟨M2, ?_, r2, F2⟩
        refine sF (by rw [eLe (by omega) (by omega)]; omega) ((pre _).trans ?_)
        unfold fX6_size
        refine sBn rfl (sBv f1 (sBn rfl ?_))
        rw [r1.1, hlen]
        exact sT (by rw [eLe (by omega) (by decide)]; exact q2) (sLe (nI_add n 1) (sLe (nI_1 k) e2))
      · obtain ⟨M2, f2, r2, F2⟩ := c_cut (n := ou.length) r1 (by omega) (by omega)
        rw [List.take_left] at r2
        rw [if_neg q2]
        refine ⟨M2, ?_, r2, (hF.trans F1).trans (F2.mono (fun c q => by unfold Fw; omega))⟩
        refine sF (by rw [eLe (by omega) (by omega)]; omega) ((pre _).trans ?_)
        unfold fX6_size
        refine sBn rfl (sBv f1 (sBn rfl ?_))
        rw [r1.1, hlen, hR.1]
        exact sF (by rw [eLe (by omega) (by decide)]; exact q2) (sBv f2 rfl)
    · rw [if_neg q]
      have q' : w ≠ 0 ∧ rq ρ k 0 + 1 ≠ w := by
        constructor
        · intro z; exact q (tT_1.2 (Or.inl z))
        · intro z; exact q (tT_1.2 (Or.inr z))
      obtain ⟨M2, e2, r2, F2⟩ := ih (k + 1) M n ou F (by omega) (by omega) hF hR hl
      refine ⟨M2, ?_, r2, F2⟩
      refine sF (by rw [eLe (by omega) (by omega)]; omega) (sLt (sF (eN0 (by omega) q'.1) (sCo 0 k (by decide) (by omega) rfl ?_)))
      rw [eCo (by decide) (by omega) rfl, e26, eSub (by omega)]
      exact sF (by rw [eEq (by omega) (by omega)]; omega) (sLe (nI_1 k) e2)
/-! the model's -/
def OuR (M : xMem) (l : List Nat) : Prop := M.1 146 22 = nI l.length ∧ ∀ j (b : Nat), l[j]? = some b → M.1 152 j = bI b
def Fo (M M' : xMem) : Prop := (∀ c, c ≠ 146 → c ≠ 152 → c ≠ 153 → M'.1 c = M.1 c) ∧ (∀ j, j ≠ 22 → j ≠ 24 → M'.1 146 j = M.1 146 j) ∧ M'.2 = M.2
theorem Fo.refl (M : xMem) : Fo M M := ⟨fun _ _ _ _ => rfl, fun _ _ _ => rfl, rfl⟩
theorem Fo.trans {M M1 M2 : xMem} (h1 : Fo M M1) (h2 : Fo M1 M2) : Fo M M2 := ⟨fun c a b d => (h2.1 c a b d).trans (h1.1 c a b d), fun j a b => (h2.2.1 j a b).trans (h1.2.1 j a b), h2.2.2.trans h1.2.2⟩
theorem Fl.fo {M M' : xMem} (h : Fl M M') : Fo M M' := ⟨fun c a _ d => h.1 c a d, fun j _ b => h.2.1 j b, h.2.2⟩
theorem Fo.tm {M M' : xMem} {ρ : Nat → Nat} (h : TM M ρ) (hF : Fo M M') : TM M' ρ := by
  unfold TM xnw at h ⊢
  rw [hF.2.2]
  exact h
theorem bI_bI (b : Nat) : vp_nar .byte (bI b) = bI b := by
  unfold bI
  rw [vp_nar_byte (nI b), pk_vb]
theorem m_tellL {ρ : Nat → Nat} {g : Nat → Nat × List Nat} {w : Nat} (hn : ρ 25 ≤ 200) (hs : ∀ t i, t < 2 → i < ρ (1 + t) → ρ (5 + 10 * t + i) ≤ 99) (hm : ∀ t, t < 2 → ρ (1 + t) ≤ 10) (hw : w ≤ 2) (hg : ∀ k, k < ρ 25 → RV ρ k (g k).1 (g k).2) : ∀ (m k : Nat) (M : xMem) (n : Nat) (ou : List Nat) (F : Nat), k + m = ρ 25 → m < F → TM M ρ → OuR M ou → ou.length ≤ 2000 → ∃ M', fX11_tell_l31 146 (nI w) (fun (v18 : Int32) (v19 : Int32) (M20 : xMem) => some (v18, M20)) F (nI n) (nI k) M = some (nI (tlV (fun k => rB ρ k (g k).1 (g k).2) (tT ρ w) m k n ou).1, M') ∧ OuR M' (tlV (fun k => rB ρ k (g k).1 (g k).2) (tT ρ w) m k n ou).2 ∧ Fo M M' := by
  intro m
  induction m with
  | zero =>
    intro k M n ou F h1 h2 hT hR hl
    obtain ⟨F, rfl⟩ : ∃ q, F = q + 1 := ⟨F - 1, by omega⟩
    refine ⟨M, ?_, hR, Fo.refl M⟩
    rw [fX11_tell_l31.eq_2, q_get hT (by decide), eBn]
    exact sT (by rw [eLe (by omega) (by omega)]; omega) rfl
  | succ m ih =>
    intro k M n ou F h1 h2 hT hR hl
    obtain ⟨F, rfl⟩ : ∃ q, F = q + 1 := ⟨F - 1, by omega⟩
    have hk : k < ρ 25 := by omega
    have g1 := hg k hk
    have hb0 := g1.1.1
    rw [fX11_tell_l31.eq_2, q_get hT (by decide), eBn]
    unfold tlV
    by_cases q : tT ρ w k = true
    · have q' := tT_1.1 q
      rw [if_pos q]
      obtain ⟨M1, f1, r1, F1⟩ := m_tellsRaid (M := M) (k := k) (by omega) hT hs hm g1
      generalize hB : rB ρ k (g k).1 (g k).2 = B at *
      have h60 : B.length ≤ 60 := by
        rw [← hB]
        unfold rB
        exact rdB_len g1.1.2.2.2.2.2.2.2.2.2.2.2.2.2.2.2.2.1
      have o1 : OuR M1 ou := ⟨by rw [F1.2.1 22 (by decide)]; exact hR.1, by rw [F1.1 152 (by decide) (by decide)]; exact hR.2⟩
      have pre : ∀ (X : xMem → Option (Int32 × xMem)), (xLt X fun J60 => if nI w ≤ 0 then (J60  M) else (xBn (fX11_rec 146 (nI k) (nI 0) M) fun r19 M20 => if r19 = (nI w - (nI 1)) then (J60  M20) else (xLt (nI k + nI 1) fun x21 => fX11_tell_l31 146 (nI w) (fun (v18 : Int32) (v19 : Int32) (M20 : xMem) => some (v18, M20)) F (nI n) x21 M20))) = X M := by
        intro X
        refine sLt ?_
        by_cases z : w = 0
        · exact sT (by rw [z]; decide) rfl
        · refine sF (by rw [e_le0 (by omega)]; exact z) (sBn (q_rec hT (by omega) (by decide)) ?_)
          rw [eSub (by omega)]
          refine sT ?_ rfl
          rw [show w - 1 = rq ρ k 0 by omega]
      by_cases q2 : ou.length + B.length ≤ 2000
      · rw [if_pos q2]
        -- the line is copied
        have loop : ∀ K : Int32 → xMem → Option (Int32 × xMem), (∀ v w M, K v M = K w M) → ∃ M2, fX11_tell_l85 146 (nI w) (nI n) (nI k) K xFU (nI 0) M1 = K (nI 0) M2 ∧ (∀ j (b : Nat), (ou ++ B)[j]? = some b → M2.1 152 j = bI b) ∧ (∀ c, c ≠ 152 → M2.1 c = M1.1 c) ∧ M2.2 = M1.2 := by
          intro K hK
          obtain ⟨M2, n2, ⟨i1, i2, i3⟩, e⟩ := loopE (fun n' k' M => fX11_tell_l85 146 (nI w) (nI n) (nI k) K n' (nI k') M) (fun k' M' => (∀ j (b : Nat), (ou ++ B.take k')[j]? = some b → M'.1 152 j = bI b) ∧ (∀ c, c ≠ 152 → M'.1 c = M1.1 c) ∧ M'.2 = M1.2) B.length (M := M1) (by omega) ⟨by simpa using o1.2, fun _ _ => rfl, rfl⟩ (fun n' k' M3 hk' hI => by
            obtain ⟨i1, i2, i3⟩ := hI
            have hg' : B[k']? = some B[k'] := List.getElem?_eq_getElem hk'
            have e5 : B.take (k' + 1) = B.take k' ++ [B[k']] := by rw [List.take_add_one, hg']; rfl
            have hl' : (ou ++ B.take k').length = ou.length + k' := by rw [List.length_append, List.length_take]; omega
            refine ⟨xwI M3 152 (ou.length + k') (bI B[k']), ?_, ?_, fun c u => ?_, i3⟩
            · simp only [fX11_tell_l85.eq_2]
              rw [x14621, x14623, l152, l153, i2 146 (by decide), r1.1, o1.1, nI_add]
              refine sF (by rw [eLe (by omega) (by omega)]; omega) (sGb k' rfl (by omega) (by decide) (sGb (ou.length + k') rfl (by omega) (by decide) ?_))
              rw [eCl (by omega), eCl (by omega), i2 153 (by decide), r1.2 k' _ hg', bI_bI]
              exact sLt (sLe (nI_1 k') rfl)
            · intro j b hj
              rw [e5, ← List.append_assoc] at hj
              rcases snoc_at hj with ⟨rfl, rfl⟩ | ⟨z, hz⟩
              · rw [hl', xwI_at]
              · rw [xwI_ne (Or.inr (by omega))]
                exact i1 j b hz
            · rw [xwI_c u, i2 c u])
          rw [List.take_length] at i1
          refine ⟨M2, ?_, i1, i2, i3⟩
          refine e.trans ?_
          simp only [fX11_tell_l85.eq_2]
          rw [i2 146 (by decide), r1.1]
          exact sT (by rw [eLe (by omega) (by omega)]; exact Nat.le_refl _) (hK _ _ _)
        obtain ⟨M2, e2, i1, i2, i3⟩ := loop (fun (v14 : Int32) (M15 : xMem) => xLt (xwI M15 146 22 ((M15.1 146 22) + (M15.1 146 24))) fun M16 => xLt (nI n + nI 1) fun x17 => xLt (nI k + nI 1) fun x18 => fX11_tell_l31 146 (nI w) (fun (v18 : Int32) (v19 : Int32) (M20 : xMem) => some (v18, M20)) F x17 x18 M16) (fun _ _ _ => rfl)
        have F2 : Fo M1 (xwI M2 146 22 (nI (ou.length + B.length))) := by
          refine ⟨fun c a b d => ?_, fun j a b => ?_, i3⟩
          · rw [xwI_c a, i2 c b]
          · rw [xwI_ne (Or.inr a), i2 146 (by decide)]
        have o2 : OuR (xwI M2 146 22 (nI (ou.length + B.length))) (ou ++ B) := by
          refine ⟨by rw [xwI_at, List.length_append], fun j b hj => ?_⟩
          rw [xwI_c (by decide)]
          exact i1 j b hj
        have FT := F1.fo.trans F2
        obtain ⟨M3, e3, r3, F3⟩ := ih (k + 1) _ (n + 1) (ou ++ B) F (by omega) (by omega) (FT.tm hT) o2 (by rw [List.length_append]; exact q2)
        refine ⟨M3, ?_, r3, FT.trans F3⟩
        refine sF (by rw [eLe (by omega) (by omega)]; omega) ((pre _).trans ?_)
        refine sBv f1 ?_
        rw [o1.1, r1.1, nI_add]
        refine sT (by rw [eLe (by omega) (by decide)]; exact q2) ?_
        rw [e2, i2 146 (by decide), o1.1, r1.1, nI_add]
        exact sLt (sLe (nI_add n 1) (sLe (nI_1 k) e3))
      · rw [if_neg q2]
        refine ⟨M1, ?_, o1, F1.fo⟩
        refine sF (by rw [eLe (by omega) (by omega)]; omega) ((pre _).trans ?_)
        refine sBv f1 ?_
        rw [o1.1, r1.1, nI_add]
        exact sF (by rw [eLe (by omega) (by decide)]; exact q2) rfl
    · rw [if_neg q]
      have q' : w ≠ 0 ∧ rq ρ k 0 + 1 ≠ w := by
        constructor
        · intro z; exact q (tT_1.2 (Or.inl z))
        · intro z; exact q (tT_1.2 (Or.inr z))
      obtain ⟨M2, e2, r2, F2⟩ := ih (k + 1) M n ou F (by omega) (by omega) hT hR hl
      refine ⟨M2, ?_, r2, F2⟩
      refine sF (by rw [eLe (by omega) (by omega)]; omega) (sLt (sF (by rw [e_le0 (by omega)]; exact q'.1) (sBn (q_rec hT (by omega) (by decide)) ?_)))
      rw [eSub (by omega)]
      exact sF (by rw [eEq (by omega) (by omega)]; omega) (sLe (nI_1 k) e2)
theorem KC.ou {M M' : xMem} {a : xTl} {hs : List xTl} {tp : List Nat} {fk fp : Int32} {ou ou' : List Nat} (h : KC M a hs tp fk fp ou) (hF : Fi Fw M M') (hT : RwR M' 3 ou') (hl : ou'.length ≤ 2000) (hb : ∀ b ∈ ou', b < 128) : KC M' a hs tp fk fp ou' := by
  obtain ⟨h1, h2, h3, h4, h5, h6⟩ := h
  have e : ∀ c, c ≠ 3 → c ≠ 4 → c ≠ 58 → c ≠ 59 → M'.1 c = M.1 c := fun c a b d f => hF.1 c (fun q => by unfold Fw at q; omega)
  refine ⟨h1.keep (fun c u v => e c (by omega) (by omega) (by omega) (by omega)) (fun c u v => by rw [hF.2]), h2.keep (fun c u v => e c (by omega) (by omega) (by omega) (by omega)) (fun c u v => by rw [hF.2]) (by rw [hF.2]), ?_, by rw [e 0 (by decide) (by decide) (by decide) (by decide)]; exact h4, by rw [e 0 (by decide) (by decide) (by decide) (by decide)]; exact h5, ⟨hT.1, hl, hb, fun j b hj => ?_⟩⟩
  · rw [e 1 (by decide) (by decide) (by decide) (by decide), e 2 (by decide) (by decide) (by decide) (by decide)]
    exact h3
  · rw [← bI_lt (hb b (List.mem_of_getElem? hj))]
    exact hT.2 j b hj
theorem Fo.fd {M M' : xMem} (h : Fo M M') : FdM M M' := ⟨fun c hc => h.1 c (by omega) (by omega) (by omega), fun c _ => by rw [h.2.2], by rw [h.2.2]⟩
theorem KM.ou {M M' : xMem} {a : xTl} {hs : List xTl} {tp : List Nat} {fk fp : Int32} {ou ou' : List Nat} (h : KM M a hs tp fk fp ou) (hF : Fo M M') (hT : OuR M' ou') (hb : ∀ b ∈ ou', b < 128) : KM M' a hs tp fk fp ou' := by
  obtain ⟨r1, r2, r3, r4, r7, r8, r9, -⟩ := h
  unfold KM
  rw [hF.2.2, hF.1 150 (by decide) (by decide) (by decide), hF.2.1 11 (by decide) (by decide), hF.2.1 17 (by decide) (by decide), hF.2.1 18 (by decide) (by decide), hF.2.1 19 (by decide) (by decide)]
  exact ⟨r1, r2, r3, r4, r7, r8, r9, hT.1, fun j b hj => by rw [← bI_lt (hb b (List.mem_of_getElem? hj))]; exact hT.2 j b hj⟩
theorem s_tell {x : Int32} : STEP (fX10_tell 0 x) (fX11_tell 146 x) := by
  intro M hM
  obtain ⟨a, hs, tp, fk, fp, ou, hC, hR⟩ := id hM
  rcases hC.1.q hR.1 hR.2.1 with ⟨ha, h⟩ | ⟨hn, h⟩
  · by_cases q1 : wnQ x 0 2
    · obtain ⟨w, -, hw, rfl⟩ := id q1
      generalize hρ : rowT a = ρ at h
      have hX : RX ρ := by rw [← hρ]; exact RX.td ha
      have hn := h.n25
      have exg : ∀ k, ∃ p : Nat × List Nat, k < ρ 25 → RV ρ k p.1 p.2 ∧ M.2.1 42 k = lN (rdC (rq ρ k 1) (rq ρ k 2) (rq ρ k 6) p.1 p.2) := by
        intro k
        by_cases hk : k < ρ 25
        · obtain ⟨tk, tl, c1, c2⟩ := (h.hs.2.1 k hk).2.2.2.2.2.2.2.2
          obtain ⟨y1, y2, y3⟩ := hX k hk
          refine ⟨(tk, tl), fun _ => ⟨⟨c1, y1, fun e => ?_, fun z hz => ?_⟩, c2⟩⟩
          · have := y2 e
            rw [c1.set.1 e] at this
            exact this
          · have b3 := c1.2.2.2.2.2.2.2.2.2.2.2.2.2.2.2.2.2.1 z hz
            have b4 := c1.2.2.2.2.2.2.2.2.2.2.2.2.2.2.2.2.2.2.1
            have s1 : rq ρ k 2 = 1 := by
              by_cases e : rq ρ k 2 = 1
              · exact e
              · have : tl = [] := b4 e
                rw [this] at hz
                exact absurd hz (by simp)
            refine y3 s1 z b3 ?_
            rw [(c1.set.2 s1).1, setR_bit, if_pos hz]
        · exact ⟨(0, []), fun q => absurd q hk⟩
      obtain ⟨g, hg⟩ := Classical.axiomOfChoice exg
      have hsh : ∀ t i, t < 2 → i < ρ (1 + t) → ρ (5 + 10 * t + i) ≤ 99 := fun t i ht hi => (h.shirt ht hi).2.2
      have hm10 : ∀ t, t < 2 → ρ (1 + t) ≤ 10 := fun t ht => (h.sz ht).2.2
      obtain ⟨o1, o2, o3, o4⟩ := hC.2.2.2.2.2
      have hou : RwR M 3 ou := ⟨o1, fun j b hj => by rw [bI_lt (o3 b (List.mem_of_getElem? hj))]; exact o4 j b hj⟩
      obtain ⟨M1, f1, r1, F1⟩ := c_cut (n := 0) hou (by omega) (Nat.zero_le _)
      rw [List.take_zero] at r1
      have F1' : Fi Fw M M1 := F1.mono (fun c q => by unfold Fw; omega)
      obtain ⟨M2, e2, r2, F2⟩ := c_tellL (w := w) h hw (fun k hk => hg k hk) (ρ 25) 0 M1 0 [] xFU (by omega) (by rw [xFU_eq]; omega) F1' r1 (by decide)
      have hBlt : ∀ k, k < ρ 25 → ∀ c ∈ rB ρ k (g k).1 (g k).2, c < 128 := fun k hk => by
        obtain ⟨⟨c1, v1, v3, vt⟩, -⟩ := hg k hk
        have a1 := c1.1
        exact rdB_lt (hsh _ _ a1 v1) (fun e => hsh _ _ (by omega) (v3 e)) (fun y hy => hsh _ _ (by omega) (vt y hy))
      obtain ⟨k1, k2⟩ := tlV_ok (fun k => rB ρ k (g k).1 (g k).2) (tT ρ w) (ρ 25) hBlt (ρ 25) 0 0 [] (by omega) (by decide) (fun c hc => by simp at hc)
      have hC2 := hC.ou F2 r2 k1 k2
      have hR2 := hR.fc (Fc.ofFi F2 (fun c q => by unfold Fw at q; omega))
      have hq2 : MQm M2 ρ := by
        refine ⟨⟨hR2.1, ?_⟩, h.mq.2⟩
        rw [hR2.2.1, rowX_td ha, hρ]
      have F3 : Fo M2 (xwI M2 146 22 (nI 0)) := ⟨fun c a b d => xwI_c a, fun j a b => xwI_ne (Or.inr a), rfl⟩
      have o5 : OuR (xwI M2 146 22 (nI 0)) [] := ⟨by rw [xwI_at]; rfl, fun j b hj => by simp at hj⟩
      obtain ⟨M4, e4, r4, F4⟩ := m_tellL (w := w) hn hsh hm10 hw (fun k hk => (hg k hk).1) (ρ 25) 0 (xwI M2 146 22 (nI 0)) 0 [] xFU (by omega) (by rw [xFU_eq]; omega) (F3.tm hq2.tm) o5 (by decide)
      have F5 := F3.trans F4
      refine ⟨nI (tlV (fun k => rB ρ k (g k).1 (g k).2) (tT ρ w) (ρ 25) 0 0 []).1, M2, M4, ?_, ?_, a, hs, tp, fk, fp, _, hC2.fd F5.fd, hR2.ou F5 r4 k2⟩
      · unfold fX10_tell
        rw [x01, x02]
        exact sBn (c_told h) (sF (by decide) (sBn ((c_within (by decide) (by decide)).1 q1) (sF (by decide) (sBv f1 e2))))
      · unfold fX11_tell
        exact sBn hq2.there (sF (by decide) (sBn ((m_within (by decide) (by decide)).1 q1) (sF (by decide) (sLt e4))))
    · refine ⟨-2, M, M, ?_, ?_, hM⟩
      · unfold fX10_tell
        rw [x02]
        exact sBn (c_told h) (sF (by decide) (sBn ((c_within (by decide) (by decide)).2 q1) (sT (by decide) rfl)))
      · unfold fX11_tell
        exact sBn h.there (sF (by decide) (sBn ((m_within (by decide) (by decide)).2 q1) (sT (by decide) rfl)))
  · refine ⟨-2, M, M, ?_, ?_, hM⟩
    · unfold fX10_tell
      rw [x02]
      exact sBn (c_untold h) (sT (by decide) rfl)
    · unfold fX11_tell
      exact sBn (m_nothere h) (sT (by decide) rfl)
