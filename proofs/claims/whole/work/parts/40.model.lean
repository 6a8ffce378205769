theorem eI2L' {x : Int32} {n : Nat} (hx : x = nI n) (h : n < 2147483648) : Int32.toInt64 x = lN n := by rw [hx]; exact nI_l h
theorem eCl2 {a b : Nat} (h : a + b < 2147483648) : Int32.toNatClampNeg (nI a + nI b) = a + b := by rw [nI_add]; exact nI_clamp h
theorem eCl3 {a b c : Nat} (h : a + b + c < 2147483648) : Int32.toNatClampNeg (nI a + nI b + nI c) = a + b + c := by rw [nI_add, nI_add]; exact nI_clamp h
theorem nI_add3 (a b c : Nat) : nI a + nI b + nI c = nI (a + b + c) := by rw [nI_add, nI_add]
theorem mOn_rec {r s b tk : Nat} {tl : List Nat} {ρ σ : Nat → Nat} {t : Nat} (hR : RW ρ) (ht : t < 2) (h : ∀ k, k < 130 → σ k = ρ k) : mOn t σ = mOn t ρ := mOn_congr (h _ (by omega)) (hR.m ht) (fun i hi => h _ (by omega))
theorem setR_lt {tl : List Nat} : ∀ {s : Nat}, s < 1024 → (∀ x ∈ tl, x < 10) → tl.foldl orS s < 1024 := by
  induction tl with
  | nil => intro s hs _; exact hs
  | cons a l ih =>
    intro s hs h
    refine ih ?_ (fun x hx => h x (List.mem_cons_of_mem _ hx))
    have ha := h a List.mem_cons_self
    have : s ||| 2 ^ a < 2 ^ 10 := Nat.or_lt_two_pow hs (Nat.pow_lt_pow_right (by decide) ha)
    exact this
theorem backsN_le (t : Nat) : ∀ (n : Nat) (ρ : Nat → Nat), backsN t n ρ ≤ n
  | 0, _ => Nat.le_refl _
  | n + 1, ρ => by
    have := backsN_le t n (backR t ρ)
    unfold backsN
    have h : backN t ρ ≤ 1 := by unfold backN; split <;> omega
    omega
theorem rb8_le (r s b tk : Nat) (tl : List Nat) (ρ : Nat → Nat) : rb8 r s b tk tl ρ ≤ tl.length + 1 := by
  have h := backsN_le (ρ 28) tl.length (rd3 r s b tk tl ρ)
  have h2 : backN (1 - ρ 28) (rd7 r s b tk tl ρ) ≤ 1 := by unfold backN; split <;> omega
  unfold rb8 rb4
  split <;> split <;> omega
theorem rd11_lo {r s b tk : Nat} {tl : List Nat} {ρ : Nat → Nat} (hR : RW ρ) (ht : ∀ x ∈ tl, x < 10) (hr : r < 10) (hl : ρ (108 + (1 - ρ 28)) + tl.length ≤ 10) (hq : ρ (108 + ρ 28) < 10) {k : Nat} (hk : k < 36) : rd11 r s b tk tl ρ k = ρ k := by
  have h28 := hR.1
  have R2 := rd2_ok (s := s) (b := b) (tk := tk) hR ht hr hl hq
  have R3 := rd3_ok R2.1 h28
  have R4 := rd4_ok R3 h28
  have R5 := rd5_ok R4 h28
  have R6 := rd6_ok R5 h28
  have R7 := rd7_ok R6 h28
  have R8 := rd8_ok R7 h28
  have R8' : RW (va_up (rd8 r s b tk tl ρ) (235 + 15 * ρ 25 + 8) (rb8 r s b tk tl ρ)) := R8.up (Or.inr (by omega))
  have R9 := rd9_ok R8
  have R10 := rd10_ok R9 h28
  have e2 := R2.2 k (by omega)
  have e3 : rd3 r s b tk tl ρ k = ρ k := by
    unfold rd3; split
    · unfold addR; rw [va_at_ne (by omega)]; exact e2
    · exact e2
  have e4 : rd4 r s b tk tl ρ k = ρ k := by
    unfold rd4; split
    · rw [backsR_ne h28 (by omega) (by omega) (by omega) _ R3]; exact e3
    · exact e3
  have e5 : rd5 r s b tk tl ρ k = ρ k := by
    unfold rd5; split
    · unfold addR; rw [va_at_ne (by omega)]; exact e4
    · exact e4
  have e6 : rd6 r s b tk tl ρ k = ρ k := by
    unfold rd6; split
    · unfold addR; rw [va_at_ne (by split <;> omega)]; exact e5
    · exact e5
  have e7 : rd7 r s b tk tl ρ k = ρ k := by
    unfold rd7; split
    · unfold addR; rw [va_at_ne (by omega)]; exact e6
    · exact e6
  have e8 : rd8 r s b tk tl ρ k = ρ k := by
    unfold rd8; split
    · rw [backR_ne (R7.q (by omega)) (by omega) (by omega) (by omega)]; exact e7
    · exact e7
  have e9 : rd9 r s b tk tl ρ k = ρ k := by
    unfold rd9
    rw [waitsR_ne (R8'.m (t := 0) (by decide)) (R8'.m (t := 1) (by decide)) (by omega), va_at_ne (by omega)]
    exact e8
  have e10 : rd10 r s b tk tl ρ k = ρ k := by
    unfold rd10
    rw [allR_ne R9 (by omega) (by omega) (by omega) (by omega) (by omega)]; exact e9
  unfold rd11
  rw [allR_ne R10 (by omega) (by omega) (by omega) (by omega) (by omega)]; exact e10
set_option maxHeartbeats 4000000 in
set_option maxRecDepth 10000 in
theorem e_raids {M : xMem} {ρ : Nat → Nat} {r s b tk : Nat} {tl : List Nat} (hR : RW ρ) (hM : rdOk M r s b tk tl) (h25 : ρ 25 < 200) (hl : ρ (108 + (1 - ρ 28)) + tl.length ≤ 10) (hq : ρ (108 + ρ 28) < 10) (hem : ρ (30 + ρ 28) < 3) :
    fX11_raids 146 (nwS M ρ) = some (nwS M (raidsR r s b tk tl ρ)) := by
  obtain ⟨m4, m5, m6, m9, mt, hr, hs, hb, htk⟩ := id hM
  have htl := mt.2.2.2
  have ht := hR.1
  have hR1 := hR.ahead
  have lo : ∀ k, k < 130 → aheadR ρ k = ρ k := fun k hk => aheadR_lo hk
  have hm := mOn_lt (ρ := ρ) (t := 1 - ρ 28) (hR.m (by omega))
  have hm' := mOn_lt (ρ := ρ) (t := ρ 28) (hR.m ht)
  have hpc := pcn_le _ hm
  have hmu := muR_le ρ
  have hot := otR_le s ρ
  have R2 := (rd2_ok (s := s) (b := b) (tk := tk) hR htl hr hl hq).1
  have R1 := rd1_ok (r := r) (s := s) (b := b) (tk := tk) hR htl hl
  have Q1 := rd1_q (r := r) (s := s) (b := b) (tk := tk) hR htl hl
  have R3 := rd3_ok R2 ht
  have R4 := rd4_ok R3 ht
  have R5 := rd5_ok R4 ht
  have R6 := rd6_ok R5 ht
  have R7 := rd7_ok R6 ht
  have R8 := rd8_ok R7 ht
  have R9 := rd9_ok R8
  have R10 := rd10_ok R9 ht
  have R11 := rd11_ok R10 ht
  have SC := sc11 (s := s) (b := b) (tk := tk) hR htl hr hl hq
  have hb8 := rb8_le r s b tk tl ρ
  have hlen := mt.1
  have R0 : RW (recR r s b tk tl ρ) := hR.congr (fun k hk _ => rec_lo hk)
  unfold fX11_raids
  rw [e_raids_l2]
  refine sBn (a := nI (ρ 28)) (M := nwS M (aheadR ρ)) (by rw [e_get (by decide), lo 28 (by decide)]) ?_
  refine sLe (b := nI (1 - ρ 28)) (eSub (by omega)) ?_
  refine sBn (a := nI (mOn (1 - ρ 28) ρ)) (M := nwS M (aheadR ρ)) (by rw [e_thO (by omega) hR1, mOn_rec (r := 0) (s := 0) (b := 0) (tk := 0) (tl := []) hR (by omega) lo]) ?_
  refine sBn (e_bits hm) ?_
  refine sBn (a := nI (ρ 25)) (M := nwS M (aheadR ρ)) (by rw [e_get (by decide), lo 25 (by decide)]) ?_
  refine sLe (b := nI (235 + 15 * ρ 25)) (by rw [pk_mul, nI_add]) ?_
  refine sGn (30 + ρ 28) (nI_add _ _) (by omega) ?_
  refine sJw (nI (muR ρ)) (nwS M (aheadR ρ)) (fun J => ?_) ?_
  · simp (disch := omega) only [pk_mul, nI_add, nI_1, eLt, eBn, eBv, nwS_w, nwS_1, xlnw, eGb, eCl, nwS_wL, nwS_wI, e_get, e_many, e_isOf, eI2L, eL2I, nwS_at, lf_at, lN_add, lN_1, eLe, eLtI, eEq, eEq0, eCmp0, eCmpLe, eCmpGe, eCmpLt, eCmpGt, eLE, eLLe, eLLt, va_at_ne, va_at_eq, lo (30 + ρ 28) (by omega)]
    unfold muR
    by_cases h : ρ (30 + ρ 28) = 2
    · rw [if_pos h, if_pos h]
    · rw [if_neg h, if_neg h]
  refine sBn (a := nI (scR (ρ 28) ρ)) (M := nwS M (aheadR ρ)) (by rw [e_scO ht, scR_lo ht (fun k _ h => lo k (by omega))]) ?_
  refine sBn (a := nI (scR (1 - ρ 28) ρ)) (M := nwS M (aheadR ρ)) (by rw [e_scO (by omega), scR_lo (by omega) (fun k _ h => lo k (by omega))]) ?_
  refine sJw (nI (otR s ρ)) (nwS M (aheadR ρ)) (fun J => ?_) ?_
  · rw [nwS_1, m5]
    simp (disch := omega) only [pk_mul, nI_add, nI_1, eLt, eBn, eBv, nwS_w, nwS_1, xlnw, eGb, eCl, nwS_wL, nwS_wI, e_get, e_many, e_isOf, eI2L, eL2I, nwS_at, lf_at, lN_add, lN_1, eLe, eLtI, eEq, eEq0, eCmp0, eCmpLe, eCmpGe, eCmpLt, eCmpGt, eLE, eLLe, eLLt, va_at_ne, va_at_eq]
    unfold otR
    rcases hmu with h | h <;> rw [h] <;> rcases (show s = 0 ∨ s = 1 ∨ s = 2 ∨ s = 3 ∨ s = 4 by omega) with rfl | rfl | rfl | rfl | rfl <;> simp
  refine sGn (235 + 15 * ρ 25 + 0) (nI_add _ _) (by omega) ?_
  refine sWn (235 + 15 * ρ 25) (ρ 28) rfl (eCl2 (by omega)) (eI2L (by omega)) ?_
  refine sGn (235 + 15 * ρ 25 + 1) (nI_add _ _) (by omega) ?_
  refine sWn (235 + 15 * ρ 25 + 1) r rfl (eCl2 (by omega)) (eI2L' m4 (by omega)) ?_
  refine sGn (235 + 15 * ρ 25 + 2) (nI_add _ _) (by omega) ?_
  refine sWn (235 + 15 * ρ 25 + 2) s rfl (eCl2 (by omega)) (eI2L' m5 (by omega)) ?_
  have w6 : ∀ k, k < 130 → (va_up (va_up (va_up (va_up (va_up (va_up (aheadR ρ) (235 + 15 * ρ 25) (ρ 28)) (235 + 15 * ρ 25 + 1) r) (235 + 15 * ρ 25 + 2) s) (235 + 15 * ρ 25 + 5) (setV s tk tl)) (235 + 15 * ρ 25 + 6) b) (235 + 15 * ρ 25 + 7) (muR ρ)) k = ρ k := fun k hk => by simp (disch := omega) only [va_at_ne]; exact lo k hk
  have w7 : ∀ k, k < 130 → (va_up (va_up (va_up (va_up (va_up (va_up (va_up (aheadR ρ) (235 + 15 * ρ 25) (ρ 28)) (235 + 15 * ρ 25 + 1) r) (235 + 15 * ρ 25 + 2) s) (235 + 15 * ρ 25 + 5) (setV s tk tl)) (235 + 15 * ρ 25 + 6) b) (235 + 15 * ρ 25 + 7) (muR ρ)) (235 + 15 * ρ 25 + 10 + ρ 28) (mOn (ρ 28) ρ)) k = ρ k := fun k hk => by rw [va_at_ne (by omega)]; exact w6 k hk
  have R6' : RW (va_up (va_up (va_up (va_up (va_up (va_up (aheadR ρ) (235 + 15 * ρ 25) (ρ 28)) (235 + 15 * ρ 25 + 1) r) (235 + 15 * ρ 25 + 2) s) (235 + 15 * ρ 25 + 5) (setV s tk tl)) (235 + 15 * ρ 25 + 6) b) (235 + 15 * ρ 25 + 7) (muR ρ)) := hR.congr (fun k hk _ => w6 k hk)
  have R7' : RW (va_up (va_up (va_up (va_up (va_up (va_up (va_up (aheadR ρ) (235 + 15 * ρ 25) (ρ 28)) (235 + 15 * ρ 25 + 1) r) (235 + 15 * ρ 25 + 2) s) (235 + 15 * ρ 25 + 5) (setV s tk tl)) (235 + 15 * ρ 25 + 6) b) (235 + 15 * ρ 25 + 7) (muR ρ)) (235 + 15 * ρ 25 + 10 + ρ 28) (mOn (ρ 28) ρ)) := hR.congr (fun k hk _ => w7 k hk)
  have mtN : ∀ σ, tlOk (nwS M σ) tl := fun σ => mt
  have hsetlt : setR tl < 1024 := setR_lt (by decide) htl
  refine sJw (lN (setV s tk tl)) (nwS M (va_up (va_up (va_up (aheadR ρ) (235 + 15 * ρ 25) (ρ 28)) (235 + 15 * ρ 25 + 1) r) (235 + 15 * ρ 25 + 2) s)) (fun J => ?_) ?_
  · unfold setV
    by_cases e3 : s = 3
    · refine sT (by rw [nwS_1, m5, e3]) ?_
      rw [if_pos e3, nwS_1, eI2L' (m9 e3) (by omega)]
    · refine sF (by rw [nwS_1, m5, eEq (by omega) (by decide)]; exact e3) ?_
      rw [if_neg e3]
      by_cases e1 : s = 1
      · refine sT (by rw [nwS_1, m5, e1]) ?_
        rw [if_pos e1, e_setOf (mtN _), eBn, eI2L (by omega)]
      · refine sF (by rw [nwS_1, m5, eEq (by omega) (by decide)]; exact e1) ?_
        rw [if_neg e1, e_m1]
  refine sGn (235 + 15 * ρ 25 + 5) (nI_add _ _) (by omega) ?_
  refine sWn (235 + 15 * ρ 25 + 5) (setV s tk tl) rfl (eCl2 (by omega)) rfl ?_
  refine sJw (lN b) (nwS M (va_up (va_up (va_up (va_up (aheadR ρ) (235 + 15 * ρ 25) (ρ 28)) (235 + 15 * ρ 25 + 1) r) (235 + 15 * ρ 25 + 2) s) (235 + 15 * ρ 25 + 5) (setV s tk tl))) (fun J => ?_) ?_
  · rcases (show b = 0 ∨ b = 1 by omega) with e | e
    · exact sT (by rw [nwS_1, m6, e]; decide) (by rw [e])
    · exact sF (by rw [nwS_1, m6, e]; decide) (by rw [e])
  refine sGn (235 + 15 * ρ 25 + 6) (nI_add _ _) (by omega) ?_
  refine sWn (235 + 15 * ρ 25 + 6) b rfl (eCl2 (by omega)) rfl ?_
  refine sJw (lN (muR ρ)) (nwS M (va_up (va_up (va_up (va_up (va_up (aheadR ρ) (235 + 15 * ρ 25) (ρ 28)) (235 + 15 * ρ 25 + 1) r) (235 + 15 * ρ 25 + 2) s) (235 + 15 * ρ 25 + 5) (setV s tk tl)) (235 + 15 * ρ 25 + 6) b)) (fun J => ?_) ?_
  · rcases hmu with e | e
    · exact sT (by rw [e]; decide) (by rw [e])
    · exact sF (by rw [e]; decide) (by rw [e])
  refine sGn (235 + 15 * ρ 25 + 7) (nI_add _ _) (by omega) ?_
  refine sWn (235 + 15 * ρ 25 + 7) (muR ρ) rfl (eCl2 (by omega)) rfl ?_
  refine sBn (a := nI (mOn (ρ 28) ρ)) (M := nwS M (va_up (va_up (va_up (va_up (va_up (va_up (aheadR ρ) (235 + 15 * ρ 25) (ρ 28)) (235 + 15 * ρ 25 + 1) r) (235 + 15 * ρ 25 + 2) s) (235 + 15 * ρ 25 + 5) (setV s tk tl)) (235 + 15 * ρ 25 + 6) b) (235 + 15 * ρ 25 + 7) (muR ρ))) (by rw [e_thO ht R6', mOn_rec (r := 0) (s := 0) (b := 0) (tk := 0) (tl := []) hR ht w6]) ?_
  refine sGn (235 + 15 * ρ 25 + 10 + ρ 28) (nI_add3 _ _ _) (by omega) ?_
  refine sWn (235 + 15 * ρ 25 + 10 + ρ 28) (mOn (ρ 28) ρ) rfl (eCl3 (by omega)) (eI2L (by omega)) ?_
  refine sBn (a := nI (mOn (1 - ρ 28) ρ)) (M := nwS M (va_up (va_up (va_up (va_up (va_up (va_up (va_up (aheadR ρ) (235 + 15 * ρ 25) (ρ 28)) (235 + 15 * ρ 25 + 1) r) (235 + 15 * ρ 25 + 2) s) (235 + 15 * ρ 25 + 5) (setV s tk tl)) (235 + 15 * ρ 25 + 6) b) (235 + 15 * ρ 25 + 7) (muR ρ)) (235 + 15 * ρ 25 + 10 + ρ 28) (mOn (ρ 28) ρ))) (by rw [e_thO (by omega) R7', mOn_rec (r := 0) (s := 0) (b := 0) (tk := 0) (tl := []) hR (by omega) w7]) ?_
  refine sGn (235 + 15 * ρ 25 + 10 + (1 - ρ 28)) (nI_add3 _ _ _) (by omega) ?_
  refine sWn (235 + 15 * ρ 25 + 10 + (1 - ρ 28)) (mOn (1 - ρ 28) ρ) rfl (eCl3 (by omega)) (eI2L (by omega)) ?_
  refine sJw (lN (if s = 1 then ordR tl else 0)) (nwS M (va_up (va_up (va_up (va_up (va_up (va_up (va_up (va_up (aheadR ρ) (235 + 15 * ρ 25) (ρ 28)) (235 + 15 * ρ 25 + 1) r) (235 + 15 * ρ 25 + 2) s) (235 + 15 * ρ 25 + 5) (setV s tk tl)) (235 + 15 * ρ 25 + 6) b) (235 + 15 * ρ 25 + 7) (muR ρ)) (235 + 15 * ρ 25 + 10 + ρ 28) (mOn (ρ 28) ρ)) (235 + 15 * ρ 25 + 10 + (1 - ρ 28)) (mOn (1 - ρ 28) ρ))) (fun J => ?_) ?_
  · by_cases e1 : s = 1
    · refine sT (by rw [nwS_1, m5, e1]) ?_
      rw [if_pos e1, e_orderOf (mtN _), eBn]
    · refine sF (by rw [nwS_1, m5, eEq (by omega) (by decide)]; exact e1) ?_
      rw [if_neg e1]
  refine sGn (235 + 15 * ρ 25 + 12) (nI_add _ _) (by omega) ?_
  refine sWn (235 + 15 * ρ 25 + 12) (if s = 1 then ordR tl else 0) rfl (eCl2 (by omega)) rfl ?_
  refine sGn (235 + 15 * ρ 25 + 13) (nI_add _ _) (by omega) ?_
  refine sWn (235 + 15 * ρ 25 + 13) 0 rfl (eCl2 (by omega)) rfl ?_
  refine sGn (235 + 15 * ρ 25 + 13 + 1) (nI_add3 _ _ _) (by omega) ?_
  refine sWn (235 + 15 * ρ 25 + 14) 0 rfl (eCl3 (by omega)) rfl ?_
  have recq : recR r s b tk tl ρ (108 + (1 - ρ 28)) = ρ (108 + (1 - ρ 28)) := rec_lo (by omega)
  refine (e_raids_l357 (t := 0) (ρ := recR r s b tk tl ρ) (o := 1 - ρ 28) _ _ _ _ _ _ _ (by omega) m5 hs mt R0 (by rw [recq]; exact hl) _ (fun _ _ _ => rfl)).trans ?_
  refine sJx (nwS M (rd2 r s b tk tl ρ)) (fun J => ?_) ?_
  · rcases hot with e | e
    · refine sT (by rw [e]; decide) ?_
      have e2 : rd2 r s b tk tl ρ = rd1 r s b tk tl ρ := by unfold rd2; rw [if_neg (by omega)]
      rw [e2]
      rfl
    · refine sF (by rw [e]; decide) (sBv (M := nwS M (rd2 r s b tk tl ρ)) ?_ rfl)
      show fX11_goesOut 146 (nI (ρ 28)) (M.1 146 4) (nwS M (rd1 r s b tk tl ρ)) = _
      rw [m4, e_goesOut ht hr (by rw [Q1]; exact hq)]
      unfold rd2
      rw [if_pos e]
  refine sJx (nwS M (rd3 r s b tk tl ρ)) (fun J => ?_) ?_
  · by_cases e : s = 1
    · refine sT (by rw [nwS_1, m5, e]) (sBv (M := nwS M (rd3 r s b tk tl ρ)) ?_ rfl)
      rw [nwS_1, mt.2.1, e_scores ht (by decide) (by omega)]
      unfold rd3
      rw [if_pos e]
    · refine sF (by rw [nwS_1, m5, eEq (by omega) (by decide)]; exact e) ?_
      unfold rd3
      rw [if_neg e]
  refine (e_raids_l430 (ρ := rd3 r s b tk tl ρ) _ _ _ _ _ _ _ ht m5 hs mt R3 _ (fun _ _ _ _ => rfl)).trans ?_
  refine sJx (nwS M (rd5 r s b tk tl ρ)) (fun J => ?_) ?_
  · have key : fX11_scores 146 (nI (ρ 28)) (nI 1) (nI 1) (nwS M (rd4 r s b tk tl ρ)) = some (nwS M (addR (36 + 6 * ρ 28 + 1) 1 (rd4 r s b tk tl ρ))) := e_scores ht (by decide) (by decide)
    show xLt (fun M121 => (xBv (fX11_scores 146 (nI (ρ 28)) (nI 1) (nI 1) M121) fun M122 => J M122)) (fun J478 => if M.1 146 6 = 0 then (if M.1 146 5 = nI 2 then J478 (nwS M (rd4 r s b tk tl ρ)) else J (nwS M (rd4 r s b tk tl ρ))) else J478 (nwS M (rd4 r s b tk tl ρ))) = _
    rw [eLt, m5, m6]
    simp only [key, eBv]
    rcases (show b = 0 ∨ b = 1 by omega) with e | e
    · refine sT (by rw [e]; decide) ?_
      by_cases e2 : s = 2
      · refine sT (by rw [e2]) ?_
        unfold rd5
        rw [if_pos (Or.inr e2)]
      · refine sF (by rw [eEq (by omega) (by decide)]; exact e2) ?_
        unfold rd5
        rw [if_neg (by omega)]
    · refine sF (by rw [e]; decide) ?_
      unfold rd5
      rw [if_pos (Or.inl e)]
  refine sJx (nwS M (rd6 r s b tk tl ρ)) (fun J => ?_) ?_
  · rcases hot with e | e
    · refine sT (by rw [e]; decide) ?_
      have e2 : rd6 r s b tk tl ρ = rd5 r s b tk tl ρ := by unfold rd6; rw [if_neg (by omega)]
      rw [e2]
    · refine sF (by rw [e]; decide) ?_
      refine sJw (nI (if s = 3 then 2 else 5)) (nwS M (rd5 r s b tk tl ρ)) (fun J' => ?_) ?_
      · rw [nwS_1, m5]
        by_cases e3 : s = 3
        · exact sT (by rw [e3]) (by rw [if_pos e3])
        · exact sF (by rw [eEq (by omega) (by decide)]; exact e3) (by rw [if_neg e3])
      · rw [e_scores (by omega) (by split <;> decide) (by decide), eBv]
        unfold rd6
        rw [if_pos e]
  refine sJx (nwS M (rd7 r s b tk tl ρ)) (fun J => ?_) ?_
  · rw [nwS_1, m5]
    by_cases e3 : s = 3
    · refine sT (by rw [e3]) ?_
      by_cases e4 : pcn (mOn (1 - ρ 28) ρ) ≤ 3
      · refine sF (by rw [eLtI (by decide) (by omega)]; omega) ?_
        rw [e_scores (by omega) (by decide) (by decide), eBv]
        unfold rd7
        rw [if_pos ⟨e3, e4⟩]
      · refine sT (by rw [eLtI (by decide) (by omega)]; omega) ?_
        unfold rd7
        rw [if_neg (fun q => e4 q.2)]
    · refine sF (by rw [eEq (by omega) (by decide)]; exact e3) ?_
      unfold rd7
      rw [if_neg (fun q => e3 q.1)]
  refine sJw (nI (rb8 r s b tk tl ρ)) (nwS M (rd8 r s b tk tl ρ)) (fun J => ?_) ?_
  · rcases hot with e | e
    · refine sT (by rw [e]; decide) ?_
      have e2 : rd8 r s b tk tl ρ = rd7 r s b tk tl ρ := by unfold rd8; rw [if_neg (by omega)]
      have e3 : rb8 r s b tk tl ρ = rb4 r s b tk tl ρ := by unfold rb8; rw [if_neg (by omega)]
      rw [e2, e3]
      rfl
    · refine sF (by rw [e]; decide) ?_
      rw [e_back (by omega) (R7.q (by omega)).1 (fun j hj => qOk_at (R7.q (by omega)) hj), eBn, eLt]
      show J (nI (rb4 r s b tk tl ρ) + _) _ = _
      rw [nI_add]
      unfold rb8 rd8
      rw [if_pos e, if_pos e]
  refine sGn (235 + 15 * ρ 25 + 8) (nI_add _ _) (by omega) ?_
  refine sWn (235 + 15 * ρ 25 + 8) (rb8 r s b tk tl ρ) rfl (eCl2 (by omega)) (eI2L (by omega)) ?_
  have R8' : RW (va_up (rd8 r s b tk tl ρ) (235 + 15 * ρ 25 + 8) (rb8 r s b tk tl ρ)) := R8.up (Or.inr (by omega))
  refine sBv (e_waits (R8'.w (by decide)) (R8'.w (by decide))) ?_
  refine sBn (M := nwS M (rd10 r s b tk tl ρ)) (a := nI (if isAll (1 - ρ 28) (rd9 r s b tk tl ρ) then 1 else 0)) (e_allOutOf (ρ := rd9 r s b tk tl ρ) (by omega) (R9.m (by omega)) (R9.s (by omega)) (R9.q (by omega))) ?_
  refine sJw (nI (if isAll (1 - ρ 28) (rd9 r s b tk tl ρ) then 2 ^ (1 - ρ 28) else 0)) (nwS M (rd10 r s b tk tl ρ)) (fun J => ?_) ?_
  · by_cases e : isAll (1 - ρ 28) (rd9 r s b tk tl ρ) = true
    · rw [if_pos e, if_pos e]
      exact sF (by decide) (by rw [e_shl1 _ (by omega)])
    · rw [if_neg e, if_neg e]
      exact sT (by decide) rfl
  refine sBn (M := nwS M (rd11 r s b tk tl ρ)) (a := nI (if isAll (ρ 28) (rd10 r s b tk tl ρ) then 1 else 0)) (e_allOutOf (ρ := rd10 r s b tk tl ρ) ht (R10.m ht) (R10.s ht) (R10.q ht)) ?_
  refine sJw (nI (if isAll (ρ 28) (rd10 r s b tk tl ρ) then 2 ^ ρ 28 else 0)) (nwS M (rd11 r s b tk tl ρ)) (fun J => ?_) ?_
  · by_cases e : isAll (ρ 28) (rd10 r s b tk tl ρ) = true
    · rw [if_pos e, if_pos e]
      exact sF (by decide) (by rw [e_shl1 _ (by omega)])
    · rw [if_neg e, if_neg e]
      exact sT (by decide) rfl
  refine sLe (b := nI (ra11 r s b tk tl ρ)) (e_orN _ _) ?_
  have hra : ra11 r s b tk tl ρ < 4 := by
    unfold ra11
    rcases (show ρ 28 = 0 ∨ ρ 28 = 1 by omega) with e | e <;> rw [e] <;> split <;> split <;> decide
  have hown : ownR r s b tk tl ρ ≤ 13 := by
    unfold ownR
    split <;> split <;> split <;> omega
  have hoth : othR r s b tk tl ρ ≤ 4 := by
    unfold othR
    split <;> split <;> split <;> omega
  refine sGn (235 + 15 * ρ 25 + 9) (nI_add _ _) (by omega) ?_
  refine sWn (235 + 15 * ρ 25 + 9) (ra11 r s b tk tl ρ) rfl (eCl2 (by omega)) (eI2L (by omega)) ?_
  refine sBn (M := nwS M (va_up (rd11 r s b tk tl ρ) (235 + 15 * ρ 25 + 9) (ra11 r s b tk tl ρ))) (a := nI (scR (ρ 28) (rd11 r s b tk tl ρ))) (by rw [e_scO ht, scR_lo ht (fun k h1 h2 => va_at_ne (by omega))]) ?_
  refine sGn (235 + 15 * ρ 25 + 3) (nI_add _ _) (by omega) ?_
  refine sWn (235 + 15 * ρ 25 + 3) (scR (ρ 28) (rd11 r s b tk tl ρ) - scR (ρ 28) ρ) rfl (eCl2 (by omega)) (eI2L' (eSub (by omega)) (by omega)) ?_
  refine sBn (M := nwS M (va_up (va_up (rd11 r s b tk tl ρ) (235 + 15 * ρ 25 + 9) (ra11 r s b tk tl ρ)) (235 + 15 * ρ 25 + 3) (scR (ρ 28) (rd11 r s b tk tl ρ) - scR (ρ 28) ρ))) (a := nI (scR (1 - ρ 28) (rd11 r s b tk tl ρ))) (by rw [e_scO (by omega), scR_lo (by omega) (fun k h1 h2 => va_at_ne (by omega)), scR_lo (by omega) (fun k h1 h2 => va_at_ne (by omega))]) ?_
  refine sGn (235 + 15 * ρ 25 + 4) (nI_add _ _) (by omega) ?_
  refine sWn (235 + 15 * ρ 25 + 4) (scR (1 - ρ 28) (rd11 r s b tk tl ρ) - scR (1 - ρ 28) ρ) rfl (eCl2 (by omega)) (eI2L' (eSub (by omega)) (by omega)) ?_
  have d12 : ∀ k, k < 36 → rd12 r s b tk tl ρ k = ρ k := fun k hk => by
    unfold rd12
    simp (disch := omega) only [va_at_ne]
    exact rd11_lo hR htl hr hl hq hk
  refine sJw (lN (if s = 0 ∧ muR ρ = 0 then ρ (30 + ρ 28) + 1 else 0)) (nwS M (rd12 r s b tk tl ρ)) (fun J => ?_) ?_
  · show xLt (fun M112 => J (lN 0) M112) (fun J681 => if M.1 146 5 = 0 then (if nI (muR ρ) = 0 then (xGb (nI 30 + nI (ρ 28)) (xln (xnw (nwS M (rd12 r s b tk tl ρ)))) (J ((nwS M (rd12 r s b tk tl ρ)).2.1 (xnw M) (Int32.toNatClampNeg (nI 30 + nI (ρ 28))) + lN 1) (nwS M (rd12 r s b tk tl ρ)))) else (J681 (nwS M (rd12 r s b tk tl ρ)))) else (J681 (nwS M (rd12 r s b tk tl ρ)))) = _
    rw [eLt, m5]
    by_cases e0 : s = 0
    · refine sT (by rw [e0]; decide) ?_
      rcases hmu with e | e
      · refine sT (by rw [e]; decide) (sGn (30 + ρ 28) (nI_add _ _) (by omega) ?_)
        rw [nwS_at, eCl2 (by omega), lf_at, d12 _ (by omega), lN_add, if_pos ⟨e0, e⟩]
      · refine sF (by rw [e]; decide) ?_
        rw [if_neg (by omega)]
    · refine sF (eN0 (by omega) e0) ?_
      rw [if_neg (fun q => e0 q.1)]
  refine sGn (30 + ρ 28) (nI_add _ _) (by omega) ?_
  refine sWn (30 + ρ 28) (if s = 0 ∧ muR ρ = 0 then ρ (30 + ρ 28) + 1 else 0) rfl (eCl2 (by omega)) rfl ?_
  refine sGn 28 rfl (by decide) ?_
  refine sWn 28 (1 - ρ 28) rfl (eCl (by decide)) (eI2L (by omega)) ?_
  refine sGn 25 rfl (by decide) (sGn 25 rfl (by decide) ?_)
  refine sWn 25 (ρ 25 + 1) rfl (eCl (by decide)) ?_ ?_
  · rw [nwS_w, nwS_at, eCl (by decide), lf_at, va_at_ne (by decide), va_at_ne (by omega), d12 25 (by decide), lN_add]
  refine sGn 29 rfl (by decide) ?_
  refine sWn 29 1 rfl (eCl (by decide)) rfl ?_
  rfl
