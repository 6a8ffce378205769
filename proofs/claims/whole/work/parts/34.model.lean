/-! ===== waiting; the touched ones; bits ===== -/
def wS (t i : Nat) (ρ : Nat → Nat) : Nat → Nat := if ρ (48 + 10 * t + i) = 3 then (if ρ (68 + 10 * t + i) - 1 = 0 then va_up (va_up ρ (68 + 10 * t + i) 0) (48 + 10 * t + i) 0 else va_up ρ (68 + 10 * t + i) (ρ (68 + 10 * t + i) - 1)) else ρ
def waitsT (t : Nat) : Nat → (Nat → Nat) → (Nat → Nat)
  | 0, ρ => ρ
  | n + 1, ρ => wS t n (waitsT t n ρ)
theorem wS_ne {t i k : Nat} {ρ : Nat → Nat} (h1 : k ≠ 48 + 10 * t + i) (h2 : k ≠ 68 + 10 * t + i) : wS t i ρ k = ρ k := by
  unfold wS
  split
  · split
    · rw [va_at_ne h1, va_at_ne h2]
    · rw [va_at_ne h2]
  · rfl
theorem waitsT_ne {t k : Nat} {ρ : Nat → Nat} : ∀ {n : Nat}, (k < 48 + 10 * t ∨ (48 + 10 * t + n ≤ k ∧ k < 68 + 10 * t) ∨ 68 + 10 * t + n ≤ k) → n ≤ 10 → waitsT t n ρ k = ρ k
  | 0, _, _ => rfl
  | n + 1, h, hn => by
    unfold waitsT
    rw [wS_ne (by omega) (by omega)]
    exact waitsT_ne (by omega) (by omega)
def waitsR (ρ : Nat → Nat) : Nat → Nat := waitsT 1 (ρ 2) (waitsT 0 (ρ 1) ρ)
theorem lN_pred {a : Nat} (h : 1 ≤ a) : lN a - lN 1 = lN (a - 1) := lN_sub h
/-- who is put off waits still -/
def wOk (ρ : Nat → Nat) (t : Nat) : Prop := ρ (1 + t) ≤ 10 ∧ ∀ i, i < 10 → ρ (48 + 10 * t + i) < 5 ∧ ρ (68 + 10 * t + i) < 7 ∧ (ρ (48 + 10 * t + i) = 3 → 1 ≤ ρ (68 + 10 * t + i))
theorem e_waits_l9 {M : xMem} {ρ : Nat → Nat} {t : Nat} (ht : t < 2) (hw : wOk ρ t) (K : Int32 → xMem → Option xMem) :
    fX11_waits_l9 146 (nI t) K xFU (nI 0) (nwS M ρ) = K (nI (ρ (1 + t))) (nwS M (waitsT t (ρ (1 + t)) ρ)) := by
  have h0 := hw.1
  have hm : ∀ n, n ≤ 10 → waitsT t n ρ (1 + t) = ρ (1 + t) := fun n hn => waitsT_ne (by omega) hn
  refine loopU (fun n i => fX11_waits_l9 146 (nI t) K n (nI i) (nwS M (waitsT t i ρ))) (ρ (1 + t)) _ (by omega) (fun n i hi => ?_) (fun n => ?_)
  · obtain ⟨a1, a2, a3⟩ := hw.2 i (by omega)
    have b1 : waitsT t i ρ (48 + 10 * t + i) = ρ (48 + 10 * t + i) := waitsT_ne (by omega) (by omega)
    have b2 : waitsT t i ρ (68 + 10 * t + i) = ρ (68 + 10 * t + i) := waitsT_ne (by omega) (by omega)
    have b3 := hm i (by omega)
    rw [fX11_waits_l9.eq_2]
    show _ = fX11_waits_l9 146 (nI t) K n (nI (i + 1)) (nwS M (wS t i (waitsT t i ρ)))
    unfold wS
    simp only [b1, b2]
    simp (disch := omega) only [pk_mul, nI_add, nI_1, eLt, eBn, eBv, nwS_w, nwS_1, xlnw, eGb, eCl, nwS_wL, nwS_wI, e_get, e_many, e_isOf, eI2L, eL2I, nwS_at, lf_at, lN_add, lN_1, eLe, eLtI, eEq, eEq0, eCmp0, eCmpLe, eCmpGe, eCmpLt, eCmpGt, eLE, eLLe, eLLt, va_at_ne, va_at_eq, b1, b2, b3]
    rw [if_neg (by omega)]
    by_cases h : ρ (48 + 10 * t + i) = 3
    · have a4 := a3 h
      rw [if_pos h, if_pos h]
      simp (disch := omega) only [pk_mul, nI_add, nI_1, eLt, eBn, eBv, nwS_w, nwS_1, xlnw, eGb, eCl, nwS_wL, nwS_wI, e_get, e_many, e_isOf, eI2L, eL2I, nwS_at, lf_at, lN_add, lN_1, eLe, eLtI, eEq, eEq0, eCmp0, eCmpLe, eCmpGe, eCmpLt, eCmpGt, eLE, eLLe, eLLt, va_at_ne, va_at_eq, b1, b2, b3, lN_pred]
      by_cases h' : ρ (68 + 10 * t + i) - 1 = 0
      · rw [if_pos h', if_pos h', h']
      · rw [if_neg h', if_neg h']
    · rw [if_neg h, if_neg h]
  · rw [fX11_waits_l9.eq_2]
    have b3 := hm (ρ (1 + t)) h0
    simp (disch := omega) only [pk_mul, nI_add, nI_1, eLt, eBn, eBv, nwS_w, nwS_1, xlnw, eGb, eCl, nwS_wL, nwS_wI, e_get, e_many, e_isOf, eI2L, eL2I, nwS_at, lf_at, lN_add, lN_1, eLe, eLtI, eEq, eEq0, eCmp0, eCmpLe, eCmpGe, eCmpLt, eCmpGt, eLE, eLLe, eLLt, va_at_ne, va_at_eq, b3]
    rw [if_pos (Nat.le_refl _)]
theorem e_waits {M : xMem} {ρ : Nat → Nat} (h0 : wOk ρ 0) (h1 : wOk ρ 1) : fX11_waits 146 (nwS M ρ) = some (nwS M (waitsR ρ)) := by
  have a0 : ρ 1 ≤ 10 := h0.1
  have h1' : wOk (waitsT 0 (ρ 1) ρ) 1 := by
    have e : ∀ k, (k < 48 ∨ 58 ≤ k ∧ k < 68 ∨ 78 ≤ k) → waitsT 0 (ρ 1) ρ k = ρ k := fun k hk => waitsT_ne (by omega) a0
    refine ⟨by rw [e _ (by omega)]; exact h1.1, fun i hi => ?_⟩
    rw [e _ (by omega), e _ (by omega)]
    exact h1.2 i hi
  have e2 : waitsT 0 (ρ 1) ρ (1 + 1) = ρ 2 := waitsT_ne (by omega) a0
  unfold fX11_waits
  refine loopU (fun n i => fX11_waits_l2 146 (fun _ M19 => some M19) n (nI i) (nwS M (if i = 0 then ρ else if i = 1 then waitsT 0 (ρ 1) ρ else waitsR ρ))) 2 _ (by decide) (fun n i hi => ?_) (fun n => ?_)
  · rcases (show i = 0 ∨ i = 1 by omega) with rfl | rfl
    · rw [fX11_waits_l2.eq_2, if_neg (by decide)]
      simp only [if_true]
      rw [e_waits_l9 (by decide) h0]
      rfl
    · rw [fX11_waits_l2.eq_2, if_neg (by decide)]
      simp only [show ¬ (1 : Nat) = 0 by decide, if_true, if_false]
      rw [e_waits_l9 (by decide) h1', e2]
      rfl
  · rw [fX11_waits_l2.eq_2, if_pos (by decide)]
    rfl
/-! the bits of a set -/
def pcn (v : Nat) : Nat := mkC v 10 where
  mkC (v : Nat) : Nat → Nat
    | 0 => 0
    | n + 1 => mkC v n + v / 2 ^ n % 2
theorem pcn_step : ∀ v, v < 1024 → v ≠ 0 → pcn (v &&& (v - 1)) + 1 = pcn v ∧ (v &&& (v - 1)) < v := by decide +kernel
theorem pcn_0 : pcn 0 = 0 := by decide
theorem pcn_le : ∀ v, v < 1024 → pcn v ≤ 10 := by decide +kernel
theorem e_bits_l {M : xMem} {p : Int32} (K : Int32 → Int32 → xMem → Option (Int32 × xMem)) : ∀ (v : Nat) (a n : Nat), v < 1024 → a + pcn v < 2147483648 → v < n → fX11_bits_l4 p K n (nI a) (nI v) M = K (nI (a + pcn v)) (nI 0) M := by
  intro v
  induction v using Nat.strongRecOn with
  | ind v ih =>
    intro a n hv ha hn
    obtain ⟨n, rfl⟩ : ∃ q, n = q + 1 := ⟨n - 1, by omega⟩
    rw [fX11_bits_l4.eq_2]
    simp (disch := omega) only [pk_mul, nI_add, nI_1, eLt, eBn, eBv, nwS_w, nwS_1, xlnw, eGb, eCl, nwS_wL, nwS_wI, e_get, e_many, e_isOf, eI2L, eL2I, nwS_at, lf_at, lN_add, lN_1, eLe, eLtI, eEq, eEq0, eCmp0, eCmpLe, eCmpGe, eCmpLt, eCmpGt, eLE, eLLe, eLLt, va_at_ne, va_at_eq]
    by_cases h : v = 0
    · rw [if_pos h, h, pcn_0]
      rfl
    · obtain ⟨q1, q2⟩ := pcn_step v hv h
      rw [if_neg h, eSub (by omega)]
      have e : nI v &&& nI (v - 1) = nI (v &&& (v - 1)) := by
        unfold nI
        apply Int32.toBitVec_inj.mp
        rw [Int32.toBitVec_and]
        have hb : ∀ k : Nat, (Int32.ofNat k).toBitVec = BitVec.ofNat 32 k := fun k => rfl
        rw [hb, hb, hb]
        apply BitVec.eq_of_toNat_eq
        rw [BitVec.toNat_and, BitVec.toNat_ofNat, BitVec.toNat_ofNat, BitVec.toNat_ofNat, ← Nat.and_mod_two_pow]
      rw [e, ih _ q2 (a + 1) n (by omega) (by omega) (by omega)]
      congr 2
      omega
theorem e_bits {M : xMem} {v : Nat} (hv : v < 1024) : fX11_bits (nI v) M = some (nI (pcn v), M) := by
  have := pcn_le v hv
  unfold fX11_bits
  rw [e_bits_l _ v 0 xFU hv (by omega) (by rw [xFU_eq]; omega)]
  simp
/-! the touched ones, as a list -/
def tlOk (M : xMem) (tl : List Nat) : Prop := tl.length ≤ 10 ∧ M.1 146 8 = nI tl.length ∧ (∀ j (x : Nat), tl[j]? = some x → M.1 149 j = nI x) ∧ ∀ x ∈ tl, x < 10
def orS (s x : Nat) : Nat := s ||| 2 ^ x
def setR (tl : List Nat) : Nat := tl.foldl orS 0
def ordS (v x : Nat) : Nat := v * 11 + x + 1
def ordR (tl : List Nat) : Nat := tl.foldl ordS 0
theorem e_orN (a b : Nat) : nI a ||| nI b = nI (a ||| b) := by
  unfold nI
  apply Int32.toBitVec_inj.mp
  rw [Int32.toBitVec_or]
  have hb : ∀ k : Nat, (Int32.ofNat k).toBitVec = BitVec.ofNat 32 k := fun k => rfl
  rw [hb, hb, hb]
  apply BitVec.eq_of_toNat_eq
  rw [BitVec.toNat_or, BitVec.toNat_ofNat, BitVec.toNat_ofNat, BitVec.toNat_ofNat, ← Nat.or_mod_two_pow]
theorem foldl_take {α : Type} (f : α → Nat → α) (a : α) {l : List Nat} {k x : Nat} (h : l[k]? = some x) : (l.take (k + 1)).foldl f a = f ((l.take k).foldl f a) x := by
  rw [List.take_add_one, h]
  simp
theorem ordR_lt : ∀ (k : Nat) {l : List Nat}, k ≤ 10 → (∀ x ∈ l, x < 10) → (l.take k).foldl ordS 0 < 11 ^ k
  | 0, l, _, _ => by simp
  | k + 1, l, hk, hl => by
    have ih := ordR_lt k (l := l) (by omega) hl
    cases h : l[k]? with
    | none =>
      have e : l.take (k + 1) = l.take k := by rw [List.take_add_one, h]; simp
      rw [e, Nat.pow_succ]
      omega
    | some x =>
      rw [foldl_take _ _ h]
      have hx := hl x (List.mem_of_getElem? h)
      have e : ∀ v y, ordS v y = v * 11 + y + 1 := fun _ _ => rfl
      rw [e, Nat.pow_succ]
      omega
theorem x146_7 : xrf 146 7 = 149 := rfl
theorem xl149 : xln 149 = 10 := rfl
theorem e_setOf {M : xMem} {tl : List Nat} (h : tlOk M tl) : fX11_setOf 146 M = some (nI (setR tl), M) := by
  obtain ⟨h1, h2, h3, h4⟩ := h
  unfold fX11_setOf
  have hL := loopU (fun n k => fX11_setOf_l4 146 (fun v4 v5 M6 => some (v4, M6)) n (nI ((tl.take k).foldl orS 0)) (nI k) M) tl.length (some (nI ((tl.take tl.length).foldl orS 0), M)) (by omega) (fun n k hk => ?_) (fun n => ?_)
  · rw [List.take_length] at hL
    exact hL
  · have hx : tl[k]? = some tl[k] := List.getElem?_eq_getElem hk
    have hx2 := h4 _ (List.mem_of_getElem? hx)
    rw [fX11_setOf_l4.eq_2, h2, foldl_take _ _ hx]
    simp (disch := omega) only [pk_mul, nI_add, nI_1, eLt, eBn, eBv, nwS_w, nwS_1, xlnw, eGb, eCl, nwS_wL, nwS_wI, e_get, e_many, e_isOf, eI2L, eL2I, nwS_at, lf_at, lN_add, lN_1, eLe, eLtI, eEq, eEq0, eCmp0, eCmpLe, eCmpGe, eCmpLt, eCmpGt, eLE, eLLe, eLLt, va_at_ne, va_at_eq, x146_7, xl149]
    rw [if_neg (by omega), h3 k _ hx, e_shl1 _ (by omega), e_orN]
    rfl
  · rw [fX11_setOf_l4.eq_2, h2, if_pos (by rw [eLe (by omega) (by omega)]; exact Nat.le_refl _)]
theorem e_orderOf {M : xMem} {tl : List Nat} (h : tlOk M tl) : fX11_orderOf 146 M = some (lN (ordR tl), M) := by
  obtain ⟨h1, h2, h3, h4⟩ := h
  unfold fX11_orderOf
  have hL := loopU (fun n k => fX11_orderOf_l4 146 (fun v4 v5 M6 => some (v4, M6)) n (lN ((tl.take k).foldl ordS 0)) (nI k) M) tl.length (some (lN ((tl.take tl.length).foldl ordS 0), M)) (by omega) (fun n k hk => ?_) (fun n => ?_)
  · rw [List.take_length] at hL
    exact hL
  · have hx : tl[k]? = some tl[k] := List.getElem?_eq_getElem hk
    have hx2 := h4 _ (List.mem_of_getElem? hx)
    rw [fX11_orderOf_l4.eq_2, h2, foldl_take _ _ hx]
    simp (disch := omega) only [pk_mul, nI_add, nI_1, eLt, eBn, eBv, nwS_w, nwS_1, xlnw, eGb, eCl, nwS_wL, nwS_wI, e_get, e_many, e_isOf, eI2L, eL2I, nwS_at, lf_at, lN_add, lN_1, eLe, eLtI, eEq, eEq0, eCmp0, eCmpLe, eCmpGe, eCmpLt, eCmpGt, eLE, eLLe, eLLt, va_at_ne, va_at_eq, x146_7, xl149]
    rw [if_neg (by omega), h3 k _ hx, lN_mul]
    simp (disch := omega) only [pk_mul, nI_add, nI_1, eLt, eBn, eBv, nwS_w, nwS_1, xlnw, eGb, eCl, nwS_wL, nwS_wI, e_get, e_many, e_isOf, eI2L, eL2I, nwS_at, lf_at, lN_add, lN_1, eLe, eLtI, eEq, eEq0, eCmp0, eCmpLe, eCmpGe, eCmpLt, eCmpGt, eLE, eLLe, eLLt, va_at_ne, va_at_eq]
    rfl
  · rw [fX11_orderOf_l4.eq_2, h2, if_pos (by rw [eLe (by omega) (by omega)]; exact Nat.le_refl _)]
