/-! ===== numbers and the steps of the pure functions ===== -/
theorem eGb {β : Type} {F : Option β} {k n : Nat} (h : k < n) (hn : n < 2147483648) : xGb (nI k) n F = F := by
  unfold xGb
  rw [if_neg]
  rintro (q | q)
  · exact nI_pos (by omega) q
  · rw [nI_clamp (by omega)] at q; omega
theorem eGd {β : Type} {P : Prop} [Decidable P] {F : Option β} (h : P) : xGd P F = F := if_pos h
theorem eBn {α β : Type} (a : α) (M : xMem) (F : α → xMem → Option β) : xBn (some (a, M)) F = F a M := rfl
theorem eBv {β : Type} (M : xMem) (F : xMem → Option β) : xBv (some M) F = F M := rfl
theorem eLt {α β : Type} (a : α) (F : α → β) : xLt a F = F a := rfl
theorem eCl {k : Nat} (h : k < 2147483648) : (nI k).toNatClampNeg = k := nI_clamp h
theorem eLe {a b : Nat} (ha : a < 2147483648) (hb : b < 2147483648) : (nI a ≤ nI b) = (a ≤ b) := propext (nI_leI ha hb)
theorem eLtI {a b : Nat} (ha : a < 2147483648) (hb : b < 2147483648) : (nI a < nI b) = (a < b) := propext (nI_ltI ha hb)
theorem eEq {a b : Nat} (ha : a < 2147483648) (hb : b < 2147483648) : (nI a = nI b) = (a = b) := propext (nI_eq ha hb)
theorem eEq0 {a : Nat} (ha : a < 2147483648) : (nI a = 0) = (a = 0) := by
  have h : (0 : Int32) = nI 0 := by decide
  rw [h]
  exact propext (nI_eq ha (by decide))
theorem eZ : (0 : Int32) = nI 0 := by decide
theorem eSub {a b : Nat} (h : b ≤ a) : nI a - nI b = nI (a - b) := pk_sub h
theorem eL2I (n : Nat) : Int64.toInt32 (lN n) = nI n := lN_i n
theorem eI2L {n : Nat} (h : n < 2147483648) : Int32.toInt64 (nI n) = lN n := nI_l h
theorem eLE {a b : Nat} (ha : a < 9223372036854775808) (hb : b < 9223372036854775808) : (lN a = lN b) = (a = b) := propext (pk_lEQ ha hb)
theorem eCmp0 (x y : Int64) : (lg_cmp x y = 0) = (x = y) := by
  apply propext
  unfold lg_cmp
  constructor
  · intro h
    by_cases h1 : x > y
    · rw [if_pos h1] at h; exact absurd h (by decide)
    · rw [if_neg h1] at h
      by_cases h2 : x = y
      · exact h2
      · rw [if_neg h2] at h; exact absurd h (by decide)
  · intro h
    subst h
    rw [if_neg (by simp), if_pos rfl]
theorem eCmpLt (x y : Int64) : (lg_cmp x y < 0) = (x < y) := by
  apply propext
  unfold lg_cmp
  simp only [gt_iff_lt, Int64.lt_iff_toInt_lt, ← Int64.toInt_inj]
  by_cases h1 : y.toInt < x.toInt
  · rw [if_pos h1]
    exact ⟨fun h => absurd h (by decide), fun h => by omega⟩
  · rw [if_neg h1]
    by_cases h2 : x.toInt = y.toInt
    · rw [if_pos h2]
      exact ⟨fun h => absurd h (by decide), fun h => by omega⟩
    · rw [if_neg h2]
      exact ⟨fun _ => by omega, fun _ => by decide⟩
theorem eCmpGt (x y : Int64) : (0 < lg_cmp x y) = (y < x) := by
  apply propext
  unfold lg_cmp
  simp only [gt_iff_lt, Int64.lt_iff_toInt_lt, ← Int64.toInt_inj]
  by_cases h1 : y.toInt < x.toInt
  · rw [if_pos h1]
    exact ⟨fun _ => h1, fun _ => by decide⟩
  · rw [if_neg h1]
    by_cases h2 : x.toInt = y.toInt
    · rw [if_pos h2]
      exact ⟨fun h => absurd h (by decide), fun h => by omega⟩
    · rw [if_neg h2]
      exact ⟨fun h => absurd h (by decide), fun h => by omega⟩
theorem eCmpLe (x y : Int64) : (lg_cmp x y ≤ 0) = (x ≤ y) := by
  apply propext
  have h := eCmpGt x y
  rw [← Int32.not_lt, ← Int64.not_lt, h]
theorem eCmpGe (x y : Int64) : (0 ≤ lg_cmp x y) = (y ≤ x) := by
  apply propext
  have h := eCmpLt x y
  rw [← Int32.not_lt, ← Int64.not_lt, h]
theorem eLLt {a b : Nat} (ha : a < 9223372036854775808) (hb : b < 9223372036854775808) : (lN a < lN b) = (a < b) := propext (pk_lLT ha hb)
theorem eLLe {a b : Nat} (ha : a < 9223372036854775808) (hb : b < 9223372036854775808) : (lN a ≤ lN b) = (a ≤ b) := propext (pk_lLE ha hb)
theorem xFU_eq : xFU = 40000 := rfl
/-! rows of natural numbers -/
def lf (ρ : Nat → Nat) : Nat → Int64 := fun k => lN (ρ k)
theorem lf_up (ρ : Nat → Nat) (k v : Nat) : vp_updL (lf ρ) k (lN v) = lf (va_up ρ k v) := by
  funext j
  unfold vp_updL lf va_up
  by_cases h : j = k <;> simp [h]
theorem lf_at (ρ : Nat → Nat) (k : Nat) : lf ρ k = lN (ρ k) := rfl
/-- the memory with this row as 'now' -/
def nwS (M : xMem) (ρ : Nat → Nat) : xMem := xwQ M (xnw M) (lf ρ)
theorem nwS_w (M : xMem) (ρ : Nat → Nat) : xnw (nwS M ρ) = xnw M := rfl
theorem nwS_at (M : xMem) (ρ : Nat → Nat) : (nwS M ρ).2.1 (xnw M) = lf ρ := by simp [nwS, xwQ, va_up]
theorem nwS_1 (M : xMem) (ρ : Nat → Nat) : (nwS M ρ).1 = M.1 := rfl
theorem nwS_22 (M : xMem) (ρ : Nat → Nat) : (nwS M ρ).2.2 = M.2.2 := rfl
theorem nwS_nwS (M : xMem) (ρ σ : Nat → Nat) : nwS (nwS M ρ) σ = nwS M σ := by
  unfold nwS
  have : xnw (xwQ M (xnw M) (lf ρ)) = xnw M := rfl
  rw [this]
  simp only [xwQ, bx_uu]
theorem nwS_of {M : xMem} {ρ : Nat → Nat} (h : M.2.1 (xnw M) = lf ρ) : M = nwS M ρ := by
  unfold nwS
  rw [← h]
  simp only [xwQ]
  have : va_up M.2.1 (xnw M) (M.2.1 (xnw M)) = M.2.1 := by
    funext j
    unfold va_up
    by_cases h : j = xnw M <;> simp [h]
  rw [this]
theorem nwS_wI (M : xMem) (ρ : Nat → Nat) (k j : Nat) (v : Int32) : xwI (nwS M ρ) k j v = nwS (xwI M k j v) ρ := rfl
theorem nwS_wL {M : xMem} {ρ : Nat → Nat} {k v : Nat} : xwL (nwS M ρ) (xnw M) k (lN v) = nwS M (va_up ρ k v) := by
  unfold xwL
  rw [nwS_at, lf_up]
  show xwQ (nwS M ρ) (xnw (nwS M ρ)) _ = _
  exact nwS_nwS M ρ _
theorem e_get {M : xMem} {ρ : Nat → Nat} {k : Nat} (hk : k < 3235) : fX11_get 146 (nI k) (nwS M ρ) = some (nI (ρ k), nwS M ρ) := by
  unfold fX11_get
  rw [nwS_w, xlnw, eGb hk (by decide), eCl (by omega), nwS_at, lf_at, eL2I]
