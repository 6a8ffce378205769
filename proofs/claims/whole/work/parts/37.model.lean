theorem eLtM {β : Type} (a : xMem) (F : xMem → β) : xLt a F = F a := rfl
theorem eLtV {β : Type} (a : Int32) (F : Int32 → β) : xLt a F = F a := rfl
theorem eLtW {β : Type} (a : Int64) (F : Int64 → β) : xLt a F = F a := rfl
theorem eJ1 {α β : Type} (J : α → xMem → Option β) (c : Prop) [Decidable c] (a b : α) (M : xMem) : xLt J (fun J => if c then J a M else J b M) = J (if c then a else b) M := by
  unfold xLt
  split <;> rfl
theorem eJ2 {β : Type} (J : xMem → Option β) (c : Prop) [Decidable c] (M : xMem) (ρ σ : Nat → Nat) : xLt J (fun J => if c then J (nwS M ρ) else J (nwS M σ)) = J (nwS M (if c then ρ else σ)) := by
  unfold xLt
  split <;> rfl
theorem eIfI (c : Prop) [Decidable c] (a b : Nat) : (if c then nI a else nI b) = nI (if c then a else b) := by split <;> rfl
theorem eIfL (c : Prop) [Decidable c] (a b : Nat) : (if c then lN a else lN b) = lN (if c then a else b) := by split <;> rfl
theorem e_m1 : (-1 : Int64) = lN 18446744073709551615 := by decide
theorem e_thO {M : xMem} {ρ : Nat → Nat} {t : Nat} (ht : t < 2) (h : RW ρ) : fX11_thoseOf 146 (nI t) (nI 0) (nwS M ρ) = some (nI (mOn t ρ), nwS M ρ) := e_thoseOf ht (by decide) (h.m ht) (h.s ht)
theorem e_scO {M : xMem} {ρ : Nat → Nat} {t : Nat} (ht : t < 2) : fX11_scoreOf 146 (nI t) (nwS M ρ) = some (nI (scR t ρ), nwS M ρ) := e_scoreOf ht
/-- the raid that lies there -/
def rdOk (M : xMem) (r s b tk : Nat) (tl : List Nat) : Prop := M.1 146 4 = nI r ∧ M.1 146 5 = nI s ∧ M.1 146 6 = nI b ∧ (s = 3 → M.1 146 9 = nI tk) ∧ tlOk M tl ∧ r < 10 ∧ s < 5 ∧ b < 2 ∧ tk < 10
theorem aheadR_lo {ρ : Nat → Nat} {k : Nat} (h : k < 130) : aheadR ρ k = ρ k := by
  unfold aheadR
  rw [if_neg (by omega)]
theorem RW.ahead {ρ : Nat → Nat} (h : RW ρ) : RW (aheadR ρ) := h.congr (fun k hk _ => aheadR_lo hk)
theorem sBn {α β : Type} {o : Option (α × xMem)} {F : α → xMem → Option β} {a : α} {M : xMem} {z : Option β} (h : o = some (a, M)) (k : F a M = z) : xBn o F = z := by rw [h]; exact k
theorem sBv {β : Type} {o : Option xMem} {F : xMem → Option β} {M : xMem} {z : Option β} (h : o = some M) (k : F M = z) : xBv o F = z := by rw [h]; exact k
theorem sLt {α β : Type} {a : α} {F : α → β} {z : β} (k : F a = z) : xLt a F = z := k
theorem sLe {α β : Type} {a b : α} {F : α → β} {z : β} (h : a = b) (k : F b = z) : xLt a F = z := by subst h; exact k
theorem sGb {β : Type} {i : Int32} {n : Nat} {F z : Option β} (k : Nat) (hi : i = nI k) (hn : k < n) (hN : n < 2147483648) (kk : F = z) : xGb i n F = z := by rw [hi, eGb hn hN]; exact kk
theorem sT {α : Type} {c : Prop} [Decidable c] {A B z : α} (h : c) (k : A = z) : (if c then A else B) = z := by rw [if_pos h]; exact k
theorem sF {α : Type} {c : Prop} [Decidable c] {A B z : α} (h : ¬ c) (k : B = z) : (if c then A else B) = z := by rw [if_neg h]; exact k
theorem sJ1 {α β : Type} {J : α → xMem → Option β} {c : Prop} [Decidable c] {a b : α} {M : xMem} {z : Option β} (v : α) (h : (if c then a else b) = v) (k : J v M = z) : xLt J (fun J => if c then J a M else J b M) = z := by rw [eJ1, h]; exact k
/-- a guard of the row that is 'now' -/
theorem sGn {β : Type} {M : xMem} {ρ : Nat → Nat} {i : Int32} {F z : Option β} (k : Nat) (hi : i = nI k) (hn : k < 3235) (kk : F = z) : xGb i (xln (xnw (nwS M ρ))) F = z := sGb k hi (by rw [nwS_w, xlnw]; exact hn) (by rw [nwS_w, xlnw]; decide) kk
/-- a write into the row that is 'now' -/
theorem sWn {β : Type} {M N : xMem} {ρ : Nat → Nat} {j : Nat} {v : Int64} {F : xMem → Option β} {z : Option β} (k w : Nat) (hN : xnw N = xnw M) (hj : j = k) (hv : v = lN w) (kk : F (nwS M (va_up ρ k w)) = z) : xLt (xwL (nwS M ρ) (xnw N) j v) F = z := by
  subst hj hv
  rw [hN, eLt, nwS_wL]
  exact kk
def muR (ρ : Nat → Nat) : Nat := if ρ (30 + ρ 28) = 2 then 1 else 0
def otR (s : Nat) (ρ : Nat → Nat) : Nat := if s = 3 ∨ s = 4 ∨ (s = 0 ∧ muR ρ = 1) then 1 else 0
def setV (s tk : Nat) (tl : List Nat) : Nat := if s = 3 then tk else if s = 1 then setR tl else 18446744073709551615
def recR (r s b tk : Nat) (tl : List Nat) (ρ : Nat → Nat) : Nat → Nat :=
  va_up (va_up (va_up (va_up (va_up (va_up (va_up (va_up (va_up (va_up (va_up (aheadR ρ) (235 + 15 * ρ 25) (ρ 28)) (235 + 15 * ρ 25 + 1) r) (235 + 15 * ρ 25 + 2) s) (235 + 15 * ρ 25 + 5) (setV s tk tl)) (235 + 15 * ρ 25 + 6) b) (235 + 15 * ρ 25 + 7) (muR ρ)) (235 + 15 * ρ 25 + 10 + ρ 28) (mOn (ρ 28) ρ)) (235 + 15 * ρ 25 + 10 + (1 - ρ 28)) (mOn (1 - ρ 28) ρ)) (235 + 15 * ρ 25 + 12) (if s = 1 then ordR tl else 0)) (235 + 15 * ρ 25 + 13) 0) (235 + 15 * ρ 25 + 14) 0
def rd1 (r s b tk : Nat) (tl : List Nat) (ρ : Nat → Nat) : Nat → Nat := if s = 1 then outsR (1 - ρ 28) tl (recR r s b tk tl ρ) else recR r s b tk tl ρ
def rd2 (r s b tk : Nat) (tl : List Nat) (ρ : Nat → Nat) : Nat → Nat := if otR s ρ = 1 then outR (ρ 28) r (rd1 r s b tk tl ρ) else rd1 r s b tk tl ρ
def rd3 (r s b tk : Nat) (tl : List Nat) (ρ : Nat → Nat) : Nat → Nat := if s = 1 then addR (36 + 6 * ρ 28 + 0) tl.length (rd2 r s b tk tl ρ) else rd2 r s b tk tl ρ
def rd4 (r s b tk : Nat) (tl : List Nat) (ρ : Nat → Nat) : Nat → Nat := if s = 1 then backsR (ρ 28) tl.length (rd3 r s b tk tl ρ) else rd3 r s b tk tl ρ
def rb4 (r s b tk : Nat) (tl : List Nat) (ρ : Nat → Nat) : Nat := if s = 1 then backsN (ρ 28) tl.length (rd3 r s b tk tl ρ) else 0
def rd5 (r s b tk : Nat) (tl : List Nat) (ρ : Nat → Nat) : Nat → Nat := if b = 1 ∨ s = 2 then addR (36 + 6 * ρ 28 + 1) 1 (rd4 r s b tk tl ρ) else rd4 r s b tk tl ρ
def rd6 (r s b tk : Nat) (tl : List Nat) (ρ : Nat → Nat) : Nat → Nat := if otR s ρ = 1 then addR (36 + 6 * (1 - ρ 28) + (if s = 3 then 2 else 5)) 1 (rd5 r s b tk tl ρ) else rd5 r s b tk tl ρ
def rd7 (r s b tk : Nat) (tl : List Nat) (ρ : Nat → Nat) : Nat → Nat := if s = 3 ∧ pcn (mOn (1 - ρ 28) ρ) ≤ 3 then addR (36 + 6 * (1 - ρ 28) + 3) 1 (rd6 r s b tk tl ρ) else rd6 r s b tk tl ρ
def rd8 (r s b tk : Nat) (tl : List Nat) (ρ : Nat → Nat) : Nat → Nat := if otR s ρ = 1 then backR (1 - ρ 28) (rd7 r s b tk tl ρ) else rd7 r s b tk tl ρ
def rb8 (r s b tk : Nat) (tl : List Nat) (ρ : Nat → Nat) : Nat := if otR s ρ = 1 then rb4 r s b tk tl ρ + backN (1 - ρ 28) (rd7 r s b tk tl ρ) else rb4 r s b tk tl ρ
def rd9 (r s b tk : Nat) (tl : List Nat) (ρ : Nat → Nat) : Nat → Nat := waitsR (va_up (rd8 r s b tk tl ρ) (235 + 15 * ρ 25 + 8) (rb8 r s b tk tl ρ))
def rd10 (r s b tk : Nat) (tl : List Nat) (ρ : Nat → Nat) : Nat → Nat := allR (1 - ρ 28) (rd9 r s b tk tl ρ)
def rd11 (r s b tk : Nat) (tl : List Nat) (ρ : Nat → Nat) : Nat → Nat := allR (ρ 28) (rd10 r s b tk tl ρ)
def ra11 (r s b tk : Nat) (tl : List Nat) (ρ : Nat → Nat) : Nat := (if isAll (1 - ρ 28) (rd9 r s b tk tl ρ) then 2 ^ (1 - ρ 28) else 0) ||| (if isAll (ρ 28) (rd10 r s b tk tl ρ) then 2 ^ ρ 28 else 0)
def rd12 (r s b tk : Nat) (tl : List Nat) (ρ : Nat → Nat) : Nat → Nat := va_up (va_up (va_up (rd11 r s b tk tl ρ) (235 + 15 * ρ 25 + 9) (ra11 r s b tk tl ρ)) (235 + 15 * ρ 25 + 3) (scR (ρ 28) (rd11 r s b tk tl ρ) - scR (ρ 28) ρ)) (235 + 15 * ρ 25 + 4) (scR (1 - ρ 28) (rd11 r s b tk tl ρ) - scR (1 - ρ 28) ρ)
/-- THE RAID -/
def raidsR (r s b tk : Nat) (tl : List Nat) (ρ : Nat → Nat) : Nat → Nat := va_up (va_up (va_up (va_up (rd12 r s b tk tl ρ) (30 + ρ 28) (if s = 0 ∧ muR ρ = 0 then ρ (30 + ρ 28) + 1 else 0)) 28 (1 - ρ 28)) 25 (ρ 25 + 1)) 29 1
theorem rec_lo {r s b tk : Nat} {tl : List Nat} {ρ : Nat → Nat} {k : Nat} (h : k < 130) : recR r s b tk tl ρ k = ρ k := by
  unfold recR
  simp (disch := omega) only [va_at_ne]
  exact aheadR_lo h
