/-! ===== the reference's own steps on rows of natural numbers ===== -/
theorem e_many {M : xMem} {ρ : Nat → Nat} {t : Nat} (ht : t < 2) : fX11_many 146 (nI t) (nwS M ρ) = some (nI (ρ (1 + t)), nwS M ρ) := by
  unfold fX11_many
  rw [nI_add, e_get (by omega), eBn]
theorem e_isOf {M : xMem} {ρ : Nat → Nat} {t i : Nat} (ht : t < 2) (hi : i < 10) : fX11_isOf 146 (nI t) (nI i) (nwS M ρ) = some (nI (ρ (48 + 10 * t + i)), nwS M ρ) := by
  unfold fX11_isOf
  rw [pk_mul, nI_add, nI_add, e_get (by omega), eBn]
/-- bits of those places where p holds -/
def mkP (p : Nat → Bool) : Nat → Nat
  | 0 => 0
  | n + 1 => mkP p n + (if p n then 2 ^ n else 0)
theorem mkP_lt (p : Nat → Bool) : ∀ n, mkP p n < 2 ^ n
  | 0 => Nat.one_pos
  | n + 1 => by
    have := mkP_lt p n
    rw [Nat.pow_succ]
    unfold mkP
    split <;> omega
theorem e_shl1 : ∀ i, i < 31 → nI 1 <<< (nI i &&& 31) = nI (2 ^ i) := by decide +kernel
theorem e_or0 (a : Nat) : nI a ||| nI 0 = nI a := by
  have : nI 0 = 0 := by decide
  rw [this]; simp
theorem e_orbit {a n : Nat} (h : a < 2 ^ n) : nI a ||| nI (2 ^ n) = nI (a + 2 ^ n) := by
  have e : ∀ x y : Int32, x ||| y = y ||| x := fun x y => by
    apply Int32.toBitVec_inj.mp
    simp only [Int32.toBitVec_or]
    exact BitVec.or_comm _ _
  rw [e]
  unfold nI
  apply Int32.toBitVec_inj.mp
  rw [Int32.toBitVec_or]
  have hb : ∀ k : Nat, (Int32.ofNat k).toBitVec = BitVec.ofNat 32 k := fun k => rfl
  rw [hb, hb, hb]
  apply BitVec.eq_of_toNat_eq
  rw [BitVec.toNat_or, BitVec.toNat_ofNat, BitVec.toNat_ofNat, BitVec.toNat_ofNat]
  rw [← Nat.or_mod_two_pow]
  congr 1
  have := Nat.two_pow_add_eq_or_of_lt h 1
  rw [Nat.mul_one] at this
  rw [← this]; omega
theorem loopI {R : Type} (Lp : Nat → Nat → R) (N : Nat) (r : R) (hs : ∀ n i, i < N → Lp (n + 1) i = Lp n (i + 1)) (he : ∀ n, Lp (n + 1) N = r) : ∀ (m i n : Nat), i + m = N → m < n → Lp n i = r := by
  intro m
  induction m with
  | zero =>
    intro i n h1 h2
    obtain ⟨n, rfl⟩ : ∃ q, n = q + 1 := ⟨n - 1, by omega⟩
    rw [show i = N by omega]
    exact he n
  | succ m ih =>
    intro i n h1 h2
    obtain ⟨n, rfl⟩ : ∃ q, n = q + 1 := ⟨n - 1, by omega⟩
    rw [hs n i (by omega)]
    exact ih (i + 1) n (by omega) (by omega)
theorem loopU {R : Type} (Lp : Nat → Nat → R) (N : Nat) (r : R) (hN : N < 40000) (hs : ∀ n i, i < N → Lp (n + 1) i = Lp n (i + 1)) (he : ∀ n, Lp (n + 1) N = r) : Lp xFU 0 = r :=
  loopI Lp N r hs he N 0 xFU (by omega) (by rw [xFU_eq]; exact hN)
theorem e_thoseOf {M : xMem} {ρ : Nat → Nat} {t w : Nat} (ht : t < 2) (hw : w < 2147483648) (hr : ρ (1 + t) ≤ 10) (hs : ∀ i, i < 10 → ρ (48 + 10 * t + i) < 2147483648) :
    fX11_thoseOf 146 (nI t) (nI w) (nwS M ρ) = some (nI (mkP (fun i => ρ (48 + 10 * t + i) == w) (ρ (1 + t))), nwS M ρ) := by
  unfold fX11_thoseOf
  refine loopU (fun n i => fX11_thoseOf_l5 146 (nI t) (nI w) _ n (nI (mkP (fun i => ρ (48 + 10 * t + i) == w) i)) (nI i) (nwS M ρ)) (ρ (1 + t)) _ (by omega) (fun n i hi => ?_) (fun n => ?_)
  · have h1 := hs i (by omega)
    rw [fX11_thoseOf_l5.eq_2]
    simp (disch := omega) only [e_many, e_isOf, eBn, eLt, eLe, eEq, nI_1, e_shl1, nI_add]
    rw [if_neg (by omega)]
    by_cases h : ρ (48 + 10 * t + i) = w
    · rw [if_pos h, e_orbit (mkP_lt _ _)]
      simp [mkP, h]
    · rw [if_neg h, e_or0]
      simp [mkP, h]
  · skip
    rw [fX11_thoseOf_l5.eq_2]
    simp (disch := omega) only [e_many, eBn, eLe]
    rw [if_pos (Nat.le_refl _)]
def sumR (f : Nat → Nat) : Nat → Nat
  | 0 => 0
  | n + 1 => sumR f n + f n
theorem e_scoreOf {M : xMem} {ρ : Nat → Nat} {t : Nat} (ht : t < 2) :
    fX11_scoreOf 146 (nI t) (nwS M ρ) = some (nI (sumR (fun k => ρ (36 + 6 * t + k)) 6), nwS M ρ) := by
  unfold fX11_scoreOf
  refine loopU (fun n i => fX11_scoreOf_l4 146 (nI t) _ n (nI (sumR (fun k => ρ (36 + 6 * t + k)) i)) (nI i) (nwS M ρ)) 6 _ (by omega) (fun n i hi => ?_) (fun n => ?_)
  · skip
    rw [fX11_scoreOf_l4.eq_2]
    simp (disch := omega) only [pk_mul, nI_add, e_get, eBn, eLt, eLe]
    rw [if_neg (by omega)]
    rfl
  · skip
    rw [fX11_scoreOf_l4.eq_2]
    simp (disch := omega) only [eLe]
    rw [if_pos (Nat.le_refl _)]
/-! who goes out, who leaves the row of those who are out, who comes back -/
def outR (t i : Nat) (ρ : Nat → Nat) : Nat → Nat := va_up (va_up (va_up ρ (48 + 10 * t + i) 1) (110 + 10 * t + ρ (108 + t)) i) (108 + t) (ρ (108 + t) + 1)
theorem va_at_ne {α : Type} {f : Nat → α} {k j : Nat} {v : α} (h : j ≠ k) : va_up f k v j = f j := if_neg h
theorem va_at_eq {α : Type} {f : Nat → α} {k : Nat} {v : α} : va_up f k v k = v := if_pos rfl
theorem lN_succ (n : Nat) : lN n + lN 1 = lN (n + 1) := lN_add n 1
theorem e_goesOut {M : xMem} {ρ : Nat → Nat} {t i : Nat} (ht : t < 2) (hi : i < 10) (ho : ρ (108 + t) < 10) :
    fX11_goesOut 146 (nI t) (nI i) (nwS M ρ) = some (nwS M (outR t i ρ)) := by
  unfold fX11_goesOut
  simp (disch := omega) only [pk_mul, nI_add, eLt, nwS_w, xlnw, eGb, eCl, nwS_wL, e_get, eBn, eI2L, nwS_at, lf_at, va_at_ne, lN_succ]
  rfl
