/-! ===== a raid is laid ===== -/
theorem loopE {R : Type} (Lp : Nat → Nat → xMem → R) (I : Nat → xMem → Prop) (N : Nat) {M : xMem} (hN : N < 40000) (h0 : I 0 M) (hs : ∀ n i M, i < N → I i M → ∃ M', Lp (n + 1) i M = Lp n (i + 1) M' ∧ I (i + 1) M') : ∃ M' n, I N M' ∧ Lp xFU 0 M = Lp (n + 1) N M' := by
  have key : ∀ m i M n, i + m = N → m < n → I i M → ∃ M' n', I N M' ∧ Lp n i M = Lp (n' + 1) N M' := by
    intro m
    induction m with
    | zero =>
      intro i M n h1 h2 h3
      obtain ⟨n, rfl⟩ : ∃ q, n = q + 1 := ⟨n - 1, by omega⟩
      rw [show i = N by omega] at h3 ⊢
      exact ⟨M, n, h3, rfl⟩
    | succ m ih =>
      intro i M n h1 h2 h3
      obtain ⟨n, rfl⟩ : ∃ q, n = q + 1 := ⟨n - 1, by omega⟩
      obtain ⟨M', e, hI⟩ := hs n i M (by omega) h3
      rw [e]
      exact ih (i + 1) M' n (by omega) (by omega) hI
  exact key N 0 M xFU (by omega) (by rw [xFU_eq]; exact hN) h0
def blP (p : Nat → Bool) (n : Nat) : List Nat := (List.range n).filter p
theorem blP_succ (p : Nat → Bool) (n : Nat) : blP p (n + 1) = blP p n ++ (if p n = true then [n] else []) := by
  unfold blP
  rw [List.range_succ, List.filter_append]
  congr 1
  by_cases h : p n = true <;> simp [h]
theorem blP_mem {p : Nat → Bool} {n x : Nat} : x ∈ blP p n ↔ x < n ∧ p x = true := by
  unfold blP
  rw [List.mem_filter, List.mem_range]
theorem blP_nodup (p : Nat → Bool) (n : Nat) : (blP p n).Nodup := by
  unfold blP
  exact List.Pairwise.filter _ List.nodup_range
theorem blP_len (p : Nat → Bool) (n : Nat) : (blP p n).length ≤ n := by
  unfold blP
  have := List.length_filter_le p (List.range n)
  rw [List.length_range] at this
  exact this
theorem blP_ext {p p' : Nat → Bool} {n : Nat} (h : ∀ i, i < n → p i = p' i) : blP p n = blP p' n := by
  unfold blP
  exact List.filter_congr (fun x hx => h x (List.mem_range.1 hx))
theorem blP_up {p : Nat → Bool} {m : Nat} : ∀ {n : Nat}, m ≤ n → (∀ i, m ≤ i → i < n → p i = false) → blP p n = blP p m
  | n, h, hp => by
    induction n with
    | zero => rw [show m = 0 by omega]
    | succ n ih =>
      by_cases q : m = n + 1
      · rw [q]
      · rw [blP_succ, hp n (by omega) (by omega), ih (by omega) (fun i a b => hp i a (by omega))]
        simp
def btP (v : Nat) (i : Nat) : Bool := v / 2 ^ i % 2 == 1
theorem btP_mk {p : Nat → Bool} {m : Nat} (hm : m ≤ 10) : blP (btP (mkP p m)) 10 = blP p m := by
  have e : ∀ i, btP (mkP p m) i = (decide (i < m) && p i) := by
    intro i
    unfold btP
    rw [mkP_bit]
    by_cases h1 : i < m <;> by_cases h2 : p i = true <;> simp [h1, h2]
  rw [blP_up (m := m) hm (fun i a _ => by rw [e]; simp; omega)]
  exact blP_ext (fun i hi => by rw [e]; simp [hi])
theorem btP_lt {v m : Nat} (h : v < 2 ^ m) {i : Nat} (hi : m ≤ i) : btP v i = false := by
  unfold btP
  have : v < 2 ^ i := Nat.lt_of_lt_of_le h (Nat.pow_le_pow_right (by decide) hi)
  rw [Nat.div_eq_of_lt this]
  rfl
theorem tk7a {l : List Nat} {x : Nat} (h : l.length < 7) : (l ++ [x]).take 7 = l.take 7 ++ [x] := by
  rw [List.take_of_length_le (by simp; omega), List.take_of_length_le (by omega)]
theorem tk7b {l : List Nat} {x : Nat} (h : 7 ≤ l.length) : (l ++ [x]).take 7 = l.take 7 := List.take_append_of_le_length h
theorem s_touchAll {M : xMem} {p v : Nat} (hp : xkd p = 4) (hv : v < 1024) (h4 : M.1 p 4 = nI 0) : ∃ M', fX4_touchAll p (nI v) M = some M' ∧ M'.1 p 4 = nI ((blP (btP v) 10).take 7).length ∧ (∀ j (y : Nat), ((blP (btP v) 10).take 7)[j]? = some y → M'.1 (p + 1) j = nI y) ∧ Fi (fun c => c = p ∨ c = p + 1) M M' ∧ ∀ j, j ≠ 4 → M'.1 p j = M.1 p j := by
  obtain ⟨p5, pl, -⟩ := pl_rf hp
  obtain ⟨M', n, ⟨i1, i2, i3, i4⟩, e⟩ := loopE (fun n k M => fX4_touchAll_l2 p (nI v) (fun (v4 : Int32) (M5 : xMem) => some M5) n (nI k) M) (fun k M' => M'.1 p 4 = nI ((blP (btP v) k).take 7).length ∧ (∀ j (y : Nat), ((blP (btP v) k).take 7)[j]? = some y → M'.1 (p + 1) j = nI y) ∧ Fi (fun c => c = p ∨ c = p + 1) M M' ∧ ∀ j, j ≠ 4 → M'.1 p j = M.1 p j) 10 (M := M) (by decide) ⟨h4, fun j y h => by simp [blP] at h, Fi.refl _ M, fun _ _ => rfl⟩ (fun n k M1 hk hI => by
    obtain ⟨i1, i2, i3, i4⟩ := hI
    simp only [fX4_touchAll_l2.eq_2]
    rw [e_bitI (by omega) (by omega)]
    by_cases q : v / 2 ^ k % 2 = 1
    · have hb : btP v k = true := by unfold btP; rw [q]; rfl
      rw [blP_succ, if_pos hb]
      by_cases q7 : (blP (btP v) k).length < 7
      · obtain ⟨M2, f2, c4, c5, F4, c6⟩ := s_addTouched (x := k) hp i1 i2 (by rw [List.length_take]; omega)
        rw [tk7a q7]
        refine ⟨M2, ?_, c4, c5, i3.trans F4, fun j hj => (c6 j hj).trans (i4 j hj)⟩
        exact sF (by rw [eLe (by omega) (by omega)]; omega) (sT (by rw [q]) (sBv f2 (sLe (nI_1 k) rfl)))
      · rw [tk7b (by omega)]
        refine ⟨M1, ?_, i1, i2, i3, i4⟩
        refine sF (by rw [eLe (by omega) (by omega)]; omega) (sT (by rw [q]) (sBv (M := M1) ?_ (sLe (nI_1 k) rfl)))
        unfold fX4_addTouched
        rw [p5, pl, i1, List.length_take, Nat.min_eq_left (by omega)]
        exact sT (by decide) rfl
    · have hb : ¬ btP v k = true := by unfold btP; simpa using q
      rw [blP_succ, if_neg hb, List.append_nil]
      refine ⟨M1, ?_, i1, i2, i3, i4⟩
      have hm : v / 2 ^ k % 2 < 2 := Nat.mod_lt _ (by decide)
      exact sF (by rw [eLe (by omega) (by omega)]; omega) (sF (by rw [eEq (by omega) (by decide)]; exact q) (sLe (nI_1 k) rfl)))
  refine ⟨M', ?_, i1, i2, i3, i4⟩
  unfold fX4_touchAll
  refine e.trans ?_
  simp only [fX4_touchAll_l2.eq_2]
  exact sT (by decide) rfl
theorem e_subset {a b : Nat} (ha : a < 1024) (hb : b < 1024) : nI a &&& (nI b ^^^ (-1)) = 0 ↔ ∀ i, i < 10 → a / 2 ^ i % 2 = 1 → b / 2 ^ i % 2 = 1 := by
  have hB : ∀ k : Nat, (nI k).toBitVec = BitVec.ofNat 32 k := fun k => rfl
  have hm : (-1 : Int32).toBitVec = BitVec.allOnes 32 := by decide
  rw [← Int32.toBitVec_inj, Int32.toBitVec_and, Int32.toBitVec_xor, hB, hB, hm]
  show BitVec.ofNat 32 a &&& (BitVec.ofNat 32 b ^^^ BitVec.allOnes 32) = 0#32 ↔ _
  constructor
  · intro h i hi q
    have h2 := congrArg (fun x => BitVec.getLsbD x i) h
    simp only [BitVec.getLsbD_and, BitVec.getLsbD_xor, BitVec.getLsbD_ofNat, BitVec.getLsbD_allOnes, BitVec.getLsbD_zero, show i < 32 by omega, decide_true, Bool.true_and, Bool.xor_true, Nat.testBit_eq_decide_div_mod_eq, q] at h2
    simpa using h2
  · intro h
    apply BitVec.eq_of_getLsbD_eq
    intro i hi
    simp only [BitVec.getLsbD_and, BitVec.getLsbD_xor, BitVec.getLsbD_ofNat, BitVec.getLsbD_allOnes, BitVec.getLsbD_zero, hi, decide_true, Bool.true_and, Bool.xor_true, Nat.testBit_eq_decide_div_mod_eq]
    by_cases q : a / 2 ^ i % 2 = 1
    · have hi10 : i < 10 := by
        rcases Nat.lt_or_ge i 10 with z | z
        · exact z
        · have : a < 2 ^ i := Nat.lt_of_lt_of_le ha (show 2 ^ 10 ≤ 2 ^ i from Nat.pow_le_pow_right (by decide) z)
          rw [Nat.div_eq_of_lt this] at q
          exact absurd q (by decide)
      simp [q, h i hi10 q]
    · simp [q]
/-! what is asked for -/
def wm (s : Nat) : Nat := if s = 1 ∨ s = 3 then 1 else 0
def stQ (ρ : Nat → Nat) (s : Nat) (z : Int32) : Prop := if s = 1 then wnQ z 1 (2 ^ ρ (1 + (1 - ρ 28)) - 1) else if s = 3 then wnQ z 0 (ρ (1 + (1 - ρ 28)) - 1) else z = 0
/-- as told -/
def P2 (ρ : Nat → Nat) (x y z v : Int32) : Prop := plQ ρ (nI (ρ 28)) x ∧ ∃ s, s ≤ 4 ∧ y = nI s ∧ stQ ρ s z ∧ wnQ v 0 (wm s)
/-- it can be -/
def P6 (ρ : Nat → Nat) (r s st b : Nat) : Prop := ρ 25 < 200 ∧ ovR ρ = 0 ∧ ρ (48 + 10 * ρ 28 + r) = 0 ∧ ((s = 2 ∨ b = 1) → boR ρ = 1) ∧ (s = 1 → nI st &&& (nI (mOn (1 - ρ 28) ρ) ^^^ (-1)) = 0) ∧ (s = 3 → ρ (48 + 10 * (1 - ρ 28) + st) = 0)
def tkS (s st : Nat) : Nat := if s = 3 then st else 0
def tlS (s st : Nat) : List Nat := if s = 1 then blP (btP st) 10 else []
theorem P2.un {ρ : Nat → Nat} {x y z v : Int32} (h : P2 ρ x y z v) (hR : RW ρ) : ∃ r s st b, r < ρ (1 + ρ 28) ∧ s ≤ 4 ∧ b ≤ wm s ∧ (s = 1 → 1 ≤ st ∧ st < 2 ^ ρ (1 + (1 - ρ 28))) ∧ (s = 3 → st < ρ (1 + (1 - ρ 28))) ∧ (s ≠ 1 → s ≠ 3 → st = 0) ∧ st < 1024 ∧ x = nI r ∧ y = nI s ∧ z = nI st ∧ v = nI b := by
  have h28 := hR.1
  have h10 := (hR.2 (1 - ρ 28) (by omega)).1
  obtain ⟨⟨t, r, ht, hr, e1, e2⟩, s, hs, e3, h4, b, -, hb, e5⟩ := h
  have et : ρ 28 = t := (nI_eq (by omega) (by omega)).1 e1
  have hp : 2 ^ ρ (1 + (1 - ρ 28)) ≤ 2 ^ 10 := Nat.pow_le_pow_right (by decide) h10.2
  have hp0 : 0 < 2 ^ ρ (1 + (1 - ρ 28)) := Nat.pow_pos (by decide)
  have hpe : (2 : Nat) ^ 10 = 1024 := by decide
  unfold stQ at h4
  rw [← et] at hr
  by_cases s1 : s = 1
  · rw [if_pos s1] at h4
    obtain ⟨st, a, c, e4⟩ := h4
    exact ⟨r, s, st, b, hr, hs, hb, fun _ => ⟨a, by omega⟩, fun q => by omega, fun q => absurd s1 q, by omega, e2, e3, e4, e5⟩
  · rw [if_neg s1] at h4
    by_cases s3 : s = 3
    · rw [if_pos s3] at h4
      obtain ⟨st, a, c, e4⟩ := h4
      exact ⟨r, s, st, b, hr, hs, hb, fun q => absurd q s1, fun _ => by omega, fun _ q => absurd s3 q, by omega, e2, e3, e4, e5⟩
    · rw [if_neg s3] at h4
      exact ⟨r, s, 0, b, hr, hs, hb, fun q => absurd q s1, fun q => absurd q s3, fun _ _ => rfl, by decide, e2, e3, by rw [h4]; decide, e5⟩
theorem P6.ok {ρ : Nat → Nat} {r s st b : Nat} (h : P6 ρ r s st b) (hT : RT ρ) (hr : r < ρ (1 + ρ 28)) (hs : s ≤ 4) (hb : b ≤ wm s) (h1 : s = 1 → 1 ≤ st ∧ st < 2 ^ ρ (1 + (1 - ρ 28))) (h3 : s = 3 → st < ρ (1 + (1 - ρ 28))) : rdOK ρ r s b (tkS s st) (tlS s st) ∧ (tlS s st).length ≤ 7 ∧ ∀ x ∈ tlS s st, x < 10 := by
  have hR := hT.1
  have h28 := hR.1
  have h10 := (hR.2 (1 - ρ 28) (by omega)).1
  have h10' := (hR.2 (ρ 28) (by omega)).1
  have hp : 2 ^ ρ (1 + (1 - ρ 28)) ≤ 2 ^ 10 := Nat.pow_le_pow_right (by decide) h10.2
  have hpe : (2 : Nat) ^ 10 = 1024 := by decide
  have hmo := mOn_lt (ρ := ρ) (t := 1 - ρ 28) (hR.m (by omega))
  obtain ⟨-, -, q3, -, q5, -⟩ := h
  have hmem : ∀ x ∈ tlS s st, x < ρ (1 + (1 - ρ 28)) ∧ ρ (48 + 10 * (1 - ρ 28) + x) = 0 := by
    intro x hx
    unfold tlS at hx
    by_cases s1 : s = 1
    · rw [if_pos s1, blP_mem] at hx
      have hxm : x < ρ (1 + (1 - ρ 28)) := by
        rcases Nat.lt_or_ge x (ρ (1 + (1 - ρ 28))) with z | z
        · exact z
        · rw [btP_lt (h1 s1).2 z] at hx
          exact absurd hx.2 (by decide)
      refine ⟨hxm, ?_⟩
      have hb1 : st / 2 ^ x % 2 = 1 := by have := hx.2; unfold btP at this; simpa using this
      have := (e_subset (by have := (h1 s1).2; omega) hmo).1 (q5 s1) x hx.1 hb1
      unfold mOn at this
      rw [mkP_bit] at this
      have := ite_1 this
      simpa using this.2
    · rw [if_neg s1] at hx
      exact absurd hx (by simp)
  have hnd : (tlS s st).Nodup := by
    unfold tlS
    split
    · exact blP_nodup _ _
    · exact List.nodup_nil
  have hne : s = 1 → tlS s st ≠ [] := by
    intro s1 e
    obtain ⟨a, c⟩ := h1 s1
    unfold tlS at e
    rw [if_pos s1] at e
    have hall : ∀ i, i < 10 → st / 2 ^ i % 2 ≠ 1 := by
      intro i hi q
      have : i ∈ blP (btP st) 10 := blP_mem.2 ⟨hi, by unfold btP; rw [q]; rfl⟩
      rw [e] at this
      exact absurd this (by simp)
    have hz : st = 0 := by
      apply Nat.eq_of_testBit_eq
      intro i
      rw [Nat.testBit_eq_decide_div_mod_eq, Nat.zero_testBit]
      by_cases hi : i < 10
      · simpa using hall i hi
      · have : st < 2 ^ i := Nat.lt_of_lt_of_le (show st < 2 ^ 10 by omega) (Nat.pow_le_pow_right (by decide) (by omega))
        rw [Nat.div_eq_of_lt this]
        rfl
    omega
  have hmay : rdMay ρ r s (tkS s st) (tlS s st) := ⟨hr, q3, hnd, hmem, hne⟩
  have hlen := hmay.len hT
  have hwm : wm s ≤ 1 := by unfold wm; split <;> omega
  refine ⟨⟨hmay, by omega, by omega, by omega, ?_, ?_, ?_, ?_⟩, by omega, fun x hx => by have := (hmem x hx).1; omega⟩
  · unfold tkS
    split
    · have := h3 (by assumption)
      omega
    · decide
  · intro q; unfold tkS; rw [if_neg q]
  · intro q; unfold tlS; rw [if_neg q]
  · intro q
    have : wm s = 0 := by unfold wm; rw [if_neg (by omega)]
    omega
