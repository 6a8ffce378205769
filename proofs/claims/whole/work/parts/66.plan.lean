/-! ===== the class: plans and lines ===== -/
theorem or_sum {a b k : Nat} (h : a < 2 ^ k) : a ||| b * 2 ^ k = a + b * 2 ^ k := by
  have := Nat.two_pow_add_eq_or_of_lt h b
  rw [Nat.or_comm, Nat.mul_comm b, ← this, Nat.add_comm]
theorem eOrL {a b : Nat} (k : Nat) (h : a < 2 ^ k) (hb : a + b * 2 ^ k < 2 ^ 64) : lN a ||| lN (b * 2 ^ k) = lN (a + b * 2 ^ k) := by
  rw [wb_or (by omega) (by omega), or_sum h]
theorem eShl4 : ∀ a, a < 16 → ∀ k, k < 13 → nI a <<< (nI k &&& 31) = nI (a * 2 ^ k) := by decide +kernel
theorem e_packOther {M : xMem} {a b c d : Nat} (ha : a < 16) (hb : b < 16) (hc : c < 16) (hd : d < 16) : fX4_packOther (nI a) (nI b) (nI c) (nI d) M = some (lN (a + 16 * b + 256 * c + 4096 * d), M) := by
  unfold fX4_packOther
  rw [eShl4 b hb 4 (by decide), eShl4 c hc 8 (by decide), eShl4 d hd 12 (by decide), e_orN, e_orN, e_orN, or_sum (k := 4) (by omega), or_sum (k := 8) (by omega), or_sum (k := 12) (by omega), eI2L (by omega)]
  congr 2
  apply congrArg lN
  omega
/-- the figures of those who are touched -/
def digs : List Nat → Nat
  | [] => 0
  | x :: l => x + 16 * digs l
theorem digs_take {l : List Nat} : ∀ {k x : Nat}, l[k]? = some x → digs (l.take (k + 1)) = digs (l.take k) + x * 16 ^ k := by
  induction l with
  | nil => intro k x h; simp at h
  | cons a l ih =>
    intro k x h
    cases k with
    | zero => simp at h; subst h; simp [digs]
    | succ k =>
      simp at h
      simp only [List.take_succ_cons, digs]
      rw [ih h, Nat.pow_succ]
      have : 16 * (x * 16 ^ k) = x * (16 ^ k * 16) := by rw [← Nat.mul_assoc, Nat.mul_comm 16 x, Nat.mul_assoc, Nat.mul_comm 16]
      omega
theorem digs_lt {l : List Nat} (h : ∀ x ∈ l, x < 10) : ∀ k, digs (l.take k) < 16 ^ k := by
  induction l with
  | nil => intro k; simp only [List.take_nil, digs]; exact Nat.pow_pos (by decide)
  | cons a l ih =>
    intro k
    cases k with
    | zero => simp [digs]
    | succ k =>
      simp only [List.take_succ_cons, digs, Nat.pow_succ]
      have h1 := h a List.mem_cons_self
      have h2 := ih (fun x hx => h x (List.mem_cons_of_mem _ hx)) k
      omega
theorem digs_at {l : List Nat} (h : ∀ x ∈ l, x < 10) : ∀ {k x : Nat}, l[k]? = some x → digs l / 16 ^ k % 16 = x := by
  induction l with
  | nil => intro k x h; simp at h
  | cons a l ih =>
    intro k x hk
    have h1 := h a List.mem_cons_self
    cases k with
    | zero => simp at hk; subst hk; simp only [digs, Nat.pow_zero, Nat.div_one]; omega
    | succ k =>
      simp at hk
      simp only [digs]
      rw [Nat.pow_succ, Nat.mul_comm (16 ^ k), ← Nat.div_div_eq_div_mul, show (a + 16 * digs l) / 16 = digs l by omega]
      exact ih (fun x hx => h x (List.mem_cons_of_mem _ hx)) hk
/-- a raid as a line -/
def rdC (r s b tk : Nat) (tl : List Nat) : Nat := 16 * r + 256 * s + 4096 * tk + 65536 * b + 1048576 * tl.length + 16777216 * digs tl
/-- a plan holds a raid, its tackler too -/
def PlF (M : xMem) (p r s b tk : Nat) (tl : List Nat) : Prop := PlR M p r s b tk tl ∧ M.1 p 2 = nI tk ∧ tl.length ≤ 7 ∧ ∀ x ∈ tl, x < 10
theorem PlF.keep {M M' : xMem} {p r s b tk : Nat} {tl : List Nat} (h : PlF M p r s b tk tl) (e : ∀ c, c = p ∨ c = p + 1 → M'.1 c = M.1 c) : PlF M' p r s b tk tl := ⟨h.1.keep e, by rw [e p (Or.inl rfl)]; exact h.2.1, h.2.2⟩
theorem s_pack {M : xMem} {p r s b tk : Nat} {tl : List Nat} (hp : xkd p = 4) (h : PlF M p r s b tk tl) : fX4_pack p M = some (lN (rdC r s b tk tl), M) := by
  obtain ⟨p5, pl, -⟩ := pl_rf hp
  obtain ⟨hP, h2, hl, hx⟩ := h
  obtain ⟨q0, q1, -, q3, q4, q5, -, hr, hs, hb, htk⟩ := hP
  unfold fX4_pack
  rw [q0, q1, h2, e_packOther (by decide) (by omega) (by omega) (by omega), eBn, q3, q4, eI2L (n := b) (by omega), eI2L (n := tl.length) (by omega), wb_shl _ (by decide), wb_shl _ (by decide), eOrL 20 (by omega) (by omega), show (0 : Nat) + 16 * r + 256 * s + 4096 * tk = 16 * r + 256 * s + 4096 * tk by omega, show b * 2 ^ 16 + tl.length * 2 ^ 20 = (b + tl.length * 16) * 2 ^ 16 by omega, eOrL 16 (by omega) (by omega), eLt]
  have hL := loopU (fun n k => fX4_pack_l39 p (fun v7 v8 M9 => some (v7, M9)) n (lN (16 * r + 256 * s + 4096 * tk + (b + tl.length * 16) * 2 ^ 16 + 16777216 * digs (tl.take k))) (nI k) M) tl.length (some (lN (rdC r s b tk tl), M)) (by omega) (fun n k hk => ?_) (fun n => ?_)
  · have e : digs (tl.take 0) = 0 := rfl
    rw [e] at hL
    exact hL
  · have hg : tl[k]? = some tl[k] := List.getElem?_eq_getElem hk
    have hxk := hx _ (List.mem_of_getElem? hg)
    have hd := digs_lt hx k
    have hk7 : 16 ^ k ≤ 16 ^ 6 := Nat.pow_le_pow_right (by decide) (by omega)
    rw [fX4_pack_l39.eq_2, q4, p5, pl]
    refine sF (by rw [eLe (by omega) (by omega)]; omega) (sF (by rw [eLe (by decide) (by omega)]; omega) (sGb k rfl (by omega) (by decide) ?_))
    rw [eCl (by omega), q5 k _ hg, eI2L (n := tl[k]) (by omega), nI_add, pk_mul, wb_shl _ (by omega)]
    have e2 : 2 ^ (4 * (6 + k)) = 16777216 * 16 ^ k := by
      rw [Nat.pow_mul, Nat.pow_add]
    have hmul : tl[k] * 16 ^ k ≤ 9 * 16 ^ 6 := Nat.mul_le_mul (by omega) hk7
    have e3 : tl[k] * (16777216 * 16 ^ k) = 16777216 * (tl[k] * 16 ^ k) := by rw [Nat.mul_left_comm]
    have hsm : 16777216 * 16 ^ k ≤ 16777216 * 16 ^ 6 := Nat.mul_le_mul_left _ hk7
    rw [eOrL (4 * (6 + k)) (by rw [e2]; omega) (by rw [e2, e3]; omega), e2, e3]
    refine sLe (b := lN (16 * r + 256 * s + 4096 * tk + (b + tl.length * 16) * 2 ^ 16 + 16777216 * digs (tl.take (k + 1)))) ?_ (sLe (nI_1 k) rfl)
    rw [digs_take hg]
    apply congrArg lN
    omega
  · rw [fX4_pack_l39.eq_2, q4, List.take_length]
    refine sT (by rw [eLe (by omega) (by omega)]; exact Nat.le_refl _) ?_
    congr 2
    unfold rdC
    apply congrArg lN
    omega
theorem e_part {M : xMem} {c k : Nat} (hc : c < 2 ^ 63) (hk : k < 16) : fX4_part (lN c) (nI k) M = some (nI (c / 16 ^ k % 16), M) := by
  unfold fX4_part
  rw [pk_mul, wb_shr (by omega) (by omega), eL2I]
  have e : 2 ^ (4 * k) = 16 ^ k := by rw [Nat.pow_mul]
  rw [e]
  congr 2
  unfold nI
  apply Int32.toBitVec_inj.mp
  rw [Int32.toBitVec_and]
  have hb : ∀ k : Nat, (Int32.ofNat k).toBitVec = BitVec.ofNat 32 k := fun k => rfl
  rw [hb, hb, hb]
  apply BitVec.eq_of_toNat_eq
  rw [BitVec.toNat_and, BitVec.toNat_ofNat, BitVec.toNat_ofNat, BitVec.toNat_ofNat, ← Nat.and_mod_two_pow, show (15 : Nat) = 2 ^ 4 - 1 by decide, Nat.and_two_pow_sub_one_eq_mod]
theorem rdC_lt {r s b tk : Nat} {tl : List Nat} (hr : r < 10) (hs : s < 5) (hb : b < 2) (ht : tk < 10) (hl : tl.length ≤ 7) (hx : ∀ x ∈ tl, x < 10) : rdC r s b tk tl < 2 ^ 53 := by
  have h := digs_lt hx tl.length
  rw [List.take_length] at h
  have h2 : 16 ^ tl.length ≤ 16 ^ 7 := Nat.pow_le_pow_right (by decide) hl
  unfold rdC
  omega
theorem rdC_hi {r s b tk : Nat} {tl : List Nat} (hr : r < 10) (hs : s < 5) (hb : b < 2) (ht : tk < 10) (hl : tl.length ≤ 7) (k : Nat) : rdC r s b tk tl / 16 ^ (6 + k) = digs tl / 16 ^ k := by
  rw [Nat.pow_add, ← Nat.div_div_eq_div_mul]
  congr 1
  unfold rdC
  omega
/-- one more is touched -/
theorem s_addTouched {M : xMem} {p x : Nat} {tl : List Nat} (hp : xkd p = 4) (h4 : M.1 p 4 = nI tl.length) (h5 : ∀ j (y : Nat), tl[j]? = some y → M.1 (p + 1) j = nI y) (hl : tl.length < 7) : ∃ M', fX4_addTouched p (nI x) M = some M' ∧ M'.1 p 4 = nI (tl ++ [x]).length ∧ (∀ j (y : Nat), (tl ++ [x])[j]? = some y → M'.1 (p + 1) j = nI y) ∧ Fi (fun c => c = p ∨ c = p + 1) M M' ∧ ∀ j, j ≠ 4 → M'.1 p j = M.1 p j := by
  obtain ⟨p5, pl, -⟩ := pl_rf hp
  refine ⟨xwI (xwI M (p + 1) tl.length (nI x)) p 4 (nI (tl.length + 1)), ?_, ?_, ?_, ?_, ?_⟩
  · unfold fX4_addTouched
    rw [h4, p5, pl]
    refine sF (by rw [eLe (by decide) (by omega)]; omega) (sGb _ rfl hl (by decide) ?_)
    rw [eCl (by omega)]
    refine sLt ?_
    rw [xwI_c (c := p) (by omega), h4, nI_add]
    rfl
  · rw [xwI_at, List.length_append]; rfl
  · intro j y hj
    rw [xwI_c (by omega)]
    by_cases q : j = tl.length
    · subst q
      rw [xwI_at]
      rw [List.getElem?_append_right (Nat.le_refl _)] at hj
      simp at hj
      rw [hj]
    · rw [xwI_ne (by omega)]
      have hlt : j < tl.length := by
        have := (List.getElem?_eq_some_iff.mp hj).1
        rw [List.length_append] at this
        simp only [List.length_cons, List.length_nil] at this
        omega
      rw [List.getElem?_append_left hlt] at hj
      exact h5 j y hj
  · exact ((Fi.refl (fun c => c = p ∨ c = p + 1) M).wI (Or.inr rfl)).wI (Or.inl rfl)
  · intro j hj
    rw [xwI_ne (Or.inr hj), xwI_c (by omega)]
theorem s_plBegin {M : xMem} {p : Nat} {r s : Int32} : ∃ M', fX4_begin p r s M = some M' ∧ M'.1 p 0 = r ∧ M'.1 p 1 = s ∧ M'.1 p 2 = nI 0 ∧ M'.1 p 3 = nI 0 ∧ M'.1 p 4 = nI 0 ∧ Fi (fun c => c = p ∨ c = p + 1) M M' := by
  refine ⟨xwI (xwI (xwI (xwI (xwI M p 0 r) p 1 s) p 2 (nI 0)) p 3 (nI 0)) p 4 (nI 0), rfl, ?_, ?_, ?_, ?_, ?_, ?_⟩
  · rw [xwI_ne (by omega), xwI_ne (by omega), xwI_ne (by omega), xwI_ne (by omega), xwI_at]
  · rw [xwI_ne (by omega), xwI_ne (by omega), xwI_ne (by omega), xwI_at]
  · rw [xwI_ne (by omega), xwI_ne (by omega), xwI_at]
  · rw [xwI_ne (by omega), xwI_at]
  · rw [xwI_at]
  · exact (((((Fi.refl (fun c => c = p ∨ c = p + 1) M).wI (Or.inl rfl)).wI (Or.inl rfl)).wI (Or.inl rfl)).wI (Or.inl rfl)).wI (Or.inl rfl)
theorem s_unpack {M : xMem} {p r s b tk : Nat} {tl : List Nat} (hp : xkd p = 4) (hr : r < 10) (hs : s < 5) (hb : b < 2) (ht : tk < 10) (hl : tl.length ≤ 7) (hx : ∀ x ∈ tl, x < 10) (h1 : s ≠ 1 → tl = []) : ∃ M', fX4_unpack p (lN (rdC r s b tk tl)) M = some M' ∧ PlF M' p r s b tk tl ∧ Fi (fun c => c = p ∨ c = p + 1) M M' := by
  have hC := rdC_lt hr hs hb ht hl hx
  have hC' : rdC r s b tk tl < 2 ^ 63 := Nat.lt_of_lt_of_le hC (by decide)
  obtain ⟨M1, f1, a0, a1, a2, a3, a4, F1⟩ := s_plBegin (M := M) (p := p) (r := nI r) (s := nI s)
  have d1 : rdC r s b tk tl / 16 ^ 1 % 16 = r := by unfold rdC; omega
  have d2 : rdC r s b tk tl / 16 ^ 2 % 16 = s := by unfold rdC; omega
  have d3 : rdC r s b tk tl / 16 ^ 3 % 16 = tk := by unfold rdC; omega
  have d4 : rdC r s b tk tl / 16 ^ 4 % 16 = b := by unfold rdC; omega
  have d5 : rdC r s b tk tl / 16 ^ 5 % 16 = tl.length := by unfold rdC; omega
  generalize hM2 : xwI (xwI M1 p 2 (nI tk)) p 3 (nI b) = M2
  have g0 : M2.1 p 0 = nI r := by rw [← hM2, xwI_ne (by omega), xwI_ne (by omega)]; exact a0
  have g1 : M2.1 p 1 = nI s := by rw [← hM2, xwI_ne (by omega), xwI_ne (by omega)]; exact a1
  have g2 : M2.1 p 2 = nI tk := by rw [← hM2, xwI_ne (by omega), xwI_at]
  have g3 : M2.1 p 3 = nI b := by rw [← hM2, xwI_at]
  have g4 : M2.1 p 4 = nI 0 := by rw [← hM2, xwI_ne (by omega), xwI_ne (by omega)]; exact a4
  have F2 : Fi (fun c => c = p ∨ c = p + 1) M M2 := by rw [← hM2]; exact (F1.wI (Or.inl rfl)).wI (Or.inl rfl)
  have key : ∀ m, m ≤ tl.length → ∃ M', M'.1 p 4 = nI (tl.take m).length ∧ (∀ j (y : Nat), (tl.take m)[j]? = some y → M'.1 (p + 1) j = nI y) ∧ Fi (fun c => c = p ∨ c = p + 1) M M' ∧ (∀ j, j ≠ 4 → M'.1 p j = M2.1 p j) ∧ ∀ n, fX4_unpack_l41 p (lN (rdC r s b tk tl)) (nI tl.length) (fun _ M19 => some M19) (n + m) (nI 0) M2 = fX4_unpack_l41 p (lN (rdC r s b tk tl)) (nI tl.length) (fun _ M19 => some M19) n (nI m) M' := by
    intro m
    induction m with
    | zero => intro _; exact ⟨M2, g4, fun j y h => by simp at h, F2, fun _ _ => rfl, fun n => rfl⟩
    | succ m ih =>
      intro hm
      obtain ⟨M3, b4, b5, F3, b6, h3⟩ := ih (by omega)
      have hg : tl[m]? = some tl[m] := List.getElem?_eq_getElem (by omega)
      obtain ⟨M4, f4, c4, c5, F4, c6⟩ := s_addTouched (x := tl[m]) hp b4 b5 (by rw [List.length_take]; omega)
      have e : tl.take (m + 1) = tl.take m ++ [tl[m]] := by rw [List.take_add_one, hg]; rfl
      refine ⟨M4, by rw [e]; exact c4, by rw [e]; exact c5, F3.trans F4, fun j hj => (c6 j hj).trans (b6 j hj), fun n => ?_⟩
      rw [show n + (m + 1) = n + 1 + m by omega, h3 (n + 1), fX4_unpack_l41.eq_2]
      refine sF (by rw [eLe (by omega) (by omega)]; omega) ?_
      rw [nI_add, e_part hC' (by omega), eBn, rdC_hi hr hs hb ht hl, digs_at hx hg]
      exact sBv f4 (sLe (nI_1 m) rfl)
  obtain ⟨M', e4, e5, F', e6, h'⟩ := key tl.length (Nat.le_refl _)
  rw [List.take_length] at e4 e5
  refine ⟨M', ?_, ⟨⟨by rw [e6 0 (by decide)]; exact g0, by rw [e6 1 (by decide)]; exact g1, fun _ => by rw [e6 2 (by decide)]; exact g2, by rw [e6 3 (by decide)]; exact g3, e4, e5, h1, hr, hs, hb, ht⟩, by rw [e6 2 (by decide)]; exact g2, hl, hx⟩, F'⟩
  unfold fX4_unpack
  rw [e_part hC' (by decide), eBn, d1, e_part hC' (by decide), eBn, d2]
  refine sBv f1 ?_
  rw [e_part hC' (by decide), eBn, d3, eLt, e_part hC' (by decide), eBn, d4]
  refine sLe hM2 ?_
  rw [e_part hC' (by decide), eBn, d5]
  have e : xFU = (39990 + (9 - tl.length)) + 1 + tl.length := by rw [xFU_eq]; omega
  rw [e, h', fX4_unpack_l41.eq_2]
  exact sT (by rw [eLe (by omega) (by omega)]; exact Nat.le_refl _) rfl
theorem s_touchedMask {M : xMem} {p r s b tk : Nat} {tl : List Nat} (hp : xkd p = 4) (h : PlF M p r s b tk tl) : fX4_touchedMask p M = some (nI (setR tl), M) := by
  obtain ⟨p5, pl, -⟩ := pl_rf hp
  obtain ⟨hP, h2, hl, hx⟩ := h
  obtain ⟨q0, q1, -, q3, q4, q5, -, hr, hs, hb, htk⟩ := hP
  unfold fX4_touchedMask
  have hL := loopU (fun n k => fX4_touchedMask_l4 p (fun v4 v5 M6 => some (v4, M6)) n (nI ((tl.take k).foldl orS 0)) (nI k) M) tl.length (some (nI ((tl.take tl.length).foldl orS 0), M)) (by omega) (fun n k hk => ?_) (fun n => ?_)
  · rw [List.take_length] at hL
    exact hL
  · have hg : tl[k]? = some tl[k] := List.getElem?_eq_getElem hk
    have hxk := hx _ (List.mem_of_getElem? hg)
    rw [fX4_touchedMask_l4.eq_2, q4, p5, pl, foldl_take _ _ hg]
    refine sF (by rw [eLe (by omega) (by omega)]; omega) (sF (by rw [eLe (by decide) (by omega)]; omega) (sGb k rfl (by omega) (by decide) ?_))
    rw [eCl (by omega), q5 k _ hg, e_shl1 _ (by omega), e_orN]
    exact sLt (sLe (nI_1 k) rfl)
  · rw [fX4_touchedMask_l4.eq_2, q4]
    exact sT (by rw [eLe (by omega) (by omega)]; exact Nat.le_refl _) rfl
