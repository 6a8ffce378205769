/-! ===== tokens ===== -/
def spn (c : Nat → Bool) (l : List Nat) (p : Nat) : Nat := p + ((l.drop p).takeWhile c).length
theorem drop_at {l : List Nat} {p b : Nat} (h : l[p]? = some b) : l.drop p = b :: l.drop (p + 1) := by
  obtain ⟨hp, e⟩ := List.getElem?_eq_some_iff.1 h
  rw [List.drop_eq_getElem_cons hp, e]
theorem spn_end {c : Nat → Bool} {l : List Nat} {p : Nat} (h : l.length ≤ p) : spn c l p = p := by
  unfold spn
  rw [List.drop_of_length_le h]
  rfl
theorem spn_t {c : Nat → Bool} {l : List Nat} {p b : Nat} (h : l[p]? = some b) (hc : c b = true) : spn c l p = spn c l (p + 1) := by
  unfold spn
  rw [drop_at h, List.takeWhile_cons, if_pos hc, List.length_cons]
  omega
theorem spn_f {c : Nat → Bool} {l : List Nat} {p b : Nat} (h : l[p]? = some b) (hc : c b = false) : spn c l p = p := by
  unfold spn
  rw [drop_at h, List.takeWhile_cons, if_neg (by rw [hc]; decide)]
  rfl
theorem spn_ge (c : Nat → Bool) (l : List Nat) (p : Nat) : p ≤ spn c l p := Nat.le_add_right _ _
theorem spn_le {c : Nat → Bool} {l : List Nat} {p : Nat} (h : p ≤ l.length) : spn c l p ≤ l.length := by
  unfold spn
  have h1 : ((l.drop p).takeWhile c).length ≤ (l.drop p).length := (List.takeWhile_sublist c).length_le
  rw [List.length_drop] at h1
  omega
theorem spn_all {c : Nat → Bool} {l : List Nat} : ∀ (k p : Nat), p + k < spn c l p → ∃ b, l[p + k]? = some b ∧ c b = true
  | 0, p, h => by
    rcases Nat.lt_or_ge p l.length with z | z
    · have hg := List.getElem?_eq_getElem z
      refine ⟨_, hg, ?_⟩
      cases hc : c l[p] with
      | true => rfl
      | false => rw [spn_f hg hc] at h; omega
    · rw [spn_end z] at h; omega
  | k + 1, p, h => by
    rcases Nat.lt_or_ge p l.length with z | z
    · have hg := List.getElem?_eq_getElem z
      cases hc : c l[p] with
      | true =>
        rw [spn_t hg hc] at h
        have := spn_all (c := c) (l := l) k (p + 1) (by omega)
        rw [show p + (k + 1) = p + 1 + k by omega]
        exact this
      | false => rw [spn_f hg hc] at h; omega
    · rw [spn_end z] at h; omega
theorem spn_stop {c : Nat → Bool} {l : List Nat} {b : Nat} : ∀ (m p : Nat), l.length ≤ p + m → l[spn c l p]? = some b → c b = false
  | 0, p, hm, h => by
    rw [spn_end (by omega), List.getElem?_eq_none (by omega)] at h
    exact absurd h (by simp)
  | m + 1, p, hm, h => by
    rcases Nat.lt_or_ge p l.length with z | z
    · have hg := List.getElem?_eq_getElem z
      cases hc : c l[p] with
      | true =>
        rw [spn_t hg hc] at h
        exact spn_stop m (p + 1) (by omega) h
      | false =>
        rw [spn_f hg hc, hg] at h
        have : l[p] = b := by simpa using h
        rw [← this]
        exact hc
    · rw [spn_end z, List.getElem?_eq_none z] at h
      exact absurd h (by simp)
abbrev isDg (b : Nat) : Prop := 48 ≤ b ∧ b ≤ 57
def kd (b : Nat) : Nat := if isL b then 1 else if isDg b then 2 else 3
def blk (b : Nat) : Bool := b == 32 || b == 10
theorem kd_lt (b : Nat) : kd b = 1 ∨ kd b = 2 ∨ kd b = 3 := by
  unfold kd
  split
  · simp
  · split <;> simp
theorem kd_1 {b : Nat} : kd b = 1 ↔ isL b := by
  unfold kd
  by_cases h : isL b
  · simp only [if_pos h]; exact ⟨fun _ => h, fun _ => trivial⟩
  · simp only [if_neg h]
    by_cases h2 : isDg b
    · simp only [if_pos h2]; exact ⟨fun q => absurd q (by decide), fun q => absurd q h⟩
    · simp only [if_neg h2]; exact ⟨fun q => absurd q (by decide), fun q => absurd q h⟩
theorem kd_2 {b : Nat} : kd b = 2 ↔ isDg b := by
  unfold kd
  by_cases h : isL b
  · simp only [if_pos h]; exact ⟨fun q => absurd q (by decide), fun q => by unfold isL at h; unfold isDg at q; omega⟩
  · simp only [if_neg h]
    by_cases h2 : isDg b
    · simp only [if_pos h2]; exact ⟨fun _ => h2, fun _ => trivial⟩
    · simp only [if_neg h2]; exact ⟨fun q => absurd q (by decide), fun q => absurd q h2⟩
/-- start, kind, end -/
abbrev TK : Type := Nat × Nat × Nat
def kdT (tp : List Nat) (s : Nat) : Nat := match tp[s]? with
  | some b => kd b
  | none => 0
def adv (tp : List Nat) (p : Nat) : TK :=
  (spn blk tp p, kdT tp (spn blk tp p), if kdT tp (spn blk tp p) = 0 then spn blk tp p else if kdT tp (spn blk tp p) = 3 then spn blk tp p + 1 else spn (fun b => kd b == kdT tp (spn blk tp p)) tp (spn blk tp p))
theorem kdT_at {tp : List Nat} {s b : Nat} (h : tp[s]? = some b) : kdT tp s = kd b := by unfold kdT; rw [h]
theorem kdT_no {tp : List Nat} {s : Nat} (h : tp.length ≤ s) : kdT tp s = 0 := by unfold kdT; rw [List.getElem?_eq_none h]
def sg (tp : List Nat) (T : TK) : List Nat := (tp.drop T.1).take (T.2.2 - T.1)
def nvC (l : List Nat) : Nat := l.foldl (fun v b => if v ≤ 99 then v * 10 + (b - 48) else v) 0
def nvM (l : List Nat) : Nat := l.foldl (fun v b => if 10 * v + (b - 48) < 9999 then 10 * v + (b - 48) else 9999) 0
def vlN (k : Nat) (l : List Nat) : Nat := if k = 1 then p5 (ltr l) else if k = 2 then nvC l else if k = 3 then l.getD 0 0 else 0
def vlT (tp : List Nat) (T : TK) : Nat := vlN T.2.1 (sg tp T)
/-- a token as it was read -/
def TkO (tp : List Nat) (T : TK) : Prop := ∃ p, p ≤ tp.length ∧ T = adv tp p
theorem TkO.b {tp : List Nat} {T : TK} (h : TkO tp T) : T.1 ≤ tp.length ∧ T.1 ≤ T.2.2 ∧ T.2.2 ≤ tp.length ∧ T.2.1 < 4 ∧ (T.2.1 = 0 ↔ T.1 = tp.length) ∧ (T.2.1 ≠ 0 → T.1 < T.2.2) ∧ (T.2.1 = 3 → T.2.2 = T.1 + 1) ∧ (∀ j, T.1 ≤ j → j < T.2.2 → ∃ b, tp[j]? = some b ∧ kd b = T.2.1) ∧ (T.2.1 ≠ 3 → T.2.1 ≠ 0 → ∀ b, tp[T.2.2]? = some b → kd b ≠ T.2.1) := by
  obtain ⟨p, hp, rfl⟩ := h
  have hs := spn_le (c := blk) hp
  unfold adv
  generalize spn blk tp p = s at *
  rcases Nat.lt_or_ge s tp.length with z | z
  · have hg := List.getElem?_eq_getElem z
    rw [kdT_at hg]
    have hk := kd_lt tp[s]
    have h0 : kd tp[s] ≠ 0 := by omega
    simp only [if_neg h0]
    by_cases h3 : kd tp[s] = 3
    · simp only [if_pos h3]
      refine ⟨by omega, by omega, by omega, by omega, by omega, by omega, fun _ => trivial, fun j a b => ?_, fun q => absurd h3 q⟩
      rw [show j = s by omega]
      exact ⟨_, hg, rfl⟩
    · simp only [if_neg h3]
      have hge := spn_ge (fun b => kd b == kd tp[s]) tp s
      have hle := spn_le (c := fun b => kd b == kd tp[s]) (l := tp) (p := s) (by omega)
      have hlt : s < spn (fun b => kd b == kd tp[s]) tp s := by
        have := spn_ge (fun b => kd b == kd tp[s]) tp (s + 1)
        rw [spn_t hg (by simp)]
        omega
      refine ⟨by omega, hge, hle, by omega, by omega, fun _ => hlt, fun q => absurd q h3, fun j a b => ?_, fun _ _ b hb => ?_⟩
      · obtain ⟨c, h1, h2⟩ := spn_all (c := fun b => kd b == kd tp[s]) (l := tp) (j - s) s (by omega)
        rw [show s + (j - s) = j by omega] at h1
        exact ⟨c, h1, by simpa using h2⟩
      · have := spn_stop (c := fun b => kd b == kd tp[s]) tp.length s (by omega) hb
        simpa using this
  · rw [kdT_no z, if_pos rfl]
    dsimp only
    exact ⟨by omega, Nat.le_refl _, by omega, by omega, by omega, fun q => absurd rfl q, fun q => absurd q (by decide), fun j a b => by omega, fun _ q => absurd rfl q⟩
theorem TkO.nx {tp : List Nat} {T : TK} (h : TkO tp T) : TkO tp (adv tp T.2.2) := ⟨T.2.2, h.b.2.2.1, rfl⟩
theorem sg_len {tp : List Nat} {T : TK} (h : TkO tp T) : (sg tp T).length = T.2.2 - T.1 := by
  obtain ⟨h1, h2, h3, -⟩ := h.b
  unfold sg
  rw [List.length_take, List.length_drop]
  omega
theorem sg_at {tp : List Nat} {T : TK} {i : Nat} (hi : i < T.2.2 - T.1) : (sg tp T)[i]? = tp[T.1 + i]? := by
  unfold sg
  rw [List.getElem?_take, if_pos hi, List.getElem?_drop]
theorem sg_mem {tp : List Nat} {T : TK} (h : TkO tp T) {b : Nat} (hb : b ∈ sg tp T) : kd b = T.2.1 := by
  obtain ⟨i, hi⟩ := List.getElem?_of_mem hb
  have hl : i < (sg tp T).length := (List.getElem?_eq_some_iff.1 hi).1
  rw [sg_len h] at hl
  rw [sg_at hl] at hi
  obtain ⟨c, h1, h2⟩ := h.b.2.2.2.2.2.2.2.1 (T.1 + i) (by omega) (by omega)
  rw [hi] at h1
  have : b = c := by simpa using h1
  rw [this]
  exact h2
/-! numbers: both cut alike -/
theorem nv_rel : ∀ (l : List Nat) (v w : Nat), (∀ b ∈ l, isDg b) → ((v ≤ 99 ∧ w = v) ∨ (99 < v ∧ v ≤ 999 ∧ 99 < w ∧ w ≤ 9999)) → ((l.foldl (fun v b => if v ≤ 99 then v * 10 + (b - 48) else v) v ≤ 99 ∧ l.foldl (fun v b => if 10 * v + (b - 48) < 9999 then 10 * v + (b - 48) else 9999) w = l.foldl (fun v b => if v ≤ 99 then v * 10 + (b - 48) else v) v) ∨ (99 < l.foldl (fun v b => if v ≤ 99 then v * 10 + (b - 48) else v) v ∧ l.foldl (fun v b => if v ≤ 99 then v * 10 + (b - 48) else v) v ≤ 999 ∧ 99 < l.foldl (fun v b => if 10 * v + (b - 48) < 9999 then 10 * v + (b - 48) else 9999) w ∧ l.foldl (fun v b => if 10 * v + (b - 48) < 9999 then 10 * v + (b - 48) else 9999) w ≤ 9999))
  | [], v, w, _, h => h
  | b :: l, v, w, hl, h => by
    rw [List.foldl_cons, List.foldl_cons]
    have hb := hl b (List.mem_cons_self ..)
    unfold isDg at hb
    refine nv_rel l _ _ (fun c hc => hl c (List.mem_cons_of_mem _ hc)) ?_
    rcases h with ⟨h1, rfl⟩ | ⟨h1, h2, h3, h4⟩
    · rw [if_pos h1]
      split <;> omega
    · rw [if_neg (by omega)]
      split <;> omega
theorem nv_ok {l : List Nat} (h : ∀ b ∈ l, isDg b) : (nvC l ≤ 99 ∧ nvM l = nvC l) ∨ (99 < nvC l ∧ nvC l ≤ 999 ∧ 99 < nvM l ∧ nvM l ≤ 9999) := nv_rel l 0 0 h (Or.inl ⟨by decide, rfl⟩)
/-! the class's parser -/
theorem x60t : xrf 60 0 = 1 ∧ xrf 60 1 = 5 ∧ xrf 60 2 = 61 ∧ xkd 61 = 4 ∧ xrf 0 3 = 60 ∧ xrf 0 5 = 126 := by decide +kernel
def PkC (tp : List Nat) (M : xMem) (T : TK) : Prop := M.1 60 3 = nI T.2.1 ∧ M.1 60 4 = nI T.1 ∧ M.1 60 5 = nI T.2.2 ∧ M.2.1 60 6 = lN (vlT tp T)
/-- only the parser's token changed -/
def Fp (M M' : xMem) : Prop := (∀ c, c ≠ 60 → M'.1 c = M.1 c) ∧ (∀ j, j ≠ 3 → j ≠ 4 → j ≠ 5 → M'.1 60 j = M.1 60 j) ∧ (∀ c, c ≠ 60 → M'.2.1 c = M.2.1 c) ∧ (∀ j, j ≠ 6 → M'.2.1 60 j = M.2.1 60 j) ∧ M'.2.2 = M.2.2
theorem Fp.refl (M : xMem) : Fp M M := ⟨fun _ _ => rfl, fun _ _ _ _ => rfl, fun _ _ => rfl, fun _ _ => rfl, rfl⟩
theorem Fp.trans {M M1 M2 : xMem} (h1 : Fp M M1) (h2 : Fp M1 M2) : Fp M M2 := ⟨fun c a => (h2.1 c a).trans (h1.1 c a), fun j a b d => (h2.2.1 j a b d).trans (h1.2.1 j a b d), fun c a => (h2.2.2.1 c a).trans (h1.2.2.1 c a), fun j a => (h2.2.2.2.1 j a).trans (h1.2.2.2.1 j a), h2.2.2.2.2.trans h1.2.2.2.2⟩
theorem Fp.wI {M M1 : xMem} {j : Nat} {v : Int32} (h : Fp M M1) (hj : j = 3 ∨ j = 4 ∨ j = 5) : Fp M (xwI M1 60 j v) :=
  h.trans ⟨fun c a => xwI_c a, fun i a b d => xwI_ne (Or.inr (by omega)), fun _ _ => rfl, fun _ _ => rfl, rfl⟩
theorem xwL_at (M : xMem) (k j : Nat) (v : Int64) : (xwL M k j v).2.1 k j = v := by simp [xwL, xwQ, va_up, vp_updL]
theorem xwL_ne {M : xMem} {k j i : Nat} {v : Int64} (h : i ≠ j) : (xwL M k j v).2.1 k i = M.2.1 k i := by simp [xwL, xwQ, va_up, vp_updL, h]
theorem xwL_c {M : xMem} {k j c : Nat} {v : Int64} (h : c ≠ k) : (xwL M k j v).2.1 c = M.2.1 c := xwQ_ne h
theorem xwL_1 (M : xMem) (k j : Nat) (v : Int64) : (xwL M k j v).1 = M.1 := rfl
theorem Fp.wL {M M1 : xMem} {v : Int64} (h : Fp M M1) : Fp M (xwL M1 60 6 v) :=
  h.trans ⟨fun _ _ => rfl, fun _ _ _ _ => rfl, fun c a => xwL_c a, fun j a => xwL_ne a, rfl⟩
theorem c_kindOf {b : Nat} {M : xMem} (hb : b < 256) : fX3_kindOf (nI b) M = some (nI (kd b), M) := by
  unfold kd
  by_cases h : isL b
  · rw [if_pos h, c_kindL hb h]
  · rw [if_neg h, c_kindN hb h]
theorem e_accL {v x : Nat} (hx : x < 32) : (lN v <<< (Int32.toInt64 (nI 5) &&& 63)) ||| lN x = lN (v * 32 + x) := by
  rw [wb_shl v (by decide), wb_mod (v * 2 ^ 5), wb_mod (v * 32 + x)]
  have e1 : v * 2 ^ 5 % 2 ^ 64 = (v % 2 ^ 59) * 2 ^ 5 := by
    rw [show (2 : Nat) ^ 64 = 2 ^ 59 * 2 ^ 5 by decide, Nat.mul_mod_mul_right]
  have e2 : (v * 32 + x) % 2 ^ 64 = (v % 2 ^ 59) * 2 ^ 5 + x := by
    have h59 : (2 : Nat) ^ 59 = 576460752303423488 := by decide
    have h64 : (2 : Nat) ^ 64 = 18446744073709551616 := by decide
    rw [h59, h64]
    omega
  have hlt : v % 2 ^ 59 < 2 ^ 59 := Nat.mod_lt _ (by decide)
  have h59 : (2 : Nat) ^ 59 = 576460752303423488 := by decide
  rw [e1, e2]
  have hc : ∀ a b : Int64, a ||| b = b ||| a := fun a b => by
    apply Int64.toBitVec_inj.mp
    simp only [Int64.toBitVec_or]
    exact BitVec.or_comm _ _
  rw [hc, eOrL 5 (by omega) (by rw [h59] at hlt; have h64 : (2 : Nat) ^ 64 = 18446744073709551616 := by decide
                                omega), Nat.add_comm]
theorem ltr_snoc (l : List Nat) (b : Nat) : ltr (l ++ [b]) = ltr l ++ [b - 96] := by unfold ltr; rw [List.map_append]; rfl
theorem nvC_snoc (l : List Nat) (b : Nat) : nvC (l ++ [b]) = if nvC l ≤ 99 then nvC l * 10 + (b - 48) else nvC l := by unfold nvC; rw [List.foldl_append]; rfl
theorem nvM_snoc (l : List Nat) (b : Nat) : nvM (l ++ [b]) = if 10 * nvM l + (b - 48) < 9999 then 10 * nvM l + (b - 48) else 9999 := by unfold nvM; rw [List.foldl_append]; rfl
theorem seg_snoc {tp : List Nat} {s i b : Nat} (h : tp[s + i]? = some b) : (tp.drop s).take (i + 1) = (tp.drop s).take i ++ [b] := by
  rw [List.take_add_one, List.getElem?_drop, h]
  rfl
theorem seg_all {tp : List Nat} {s i : Nat} {P : Nat → Prop} (h : ∀ j (b : Nat), j < i → tp[s + j]? = some b → P b) : ∀ b ∈ (tp.drop s).take i, P b := by
  intro b hb
  obtain ⟨j, hj⟩ := List.getElem?_of_mem hb
  rw [List.getElem?_take] at hj
  split at hj
  · rename_i q
    rw [List.getElem?_drop] at hj
    exact h j b q hj
  · exact absurd hj (by simp)
theorem c_addToValue {M : xMem} {k b : Nat} {l : List Nat} (hk : k = 1 ∨ k = 2) (h3 : M.1 60 3 = nI k) (h6 : M.2.1 60 6 = lN (vlN k l)) (hb : kd b = k) (hl : ∀ c ∈ l, kd c = k) : ∃ M', fX3_addToValue 60 (nI b) M = some M' ∧ M'.2.1 60 6 = lN (vlN k (l ++ [b])) ∧ Fp M M' ∧ M'.1 = M.1 := by
  unfold fX3_addToValue
  rw [h3]
  rcases hk with rfl | rfl
  · have hL := kd_1.1 hb
    unfold isL at hL
    have e0 : vlN 1 l = p5 (ltr l) := rfl
    have e1 : vlN 1 (l ++ [b]) = p5 (ltr l) * 32 + (b - 96) := by
      show p5 (ltr (l ++ [b])) = _
      rw [ltr_snoc, p5_snoc]
    refine ⟨xwL M 60 6 (lN (vlN 1 (l ++ [b]))), ?_, xwL_at .., (Fp.refl M).wL, rfl⟩
    refine sT rfl ?_
    rw [h6, e0, e1, eSub (by omega), nI_add, eI2L (n := b - 97 + 1) (by omega), show b - 97 + 1 = b - 96 by omega, e_accL (by omega)]
    rfl
  · have hD := kd_2.1 hb
    unfold isDg at hD
    have e0 : vlN 2 l = nvC l := rfl
    have e1 : vlN 2 (l ++ [b]) = if nvC l ≤ 99 then nvC l * 10 + (b - 48) else nvC l := nvC_snoc l b
    have hb9 : nvC l ≤ 999 := by
      rcases nv_ok (l := l) (fun c hc => kd_2.1 (hl c hc)) with q | q <;> omega
    by_cases q : nvC l ≤ 99
    · refine ⟨xwL M 60 6 (lN (vlN 2 (l ++ [b]))), ?_, xwL_at .., (Fp.refl M).wL, rfl⟩
      refine sF (by decide) (sF ?_ ?_)
      · rw [h6, e0, eCmpGt, eLLt (by decide) (by omega)]; omega
      · rw [h6, e0, e1, if_pos q, lN_mul, eI2L (n := b) (by omega), lN_add, lN_sub (by omega), show nvC l * 10 + b - 48 = nvC l * 10 + (b - 48) by omega]
        rfl
    · refine ⟨M, ?_, ?_, Fp.refl M, rfl⟩
      · refine sF (by decide) (sT ?_ rfl)
        rw [h6, e0, eCmpGt, eLLt (by decide) (by omega)]; omega
      · rw [e1, if_neg q, h6, e0]
theorem c_advance {M : xMem} {tp : List Nat} {p : Nat} (h : RwR M 1 tp) (hl : tp.length ≤ 2000) (hb : ∀ b ∈ tp, b < 256) (hp : p ≤ tp.length) (h5 : M.1 60 5 = nI p) : ∃ M', fX3_advance 60 M = some M' ∧ PkC tp M' (adv tp p) ∧ Fp M M' := by
  obtain ⟨x0, -⟩ := x60t
  have hTO : TkO tp (adv tp p) := ⟨p, hp, rfl⟩
  have hB := hTO.b
  have e1 : (adv tp p).1 = spn blk tp p := rfl
  have e2 : (adv tp p).2.1 = kdT tp (spn blk tp p) := rfl
  generalize hs : spn blk tp p = s at *
  have hsge : p ≤ s := by rw [← hs]; exact spn_ge _ _ _
  generalize hT : adv tp p = T at *
  obtain ⟨Ts, Tk, Te⟩ := T
  simp only at e1 e2 hB
  subst e1
  have RwK : ∀ {M2 : xMem}, Fp M M2 → RwR M2 1 tp := fun hF => ⟨by rw [hF.1 1 (by decide)]; exact h.1, by rw [hF.1 2 (by decide)]; exact h.2⟩
  have at' : ∀ {M2 : xMem} {j b : Nat}, Fp M M2 → tp[j]? = some b → fX6_at 1 (nI j) M2 = some (nI b, M2) := fun hF hj => c_at (RwK hF) hl hj (hb _ (List.mem_of_getElem? hj))
  -- blanks
  have L1 : ∀ K : Int32 → xMem → Option xMem, fX3_advance_l13 60 (nI tp.length) K xFU (nI p) M = K (nI Ts) M := by
    intro K
    have L := loopU (fun n k => fX3_advance_l13 60 (nI tp.length) K n (nI (p + k)) M) (Ts - p) (K (nI Ts) M) (by omega) (fun n k hk => ?_) (fun n => ?_)
    · exact L
    · obtain ⟨b, h1, h2⟩ := spn_all (c := blk) (l := tp) k p (by rw [hs]; omega)
      have hb1 := hb b (List.mem_of_getElem? h1)
      simp only [fX3_advance_l13.eq_2, x0]
      refine sF (by rw [eLe (by omega) (by omega)]; have := (List.getElem?_eq_some_iff.1 h1).1; omega) (sBn (at' (Fp.refl M) h1) ?_)
      unfold blk at h2
      by_cases z : b = 32
      · exact sT (by rw [z]) (sLe (nI_1 _) rfl)
      · have z2 : b = 10 := by simpa [z] using h2
        refine sF (by rw [eEq (by omega) (by decide)]; exact z) (sBn (at' (Fp.refl M) h1) (sT (by rw [z2]) (sLe (nI_1 _) rfl)))
    · simp only [fX3_advance_l13.eq_2, x0]
      rw [show p + (Ts - p) = Ts by omega]
      rcases Nat.lt_or_ge Ts tp.length with z | z
      · have hg := List.getElem?_eq_getElem z
        have hb1 := hb _ (List.mem_of_getElem? hg)
        have hnb := spn_stop (c := blk) (l := tp) tp.length p (by omega) (by rw [hs]; exact hg)
        unfold blk at hnb
        have hnb2 : ¬ tp[Ts] = 32 ∧ ¬ tp[Ts] = 10 := by simpa using hnb
        refine sF (by rw [eLe (by omega) (by omega)]; omega) (sBn (at' (Fp.refl M) hg) (sF (by rw [eEq (by omega) (by decide)]; exact hnb2.1) (sBn (at' (Fp.refl M) hg) (sF (by rw [eEq (by omega) (by decide)]; exact hnb2.2) rfl))))
      · exact sT (by rw [eLe (by omega) (by omega)]; exact z) rfl
  obtain ⟨B1, B2, B3, B4, B5, B6, B7, B8, B9⟩ := hB
  generalize hM1 : xwI (xwI M 60 4 (nI Ts)) 60 3 (nI Tk) = M1
  have F1 : Fp M M1 := by rw [← hM1]; exact ((Fp.refl M).wI (by omega)).wI (by omega)
  have a3 : M1.1 60 3 = nI Tk := by rw [← hM1, xwI_at]
  have a4 : M1.1 60 4 = nI Ts := by rw [← hM1, xwI_ne (by omega), xwI_at]
  generalize hM2 : xwL M1 60 6 (lN (if Tk = 3 then tp.getD Ts 0 else 0)) = M2
  have F2 : Fp M M2 := by rw [← hM2]; exact F1.wL
  have b3 : M2.1 60 3 = nI Tk := by rw [← hM2]; exact a3
  have b4 : M2.1 60 4 = nI Ts := by rw [← hM2]; exact a4
  have b6 : M2.2.1 60 6 = lN (if Tk = 3 then tp.getD Ts 0 else 0) := by rw [← hM2, xwL_at]
  -- the token's bytes
  have L2 : ∀ K : Int32 → xMem → Option xMem, ∃ M3, fX3_advance_l104 60 (nI tp.length) K xFU (nI Ts) M2 = K (nI (if Tk = 3 then Ts else Te)) M3 ∧ Fp M2 M3 ∧ M3.1 = M2.1 ∧ M3.2.1 60 6 = lN (vlN Tk ((tp.drop Ts).take (Te - Ts))) := by
    intro K
    by_cases k0 : Tk = 0
    · refine ⟨M2, ?_, Fp.refl _, rfl, ?_⟩
      · rw [show xFU = 39999 + 1 from rfl, fX3_advance_l104.eq_2, if_neg (show ¬ Tk = 3 by omega)]
        have hTe : Te = Ts := by have := B5.1 k0; omega
        rw [hTe]
        exact sT (by rw [eLe (by omega) (by omega)]; have := B5.1 k0; omega) rfl
      · rw [b6, if_neg (by omega)]
        unfold vlN
        rw [if_neg (by omega), if_neg (by omega), if_neg (by omega)]
    · by_cases k3 : Tk = 3
      · have hlt := B6 k0
        have hg := List.getElem?_eq_getElem (show Ts < tp.length by omega)
        refine ⟨M2, ?_, Fp.refl _, rfl, ?_⟩
        · rw [show xFU = 39999 + 1 from rfl, fX3_advance_l104.eq_2, if_pos k3, b3]
          exact sF (by rw [eLe (by omega) (by omega)]; omega) (sT (by rw [k3]) rfl)
        · rw [b6, if_pos k3]
          unfold vlN
          rw [if_neg (by omega), if_neg (by omega), if_pos k3]
          congr 1
          rw [B7 k3, show Ts + 1 - Ts = 1 by omega, List.getD_eq_getElem?_getD, List.getD_eq_getElem?_getD, List.getElem?_take, if_pos (by decide), List.getElem?_drop]
          rfl
      · have k12 : Tk = 1 ∨ Tk = 2 := by omega
        have hlt := B6 k0
        obtain ⟨M3, n, ⟨i1, i2, i3⟩, e⟩ := loopE (fun n k M => fX3_advance_l104 60 (nI tp.length) K n (nI (Ts + k)) M) (fun k M' => Fp M2 M' ∧ M'.1 = M2.1 ∧ M'.2.1 60 6 = lN (vlN Tk ((tp.drop Ts).take k))) (Te - Ts) (M := M2) (by omega) ⟨Fp.refl _, rfl, by
          rw [b6, if_neg k3, List.take_zero]
          rcases k12 with q | q <;> rw [q] <;> rfl⟩ (fun n k M4 hk hI => by
            obtain ⟨i1, i2, i3⟩ := hI
            obtain ⟨b, h1, h2⟩ := B8 (Ts + k) (by omega) (by omega)
            have hb1 := hb b (List.mem_of_getElem? h1)
            have c3 : M4.1 60 3 = nI Tk := by rw [i2]; exact b3
            obtain ⟨M5, f5, v5, F5, e5⟩ := c_addToValue k12 c3 i3 h2 (seg_all (fun j c hj hc => by
              obtain ⟨c', h3, h4⟩ := B8 (Ts + j) (by omega) (by omega)
              rw [hc] at h3
              have : c = c' := by simpa using h3
              rw [this]; exact h4))
            refine ⟨M5, ?_, i1.trans F5, by rw [e5, i2], by rw [seg_snoc h1]; exact v5⟩
            simp only [fX3_advance_l104.eq_2, x0]
            have hjl := (List.getElem?_eq_some_iff.1 h1).1
            refine sF (by rw [eLe (by omega) (by omega)]; omega) (sF (by rw [c3, eEq (by omega) (by decide)]; exact k3) (sBn (at' (F2.trans i1) h1) (sBn (c_kindOf hb1) (sT (by rw [c3, h2]) (sBn (at' (F2.trans i1) h1) (sBv f5 (sLe (nI_1 _) rfl)))))))
            )
        refine ⟨M3, ?_, i1, i2, i3⟩
        refine e.trans ?_
        simp only [fX3_advance_l104.eq_2, x0]
        rw [if_neg k3, show Ts + (Te - Ts) = Te by omega]
        have c3 : M3.1 60 3 = nI Tk := by rw [i2]; exact b3
        rcases Nat.lt_or_ge Te tp.length with z | z
        · have hg := List.getElem?_eq_getElem z
          have hb1 := hb _ (List.mem_of_getElem? hg)
          have hnk := B9 k3 k0 _ hg
          have := kd_lt tp[Te]
          refine sF (by rw [eLe (by omega) (by omega)]; omega) (sF (by rw [c3, eEq (by omega) (by decide)]; exact k3) (sBn (at' (F2.trans i1) hg) (sBn (c_kindOf hb1) (sF (by rw [c3, eEq (by omega) (by omega)]; exact hnk) rfl))))
        · exact sT (by rw [eLe (by omega) (by omega)]; exact z) rfl
  obtain ⟨M3, l2, F3, g1, g6⟩ := L2 (fun (v27 : Int32) (M28 : xMem) => xLt (fun (s29 : Int32) (M30 : xMem) => (xLt (xwI M30 60 5 s29) fun M31 => some M31 : Option (xMem))) fun J169 => if (M28.1 60 3) = (nI 3) then (J169 (v27 + (nI 1)) M28) else (J169 v27 M28))
  refine ⟨xwI M3 60 5 (nI Te), ?_, ⟨?_, ?_, xwI_at .., ?_⟩, (F2.trans F3).wI (by omega)⟩
  · unfold fX3_advance fX6_size
    rw [x0, eBn, h.1, h5]
    refine sLt ?_
    rw [L1]
    refine sLt (sJw (nI Tk) (xwI M 60 4 (nI Ts)) (fun J => ?_) (sLe hM1 ?_))
    · rcases Nat.lt_or_ge Ts tp.length with z | z
      · have hg := List.getElem?_eq_getElem z
        have hb1 := hb _ (List.mem_of_getElem? hg)
        refine sF (by rw [eLe (by omega) (by omega)]; omega) (sBn (at' ((Fp.refl M).wI (by omega)) hg) (sBn (c_kindOf hb1) ?_))
        rw [e2, kdT_at hg]
      · refine sT (by rw [eLe (by omega) (by omega)]; exact z) ?_
        rw [e2, kdT_no z]
    · refine sJw (lN (if Tk = 3 then tp.getD Ts 0 else 0)) M1 (fun J => ?_) (sLe hM2 ?_)
      · rw [a3]
        by_cases k3 : Tk = 3
        · have hlt := B6 (by omega)
          have hg := List.getElem?_eq_getElem (show Ts < tp.length by omega)
          have hb1 := hb _ (List.mem_of_getElem? hg)
          rw [if_pos (c := Tk = 3) k3]
          refine sT (by rw [k3]) (sBn (at' F1 hg) ?_)
          rw [eI2L (by omega), List.getD_eq_getElem?_getD, hg]
          rfl
        · rw [if_neg (c := Tk = 3) k3]
          exact sF (by rw [eEq (by omega) (by decide)]; exact k3) rfl
      · rw [l2]
        refine sJw (nI Te) M3 (fun J => ?_) rfl
        rw [g1, b3]
        by_cases k3 : Tk = 3
        · rw [if_pos (c := Tk = 3) k3]
          refine sT (by rw [k3]) ?_
          rw [nI_add, B7 k3]
        · rw [if_neg (c := Tk = 3) k3]
          exact sF (by rw [eEq (by omega) (by decide)]; exact k3) rfl
  · rw [xwI_ne (by omega), g1]; exact b3
  · rw [xwI_ne (by omega), g1]; exact b4
  · show M3.2.1 60 6 = _
    rw [g6]
    rfl
