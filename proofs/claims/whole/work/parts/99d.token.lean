/-! ===== words ===== -/
def ms (j : Nat) : Nat := if j < 9 then 7 + j else if j < 12 then 12 + j else 4 + j
def Wd (j : Nat) : List Nat := ltr (txt (ms j))
def wb : Nat → Nat
  | 0 => 0
  | j + 1 => wb j + (Wd j).length + 1
theorem Wd_tab : ∀ j, j < 17 → ((∀ i, i < (Wd j).length → xsc 0 (wb j + i) = nI (96 + (Wd j).getD i 0) ∧ 1 ≤ (Wd j).getD i 0 ∧ (Wd j).getD i 0 ≤ 26) ∧ xsc 0 (wb j + (Wd j).length) = nI 32 ∧ (Wd j).length ≤ 7 ∧ wb j + (Wd j).length < 94) := by decide +kernel
theorem Wd_dis : ∀ i, i < 17 → ∀ j, j < 17 → Wd i = Wd j → i = j := by decide +kernel
theorem wb_17 : wb 17 = 94 ∧ xsn 0 = 94 := by decide +kernel
def wfr (l : List Nat) : Nat → Nat → Nat
  | 0, j => j
  | m + 1, j => if Wd j = l then j else wfr l m (j + 1)
def wix (l : List Nat) : Nat := wfr l 17 0
theorem wfr_le (l : List Nat) : ∀ m j, j ≤ wfr l m j ∧ wfr l m j ≤ j + m
  | 0, j => by unfold wfr; omega
  | m + 1, j => by
    have := wfr_le l m (j + 1)
    unfold wfr
    split <;> omega
theorem wfr_at (l : List Nat) : ∀ m j, wfr l m j < j + m → Wd (wfr l m j) = l
  | 0, j, h => by unfold wfr at h; omega
  | m + 1, j, h => by
    unfold wfr at h ⊢
    by_cases q : Wd j = l
    · rw [if_pos q]; exact q
    · rw [if_neg q] at h ⊢
      exact wfr_at l m (j + 1) (by omega)
theorem wfr_no (l : List Nat) : ∀ m j i, j ≤ i → i < wfr l m j → Wd i ≠ l
  | 0, j, i, h1, h2 => by unfold wfr at h2; omega
  | m + 1, j, i, h1, h2 => by
    unfold wfr at h2
    by_cases q : Wd j = l
    · rw [if_pos q] at h2; omega
    · rw [if_neg q] at h2
      by_cases e : i = j
      · rw [e]; exact q
      · exact wfr_no l m (j + 1) i (by omega) h2
theorem wix_iff {l : List Nat} {j : Nat} (hj : j < 17) : wix l = j ↔ Wd j = l := by
  constructor
  · intro h
    have := wfr_at l 17 0 (by show wix l < 17; omega)
    rw [← this]
    show Wd j = Wd (wix l)
    rw [h]
  · intro h
    have hle := (wfr_le l 17 0).2
    rcases Nat.lt_or_ge (wix l) 17 with z | z
    · have h1 := wfr_at l 17 0 (by show wix l < 17; omega)
      exact Wd_dis _ z _ hj (by rw [h]; exact h1)
    · exact absurd h (wfr_no l 17 0 j (by omega) (by show j < wix l; omega))
theorem wix_le (l : List Nat) : wix l ≤ 17 := by have := (wfr_le l 17 0).2; unfold wix; omega
/-! letters and their numbers -/
theorem p5_inj' : ∀ (n : Nat) (l m : List Nat), l.length ≤ n → (∀ x ∈ l, 1 ≤ x ∧ x ≤ 26) → (∀ x ∈ m, 1 ≤ x ∧ x ≤ 26) → p5 l = p5 m → l = m := by
  intro n
  have pos : ∀ (m : List Nat), (∀ x ∈ m, 1 ≤ x ∧ x ≤ 26) → p5 m = 0 → m = [] := by
    intro m hm h
    rcases List.eq_nil_or_concat m with e | ⟨L, b, e⟩
    · exact e
    · rw [List.concat_eq_append] at e
      rw [e, p5_snoc] at h
      have := hm b (by rw [e]; simp)
      omega
  induction n with
  | zero =>
    intro l m hl h1 h2 h
    have : l = [] := List.eq_nil_of_length_eq_zero (by omega)
    rw [this] at h ⊢
    exact (pos m h2 h.symm).symm
  | succ n ih =>
    intro l m hl h1 h2 h
    rcases List.eq_nil_or_concat l with e | ⟨L, b, e⟩
    · rw [e] at h ⊢
      exact (pos m h2 h.symm).symm
    · rw [List.concat_eq_append] at e
      rcases List.eq_nil_or_concat m with e2 | ⟨L2, b2, e2⟩
      · rw [e2] at h ⊢
        exact pos l h1 h
      · rw [List.concat_eq_append] at e2
        rw [e, e2, p5_snoc, p5_snoc] at h
        have hb := h1 b (by rw [e]; simp)
        have hb2 := h2 b2 (by rw [e2]; simp)
        have eb : b = b2 := by omega
        have eL : p5 L = p5 L2 := by omega
        have := ih L L2 (by rw [e] at hl; simp at hl; omega) (fun x hx => h1 x (by rw [e]; simp [hx])) (fun x hx => h2 x (by rw [e2]; simp [hx])) eL
        rw [e, e2, eb, this]
theorem lN_modeq {a b : Nat} (h : lN a = lN b) : a % 18446744073709551616 = b % 18446744073709551616 := by
  have h1 := congrArg (fun x : Int64 => x.toBitVec.toNat) h
  simp only [wb_tb, BitVec.toNat_ofNat] at h1
  exact h1
theorem lets_inj {l m : List Nat} (hl : ∀ x ∈ l, 1 ≤ x ∧ x ≤ 26) (hm : ∀ x ∈ m, 1 ≤ x ∧ x ≤ 26) (h7 : m.length ≤ 7) : lN (p5 m) = lN (p5 l) ↔ m = l := by
  constructor
  · intro h
    have h1 := lN_modeq h
    have hm32 : ∀ x ∈ m, x < 32 := fun x hx => by have := hm x hx; omega
    have hl32 : ∀ x ∈ l, x < 32 := fun x hx => by have := hl x hx; omega
    have hpm : p5 m < 34359738368 := by
      have := p5_lt hm32
      have h2 : 32 ^ m.length ≤ 32 ^ 7 := Nat.pow_le_pow_right (by decide) h7
      have h3 : (32 : Nat) ^ 7 = 34359738368 := by decide
      omega
    rcases Nat.lt_or_ge l.length 8 with z | z
    · have hpl : p5 l < 34359738368 := by
        have := p5_lt hl32
        have h2 : 32 ^ l.length ≤ 32 ^ 7 := Nat.pow_le_pow_right (by decide) (by omega)
        have h3 : (32 : Nat) ^ 7 = 34359738368 := by decide
        omega
      exact p5_inj' m.length m l (Nat.le_refl _) hm hl (by omega)
    · exfalso
      have h2 := p5_take hl32 (l.length - 7)
      rw [show l.length - (l.length - 7) = 7 by omega] at h2
      have h3 : (32 : Nat) ^ 7 = 34359738368 := by decide
      have hg := List.getElem?_eq_getElem (show l.length - 8 < l.length by omega)
      have e5 : l.take (l.length - 8 + 1) = l.take (l.length - 8) ++ [l[l.length - 8]] := by rw [List.take_add_one, hg]; rfl
      rw [show l.length - 7 = l.length - 8 + 1 by omega, e5, p5_snoc, h3] at h2
      have hx := hl _ (List.mem_of_getElem? hg)
      omega
  · intro h; rw [h]
theorem Wd_ok {j : Nat} (hj : j < 17) : (∀ x ∈ Wd j, 1 ≤ x ∧ x ≤ 26) ∧ (Wd j).length ≤ 7 := by
  obtain ⟨h1, -, h3, -⟩ := Wd_tab j hj
  refine ⟨fun x hx => ?_, h3⟩
  obtain ⟨i, hi⟩ := List.getElem?_of_mem hx
  have hl : i < (Wd j).length := (List.getElem?_eq_some_iff.1 hi).1
  have := (h1 i hl).2
  rw [List.getD_eq_getElem?_getD, hi] at this
  exact this
def wd (tp : List Nat) (T : TK) : Nat := if T.2.1 = 1 then wix (ltr (sg tp T)) else 17
def wI (n : Nat) : Int32 := if n = 17 then -1 else nI n
theorem wd_le (tp : List Nat) (T : TK) : wd tp T ≤ 17 := by
  unfold wd
  split
  · exact wix_le _
  · exact Nat.le_refl _
theorem sgL {tp : List Nat} {T : TK} (h : TkO tp T) (hk : T.2.1 = 1) : ∀ b ∈ sg tp T, isL b := fun b hb => kd_1.1 (by rw [sg_mem h hb]; exact hk)
theorem ltrL {l : List Nat} (h : ∀ b ∈ l, isL b) : ∀ x ∈ ltr l, 1 ≤ x ∧ x ≤ 26 := by
  intro x hx
  unfold ltr at hx
  rw [List.mem_map] at hx
  obtain ⟨b, hb, rfl⟩ := hx
  have := h b hb
  unfold isL at this
  omega
theorem c_word {tp : List Nat} {M : xMem} {T : TK} (h : PkC tp M T) (hT : TkO tp T) : fX3_word 60 M = some (wI (wd tp T), M) := by
  obtain ⟨h3, -, -, h6⟩ := h
  have hk4 := hT.b.2.2.2.1
  unfold fX3_word wd
  rw [h3]
  by_cases k1 : T.2.1 = 1
  · rw [if_pos (c := T.2.1 = 1) k1]
    refine sT (by rw [k1]) ?_
    have e6 : M.2.1 60 6 = lN (p5 (ltr (sg tp T))) := by rw [h6]; unfold vlT vlN; rw [if_pos k1]
    have hL := ltrL (sgL hT k1)
    generalize ltr (sg tp T) = l at *
    obtain ⟨w17, x0⟩ := wb_17
    -- the letters of a word
    have inner : ∀ (j : Nat), j < 17 → ∀ (i F : Nat), i ≤ (Wd j).length → fX3_word_l17 60 (fun (v7 : Int32) (v8 : Int64) (v9 : Int32) (M10 : xMem) => some ((-1), M10)) (F + i) (nI j) (lN 0) (nI (wb j)) M = fX3_word_l17 60 (fun (v7 : Int32) (v8 : Int64) (v9 : Int32) (M10 : xMem) => some ((-1), M10)) F (nI j) (lN (p5 ((Wd j).take i))) (nI (wb j + i)) M := by
      intro j hj i
      obtain ⟨w1, w2, w3, w4⟩ := Wd_tab j hj
      induction i with
      | zero => intro F _; rfl
      | succ i ih =>
        intro F hi
        obtain ⟨y1, y2, y3⟩ := w1 i (by omega)
        rw [show F + (i + 1) = F + 1 + i by omega, ih (F + 1) (by omega), fX3_word_l17.eq_2, x0]
        refine sF (by rw [eLe (by omega) (by omega)]; omega) (sGb (wb j + i) rfl (by omega) (by decide) ?_)
        rw [eCl (by omega), y1]
        refine sF (by rw [eEq (by omega) (by decide)]; omega) (sGb (wb j + i) rfl (by omega) (by decide) ?_)
        have hg := List.getElem?_eq_getElem (show i < (Wd j).length by omega)
        have hgd : (Wd j).getD i 0 = (Wd j)[i] := by rw [List.getD_eq_getElem?_getD, hg]; rfl
        have e5 : (Wd j).take (i + 1) = (Wd j).take i ++ [(Wd j)[i]] := by rw [List.take_add_one, hg]; rfl
        rw [eSub (by omega), nI_add, eI2L (n := 96 + (Wd j).getD i 0 - 97 + 1) (by omega), show 96 + (Wd j).getD i 0 - 97 + 1 = (Wd j).getD i 0 by omega, e_accL (by omega), e5, p5_snoc, ← hgd]
        exact sLt (sLe (nI_1 _) rfl)
    have outer : ∀ (m j F : Nat), j + m = 17 → 94 - wb j < F → fX3_word_l17 60 (fun (v7 : Int32) (v8 : Int64) (v9 : Int32) (M10 : xMem) => some ((-1), M10)) F (nI j) (lN 0) (nI (wb j)) M = some (wI (wfr l m j), M) := by
      intro m
      induction m with
      | zero =>
        intro j F h1 h2
        obtain ⟨F, rfl⟩ : ∃ q, F = q + 1 := ⟨F - 1, by omega⟩
        rw [show j = 17 by omega, fX3_word_l17.eq_2, x0, w17]
        exact sT (by decide) rfl
      | succ m ih =>
        intro j F h1 h2
        obtain ⟨w1, w2, w3, w4⟩ := Wd_tab j (by omega)
        obtain ⟨F, rfl⟩ : ∃ q, F = q + 1 + (Wd j).length := ⟨F - 1 - (Wd j).length, by omega⟩
        rw [inner j (by omega) _ _ (Nat.le_refl _), List.take_length, fX3_word_l17.eq_2, x0]
        refine sF (by rw [eLe (by omega) (by omega)]; omega) (sGb (wb j + (Wd j).length) rfl (by omega) (by decide) ?_)
        rw [eCl (by omega), w2]
        refine sT rfl ?_
        rw [e6]
        unfold wfr
        obtain ⟨o1, o2⟩ := Wd_ok (show j < 17 by omega)
        by_cases q : Wd j = l
        · rw [if_pos q]
          refine sT (by rw [eCmp0, q]) ?_
          unfold wI
          rw [if_neg (by omega)]
        · rw [if_neg q]
          refine sF (by rw [eCmp0, lets_inj hL o1 o2]; exact q) (sLe (nI_1 j) (sLe (nI_1 _) ?_))
          have ew : wb j + (Wd j).length + 1 = wb (j + 1) := rfl
          rw [ew]
          exact ih (j + 1) F (by omega) (by omega)
    exact outer 17 0 xFU (by decide) (by rw [xFU_eq]; decide)
  · rw [if_neg (c := T.2.1 = 1) k1]
    exact sF (by rw [eEq (by omega) (by decide)]; exact k1) rfl
theorem c_isSign {tp : List Nat} {M : xMem} {T : TK} {c : Nat} (h : PkC tp M T) (hT : TkO tp T) (hb : ∀ b ∈ tp, b < 256) (hc : c < 256) : fX3_isSign 60 (nI c) M = some (nI (if T.2.1 = 3 ∧ tp.getD T.1 0 = c then 1 else 0), M) := by
  obtain ⟨h3, -, -, h6⟩ := h
  have hB := hT.b
  unfold fX3_isSign
  rw [h3]
  by_cases k3 : T.2.1 = 3
  · have hlt := hB.2.2.2.2.2.1 (by omega)
    have hg := List.getElem?_eq_getElem (show T.1 < tp.length by omega)
    have hb1 := hb _ (List.mem_of_getElem? hg)
    have e1 : vlT tp T = tp.getD T.1 0 := by
      unfold vlT vlN
      rw [if_neg (by omega), if_neg (by omega), if_pos k3, List.getD_eq_getElem?_getD, sg_at (by omega), List.getD_eq_getElem?_getD]
      rfl
    have e2 : tp.getD T.1 0 = tp[T.1] := by rw [List.getD_eq_getElem?_getD, hg]; rfl
    refine sT (by rw [k3]) ?_
    rw [h6, e1, eI2L (n := c) (by omega)]
    by_cases q : tp.getD T.1 0 = c
    · rw [iN1 ⟨k3, q⟩]; exact sT (by rw [eCmp0, q]) rfl
    · rw [iN0 (fun z => q z.2)]; exact sF (by rw [eCmp0, eLE (by omega) (by omega)]; exact q) rfl
  · rw [iN0 (fun z => k3 z.1)]
    exact sF (by rw [eEq (by omega) (by decide)]; exact k3) rfl
/-! ===== the model's tokens ===== -/
def TpB (tp : List Nat) (M : xMem) : Prop := M.1 146 12 = nI tp.length ∧ ∀ j (b : Nat), tp[j]? = some b → M.1 150 j = bI b
def MkT (tp : List Nat) (M : xMem) (T : TK) : Prop := M.1 146 13 = nI T.2.2 ∧ M.1 146 14 = nI T.1 ∧ M.1 146 15 = nI T.2.1 ∧ (T.2.1 = 2 → M.1 146 16 = nI (nvM (sg tp T))) ∧ (T.2.1 = 3 → M.1 146 16 = nI (tp.getD T.1 0))
def Fq (M M' : xMem) : Prop := (∀ c, c ≠ 146 → M'.1 c = M.1 c) ∧ (∀ j, j < 13 ∨ 16 < j → M'.1 146 j = M.1 146 j) ∧ M'.2 = M.2
theorem Fq.refl (M : xMem) : Fq M M := ⟨fun _ _ => rfl, fun _ _ => rfl, rfl⟩
theorem Fq.trans {M M1 M2 : xMem} (h1 : Fq M M1) (h2 : Fq M1 M2) : Fq M M2 := ⟨fun c a => (h2.1 c a).trans (h1.1 c a), fun j a => (h2.2.1 j a).trans (h1.2.1 j a), h2.2.2.trans h1.2.2⟩
theorem Fq.wI {M M1 : xMem} {j : Nat} {v : Int32} (h : Fq M M1) (hj : 13 ≤ j ∧ j ≤ 16) : Fq M (xwI M1 146 j v) :=
  h.trans ⟨fun c a => xwI_c a, fun i a => xwI_ne (Or.inr (by omega)), rfl⟩
theorem TpB.fq {tp : List Nat} {M M' : xMem} (h : TpB tp M) (hF : Fq M M') : TpB tp M' := ⟨by rw [hF.2.1 12 (by omega)]; exact h.1, by rw [hF.1 150 (by decide)]; exact h.2⟩
theorem m_see {tp : List Nat} {M : xMem} {j : Nat} (h : TpB tp M) (hl : tp.length ≤ 2000) (hb : ∀ b ∈ tp, b < 256) : (∀ b : Nat, tp[j]? = some b → fX11_see 146 (nI j) M = some (nI b, M)) ∧ (tp.length ≤ j → j < 2147483648 → fX11_see 146 (nI j) M = some (-1, M)) := by
  unfold fX11_see
  rw [h.1, x14610, l150]
  constructor
  · intro b hj
    have hlt := (List.getElem?_eq_some_iff.1 hj).1
    refine sF (by rw [eLe (by omega) (by omega)]; omega) (sGb j rfl (by omega) (by decide) ?_)
    rw [eCl (by omega), h.2 j b hj, bI_and (hb b (List.mem_of_getElem? hj))]
  · intro h1 h2
    exact sT (by rw [eLe (by omega) (by omega)]; exact h1) rfl
theorem m_inN {b lo hi : Nat} {M : xMem} (hb : b < 256) (h1 : lo < 256) (h2 : hi < 256) : fX11_in (Int32.toInt64 (nI b)) (lN lo) (lN hi) M = some (nI (if lo ≤ b ∧ b ≤ hi then 1 else 0), M) := by
  by_cases q : lo ≤ b ∧ b ≤ hi
  · rw [if_pos q]; exact (m_within (by omega) (by omega)).1 ⟨b, q.1, q.2, rfl⟩
  · rw [if_neg q]
    refine (m_within (by omega) (by omega)).2 ?_
    rintro ⟨n, u1, u2, e⟩
    rw [nI_eq (by omega) (by omega)] at e
    omega
theorem m_inM {lo hi : Nat} {M : xMem} (h1 : lo < 256) (h2 : hi < 256) : fX11_in (Int32.toInt64 (-1)) (lN lo) (lN hi) M = some (nI 0, M) := by
  refine (m_within (by omega) (by omega)).2 ?_
  rintro ⟨n, u1, u2, e⟩
  exact m1_ne (show n < 2147483648 by omega) e.symm
theorem m_advance {tp : List Nat} {M : xMem} {p : Nat} (h : TpB tp M) (hl : tp.length ≤ 2000) (hb : ∀ b ∈ tp, b < 256) (hp : p ≤ tp.length) (h13 : M.1 146 13 = nI p) : ∃ M', fX11_advance 146 M = some M' ∧ MkT tp M' (adv tp p) ∧ Fq M M' := by
  have hTO : TkO tp (adv tp p) := ⟨p, hp, rfl⟩
  have hB := hTO.b
  have e1 : (adv tp p).1 = spn blk tp p := rfl
  have e2 : (adv tp p).2.1 = kdT tp (spn blk tp p) := rfl
  generalize hs : spn blk tp p = s at *
  have hsge : p ≤ s := by rw [← hs]; exact spn_ge _ _ _
  generalize hT : adv tp p = T at *
  obtain ⟨Ts, Tk, Te⟩ := T
  simp only at e1 e2 hB
  subst e1
  obtain ⟨B1, B2, B3, B4, B5, B6, B7, B8, B9⟩ := hB
  have see : ∀ {M2 : xMem} {j b : Nat}, Fq M M2 → tp[j]? = some b → fX11_see 146 (nI j) M2 = some (nI b, M2) := fun hF hj => (m_see (h.fq hF) hl hb).1 _ hj
  have see0 : ∀ {M2 : xMem} {j : Nat}, Fq M M2 → tp.length ≤ j → j < 2147483648 → fX11_see 146 (nI j) M2 = some (-1, M2) := fun hF hj h2 => (m_see (h.fq hF) hl hb).2 hj h2
  -- blanks
  have L1 : ∀ K : xMem → Option xMem, ∃ M1, fX11_advance_l0 146 K xFU M = K M1 ∧ Fq M M1 ∧ M1.1 146 13 = nI Ts := by
    intro K
    obtain ⟨M1, n, ⟨i1, i2⟩, e⟩ := loopE (fun n k M => fX11_advance_l0 146 K n M) (fun k M' => Fq M M' ∧ M'.1 146 13 = nI (p + k)) (Ts - p) (M := M) (by omega) ⟨Fq.refl M, h13⟩ (fun n k M2 hk hI => by
      obtain ⟨i1, i2⟩ := hI
      obtain ⟨b, h1, h2⟩ := spn_all (c := blk) (l := tp) k p (by rw [hs]; omega)
      have hb1 := hb b (List.mem_of_getElem? h1)
      refine ⟨xwI M2 146 13 (nI (p + k + 1)), ?_, i1.wI (by omega), by rw [xwI_at]; rfl⟩
      simp only [fX11_advance_l0.eq_2]
      rw [i2]
      unfold blk at h2
      by_cases z : b = 32
      · exact sBn (see i1 h1) (sLt (sT (by rw [z]) (sLe (b := xwI M2 146 13 (nI (p + k + 1))) (by rw [i2, nI_add]) rfl)))
      · have z2 : b = 10 := by simpa [z] using h2
        refine sBn (see i1 h1) (sLt (sF (by rw [eEq (by omega) (by decide)]; exact z) ?_))
        rw [i2]
        exact sBn (see i1 h1) (sT (by rw [z2]) (sLe (b := xwI M2 146 13 (nI (p + k + 1))) (by rw [i2, nI_add]) rfl)))
    refine ⟨M1, ?_, i1, by rw [i2, show p + (Ts - p) = Ts by omega]⟩
    refine e.trans ?_
    have i2' : M1.1 146 13 = nI Ts := by rw [i2, show p + (Ts - p) = Ts by omega]
    simp only [fX11_advance_l0.eq_2]
    rw [i2']
    rcases Nat.lt_or_ge Ts tp.length with z | z
    · have hg := List.getElem?_eq_getElem z
      have hb1 := hb _ (List.mem_of_getElem? hg)
      have hnb := spn_stop (c := blk) (l := tp) tp.length p (by omega) (by rw [hs]; exact hg)
      unfold blk at hnb
      have hnb2 : ¬ tp[Ts] = 32 ∧ ¬ tp[Ts] = 10 := by simpa using hnb
      refine sBn (see i1 hg) (sLt (sF (by rw [eEq (by omega) (by decide)]; exact hnb2.1) ?_))
      rw [i2']
      exact sBn (see i1 hg) (sF (by rw [eEq (by omega) (by decide)]; exact hnb2.2) rfl)
    · refine sBn (see0 i1 z (by omega)) (sLt (sF (by decide) ?_))
      rw [i2']
      exact sBn (see0 i1 z (by omega)) (sF (by decide) rfl)
  unfold fX11_advance
  have hexit : ∀ (K : xMem → Option xMem) (G : (∃ M1, K M1 = K M1)), True := fun _ _ => trivial
  obtain ⟨M1, l1, F1, a13⟩ := L1 (fun  (M7 : xMem) => xLt (xwI M7 146 14 (M7.1 146 13)) fun M8 => xBn (fX11_see 146 (M8.1 146 13) M8) fun r9 M10 => if r9 = (-1) then (xLt (xwI M10 146 15 (nI 0)) fun M36 => some M36) else (xBn (fX11_in (Int32.toInt64 r9) (lN 97) (lN 122) M10) fun r11 M12 => if r11 = 0 then (xBn (fX11_in (Int32.toInt64 r9) (lN 48) (lN 57) M12) fun r13 M14 => if r13 = 0 then (xLt (xwI M14 146 15 (nI 3)) fun M15 => xLt (xwI M15 146 16 r9) fun M16 => xLt (xwI M16 146 13 ((M16.1 146 13) + (nI 1))) fun M17 => some M17) else (xLt (xwI M14 146 16 (nI 0)) fun M18 => fX11_advance_l144 146 r9 (fun  (M27 : xMem) => xLt (xwI M27 146 15 (nI 2)) fun M28 => some M28) xFU  M18)) else (fX11_advance_l83 146 r9 (fun  (M34 : xMem) => xLt (xwI M34 146 15 (nI 1)) fun M35 => some M35) xFU  M12)))
  rw [l1]
  generalize hM2 : xwI M1 146 14 (nI Ts) = M2
  have F2 : Fq M M2 := by rw [← hM2]; exact F1.wI (by omega)
  have b13 : M2.1 146 13 = nI Ts := by rw [← hM2, xwI_ne (by omega)]; exact a13
  have b14 : M2.1 146 14 = nI Ts := by rw [← hM2, xwI_at]
  rcases Nat.lt_or_ge Ts tp.length with z | z
  · have hg := List.getElem?_eq_getElem z
    have hb1 := hb _ (List.mem_of_getElem? hg)
    have ek : Tk = kd tp[Ts] := by rw [e2, kdT_at hg]
    have hk0 : Tk ≠ 0 := by have := kd_lt tp[Ts]; omega
    have hlt := B6 hk0
    by_cases k1 : Tk = 1
    · -- a word
      have hL : isL tp[Ts] := kd_1.1 (by rw [← ek]; exact k1)
      obtain ⟨M3, n, ⟨i1, i2, i3⟩, e⟩ := loopE (fun n k M => fX11_advance_l83 146 (nI tp[Ts]) (fun  (M34 : xMem) => xLt (xwI M34 146 15 (nI 1)) fun M35 => some M35) n M) (fun k M' => Fq M2 M' ∧ M'.1 146 13 = nI (Ts + k) ∧ M'.1 146 14 = nI Ts) (Te - Ts) (M := M2) (by omega) ⟨Fq.refl _, b13, b14⟩ (fun n k M4 hk hI => by
        obtain ⟨i1, i2, i3⟩ := hI
        obtain ⟨b, h1, h2⟩ := B8 (Ts + k) (by omega) (by omega)
        have hb2 := hb b (List.mem_of_getElem? h1)
        have hLb : isL b := kd_1.1 (by rw [h2]; exact k1)
        refine ⟨xwI M4 146 13 (nI (Ts + k + 1)), ?_, i1.wI (by omega), by rw [xwI_at]; rfl, by rw [xwI_ne (by omega)]; exact i3⟩
        simp only [fX11_advance_l83.eq_2]
        rw [i2]
        refine sBn (see (F2.trans i1) h1) ?_
        rw [m_inN hb2 (by decide) (by decide), eBn, iN1 hLb]
        refine sF (by decide) ?_
        rw [i2, nI_add]
        rfl)
      have i2' : M3.1 146 13 = nI Te := by rw [i2, show Ts + (Te - Ts) = Te by omega]
      refine ⟨xwI M3 146 15 (nI 1), ?_, ⟨?_, ?_, ?_, fun q => ?_, fun q => ?_⟩, (F2.trans i1).wI (by omega)⟩
      · refine sLe (b := M2) (by rw [a13]; exact hM2) ?_
        rw [b13]
        refine sBn (see F2 hg) (sF (m1_ne (by omega)) ?_)
        rw [m_inN hb1 (by decide) (by decide), eBn, iN1 hL]
        refine sF (by decide) ?_
        refine e.trans ?_
        simp only [fX11_advance_l83.eq_2]
        rw [i2']
        rcases Nat.lt_or_ge Te tp.length with z2 | z2
        · have hg2 := List.getElem?_eq_getElem z2
          have hb2 := hb _ (List.mem_of_getElem? hg2)
          have hn := B9 (by omega) hk0 _ hg2
          refine sBn (see (F2.trans i1) hg2) ?_
          rw [m_inN hb2 (by decide) (by decide), eBn, iN0 (fun q => hn (by rw [k1]; exact kd_1.2 q))]
          exact sT (by decide) rfl
        · refine sBn (see0 (F2.trans i1) z2 (by omega)) ?_
          rw [m_inM (by decide) (by decide), eBn]
          exact sT (by decide) rfl
      · rw [xwI_ne (by omega)]; exact i2'
      · rw [xwI_ne (by omega)]; exact i3
      · rw [xwI_at]; exact congrArg nI k1.symm
      · exfalso; simp only at q; omega
      · exfalso; simp only at q; omega
    · have hnL : ¬ isL tp[Ts] := fun q => k1 (by rw [ek]; exact kd_1.2 q)
      by_cases k2 : Tk = 2
      · -- a number
        have hD : isDg tp[Ts] := kd_2.1 (by rw [← ek]; exact k2)
        generalize hM3 : xwI M2 146 16 (nI 0) = M3
        have F3 : Fq M M3 := by rw [← hM3]; exact F2.wI (by omega)
        obtain ⟨M4, n, ⟨i1, i2, i3, i4⟩, e⟩ := loopE (fun n k M => fX11_advance_l144 146 (nI tp[Ts]) (fun  (M27 : xMem) => xLt (xwI M27 146 15 (nI 2)) fun M28 => some M28) n M) (fun k M' => Fq M3 M' ∧ M'.1 146 13 = nI (Ts + k) ∧ M'.1 146 14 = nI Ts ∧ M'.1 146 16 = nI (nvM ((tp.drop Ts).take k))) (Te - Ts) (M := M3) (by omega) ⟨Fq.refl _, by rw [← hM3, xwI_ne (by omega)]; exact b13, by rw [← hM3, xwI_ne (by omega)]; exact b14, by rw [← hM3, xwI_at]; rfl⟩ (fun n k M5 hk hI => by
          obtain ⟨i1, i2, i3, i4⟩ := hI
          obtain ⟨b, h1, h2⟩ := B8 (Ts + k) (by omega) (by omega)
          have hb2 := hb b (List.mem_of_getElem? h1)
          have hDb : isDg b := kd_2.1 (by rw [h2]; exact k2)
          have hDb' := hDb
          unfold isDg at hDb'
          have hnv : nvM ((tp.drop Ts).take k) ≤ 9999 := by
            rcases nv_ok (l := (tp.drop Ts).take k) (seg_all (fun j c hj hc => by
              obtain ⟨c', h3, h4⟩ := B8 (Ts + j) (by omega) (by omega)
              rw [hc] at h3
              have : c = c' := by simpa using h3
              rw [this]; exact kd_2.1 (by rw [h4]; exact k2))) with q | q <;> omega
          have F5 := F3.trans i1
          refine ⟨xwI (xwI M5 146 16 (nI (nvM ((tp.drop Ts).take (k + 1))))) 146 13 (nI (Ts + k + 1)), ?_, (i1.wI (by omega)).wI (by omega), by rw [xwI_at]; rfl, by rw [xwI_ne (by omega), xwI_ne (by omega)]; exact i3, by rw [xwI_ne (by omega), xwI_at]⟩
          simp only [fX11_advance_l144.eq_2]
          rw [i2]
          refine sBn (see F5 h1) ?_
          rw [m_inN hb2 (by decide) (by decide), eBn, iN1 hDb]
          refine sF (by decide) ?_
          rw [i2]
          refine sBn (see F5 h1) ?_
          rw [i4, pk_mul, nI_add, eSub (by omega), seg_snoc h1, nvM_snoc]
          have ev : 10 * nvM ((tp.drop Ts).take k) + b - 48 = 10 * nvM ((tp.drop Ts).take k) + (b - 48) := by omega
          rw [ev]
          have eif : (if nI (10 * nvM ((tp.drop Ts).take k) + (b - 48)) < nI 9999 then nI (10 * nvM ((tp.drop Ts).take k) + (b - 48)) else nI 9999) = nI (if 10 * nvM ((tp.drop Ts).take k) + (b - 48) < 9999 then 10 * nvM ((tp.drop Ts).take k) + (b - 48) else 9999) := by
            by_cases y : 10 * nvM ((tp.drop Ts).take k) + (b - 48) < 9999
            · rw [if_pos y, if_pos (by rw [eLtI (by omega) (by decide)]; exact y)]
            · rw [if_neg y, if_neg (by rw [eLtI (by omega) (by decide)]; exact y)]
          rw [eif]
          refine sLt ?_
          rw [xwI_ne (by omega), i2, nI_add]
          rfl)
        have i2' : M4.1 146 13 = nI Te := by rw [i2, show Ts + (Te - Ts) = Te by omega]
        refine ⟨xwI M4 146 15 (nI 2), ?_, ⟨?_, ?_, ?_, fun _ => ?_, fun q => ?_⟩, (F3.trans i1).wI (by omega)⟩
        · refine sLe (b := M2) (by rw [a13]; exact hM2) ?_
          rw [b13]
          refine sBn (see F2 hg) (sF (m1_ne (by omega)) ?_)
          rw [m_inN hb1 (by decide) (by decide), eBn, iN0 hnL]
          refine sT (by decide) ?_
          rw [m_inN hb1 (by decide) (by decide), eBn, iN1 hD]
          refine sF (by decide) (sLe hM3 ?_)
          refine e.trans ?_
          simp only [fX11_advance_l144.eq_2]
          rw [i2']
          rcases Nat.lt_or_ge Te tp.length with z2 | z2
          · have hg2 := List.getElem?_eq_getElem z2
            have hb2 := hb _ (List.mem_of_getElem? hg2)
            have hn := B9 (by omega) hk0 _ hg2
            refine sBn (see (F3.trans i1) hg2) ?_
            rw [m_inN hb2 (by decide) (by decide), eBn, iN0 (fun q => hn (by rw [k2]; exact kd_2.2 q))]
            exact sT (by decide) rfl
          · refine sBn (see0 (F3.trans i1) z2 (by omega)) ?_
            rw [m_inM (by decide) (by decide), eBn]
            exact sT (by decide) rfl
        · rw [xwI_ne (by omega)]; exact i2'
        · rw [xwI_ne (by omega)]; exact i3
        · rw [xwI_at]; exact congrArg nI k2.symm
        · rw [xwI_ne (by omega), i4]; rfl
        · exfalso; simp only at q; omega
      · -- a sign
        have k3 : Tk = 3 := by have := kd_lt tp[Ts]; omega
        have hnD : ¬ isDg tp[Ts] := fun q => k2 (by rw [ek]; exact kd_2.2 q)
        refine ⟨xwI (xwI (xwI M2 146 15 (nI 3)) 146 16 (nI tp[Ts])) 146 13 (nI (Ts + 1)), ?_, ⟨?_, ?_, ?_, fun q => ?_, fun _ => ?_⟩, ((F2.wI (by omega)).wI (by omega)).wI (by omega)⟩
        · refine sLe (b := M2) (by rw [a13]; exact hM2) ?_
          rw [b13]
          refine sBn (see F2 hg) (sF (m1_ne (by omega)) ?_)
          rw [m_inN hb1 (by decide) (by decide), eBn, iN0 hnL]
          refine sT (by decide) ?_
          rw [m_inN hb1 (by decide) (by decide), eBn, iN0 hnD]
          refine sT (by decide) (sLt (sLt ?_))
          rw [xwI_ne (by omega), xwI_ne (by omega), b13, nI_add]
          rfl
        · rw [xwI_at]; exact congrArg nI (B7 k3).symm
        · rw [xwI_ne (by omega), xwI_ne (by omega), xwI_ne (by omega)]; exact b14
        · rw [xwI_ne (by omega), xwI_ne (by omega), xwI_at]; exact congrArg nI k3.symm
        · exfalso; simp only at q; omega
        · rw [xwI_ne (by omega), xwI_at, List.getD_eq_getElem?_getD]
          show nI tp[Ts] = nI ((tp[Ts]?).getD 0)
          rw [hg]
          rfl
  · have k0 : Tk = 0 := by rw [e2, kdT_no z]
    refine ⟨xwI M2 146 15 (nI 0), ?_, ⟨?_, ?_, ?_, fun q => ?_, fun q => ?_⟩, F2.wI (by omega)⟩
    · refine sLe (b := M2) (by rw [a13]; exact hM2) ?_
      rw [b13]
      exact sBn (see0 F2 z (by omega)) (sT rfl rfl)
    · rw [xwI_ne (by omega), b13]
      have : Te = Ts := by
        have h9 : (adv tp p).2.2 = if kdT tp (spn blk tp p) = 0 then spn blk tp p else if kdT tp (spn blk tp p) = 3 then spn blk tp p + 1 else spn (fun b => kd b == kdT tp (spn blk tp p)) tp (spn blk tp p) := rfl
        rw [hT, hs, ← e2, if_pos k0] at h9
        exact h9
      exact congrArg nI this.symm
    · rw [xwI_ne (by omega)]; exact b14
    · rw [xwI_at]; exact congrArg nI k0.symm
    · exfalso; simp only at q; omega
    · exfalso; simp only at q; omega
