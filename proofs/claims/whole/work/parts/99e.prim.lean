/-! ===== the model's parser: its steps as functions of where it stands (a fault, or a token) ===== -/
abbrev PS : Type := (Nat × Nat) ⊕ TK
def gd : PS → Nat
  | .inr _ => 1
  | .inl _ => 0
theorem g0 {b : Nat × Nat} : nI (gd (.inl b)) = 0 := by show nI 0 = 0; decide
theorem g1 {T : TK} : ¬ nI (gd (.inr T)) = 0 := by show ¬ nI 1 = 0; decide
def xE (f : Nat) : PS → PS
  | .inr T => .inl (f, T.1)
  | .inl b => .inl b
def xAd (tp : List Nat) : PS → PS
  | .inr T => .inr (adv tp T.2.2)
  | .inl b => .inl b
def xW (tp : List Nat) (j : Nat) : PS → Nat
  | .inr T => if wd tp T = j then 1 else 0
  | .inl _ => 0
def xPass (tp : List Nat) (j : Nat) (st : PS) : PS := if xW tp j st = 1 then xAd tp st else xE 1 st
def xS (tp : List Nat) (c : Nat) : PS → Nat
  | .inr T => if T.2.1 = 3 ∧ tp.getD T.1 0 = c then 1 else 0
  | .inl _ => 0
def xPassS (tp : List Nat) (c : Nat) (st : PS) : PS := if xS tp c st = 1 then xAd tp st else xE 1 st
def xCan (b : Nat) (st : PS) : PS := if b = 1 then st else xE 5 st
def isNm (tp : List Nat) (T : TK) : Prop := T.2.1 = 1 ∧ T.2.2 - T.1 ≤ 6 ∧ wd tp T = 17
def xNm (tp : List Nat) : PS → PS × List Nat
  | .inr T => if T.2.1 = 1 ∧ T.2.2 - T.1 ≤ 6 ∧ wd tp T = 17 then (.inr T, ltr (sg tp T)) else (.inl (1, T.1), [])
  | .inl b => (.inl b, [])
def tmF (n : Nat → List Nat) (T : TK) (l : List Nat) : PS × Nat := if n 0 = l then (.inr T, 0) else if n 1 = l then (.inr T, 1) else (.inl (4, T.1), 0)
def xTm (tp : List Nat) (n : Nat → List Nat) (st : PS) : PS × Nat := match xNm tp st with
  | (.inr T, l) => tmF n T l
  | (.inl b, _) => (.inl b, 0)
def xSh (tp : List Nat) : PS → PS × Nat
  | .inr T => if T.2.1 = 2 then (if 1 ≤ nvC (sg tp T) ∧ nvC (sg tp T) ≤ 99 then (.inr T, nvC (sg tp T)) else (.inl (2, T.1), 0)) else (.inl (1, T.1), 0)
  | .inl b => (.inl b, 0)
def fsI (σ : Nat → Nat) (t x : Nat) : Nat := fsP (fun i => σ (5 + 10 * t + i) == x) (σ (1 + t))
def oneF (σ : Nat → Nat) (t : Nat) (T : TK) (v : Nat) : PS × Nat := if fsI σ t v < σ (1 + t) then (.inr T, fsI σ t v) else (.inl (4, T.1), 0)
def xOne (tp : List Nat) (σ : Nat → Nat) (t : Nat) (st : PS) : PS × Nat := match xSh tp st with
  | (.inr T, v) => oneF σ t T v
  | (.inl b, _) => (.inl b, 0)
theorem fsh_eq {σ : Nat → Nat} {t x : Nat} (hm : σ (1 + t) ≤ 10) : fsh σ t x = if fsI σ t x < σ (1 + t) then nI (fsI σ t x) else -1 := by
  unfold fsh fsI
  have key : ∀ m k, k + m = σ (1 + t) → k ≤ fsP (fun i => σ (5 + 10 * t + i) == x) (σ (1 + t)) → runL (S := Unit) (fun i _ => if σ (5 + 10 * t + i) = x then .inr (nI i) else .inl ()) (fun _ => -1) m k () = if fsP (fun i => σ (5 + 10 * t + i) == x) (σ (1 + t)) < σ (1 + t) then nI (fsP (fun i => σ (5 + 10 * t + i) == x) (σ (1 + t))) else -1 := by
    intro m
    induction m with
    | zero =>
      intro k h1 h2
      rw [if_neg (by omega)]
      rfl
    | succ m ih =>
      intro k h1 h2
      unfold runL
      by_cases e : σ (5 + 10 * t + k) = x
      · simp only [e, if_true]
        have : fsP (fun i => σ (5 + 10 * t + i) == x) (σ (1 + t)) = k := by
          rcases Nat.lt_or_ge k (fsP (fun i => σ (5 + 10 * t + i) == x) (σ (1 + t))) with z | z
          · have := fsP_no _ _ _ z
            simp at this
            exact absurd e this
          · omega
        rw [this, if_pos (by omega)]
      · simp only [e, if_false]
        refine ih (k + 1) (by omega) ?_
        rcases Nat.lt_or_ge k (fsP (fun i => σ (5 + 10 * t + i) == x) (σ (1 + t))) with z | z
        · omega
        · have hk : fsP (fun i => σ (5 + 10 * t + i) == x) (σ (1 + t)) = k := by omega
          have := fsP_at (fun i => σ (5 + 10 * t + i) == x) (σ (1 + t)) (by omega)
          rw [hk] at this
          simp at this
          exact absurd this e
  exact key _ 0 (by omega) (Nat.zero_le _)
/-- where the model stands -/
def MS (tp : List Nat) (M : xMem) (σ : Nat → Nat) (st : PS) : Prop := TpB tp M ∧ TM M σ ∧ xnw M = 148 ∧ match st with
  | .inr T => TkO tp T ∧ M.1 146 17 = nI 0 ∧ M.1 146 18 = -1 ∧ MkT tp M T
  | .inl b => 1 ≤ b.1 ∧ b.1 ≤ 7 ∧ b.2 ≤ tp.length ∧ M.1 146 17 = nI b.1 ∧ M.1 146 18 = nI b.2
def Fe (M M' : xMem) : Prop := (∀ c, c ≠ 146 → M'.1 c = M.1 c) ∧ (∀ j, j < 13 ∨ 18 < j → M'.1 146 j = M.1 146 j) ∧ M'.2 = M.2
theorem Fe.refl (M : xMem) : Fe M M := ⟨fun _ _ => rfl, fun _ _ => rfl, rfl⟩
theorem Fe.trans {M M1 M2 : xMem} (h1 : Fe M M1) (h2 : Fe M1 M2) : Fe M M2 := ⟨fun c a => (h2.1 c a).trans (h1.1 c a), fun j a => (h2.2.1 j a).trans (h1.2.1 j a), h2.2.2.trans h1.2.2⟩
theorem Fq.fe {M M' : xMem} (h : Fq M M') : Fe M M' := ⟨h.1, fun j a => h.2.1 j (by omega), h.2.2⟩
theorem Fe.wI {M M1 : xMem} {j : Nat} {v : Int32} (h : Fe M M1) (hj : 13 ≤ j ∧ j ≤ 18) : Fe M (xwI M1 146 j v) :=
  h.trans ⟨fun c a => xwI_c a, fun i a => xwI_ne (Or.inr (by omega)), rfl⟩
theorem TpB.fe {tp : List Nat} {M M' : xMem} (h : TpB tp M) (hF : Fe M M') : TpB tp M' := ⟨by rw [hF.2.1 12 (by omega)]; exact h.1, by rw [hF.1 150 (by decide)]; exact h.2⟩
theorem TM.fe {M M' : xMem} {σ : Nat → Nat} (h : TM M σ) (hF : Fe M M') : TM M' σ := by
  unfold TM xnw at h ⊢
  rw [hF.2.2]
  exact h
theorem nw.fe {M M' : xMem} (h : xnw M = 148) (hF : Fe M M') : xnw M' = 148 := by
  unfold xnw at h ⊢
  rw [hF.2.2]
  exact h
/-- what else stays as it was: a change that this doesn't see -/
theorem MS.of {tp : List Nat} {M M' : xMem} {σ σ' : Nat → Nat} {st : PS} (h : MS tp M σ st) (e : ∀ c, c ≠ 146 → c ≠ 149 → M'.1 c = M.1 c) (e2 : ∀ j, 10 < j → M'.1 146 j = M.1 146 j) (hT : TM M' σ') (hn : xnw M' = 148) : MS tp M' σ' st := by
  obtain ⟨h1, h2, h3, h4⟩ := h
  refine ⟨⟨by rw [e2 12 (by decide)]; exact h1.1, by rw [e 150 (by decide) (by decide)]; exact h1.2⟩, hT, hn, ?_⟩
  cases st with
  | inl b => simp only at h4 ⊢; rw [e2 17 (by decide), e2 18 (by decide)]; exact h4
  | inr T =>
    simp only at h4 ⊢
    unfold MkT
    rw [e2 17 (by decide), e2 18 (by decide), e2 13 (by decide), e2 14 (by decide), e2 15 (by decide), e2 16 (by decide)]
    exact h4
theorem MS.wI {tp : List Nat} {M : xMem} {σ : Nat → Nat} {st : PS} {j : Nat} {v : Int32} (h : MS tp M σ st) (hj : j ≤ 10) : MS tp (xwI M 146 j v) σ st :=
  h.of (fun c a _ => xwI_c a) (fun i a => xwI_ne (Or.inr (by omega))) h.2.1 h.2.2.1
section
variable {tp : List Nat} {M : xMem} {σ : Nat → Nat} {st : PS}
theorem m_good (h : MS tp M σ st) : fX11_good 146 M = some (nI (gd st), M) := by
  unfold fX11_good
  cases st with
  | inl b =>
    obtain ⟨-, -, -, b1, b2, b3, b4, b5⟩ := h
    rw [b4]
    exact sF (eN0 (by omega) (by omega)) rfl
  | inr T =>
    obtain ⟨-, -, -, t1, t2, t3, t4⟩ := h
    rw [t2]
    exact sT (by decide) rfl
theorem m_errs (h : MS tp M σ st) {f : Nat} (h1 : 1 ≤ f) (h7 : f ≤ 7) : ∃ M', fX11_errs 146 (nI f) (M.1 146 14) M = some M' ∧ MS tp M' σ (xE f st) ∧ Fe M M' := by
  unfold fX11_errs
  rw [m_good h, eBn]
  cases st with
  | inl b => exact ⟨M, sT g0 rfl, h, Fe.refl M⟩
  | inr T =>
    obtain ⟨b1, b2, b3, t1, t2, t3, t4⟩ := h
    have F : Fe M (xwI (xwI M 146 17 (nI f)) 146 18 (nI T.1)) := ((Fe.refl M).wI (by omega)).wI (by omega)
    refine ⟨xwI (xwI M 146 17 (nI f)) 146 18 (nI T.1), sF g1 ?_, ⟨b1.fe F, b2.fe F, nw.fe b3 F, h1, h7, t1.b.1, ?_, ?_⟩, F⟩
    · rw [t4.2.1]; rfl
    · rw [xwI_ne (by omega), xwI_at]
    · rw [xwI_at]
variable (hl : tp.length ≤ 2000) (hb : ∀ b ∈ tp, b < 256)
theorem m_adv {T : TK} (hl : tp.length ≤ 2000) (hb : ∀ b ∈ tp, b < 256) (h : MS tp M σ (.inr T)) : ∃ M', fX11_advance 146 M = some M' ∧ MS tp M' σ (xAd tp (.inr T)) ∧ Fe M M' := by
  obtain ⟨b1, b2, b3, t1, t2, t3, t4⟩ := h
  obtain ⟨M', f, k, F⟩ := m_advance b1 hl hb t1.b.2.2.1 t4.1
  exact ⟨M', f, ⟨b1.fe F.fe, b2.fe F.fe, nw.fe b3 F.fe, t1.nx, by rw [F.2.1 17 (by omega)]; exact t2, by rw [F.2.1 18 (by omega)]; exact t3, k⟩, F.fe⟩
/-- 'if (good()) advance();' -/
theorem m_advG {β : Type} (hl : tp.length ≤ 2000) (hb : ∀ b ∈ tp, b < 256) (h : MS tp M σ st) : ∃ M', MS tp M' σ (xAd tp st) ∧ Fe M M' ∧ ∀ (J : xMem → Option β), (if nI (gd st) = 0 then J M else (xBv (fX11_advance 146 M) fun M2 => J M2)) = J M' := by
  cases st with
  | inl b => exact ⟨M, h, Fe.refl M, fun J => sT g0 rfl⟩
  | inr T =>
    obtain ⟨M', f, k, F⟩ := m_adv hl hb h
    exact ⟨M', k, F, fun J => sF g1 (sBv f rfl)⟩
theorem runL_eqk {q : Nat → Bool} (hm : ∀ k, q (k + 1) = true → q k = true) : ∀ m k, runL (S := Unit) (fun k _ => if q k = true then .inl () else .inr (nI 0)) (fun _ => nI (if q (k + m) = true then 1 else 0)) m k () = nI (if q (k + m) = true then 1 else 0) := by
  have down : ∀ d k, q (k + d) = true → q k = true := by
    intro d
    induction d with
    | zero => intro k h; exact h
    | succ d ih => intro k h; exact ih k (hm _ h)
  have gen : ∀ m k N, k + m = N → runL (S := Unit) (fun k _ => if q k = true then .inl () else .inr (nI 0)) (fun _ => nI (if q N = true then 1 else 0)) m k () = nI (if q N = true then 1 else 0) := by
    intro m
    induction m with
    | zero => intro k N _; rfl
    | succ m ih =>
      intro k N hN
      unfold runL
      by_cases z : q k = true
      · simp only [z, if_true]
        exact ih (k + 1) N (by omega)
      · simp only [z]
        have : ¬ q N = true := fun y => z (down (m + 1) k (by rw [hN]; exact y))
        rw [if_neg this]
        rfl
  exact fun m k => gen m k _ rfl
theorem ltr_inj {l m : List Nat} (hl : ∀ b ∈ l, isL b) (hm : ∀ b ∈ m, isL b) : ltr l = ltr m ↔ l = m := by
  constructor
  · intro h
    have hlen : l.length = m.length := by
      have := congrArg List.length h
      unfold ltr at this
      rw [List.length_map, List.length_map] at this
      exact this
    apply List.ext_getElem hlen
    intro i h1 h2
    have g1 := List.getElem?_eq_getElem h1
    have g2 := List.getElem?_eq_getElem h2
    have e1 := ltr_at g1
    have e2 := ltr_at g2
    rw [h, e2] at e1
    have e3 : m[i] - 96 = l[i] - 96 := by simpa using e1
    have c1 := hl _ (List.mem_of_getElem? g1)
    have c2 := hm _ (List.mem_of_getElem? g2)
    unfold isL at c1 c2
    omega
  · intro h; rw [h]
theorem txt_L : ∀ j, j < 17 → ∀ b ∈ txt (ms j), isL b := by decide +kernel
theorem m_isWord (hl : tp.length ≤ 2000) (h : MS tp M σ st) {i : Nat} (j : Nat) (hj : j < 17) (hi : ms j = i) : fX11_isWord 146 i M = some (nI (xW tp j st), M) := by
  subst hi
  have no : ∀ (K : Int32 → Int32 → xMem → Option (Int32 × xMem)), K (nI 0) (nI 0) M = some (nI 0, M) → fX11_isWord_l39 146 (ms j) K xFU (nI 0) (nI 0) M = some (nI 0, M) := by
    intro K hK
    rw [show xFU = 39999 + 1 from rfl, fX11_isWord_l39.eq_2]
    by_cases z : nI (xsn (ms j)) ≤ nI 0
    · exact sT z hK
    · exact sF z (sT (by decide) hK)
  unfold fX11_isWord
  rw [m_good h, eBn]
  cases st with
  | inl b => exact sLt (sT g0 (no _ (sGd (Or.inl (by decide)) rfl)))
  | inr T =>
    obtain ⟨b1, b2, b3, t1, t2, t3, t4⟩ := id h
    have hB := t1.b
    have hx : xW tp j (.inr T) = if wd tp T = j then 1 else 0 := rfl
    rw [hx]
    refine sLt (sF g1 ?_)
    rw [t4.2.2.1, t4.1, t4.2.1]
    by_cases k1 : T.2.1 = 1
    · refine sT (by rw [k1]) ?_
      rw [eSub (by omega)]
      have hwd : wd tp T = j ↔ sg tp T = txt (ms j) := by
        unfold wd
        rw [if_pos k1, wix_iff hj]
        unfold Wd
        rw [ltr_inj (txt_L j hj) (sgL t1 k1)]
        exact ⟨fun e => e.symm, fun e => e.symm⟩
      have hsn : xsn (ms j) = (txt (ms j)).length := rfl
      have hsn7 : xsn (ms j) ≤ 7 := by
        have := (Wd_ok hj).2
        unfold Wd ltr at this
        rw [List.length_map] at this
        exact this
      by_cases hlen : T.2.2 - T.1 = xsn (ms j)
      · refine sT (by rw [hlen]) ?_
        have hsl := sg_len t1
        generalize hq : (fun k => decide ((sg tp T).take k = (txt (ms j)).take k)) = q
        have hqk : ∀ k, (q k = true) = ((sg tp T).take k = (txt (ms j)).take k) := fun k => by rw [← hq]; simp
        have hmono : ∀ k, q (k + 1) = true → q k = true := fun k hk => by
          rw [hqk] at hk ⊢
          have := congrArg (List.take k) hk
          rw [List.take_take, List.take_take, Nat.min_eq_left (by omega)] at this
          exact this
        have hfin : (if q (xsn (ms j)) = true then 1 else 0) = if wd tp T = j then 1 else 0 := by
          have : (q (xsn (ms j)) = true) = (wd tp T = j) := by
            rw [hqk, List.take_of_length_le (by omega), List.take_of_length_le (by omega)]
            exact propext hwd.symm
          simp only [this]
        have L := loopR (S := Unit) (M := M) (fun n k _ => fX11_isWord_l39 146 (ms j) (fun (v10 : Int32) (v11 : Int32) (M12 : xMem) => xGd (v10 = 0 ∨ v10 = 1) (some (v10, M12))) n (nI (if q k = true then 1 else 0)) (nI k) M) (fun k _ => if q k = true then .inl () else .inr (nI 0)) (fun _ => nI (if q (0 + xsn (ms j)) = true then 1 else 0)) (xsn (ms j)) () (by omega) (fun n k s hk => ?_) (fun n s => ?_)
        · rw [runL_eqk hmono, Nat.zero_add, hfin] at L
          have q0 : q 0 = true := by rw [hqk]; rfl
          simp only [q0, if_true] at L
          exact L
        · simp only [fX11_isWord_l39.eq_2]
          refine sF (by rw [eLe (by omega) (by omega)]; omega) ?_
          by_cases z : q k = true
          · rw [if_pos z, if_pos z]
            have hg1 := List.getElem?_eq_getElem (show k < (sg tp T).length by omega)
            have hg2 := List.getElem?_eq_getElem (show k < (txt (ms j)).length by omega)
            have hgt := hg1
            rw [sg_at (by omega)] at hgt
            have hbL := sgL t1 k1 _ (List.mem_of_getElem? hg1)
            have hcL := txt_L j hj _ (List.mem_of_getElem? hg2)
            unfold isL at hbL hcL
            rw [t4.2.1, nI_add, x14610, l150]
            refine sF (by decide) (sGb (T.1 + k) rfl (by omega) (by decide) (sGb k rfl hk (by omega) ?_))
            rw [eCl (by omega), eCl (by omega), b1.2 _ _ hgt, bI_lt (by omega), txt_xsc hg2]
            have e1 : (sg tp T).take (k + 1) = (sg tp T).take k ++ [(sg tp T)[k]] := by rw [List.take_add_one, hg1]; rfl
            have e2 : (txt (ms j)).take (k + 1) = (txt (ms j)).take k ++ [(txt (ms j))[k]] := by rw [List.take_add_one, hg2]; rfl
            have hq1 : (q (k + 1) = true) = ((sg tp T)[k] = (txt (ms j))[k]) := by
              rw [hqk, e1, e2]
              rw [hqk] at z
              rw [z]
              simp
            refine sJw (nI (if q (k + 1) = true then 1 else 0)) M (fun J => ?_) (sLe (nI_1 k) rfl)
            by_cases y : (sg tp T)[k] = (txt (ms j))[k]
            · rw [iN1 (by rw [hq1]; exact y)]
              exact sT (congrArg nI y) rfl
            · rw [iN0 (by rw [hq1]; exact y)]
              exact sF (by rw [eEq (by omega) (by omega)]; exact y) rfl
          · rw [if_neg z, if_neg z]
            exact sT (by decide) (sGd (Or.inl (by decide)) rfl)
        · simp only [fX11_isWord_l39.eq_2, Nat.zero_add]
          refine sT (by rw [eLe (by omega) (by omega)]; exact Nat.le_refl _) (sGd ?_ rfl)
          split
          · exact Or.inr (by decide)
          · exact Or.inl (by decide)
      · have hne : ¬ wd tp T = j := fun e => hlen (by rw [← sg_len t1, hwd.1 e]; rfl)
        rw [if_neg hne]
        exact sF (by rw [eEq (by omega) (by omega)]; exact hlen) (no _ (sGd (Or.inl (by decide)) rfl))
    · have hne : ¬ wd tp T = j := by unfold wd; rw [if_neg k1]; omega
      rw [if_neg hne]
      exact sF (by rw [eEq (by omega) (by decide)]; exact k1) (no _ (sGd (Or.inl (by decide)) rfl))
theorem xW_lt (tp : List Nat) (j : Nat) (st : PS) : xW tp j st = 0 ∨ xW tp j st = 1 := by
  cases st with
  | inl b => exact Or.inl rfl
  | inr T =>
    show (if wd tp T = j then 1 else 0) = 0 ∨ (if wd tp T = j then 1 else 0) = 1
    split
    · exact Or.inr rfl
    · exact Or.inl rfl
theorem xS_lt (tp : List Nat) (j : Nat) (st : PS) : xS tp j st = 0 ∨ xS tp j st = 1 := by
  cases st with
  | inl b => exact Or.inl rfl
  | inr T =>
    show (if T.2.1 = 3 ∧ tp.getD T.1 0 = j then 1 else 0) = 0 ∨ (if T.2.1 = 3 ∧ tp.getD T.1 0 = j then 1 else 0) = 1
    split
    · exact Or.inr rfl
    · exact Or.inl rfl
def xEat (tp : List Nat) (j : Nat) (st : PS) : PS := if xW tp j st = 1 then xAd tp st else st
theorem xEat_0 {tp : List Nat} {j : Nat} {st : PS} (e : xW tp j st = 0) : xEat tp j st = st := by unfold xEat; rw [if_neg (by omega)]
theorem xEat_1 {tp : List Nat} {j : Nat} {st : PS} (e : xW tp j st = 1) : xEat tp j st = xAd tp st := by unfold xEat; rw [if_pos e]
theorem xPass_0 {tp : List Nat} {j : Nat} {st : PS} (e : xW tp j st = 0) : xPass tp j st = xE 1 st := by unfold xPass; rw [if_neg (by omega)]
theorem xPass_1 {tp : List Nat} {j : Nat} {st : PS} (e : xW tp j st = 1) : xPass tp j st = xAd tp st := by unfold xPass; rw [if_pos e]
theorem m_eats (hl : tp.length ≤ 2000) (hb : ∀ b ∈ tp, b < 256) (h : MS tp M σ st) {i : Nat} (j : Nat) (hj : j < 17) (hi : ms j = i) : ∃ M', fX11_eats 146 i M = some (nI (xW tp j st), M') ∧ MS tp M' σ (xEat tp j st) ∧ Fe M M' := by
  unfold fX11_eats
  rw [m_isWord hl h j hj hi, eBn]
  rcases xW_lt tp j st with e | e
  · rw [xEat_0 e, e]
    exact ⟨M, sT (by decide) rfl, h, Fe.refl M⟩
  · rw [xEat_1 e, e]
    cases st with
    | inl b => exact absurd e (by simp [xW])
    | inr T =>
      obtain ⟨M', f, k, F⟩ := m_adv hl hb h
      exact ⟨M', sF (by decide) (sBv f rfl), k, F⟩
theorem m_passes (hl : tp.length ≤ 2000) (hb : ∀ b ∈ tp, b < 256) (h : MS tp M σ st) {i : Nat} (j : Nat) (hj : j < 17) (hi : ms j = i) : ∃ M', fX11_passes 146 i M = some M' ∧ MS tp M' σ (xPass tp j st) ∧ Fe M M' := by
  obtain ⟨M1, f1, k1, F1⟩ := m_eats hl hb h j hj hi
  unfold fX11_passes
  rw [f1, eBn]
  rcases xW_lt tp j st with e | e
  · rw [xEat_0 e] at k1
    rw [xPass_0 e, e]
    obtain ⟨M2, f2, k2, F2⟩ := m_errs k1 (f := 1) (by decide) (by decide)
    exact ⟨M2, sT (by decide) (sBv f2 rfl), k2, F1.trans F2⟩
  · rw [xEat_1 e] at k1
    rw [xPass_1 e, e]
    exact ⟨M1, sF (by decide) rfl, k1, F1⟩
def xEatS (tp : List Nat) (c : Nat) (st : PS) : PS := if xS tp c st = 1 then xAd tp st else st
theorem xEatS_0 {tp : List Nat} {j : Nat} {st : PS} (e : xS tp j st = 0) : xEatS tp j st = st := by unfold xEatS; rw [if_neg (by omega)]
theorem xEatS_1 {tp : List Nat} {j : Nat} {st : PS} (e : xS tp j st = 1) : xEatS tp j st = xAd tp st := by unfold xEatS; rw [if_pos e]
theorem xPassS_0 {tp : List Nat} {j : Nat} {st : PS} (e : xS tp j st = 0) : xPassS tp j st = xE 1 st := by unfold xPassS; rw [if_neg (by omega)]
theorem xPassS_1 {tp : List Nat} {j : Nat} {st : PS} (e : xS tp j st = 1) : xPassS tp j st = xAd tp st := by unfold xPassS; rw [if_pos e]
theorem xS_1 {tp : List Nat} {c : Nat} {T : TK} (k3 : T.2.1 = 3) (q : tp.getD T.1 0 = c) : xS tp c (.inr T) = 1 := by
  show (if T.2.1 = 3 ∧ tp.getD T.1 0 = c then 1 else 0) = 1
  rw [if_pos ⟨k3, q⟩]
theorem xS_0 {tp : List Nat} {c : Nat} {T : TK} (q : ¬ (T.2.1 = 3 ∧ tp.getD T.1 0 = c)) : xS tp c (.inr T) = 0 := by
  show (if T.2.1 = 3 ∧ tp.getD T.1 0 = c then 1 else 0) = 0
  rw [if_neg q]
theorem m_eatsByte (hl : tp.length ≤ 2000) (hb : ∀ b ∈ tp, b < 256) (h : MS tp M σ st) {c : Nat} (hc : c < 256) : ∃ M', fX11_eatsByte 146 (nI c) M = some (nI (xS tp c st), M') ∧ MS tp M' σ (xEatS tp c st) ∧ Fe M M' := by
  unfold fX11_eatsByte
  rw [m_good h, eBn]
  cases st with
  | inl b => exact ⟨M, sT g0 rfl, h, Fe.refl M⟩
  | inr T =>
    obtain ⟨b1, b2, b3, t1, t2, t3, t4⟩ := id h
    have hB := t1.b
    rw [t4.2.2.1]
    by_cases k3 : T.2.1 = 3
    · have hlt := hB.2.2.2.2.2.1 (by omega)
      have hg := List.getElem?_eq_getElem (show T.1 < tp.length by omega)
      have hb1 := hb _ (List.mem_of_getElem? hg)
      have e2 : tp.getD T.1 0 = tp[T.1] := by rw [List.getD_eq_getElem?_getD, hg]; rfl
      rw [t4.2.2.2.2 k3]
      by_cases q : tp.getD T.1 0 = c
      · obtain ⟨M', f, k, F⟩ := m_adv hl hb h
        rw [xEatS_1 (xS_1 k3 q), xS_1 k3 q]
        exact ⟨M', sF g1 (sT (by rw [k3]) (sT (by rw [q]) (sBv f rfl))), k, F⟩
      · rw [xEatS_0 (xS_0 (fun z => q z.2)), xS_0 (fun z => q z.2)]
        exact ⟨M, sF g1 (sT (by rw [k3]) (sF (by rw [eEq (by omega) (by omega)]; exact q) rfl)), h, Fe.refl M⟩
    · rw [xEatS_0 (xS_0 (fun z => k3 z.1)), xS_0 (fun z => k3 z.1)]
      exact ⟨M, sF g1 (sF (by rw [eEq (by omega) (by decide)]; exact k3) rfl), h, Fe.refl M⟩
theorem m_passesByte (hl : tp.length ≤ 2000) (hb : ∀ b ∈ tp, b < 256) (h : MS tp M σ st) {c : Nat} (hc : c < 256) : ∃ M', fX11_passesByte 146 (nI c) M = some M' ∧ MS tp M' σ (xPassS tp c st) ∧ Fe M M' := by
  obtain ⟨M1, f1, k1, F1⟩ := m_eatsByte hl hb h hc
  unfold fX11_passesByte
  rw [f1, eBn]
  rcases xS_lt tp c st with e | e
  · rw [xEatS_0 e] at k1
    rw [xPassS_0 e, e]
    obtain ⟨M2, f2, k2, F2⟩ := m_errs k1 (f := 1) (by decide) (by decide)
    exact ⟨M2, sT (by decide) (sBv f2 rfl), k2, F1.trans F2⟩
  · rw [xEatS_1 e] at k1
    rw [xPassS_1 e, e]
    exact ⟨M1, sF (by decide) rfl, k1, F1⟩
theorem m_can (h : MS tp M σ st) {b : Nat} (hb : b < 2) : ∃ M', fX11_can 146 (nI b) M = some M' ∧ MS tp M' σ (xCan b st) ∧ Fe M M' := by
  unfold fX11_can
  rw [m_good h, eBn]
  rcases (show b = 0 ∨ b = 1 by omega) with rfl | rfl
  · have e : xCan 0 st = xE 5 st := rfl
    rw [e]
    cases st with
    | inl b => exact ⟨M, sT g0 rfl, h, Fe.refl M⟩
    | inr T =>
      obtain ⟨M2, f2, k2, F2⟩ := m_errs h (f := 5) (by decide) (by decide)
      exact ⟨M2, sF g1 (sT (by decide) (sBv f2 rfl)), k2, F2⟩
  · have e : xCan 1 st = st := rfl
    rw [e]
    cases st with
    | inl b => exact ⟨M, sT g0 rfl, h, Fe.refl M⟩
    | inr T => exact ⟨M, sF g1 (sF (by decide) rfl), h, Fe.refl M⟩
/-- 'if (good() && (token != T_BYTE || value != ';')) errs(1, from);' -/
def xSemi (tp : List Nat) (st : PS) : PS := if xS tp 59 st = 1 then st else xE 1 st
theorem xSemi_1 {tp : List Nat} {st : PS} (e : xS tp 59 st = 1) : xSemi tp st = st := by unfold xSemi; rw [if_pos e]
theorem xSemi_0 {tp : List Nat} {st : PS} (e : xS tp 59 st = 0) : xSemi tp st = xE 1 st := by unfold xSemi; rw [if_neg (by omega)]
theorem m_semi {β : Type} (hb : ∀ b ∈ tp, b < 256) (h : MS tp M σ st) : ∃ M', MS tp M' σ (xSemi tp st) ∧ Fe M M' ∧ ∀ (J : xMem → Option β), (if nI (gd st) = 0 then (J M) else (xLt (fun  (M30 : xMem) => (xBv (fX11_errs 146 (nI 1) (M30.1 146 14) M30) fun M31 => J M31 : Option β)) fun J281 => if (M.1 146 15) = (nI 3) then (if (M.1 146 16) = (nI 59) then (J M) else (J281  M)) else (J281  M))) = J M' := by
  cases st with
  | inl b => exact ⟨M, h, Fe.refl M, fun J => sT g0 rfl⟩
  | inr T =>
    obtain ⟨b1, b2, b3, t1, t2, t3, t4⟩ := id h
    have hB := t1.b
    obtain ⟨M2, f2, k2, F2⟩ := m_errs h (f := 1) (by decide) (by decide)
    rw [t4.2.2.1]
    by_cases k3 : T.2.1 = 3
    · have hlt := hB.2.2.2.2.2.1 (by omega)
      have hg := List.getElem?_eq_getElem (show T.1 < tp.length by omega)
      have hb1 := hb _ (List.mem_of_getElem? hg)
      have e2 : tp.getD T.1 0 = tp[T.1] := by rw [List.getD_eq_getElem?_getD, hg]; rfl
      rw [t4.2.2.2.2 k3]
      by_cases q : tp.getD T.1 0 = 59
      · rw [xSemi_1 (xS_1 k3 q)]
        exact ⟨M, h, Fe.refl M, fun J => sF g1 (sLt (sT (by rw [k3]) (sT (by rw [q]) rfl)))⟩
      · rw [xSemi_0 (xS_0 (fun z => q z.2))]
        exact ⟨M2, k2, F2, fun J => sF g1 (sLt (sT (by rw [k3]) (sF (by rw [eEq (by omega) (by decide)]; exact q) (sBv f2 rfl))))⟩
    · rw [xSemi_0 (xS_0 (fun z => k3 z.1))]
      exact ⟨M2, k2, F2, fun J => sF g1 (sLt (sF (by rw [eEq (by omega) (by decide)]; exact k3) (sBv f2 rfl)))⟩
end
