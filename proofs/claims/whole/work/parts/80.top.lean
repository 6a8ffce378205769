/-! ===== class and reference side by side ===== -/
def bI (b : Nat) : Int32 := vp_nar .byte (nI b)
def rowX (a : xTl) : Nat → Nat := if (a.2.1 1).length = 0 then fun _ => 0 else rowT a
/-- the class's side: tale, acts, tape, fault, out -/
def KC (M : xMem) (a : xTl) (hs : List xTl) (tp : List Nat) (fk fp : Int32) (ou : List Nat) : Prop :=
  CR M a ∧ AcR M hs a ∧ (M.1 1 1 = nI tp.length ∧ tp.length ≤ 2000 ∧ (∀ b ∈ tp, b < 256) ∧ ∀ j (b : Nat), tp[j]? = some b → M.1 2 j = bI b) ∧ M.1 0 8 = fk ∧ M.1 0 9 = fp ∧
  (M.1 3 1 = nI ou.length ∧ ou.length ≤ 2000 ∧ (∀ b ∈ ou, b < 128) ∧ ∀ j (b : Nat), ou[j]? = some b → M.1 4 j = nI b)
/-- the reference's side -/
def KM (M : xMem) (a : xTl) (hs : List xTl) (tp : List Nat) (fk fp : Int32) (ou : List Nat) : Prop :=
  M.2.2.1 = false ∧ M.2.1 147 = lf (rowX a) ∧ (∃ α, M.2.1 148 = lf α ∧ ∀ j, 3235 ≤ j → α j = 0) ∧ (M.1 146 19 = nI hs.length ∧ ∃ κ, M.2.1 151 = lf κ ∧ ∀ j x, hs[j]? = some x → ∀ i, i < 3235 → κ (3235 * j + i) = rowX x i) ∧
  (M.1 146 11 = nI tp.length ∧ ∀ j (b : Nat), tp[j]? = some b → M.1 150 j = bI b) ∧ M.1 146 17 = fk ∧ M.1 146 18 = fp ∧ (M.1 146 22 = nI ou.length ∧ ∀ j (b : Nat), ou[j]? = some b → M.1 152 j = nI b)
def TOP (M : xMem) : Prop := ∃ a hs tp fk fp ou, KC M a hs tp fk fp ou ∧ KM M a hs tp fk fp ou
def STEP (f g : xMem → Option (Int32 × xMem)) : Prop := ∀ M, TOP M → ∃ v M1 M2, f M = some (v, M1) ∧ g M1 = some (v, M2) ∧ TOP M2
def Fc (M M' : xMem) : Prop := (∀ c, 146 ≤ c → M'.1 c = M.1 c) ∧ (∀ c, 146 ≤ c → M'.2.1 c = M.2.1 c) ∧ M'.2.2.1 = M.2.2.1
def FdM (M M' : xMem) : Prop := (∀ c, c < 146 → M'.1 c = M.1 c) ∧ (∀ c, c < 146 → M'.2.1 c = M.2.1 c) ∧ M'.2.2.2 = M.2.2.2
theorem Fc.refl (M : xMem) : Fc M M := ⟨fun _ _ => rfl, fun _ _ => rfl, rfl⟩
theorem FdM.refl (M : xMem) : FdM M M := ⟨fun _ _ => rfl, fun _ _ => rfl, rfl⟩
theorem Fc.trans {M M1 M2 : xMem} (h1 : Fc M M1) (h2 : Fc M1 M2) : Fc M M2 := ⟨fun c hc => (h2.1 c hc).trans (h1.1 c hc), fun c hc => (h2.2.1 c hc).trans (h1.2.1 c hc), h2.2.2.trans h1.2.2⟩
theorem FdM.trans {M M1 M2 : xMem} (h1 : FdM M M1) (h2 : FdM M1 M2) : FdM M M2 := ⟨fun c hc => (h2.1 c hc).trans (h1.1 c hc), fun c hc => (h2.2.1 c hc).trans (h1.2.1 c hc), h2.2.2.trans h1.2.2⟩
theorem Fc.ofFm {M M' : xMem} (h : Fm M M') : Fc M M' := ⟨fun c hc => h.1 c (by omega), fun c hc => h.2.1 c (by omega), by rw [h.2.2]⟩
theorem Fc.ofFi {P : Nat → Prop} {M M' : xMem} (h : Fi P M M') (hP : ∀ c, P c → c < 146) : Fc M M' := ⟨fun c hc => h.1 c (fun q => by have := hP c q; omega), fun c _ => by rw [h.2], by rw [h.2]⟩
theorem MR.keep {M M' : xMem} {ρ : Nat → Nat} (h : MR M ρ) (e : ∀ c, 12 ≤ c → c < 58 → M'.1 c = M.1 c) (e2 : M'.2.1 42 = M.2.1 42) : MR M' ρ :=
  ⟨h.1.keep (fun c h1 h2 => e c (by omega) (by omega)), h.2.1.keep (fun c h1 h2 => e c (by omega) (by omega)) e2, fun q => (h.2.2 q).keep (fun c h1 h2 => e c (by omega) (by omega))⟩
theorem CR.keep {M M' : xMem} {a : xTl} (h : CR M a) (e : ∀ c, 6 ≤ c → c < 58 → M'.1 c = M.1 c) (e2 : ∀ c, 6 ≤ c → c < 58 → M'.2.1 c = M.2.1 c) : CR M' a := by
  refine ⟨h.1.keep (fun c h1 h2 => e c (by omega) (by omega)) (e2 _ (by omega) (by omega)), ?_⟩
  rcases h.2 with ⟨q1, q2⟩ | ⟨q1, q2, q3, q4⟩
  · exact Or.inl ⟨q1, q2.keep (fun c h1 h2 => e c (by omega) (by omega)) (e2 42 (by decide) (by decide))⟩
  · refine Or.inr ⟨q1, by rw [e 24 (by decide) (by decide)]; exact q2, by rw [e 12 (by decide) (by decide)]; exact q3, by rw [e 12 (by decide) (by decide)]; exact q4⟩
theorem KC.fd {M M' : xMem} {a : xTl} {hs : List xTl} {tp : List Nat} {fk fp : Int32} {ou : List Nat} (h : KC M a hs tp fk fp ou) (hF : FdM M M') : KC M' a hs tp fk fp ou := by
  obtain ⟨h1, h2, h3, h4, h5, h6⟩ := h
  refine ⟨h1.keep (fun c a b => hF.1 c (by omega)) (fun c a b => hF.2.1 c (by omega)), h2.keep (fun c a b => hF.1 c (by omega)) (fun c a b => hF.2.1 c (by omega)) hF.2.2, ?_, by rw [hF.1 0 (by decide)]; exact h4, by rw [hF.1 0 (by decide)]; exact h5, ?_⟩
  · rw [hF.1 1 (by decide), hF.1 2 (by decide)]; exact h3
  · rw [hF.1 3 (by decide), hF.1 4 (by decide)]; exact h6
theorem KM.fc {M M' : xMem} {a : xTl} {hs : List xTl} {tp : List Nat} {fk fp : Int32} {ou : List Nat} (h : KM M a hs tp fk fp ou) (hF : Fc M M') : KM M' a hs tp fk fp ou := by
  unfold KM
  rw [hF.2.2, hF.2.1 147 (by decide), hF.2.1 148 (by decide), hF.2.1 151 (by decide), hF.1 146 (by decide), hF.1 150 (by decide), hF.1 152 (by decide)]
  exact h
/-- what a query needs: there is a text -/
def TQ (M : xMem) (a : xTl) (ρ : Nat → Nat) : Prop :=
  rsOK a.1 a.2.1 ∧ TaR M 6 a ∧ MR M ρ ∧ RI ρ ∧ (M.2.2.1 = false ∧ M.2.1 147 = lf ρ) ∧ ρ 0 = 1 ∧ ∀ t, t < 2 → ρ (1 + t) = (a.2.1 t).length ∧ ρ (3 + t) = p27 (a.1 t) ∧ ∀ i, i < 10 → ρ (5 + 10 * t + i) = (a.2.1 t).getD i 0
/-- there is none -/
def NQ (M : xMem) : Prop := (∀ t, t < 2 → M.1 10 t = nI 0) ∧ M.1 24 5 = nI 0 ∧ M.1 12 2 = nI 0 ∧ M.1 12 3 = nI 0 ∧ M.2.2.1 = false ∧ M.2.1 147 = lf (fun _ => 0)
theorem rowX_td {a : xTl} (h : tdOK a) : rowX a = rowT a := by
  unfold rowX
  have := (h.1.1 1 (by decide)).2.2
  rw [if_neg (by omega)]
theorem rowX_no {a : xTl} (h : noT a) : rowX a = fun _ => 0 := by
  unfold rowX
  rw [(h.1 1 (by decide)).2]
  rfl
theorem row_facts {a : xTl} (h : tdOK a) : rowT a 0 = 1 ∧ ∀ t, t < 2 → rowT a (1 + t) = (a.2.1 t).length ∧ rowT a (3 + t) = p27 (a.1 t) ∧ ∀ i, i < 10 → rowT a (5 + 10 * t + i) = (a.2.1 t).getD i 0 := by
  have hI := RI.beg h.1
  have e : ∀ j, j < 25 → rowT a j = begR a.1 a.2.1 j := fun j hj => row_ros hj hI h.2
  refine ⟨by rw [e 0 (by decide)]; rfl, fun t ht => ⟨by rw [e _ (by omega)]; exact beg_1 ht, by rw [e _ (by omega)]; exact beg_nm ht, fun i hi => by rw [e _ (by omega)]; exact beg_sh ht hi⟩⟩
theorem CR.q {M : xMem} {a : xTl} (h : CR M a) (h1 : M.2.2.1 = false) (h2 : M.2.1 147 = lf (rowX a)) : (tdOK a ∧ TQ M a (rowT a)) ∨ (noT a ∧ NQ M) := by
  rcases h.2 with ⟨q1, q2⟩ | ⟨q1, q2, q3, q4⟩
  · rw [rowX_td q1] at h2
    exact Or.inl ⟨q1, q1.1, h.1, q2, (RI.beg q1.1).row q1.2, ⟨h1, h2⟩, row_facts q1⟩
  · rw [rowX_no q1] at h2
    refine Or.inr ⟨q1, fun t ht => ?_, q2, q3, q4, h1, h2⟩
    have := (h.1.1 t ht).2.1
    rw [(q1.1 t ht).2] at this
    exact this
/-- a query that changes nothing -/
theorem STEP.q {f g : xMem → Option (Int32 × xMem)} (h1 : ∀ M a ρ, TQ M a ρ → ∃ v, f M = some (v, M) ∧ g M = some (v, M)) (h0 : ∀ M, NQ M → ∃ v, f M = some (v, M) ∧ g M = some (v, M)) : STEP f g := by
  intro M hM
  obtain ⟨a, hs, tp, fk, fp, ou, hC, hR⟩ := id hM
  have key : ∃ v, f M = some (v, M) ∧ g M = some (v, M) := by
    rcases hC.1.q hR.1 hR.2.1 with ⟨-, q⟩ | ⟨-, q⟩
    · exact h1 M a _ q
    · exact h0 M q
  obtain ⟨v, k1, k2⟩ := key
  exact ⟨v, M, M, k1, k2, hM⟩
/-! arguments -/
def tmQ (x : Int32) : Prop := ∃ t, t < 2 ∧ x = nI t
def wnQ (x : Int32) (lo hi : Nat) : Prop := ∃ n, lo ≤ n ∧ n ≤ hi ∧ x = nI n
def plQ (ρ : Nat → Nat) (x y : Int32) : Prop := ∃ t i, t < 2 ∧ i < ρ (1 + t) ∧ x = nI t ∧ y = nI i
theorem x_neg {x : Int32} (h : ¬ x < 0) : ∃ n, n < 2147483648 ∧ x = nI n := nI_of h
theorem x_tm {x : Int32} : tmQ x ↔ x = nI 0 ∨ x = nI 1 := by
  constructor
  · rintro ⟨t, ht, rfl⟩
    rcases (show t = 0 ∨ t = 1 by omega) with rfl | rfl
    · exact Or.inl rfl
    · exact Or.inr rfl
  · rintro (h | h)
    · exact ⟨0, by decide, h⟩
    · exact ⟨1, by decide, h⟩
theorem c_within {x : Int32} {lo hi : Nat} {M : xMem} (h1 : lo < 2147483648) (h2 : hi < 2147483648) : (wnQ x lo hi → fX10_isWithin x (nI lo) (nI hi) M = some (nI 1, M)) ∧ (¬ wnQ x lo hi → fX10_isWithin x (nI lo) (nI hi) M = some (nI 0, M)) := by
  unfold fX10_isWithin
  constructor
  · rintro ⟨n, a, b, rfl⟩
    exact sF (by rw [eLtI (by omega) (by omega)]; omega) (sF (by rw [eLtI (by omega) (by omega)]; omega) rfl)
  · intro h
    by_cases q : x < nI lo
    · exact sT q rfl
    · refine sF q (sT ?_ rfl)
      have hx : ¬ x < 0 := fun z => q (by
        rw [Int32.lt_iff_toInt_lt] at z ⊢
        rw [nI_toInt h1]
        rw [Int32.toInt_zero] at z
        omega)
      obtain ⟨n, hn, rfl⟩ := x_neg hx
      rw [eLtI (by omega) (by omega)] at q ⊢
      rcases Nat.lt_or_ge hi n with z | z
      · exact z
      · exact absurd ⟨n, by omega, z, rfl⟩ h
theorem i2l_lt {x y : Int32} : (Int32.toInt64 x < Int32.toInt64 y) = (x < y) := by
  apply propext
  rw [Int64.lt_iff_toInt_lt, Int32.lt_iff_toInt_lt, Int32.toInt_toInt64, Int32.toInt_toInt64]
theorem m_in {x : Int32} {a b : Int32} {M : xMem} : fX11_in (Int32.toInt64 x) (Int32.toInt64 a) (Int32.toInt64 b) M = if x < a ∨ b < x then some (nI 0, M) else some (nI 1, M) := by
  unfold fX11_in
  simp only [eCmpLt, eCmpGt, i2l_lt]
  by_cases h1 : x < a
  · rw [if_pos h1, if_pos (Or.inl h1)]
  · rw [if_neg h1]
    by_cases h2 : b < x
    · rw [if_pos h2, if_pos (Or.inr h2)]
    · rw [if_neg h2, if_neg (by rintro (q | q); exact h1 q; exact h2 q)]
theorem m_within {x : Int32} {lo hi : Nat} {M : xMem} (h1 : lo < 2147483648) (h2 : hi < 2147483648) : (wnQ x lo hi → fX11_in (Int32.toInt64 x) (lN lo) (lN hi) M = some (nI 1, M)) ∧ (¬ wnQ x lo hi → fX11_in (Int32.toInt64 x) (lN lo) (lN hi) M = some (nI 0, M)) := by
  rw [← eI2L h1, ← eI2L h2, m_in]
  have hw := c_within (x := x) (M := M) h1 h2
  unfold fX10_isWithin at hw
  constructor
  · intro q
    have h := hw.1 q
    rw [if_neg]
    rintro (z | z)
    · rw [if_pos z] at h; exact absurd h (by intro e; cases e)
    · by_cases z1 : x < nI lo
      · rw [if_pos z1] at h; exact absurd h (by intro e; cases e)
      · rw [if_neg z1, if_pos z] at h; exact absurd h (by intro e; cases e)
  · intro q
    have h := hw.2 q
    rw [if_pos]
    by_cases z1 : x < nI lo
    · exact Or.inl z1
    · by_cases z : nI hi < x
      · exact Or.inr z
      · rw [if_neg z1, if_neg z] at h; exact absurd h (by intro e; cases e)
theorem x02 : xrf 0 2 = 5 := by decide +kernel
theorem x_ros {t : Nat} {M : xMem} (ht : t < 2) : fX5_sizeOf 7 (nI t) M = some (M.1 10 t, M) := s_sizeOf kd7 ht
/-! there is a text, or not -/
theorem TQ.sz {M : xMem} {a : xTl} {ρ : Nat → Nat} (h : TQ M a ρ) {t : Nat} (ht : t < 2) : M.1 10 t = nI (ρ (1 + t)) ∧ 7 ≤ ρ (1 + t) ∧ ρ (1 + t) ≤ 10 := by
  have h1 := (h.2.1.1 t ht).2.1
  have h2 := (h.2.2.2.2.2.2 t ht).1
  have h3 := h.1.1 t ht
  rw [h2]
  exact ⟨h1, h3.2.2, h3.2.1.1⟩
theorem c_told {M : xMem} {a : xTl} {ρ : Nat → Nat} (h : TQ M a ρ) : fX2_isTold 5 M = some (nI 1, M) := by
  unfold fX2_isTold
  obtain ⟨e, h7, h10⟩ := h.sz (t := 1) (by decide)
  rw [m50, m60, x_ros (by decide), eBn, e]
  refine sF ?_ rfl
  rw [eZ, eLe (by omega) (by decide)]; omega
theorem c_untold {M : xMem} (h : NQ M) : fX2_isTold 5 M = some (nI 0, M) := by
  unfold fX2_isTold
  rw [m50, m60, x_ros (by decide), eBn, h.1 1 (by decide)]
  exact sT (by decide) rfl
theorem m_there {M : xMem} {ρ : Nat → Nat} (h2 : M.2.1 147 = lf ρ) (h0 : ρ 0 = 1) : fX11_isThere 146 M = some (nI 1, M) := by
  unfold fX11_isThere
  rw [x147]
  refine sGb 0 rfl (by decide) (by decide) ?_
  rw [h2, eCl (by decide), lf_at, h0]
  exact sT (by rw [eCmp0]) rfl
theorem m_nothere {M : xMem} (h : NQ M) : fX11_isThere 146 M = some (nI 0, M) := by
  unfold fX11_isThere
  rw [x147]
  refine sGb 0 rfl (by decide) (by decide) ?_
  rw [h.2.2.2.2.2, eCl (by decide), lf_at]
  exact sF (by rw [eCmp0]; decide) rfl
theorem TQ.there {M : xMem} {a : xTl} {ρ : Nat → Nat} (h : TQ M a ρ) : fX11_isThere 146 M = some (nI 1, M) := m_there h.2.2.2.2.1.2 h.2.2.2.2.2.1
/-- the row that is now -/
def TM (M : xMem) (ρ : Nat → Nat) : Prop := M.2.1 (xnw M) = lf ρ
theorem TM.nw {M : xMem} {ρ : Nat → Nat} (h : TM M ρ) : nwS M ρ = M := (nwS_of h).symm
theorem TQ.tm {M : xMem} {a : xTl} {ρ : Nat → Nat} (h : TQ M a ρ) : TM M ρ := by
  unfold TM xnw
  rw [h.2.2.2.2.1.1]
  exact h.2.2.2.2.1.2
theorem NQ.tm {M : xMem} (h : NQ M) : TM M (fun _ => 0) := by
  unfold TM xnw
  rw [h.2.2.2.2.1]
  exact h.2.2.2.2.2
theorem q_get {M : xMem} {ρ : Nat → Nat} {k : Nat} (h : TM M ρ) (hk : k < 3235) : fX11_get 146 (nI k) M = some (nI (ρ k), M) := by
  have := e_get (M := M) (ρ := ρ) hk
  rw [h.nw] at this
  exact this
theorem q_many {M : xMem} {ρ : Nat → Nat} {t : Nat} (h : TM M ρ) (ht : t < 2) : fX11_many 146 (nI t) M = some (nI (ρ (1 + t)), M) := by
  have := e_many (M := M) (ρ := ρ) ht
  rw [h.nw] at this
  exact this
theorem q_isOf {M : xMem} {ρ : Nat → Nat} {t i : Nat} (h : TM M ρ) (ht : t < 2) (hi : i < 10) : fX11_isOf 146 (nI t) (nI i) M = some (nI (ρ (48 + 10 * t + i)), M) := by
  have := e_isOf (M := M) (ρ := ρ) ht hi
  rw [h.nw] at this
  exact this
theorem q_rec {M : xMem} {ρ : Nat → Nat} {k w : Nat} (h : TM M ρ) (hk : k < 200) (hw : w < 15) : fX11_rec 146 (nI k) (nI w) M = some (nI (rq ρ k w), M) := by
  unfold fX11_rec
  rw [pk_mul, nI_add, nI_add, q_get h (by omega), eBn]
  rfl
theorem q_isOver {M : xMem} {ρ : Nat → Nat} (h : TM M ρ) (h27 : ρ 27 ≤ 2) : fX11_isOver 146 M = some (nI (ovR ρ), M) := by
  unfold fX11_isOver
  refine sGb 27 rfl (by rw [xlnw]; decide) (by rw [xlnw]; decide) ?_
  rw [h, eCl (by decide), lf_at]
  unfold ovR
  by_cases q : ρ 27 = 2
  · exact sT (by rw [eCmp0, q]) (by rw [if_pos q])
  · exact sF (by rw [eCmp0, eLE (by omega) (by decide)]; exact q) (by rw [if_neg q])
theorem m_team {M : xMem} {a : xTl} {ρ : Nat → Nat} (h : TQ M a ρ) {x : Int32} : (tmQ x → fX11_isTeam 146 x M = some (nI 1, M)) ∧ (¬ tmQ x → fX11_isTeam 146 x M = some (nI 0, M)) := by
  obtain ⟨w1, w2⟩ := m_within (x := x) (lo := 0) (hi := 1) (M := M) (by decide) (by decide)
  unfold fX11_isTeam
  rw [h.there, eBn]
  constructor
  · rintro ⟨t, ht, rfl⟩
    refine sF (by decide) (sBn (w1 ⟨t, by omega, by omega, rfl⟩) (sF (by decide) rfl))
  · intro q
    refine sF (by decide) (sBn (w2 ?_) (sT (by decide) rfl))
    rintro ⟨n, -, hn, rfl⟩
    exact q ⟨n, by omega, rfl⟩
theorem m_noteam {M : xMem} (h : NQ M) {x : Int32} : fX11_isTeam 146 x M = some (nI 0, M) := by
  unfold fX11_isTeam
  rw [m_nothere h, eBn]
  exact sT (by decide) rfl
theorem m_noone {M : xMem} (h : NQ M) {x y : Int32} : fX11_isOne 146 x y M = some (nI 0, M) := by
  unfold fX11_isOne
  rw [m_noteam h, eBn]
  exact sT (by decide) rfl
theorem m_one {M : xMem} {a : xTl} {ρ : Nat → Nat} (h : TQ M a ρ) {x y : Int32} : (plQ ρ x y → fX11_isOne 146 x y M = some (nI 1, M)) ∧ (¬ plQ ρ x y → fX11_isOne 146 x y M = some (nI 0, M)) := by
  unfold fX11_isOne
  constructor
  · rintro ⟨t, i, ht, hi, rfl, rfl⟩
    obtain ⟨-, h7, h10⟩ := h.sz ht
    rw [(m_team h).1 ⟨t, ht, rfl⟩, eBn]
    refine sF (by decide) (sBn (q_many h.tm ht) ?_)
    rw [eSub (by omega), eI2L (n := ρ (1 + t) - 1) (by omega)]
    exact sBn ((m_within (by decide) (by omega)).1 ⟨i, by omega, by omega, rfl⟩) (sF (by decide) rfl)
  · intro q
    by_cases z : tmQ x
    · rw [(m_team h).1 z, eBn]
      obtain ⟨t, ht, rfl⟩ := z
      obtain ⟨-, h7, h10⟩ := h.sz ht
      refine sF (by decide) (sBn (q_many h.tm ht) ?_)
      rw [eSub (by omega), eI2L (n := ρ (1 + t) - 1) (by omega)]
      refine sBn ((m_within (by decide) (by omega)).2 ?_) (sT (by decide) rfl)
      rintro ⟨i, -, hi, rfl⟩
      exact q ⟨t, i, ht, by omega, rfl, rfl⟩
    · rw [(m_team h).2 z, eBn]
      exact sT (by decide) rfl
theorem c_team {M : xMem} {a : xTl} {ρ : Nat → Nat} (h : TQ M a ρ) {x : Int32} : (tmQ x → fX10_hasTeam 0 x M = some (nI 1, M)) ∧ (¬ tmQ x → fX10_hasTeam 0 x M = some (nI 0, M)) := by
  unfold fX10_hasTeam
  rw [x02, c_told h, eBn, x_tm]
  constructor
  · rintro (q | q)
    · exact sF (by decide) (sT (by rw [q]; decide) rfl)
    · exact sF (by decide) (sF (by rw [q]; decide) (sT q rfl))
  · intro q
    exact sF (by decide) (sF (fun z => q (Or.inl (by rw [z]; decide))) (sF (fun z => q (Or.inr z)) rfl))
theorem c_noteam {M : xMem} (h : NQ M) {x : Int32} : fX10_hasTeam 0 x M = some (nI 0, M) := by
  unfold fX10_hasTeam
  rw [x02, c_untold h, eBn]
  exact sT (by decide) rfl
theorem c_noone {M : xMem} (h : NQ M) {x y : Int32} : fX10_hasPlayer 0 x y M = some (nI 0, M) := by
  unfold fX10_hasPlayer
  rw [c_noteam h, eBn]
  exact sT (by decide) rfl
theorem c_one {M : xMem} {a : xTl} {ρ : Nat → Nat} (h : TQ M a ρ) {x y : Int32} : (plQ ρ x y → fX10_hasPlayer 0 x y M = some (nI 1, M)) ∧ (¬ plQ ρ x y → fX10_hasPlayer 0 x y M = some (nI 0, M)) := by
  unfold fX10_hasPlayer
  rw [x02, m50, m60]
  constructor
  · rintro ⟨t, i, ht, hi, rfl, rfl⟩
    obtain ⟨e, h7, h10⟩ := h.sz ht
    rw [(c_team h).1 ⟨t, ht, rfl⟩, eBn]
    refine sF (by decide) (sF (nI_pos (by omega)) (sBn (x_ros ht) ?_))
    rw [e]
    exact sF (by rw [eLe (by omega) (by omega)]; omega) rfl
  · intro q
    by_cases z : tmQ x
    · rw [(c_team h).1 z, eBn]
      obtain ⟨t, ht, rfl⟩ := z
      obtain ⟨e, h7, h10⟩ := h.sz ht
      refine sF (by decide) ?_
      by_cases z2 : y < 0
      · exact sT z2 rfl
      · obtain ⟨i, hi, rfl⟩ := x_neg z2
        refine sF z2 (sBn (x_ros ht) ?_)
        rw [e]
        refine sT ?_ rfl
        rw [eLe (by omega) (by omega)]
        rcases Nat.lt_or_ge i (ρ (1 + t)) with w | w
        · exact absurd ⟨t, i, ht, w, rfl, rfl⟩ q
        · exact w
    · rw [(c_team h).2 z, eBn]
      exact sT (by decide) rfl
/-! loops that answer -/
def runL {S : Type} (step : Nat → S → S ⊕ Int32) (fin : S → Int32) : Nat → Nat → S → Int32
  | 0, _, s => fin s
  | m + 1, i, s => match step i s with
    | .inl s' => runL step fin m (i + 1) s'
    | .inr r => r
def xSt {S : Type} (x : S ⊕ Int32) (k : S → Option (Int32 × xMem)) (M : xMem) : Option (Int32 × xMem) := match x with
  | .inl s => k s
  | .inr r => some (r, M)
theorem runL_eq {S : Type} {M : xMem} (Lp : Nat → Nat → S → Option (Int32 × xMem)) (step : Nat → S → S ⊕ Int32) (fin : S → Int32) (N : Nat) (hs : ∀ n i s, i < N → Lp (n + 1) i s = xSt (step i s) (Lp n (i + 1)) M) (he : ∀ n s, Lp (n + 1) N s = some (fin s, M)) : ∀ m i s n, i + m = N → m < n → Lp n i s = some (runL step fin m i s, M) := by
  intro m
  induction m with
  | zero =>
    intro i s n h1 h2
    obtain ⟨n, rfl⟩ : ∃ q, n = q + 1 := ⟨n - 1, by omega⟩
    rw [show i = N by omega]
    exact he n s
  | succ m ih =>
    intro i s n h1 h2
    obtain ⟨n, rfl⟩ : ∃ q, n = q + 1 := ⟨n - 1, by omega⟩
    rw [hs n i s (by omega)]
    show _ = some ((match step i s with | .inl s' => runL step fin m (i + 1) s' | .inr r => r), M)
    cases step i s with
    | inl s' => exact ih (i + 1) s' n (by omega) (by omega)
    | inr r => rfl
theorem loopR {S : Type} {M : xMem} (Lp : Nat → Nat → S → Option (Int32 × xMem)) (step : Nat → S → S ⊕ Int32) (fin : S → Int32) (N : Nat) (s0 : S) (hN : N < 40000) (hs : ∀ n i s, i < N → Lp (n + 1) i s = xSt (step i s) (Lp n (i + 1)) M) (he : ∀ n s, Lp (n + 1) N s = some (fin s, M)) : Lp xFU 0 s0 = some (runL step fin N 0 s0, M) :=
  runL_eq Lp step fin N hs he N 0 s0 xFU (by omega) (by rw [xFU_eq]; exact hN)
