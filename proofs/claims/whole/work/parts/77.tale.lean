/-! ===== tales and the rows that come of them ===== -/
abbrev xTl : Type := (Nat → List Nat) × (Nat → List Nat) × List xLn
def p5 (l : List Nat) : Nat := l.foldl (fun v x => v * 32 + x) 0
def p27 (l : List Nat) : Nat := (List.range 6).foldl (fun v k => 27 * v + l.getD k 0) 0
def TaR (M : xMem) (T : Nat) (a : xTl) : Prop :=
  (∀ t, t < 2 → M.1 (T + 2) t = nI (p5 (a.1 t)) ∧ M.1 (T + 4) t = nI (a.2.1 t).length ∧ ∀ i (x : Nat), (a.2.1 t)[i]? = some x → M.1 (T + 3) (10 * t + i) = nI x) ∧ M.1 T 2 = nI a.2.2.length ∧ ∀ i (l : xLn), a.2.2[i]? = some l → M.2.1 (T + 5) i = lN (codL l)
def nmOK (l : List Nat) : Prop := 1 ≤ l.length ∧ l.length ≤ 6 ∧ ∀ x ∈ l, 1 ≤ x ∧ x ≤ 26
def shOK (l : List Nat) : Prop := l.length ≤ 10 ∧ l.Nodup ∧ ∀ x ∈ l, 1 ≤ x ∧ x ≤ 99
/-- the row of two teams at the beginning -/
def begR (n s : Nat → List Nat) : Nat → Nat := fun j =>
  if j = 0 then 1 else if j < 3 then (s (j - 1)).length else if j < 5 then p27 (n (j - 3)) else if j < 15 then (s 0).getD (j - 5) 0 else if j < 25 then (s 1).getD (j - 15) 0
  else if 55 ≤ j ∧ j < 58 ∧ j < 48 + (s 0).length then 2 else if 65 ≤ j ∧ j < 68 ∧ j < 58 + (s 1).length then 2 else 0
def rowF (ρ : Nat → Nat) (ls : List xLn) : Nat → Nat := ls.foldl (fun σ l => appR l σ) ρ
def okC : (Nat → Nat) → List xLn → Prop
  | _, [] => True
  | ρ, l :: ls => okL l ρ ∧ okC (appR l ρ) ls
def rsOK (n s : Nat → List Nat) : Prop := (∀ t, t < 2 → nmOK (n t) ∧ shOK (s t) ∧ 7 ≤ (s t).length) ∧ n 0 ≠ n 1
def tdOK (a : xTl) : Prop := rsOK a.1 a.2.1 ∧ okC (begR a.1 a.2.1) a.2.2
def noT (a : xTl) : Prop := (∀ t, t < 2 → a.1 t = [] ∧ a.2.1 t = []) ∧ a.2.2 = []
def rowT (a : xTl) : Nat → Nat := rowF (begR a.1 a.2.1) a.2.2
theorem okC_app {l : xLn} : ∀ {ls : List xLn} {ρ : Nat → Nat}, okC ρ (ls ++ [l]) ↔ okC ρ ls ∧ okL l (rowF ρ ls)
  | [], ρ => by simp [okC, rowF]
  | m :: ls, ρ => by
    show okL m ρ ∧ okC (appR m ρ) (ls ++ [l]) ↔ (okL m ρ ∧ okC (appR m ρ) ls) ∧ okL l (rowF (appR m ρ) ls)
    rw [okC_app]
    exact and_assoc.symm
theorem rowF_app {l : xLn} {ls : List xLn} {ρ : Nat → Nat} : rowF ρ (ls ++ [l]) = appR l (rowF ρ ls) := by
  unfold rowF
  rw [List.foldl_append]
  rfl
theorem take_app {l : xLn} {ls : List xLn} {i : Nat} (h : ls[i]? = some l) : ls.take (i + 1) = ls.take i ++ [l] := by
  rw [List.take_add_one, h]; rfl
theorem okC_take : ∀ {ls : List xLn} {ρ : Nat → Nat} (i : Nat), okC ρ ls → okC ρ (ls.take i)
  | [], _, i, h => by simpa using h
  | m :: ls, ρ, 0, h => trivial
  | m :: ls, ρ, i + 1, h => ⟨h.1, okC_take i h.2⟩
theorem okC_at {ls : List xLn} {ρ : Nat → Nat} {i : Nat} {l : xLn} (h : okC ρ ls) (hi : ls[i]? = some l) : okL l (rowF ρ (ls.take i)) := by
  have := okC_take (i + 1) h
  rw [take_app hi, okC_app] at this
  exact this.2
theorem RI.row : ∀ {ls : List xLn} {ρ : Nat → Nat}, RI ρ → okC ρ ls → RI (rowF ρ ls)
  | [], _, h, _ => h
  | m :: ls, ρ, h, hc => RI.row (ls := ls) (h.app hc.1) hc.2
theorem row_ros {j : Nat} (hj : j < 25) : ∀ {ls : List xLn} {ρ : Nat → Nat}, RI ρ → okC ρ ls → rowF ρ ls j = ρ j
  | [], _, _, _ => rfl
  | m :: ls, ρ, h, hc => (row_ros hj (ls := ls) (h.app hc.1) hc.2).trans (app_ros h hc.1 hj)
theorem row_far {j : Nat} (hj : 3235 ≤ j) : ∀ {ls : List xLn} {ρ : Nat → Nat}, RI ρ → okC ρ ls → rowF ρ ls j = ρ j
  | [], _, _, _ => rfl
  | m :: ls, ρ, h, hc => (row_far hj (ls := ls) (h.app hc.1) hc.2).trans (app_far h hc.1 hj)
theorem row_cnt : ∀ {ls : List xLn} {ρ : Nat → Nat}, RI ρ → okC ρ ls → ρ 25 + 2 * ρ 26 + ls.length ≤ rowF ρ ls 25 + 2 * rowF ρ ls 26
  | [], _, _, _ => Nat.le_refl _
  | m :: ls, ρ, h, hc => by
    have h1 := row_cnt (ls := ls) (h.app hc.1) hc.2
    have h2 := app_cnt h hc.1
    show ρ 25 + 2 * ρ 26 + (ls.length + 1) ≤ rowF (appR m ρ) ls 25 + 2 * rowF (appR m ρ) ls 26
    omega
section
variable {n s : Nat → List Nat}
theorem beg_1 {t : Nat} (ht : t < 2) : begR n s (1 + t) = (s t).length := by
  unfold begR
  rw [if_neg (by omega), if_pos (by omega), Nat.add_sub_cancel_left]
theorem beg_nm {t : Nat} (ht : t < 2) : begR n s (3 + t) = p27 (n t) := by
  unfold begR
  rw [if_neg (by omega), if_neg (by omega), if_pos (by omega), Nat.add_sub_cancel_left]
theorem beg_sh {t i : Nat} (ht : t < 2) (hi : i < 10) : begR n s (5 + 10 * t + i) = (s t).getD i 0 := by
  unfold begR
  rw [if_neg (by omega), if_neg (by omega), if_neg (by omega)]
  rcases (show t = 0 ∨ t = 1 by omega) with rfl | rfl
  · rw [if_pos (by omega)]; congr 1; omega
  · rw [if_neg (by omega), if_pos (by omega)]; congr 1; omega
theorem beg_st {t i : Nat} (ht : t < 2) (hi : i < 10) (hl : i < (s t).length) : begR n s (48 + 10 * t + i) = if i < 7 then 0 else 2 := by
  unfold begR
  rw [if_neg (by omega), if_neg (by omega), if_neg (by omega), if_neg (by omega), if_neg (by omega)]
  rcases (show t = 0 ∨ t = 1 by omega) with rfl | rfl
  · by_cases q : i < 7
    · rw [if_neg (by omega), if_neg (by omega), if_pos q]
    · rw [if_pos (by omega), if_neg q]
  · rw [if_neg (by omega)]
    by_cases q : i < 7
    · rw [if_neg (by omega), if_pos q]
    · rw [if_pos (by omega), if_neg q]
theorem beg_lt {j : Nat} (h1 : 25 ≤ j) : begR n s j = 0 ∨ begR n s j = 2 := by
  unfold begR
  rw [if_neg (by omega), if_neg (by omega), if_neg (by omega), if_neg (by omega), if_neg (by omega)]
  split
  · exact Or.inr rfl
  · split
    · exact Or.inr rfl
    · exact Or.inl rfl
theorem beg_0 {j : Nat} (h1 : 25 ≤ j) (h2 : j < 48 ∨ 68 ≤ j) : begR n s j = 0 := by
  unfold begR
  rw [if_neg (by omega), if_neg (by omega), if_neg (by omega), if_neg (by omega), if_neg (by omega), if_neg (by omega), if_neg (by omega)]
theorem RI.beg (h : rsOK n s) : RI (begR n s) := by
  have z : ∀ j, 25 ≤ j → (j < 48 ∨ 68 ≤ j) → begR n s j = 0 := fun j a b => beg_0 a b
  have q0 : ∀ t, t < 2 → qL (begR n s) t = [] := fun t ht => List.length_eq_zero_iff.mp (by rw [qL_len]; exact z _ (by omega) (by omega))
  have hz : ∀ t, t < 2 → scR t (begR n s) = 0 := fun t ht => by
    unfold scR
    simp only [sumR]
    rw [z _ (by omega) (by omega), z _ (by omega) (by omega), z _ (by omega) (by omega), z _ (by omega) (by omega), z _ (by omega) (by omega), z _ (by omega) (by omega)]
  refine ⟨⟨⟨⟨by rw [z 28 (by decide) (by decide)]; decide, fun t ht => ?_⟩, fun t ht => ?_⟩, ⟨?_, ?_, ?_, ?_, fun t ht => ?_⟩, fun k hk => ?_, fun t ht => ?_, fun _ t ht => z _ (by omega) (by omega)⟩, fun q => ?_⟩
  · obtain ⟨-, x2, x3⟩ := h.1 t ht
    rw [beg_1 ht]
    refine ⟨⟨by omega, x2.1⟩, fun i hi => ?_, ?_⟩
    · rw [z (68 + 10 * t + i) (by omega) (by omega)]
      have := beg_lt (n := n) (s := s) (j := 48 + 10 * t + i) (by omega)
      omega
    · exact qOk_of (by rw [q0 t ht]; simp) (by rw [q0 t ht]; simp)
  · obtain ⟨-, x2, x3⟩ := h.1 t ht
    have hl10 := x2.1
    have e1 := beg_1 (n := n) (s := s) ht
    refine ⟨by rw [e1]; exact x3, by rw [q0 t ht]; simp, fun i hi => ?_, fun x hx => by rw [q0 t ht] at hx; simp at hx, ?_, fun i hi _ => z _ (by omega) (by omega)⟩
    · rw [q0 t ht]
      have := beg_lt (n := n) (s := s) (j := 48 + 10 * t + i) (by omega)
      simp; omega
    · unfold cntR
      rw [e1]
      have hc : sumR (fun i => if begR n s (48 + 10 * t + i) = 2 then 0 else 1) (s t).length = sumR (fun i => if i < 7 then 1 else 0) (s t).length := sumR_congr (fun i hi => by
        rw [beg_st ht (by omega) hi]
        by_cases q : i < 7
        · rw [if_pos q, if_neg (by decide), if_pos q]
        · rw [if_neg q, if_pos rfl, if_neg q])
      rw [hc]
      rcases (show (s t).length = 7 ∨ (s t).length = 8 ∨ (s t).length = 9 ∨ (s t).length = 10 by omega) with e | e | e | e <;> rw [e] <;> rfl
  · rw [z _ (by decide) (by decide)]; decide
  · rw [z _ (by decide) (by decide)]; decide
  · rw [z _ (by decide) (by decide)]; decide
  · rw [z _ (by decide) (by decide)]; decide
  · rw [hz t ht, z _ (by omega) (by omega), z _ (by omega) (by omega), z _ (by omega) (by omega)]
    exact ⟨by decide, by decide, by decide, Nat.zero_le _, fun i hi => by rw [z _ (by omega) (by omega)]; exact Nat.zero_le _⟩
  · rw [z _ (by decide) (by decide)] at hk; omega
  · rw [hz t ht, z _ (by decide) (by decide)]; rfl
  · rw [z _ (by decide) (by decide)] at q; omega
/-- the state at the beginning -/
theorem StB.st {M : xMem} {k : Nat} {z : Nat → Int32} (h : StB M k z) (hr : rsOK n s) (hz : ∀ t, t < 2 → z t = nI (s t).length) : StR M k (begR n s) := by
  have z0 : ∀ j, 25 ≤ j → (j < 48 ∨ 68 ≤ j) → begR n s j = 0 := fun j a b => beg_0 a b
  obtain ⟨a, b⟩ := h
  refine ⟨by rw [z0 _ (by decide) (by decide)]; exact a 1 (by decide) (by decide), by rw [z0 _ (by decide) (by decide)]; exact a 2 (by decide) (by decide), by rw [z0 _ (by decide) (by decide)]; exact a 3 (by decide) (by decide), by rw [z0 _ (by decide) (by decide)]; exact a 4 (by decide) (by decide), fun t ht => ?_⟩
  obtain ⟨x1, x2, x3⟩ := b t ht
  obtain ⟨-, y2, y3⟩ := hr.1 t ht
  have hl10 := y2.1
  have hs : scR t (begR n s) = 0 := by
    unfold scR
    simp only [sumR]
    rw [z0 _ (by omega) (by omega), z0 _ (by omega) (by omega), z0 _ (by omega) (by omega), z0 _ (by omega) (by omega), z0 _ (by omega) (by omega), z0 _ (by omega) (by omega)]
  refine ⟨⟨?_, ?_, fun i hi => ?_, fun i hi hi' => ?_, fun j hj => ?_⟩, by rw [hs]; exact x2 6 (by decide) (by decide), by rw [z0 _ (by omega) (by omega)]; exact x2 7 (by decide) (by decide), by rw [z0 _ (by omega) (by omega)]; exact x2 8 (by decide) (by decide), by rw [z0 _ (by omega) (by omega)]; exact x2 9 (by decide) (by decide)⟩
  · rw [beg_1 ht, x1]; exact hz t ht
  · rw [z0 _ (by omega) (by omega)]; exact x2 5 (by decide) (by decide)
  · rw [beg_1 ht] at hi
    obtain ⟨w1, w2, w3⟩ := x3 i (by omega)
    rw [beg_st ht (by omega) hi, z0 _ (by omega) (by omega), z0 _ (by omega) (by omega)]
    refine ⟨?_, w2, w3⟩
    rw [w1]
    by_cases q : i < 7
    · rw [if_pos q, if_pos q]
    · rw [if_neg q, if_neg q]
  · rw [beg_1 ht] at hi
    rw [(x3 i hi').1, if_neg (by omega)]
  · rw [z0 _ (by omega) (by omega)] at hj; omega
end
theorem s_clear_l14 {M : xMem} (K : Int32 → xMem → Option xMem) : ∃ M', (∀ n, fX1_clear_l14 24 K (n + 160) (nI 0) M = fX1_clear_l14 24 K n (nI 160) M') ∧ (∀ c, c ≠ 44 → M'.1 c = M.1 c) ∧ (∀ j, j < 160 → M'.1 44 j = nI 0) ∧ M'.2 = M.2 := by
  have key : ∀ m, m ≤ 160 → ∃ M', (∀ n, fX1_clear_l14 24 K (n + m) (nI 0) M = fX1_clear_l14 24 K n (nI m) M') ∧ (∀ c, c ≠ 44 → M'.1 c = M.1 c) ∧ (∀ j, j < m → M'.1 44 j = nI 0) ∧ M'.2 = M.2 := by
    intro m
    induction m with
    | zero => intro _; exact ⟨M, fun n => rfl, fun _ _ => rfl, fun j hj => by omega, rfl⟩
    | succ m ih =>
      intro hm
      obtain ⟨M1, a1, a2, a3, a4⟩ := ih (by omega)
      refine ⟨xwI M1 44 m (nI 0), fun n => ?_, fun c hc => by rw [xwI_c hc]; exact a2 c hc, fun j hj => ?_, a4⟩
      · rw [show n + (m + 1) = n + 1 + m by omega, a1 (n + 1), fX1_clear_l14.eq_2, h3, hl44]
        refine sF (by rw [eLe (by decide) (by omega)]; omega) (sGb m rfl (by omega) (by decide) ?_)
        rw [eCl (by omega)]
        exact sLt (sLe (nI_1 m) rfl)
      · by_cases q : j = m
        · rw [q, xwI_at]
        · rw [xwI_ne (Or.inr q)]; exact a3 j (by omega)
  exact key 160 (Nat.le_refl _)
theorem s_clear_l38 {M : xMem} (K : Int32 → xMem → Option xMem) : ∃ M', (∀ n, fX1_clear_l38 24 K (n + 12) (nI 0) M = fX1_clear_l38 24 K n (nI 12) M') ∧ (∀ c, c ≠ 45 → M'.1 c = M.1 c) ∧ (∀ j, j < 12 → M'.1 45 j = nI 0) ∧ M'.2 = M.2 := by
  have key : ∀ m, m ≤ 12 → ∃ M', (∀ n, fX1_clear_l38 24 K (n + m) (nI 0) M = fX1_clear_l38 24 K n (nI m) M') ∧ (∀ c, c ≠ 45 → M'.1 c = M.1 c) ∧ (∀ j, j < m → M'.1 45 j = nI 0) ∧ M'.2 = M.2 := by
    intro m
    induction m with
    | zero => intro _; exact ⟨M, fun n => rfl, fun _ _ => rfl, fun j hj => by omega, rfl⟩
    | succ m ih =>
      intro hm
      obtain ⟨M1, a1, a2, a3, a4⟩ := ih (by omega)
      refine ⟨xwI M1 45 m (nI 0), fun n => ?_, fun c hc => by rw [xwI_c hc]; exact a2 c hc, fun j hj => ?_, a4⟩
      · rw [show n + (m + 1) = n + 1 + m by omega, a1 (n + 1), fX1_clear_l38.eq_2, h4, hl45]
        refine sF (by rw [eLe (by decide) (by omega)]; omega) (sGb m rfl (by omega) (by decide) ?_)
        rw [eCl (by omega)]
        exact sLt (sLe (nI_1 m) rfl)
      · by_cases q : j = m
        · rw [q, xwI_at]
        · rw [xwI_ne (Or.inr q)]; exact a3 j (by omega)
  exact key 12 (Nat.le_refl _)
theorem kd7 : xkd 7 = 5 := by decide +kernel
theorem m_begin (M : xMem) : ∃ M', fX2_begin 5 M = some M' ∧ StB M' 12 (M.1 10) ∧ M'.1 24 5 = nI 0 ∧ M'.1 43 0 = nI 0 ∧ (∀ j, j < 160 → M'.1 44 j = nI 0) ∧ (∀ j, j < 12 → M'.1 45 j = nI 0) ∧ Fm M M' := by
  obtain ⟨M1, f1, F1, S1⟩ := s_begin (M := M) (k := 12) (c := 7) kd12 kd7
  generalize hM2 : xwI (xwI M1 24 5 (nI 0)) 43 0 (nI 0) = M2
  obtain ⟨M3, a1, a2, a3, a4⟩ := s_clear_l14 (M := M2) (fun (v7 : Int32) (M8 : xMem) => fX1_clear_l38 24 (fun (v12 : Int32) (M13 : xMem) => some M13) xFU (nI 0) M8)
  obtain ⟨M4, b1, b2, b3, b4⟩ := s_clear_l38 (M := M3) (fun (v12 : Int32) (M13 : xMem) => some M13)
  have n2 : ∀ c, c ≠ 24 → c ≠ 43 → M2.1 c = M1.1 c := fun c h1 h2 => by rw [← hM2, xwI_c h2, xwI_c h1]
  refine ⟨M4, ?_, ?_, ?_, ?_, fun j hj => by rw [b2 _ (by decide)]; exact a3 j hj, b3, ?_⟩
  · unfold fX2_begin fX1_clear
    rw [m51, m50, m60, m52]
    refine sBv f1 (sBv (M := M4) ?_ rfl)
    rw [h2]
    refine sLt (sGb 0 rfl (by rw [hl43]; decide) (by rw [hl43]; decide) ?_)
    rw [eCl (by decide)]
    refine sLe hM2 ?_
    have e1 : xFU = 39839 + 1 + 160 := by decide
    have e2 : xFU = 39987 + 1 + 12 := by decide
    have q1 := a1 (39839 + 1)
    rw [← e1] at q1
    rw [q1, fX1_clear_l14.eq_2, h3, hl44]
    refine sT (by decide) ?_
    have q2 := b1 (39987 + 1)
    rw [← e2] at q2
    rw [q2, fX1_clear_l38.eq_2, h4, hl45]
    exact sT (by decide) rfl
  · obtain ⟨x1, x2⟩ := S1
    have e : ∀ c, c < 24 → M4.1 c = M1.1 c := fun c hc => by rw [b2 _ (by omega), a2 _ (by omega), n2 _ (by omega) (by omega)]
    refine ⟨fun j p q => by rw [e 12 (by decide)]; exact x1 j p q, fun t ht => ?_⟩
    unfold SdB
    rw [e _ (by omega), e _ (by omega), e _ (by omega), e _ (by omega)]
    exact x2 t ht
  · rw [b2 _ (by decide), a2 _ (by decide), ← hM2, xwI_c (by decide), xwI_at]
  · rw [b2 _ (by decide), a2 _ (by decide), ← hM2, xwI_at]
  · refine (Fm.ofFi F1 (fun c hc => by unfold stC at hc; omega)).trans ⟨fun c hc => by rw [b2 _ (by omega), a2 _ (by omega), n2 _ (by omega) (by omega)], fun c _ => by rw [b4, a4, ← hM2]; rfl, by rw [b4, a4, ← hM2]; rfl⟩
theorem MR.beg {M : xMem} {n s : Nat → List Nat} (hr : rsOK n s) (hS : StB M 12 (fun t => nI (s t).length)) (a1 : M.1 24 5 = nI 0) (a2 : M.1 43 0 = nI 0) (a3 : ∀ j, j < 160 → M.1 44 j = nI 0) (a4 : ∀ j, j < 12 → M.1 45 j = nI 0) : MR M (begR n s) := by
  have z0 : ∀ j, 25 ≤ j → (j < 48 ∨ 68 ≤ j) → begR n s j = 0 := fun j a b => beg_0 a b
  have e25 := z0 25 (by decide) (by decide)
  refine ⟨hS.st hr (fun t _ => rfl), ⟨by rw [e25]; exact a1, fun k hk => by rw [e25] at hk; omega, fun k hk => ?_, fun t i w ht hi hw => ?_, fun t w ht hw => ?_⟩, fun q => by rw [z0 _ (by decide) (by decide)] at q; omega⟩
  · rw [e25] at hk
    rw [show k = 0 by omega, a2]
    show nI 0 = nI 0 - nI 0
    decide
  · rw [a3 _ (by unfold taA; omega)]
    unfold tal
    rw [e25]; rfl
  · rw [a4 _ (by unfold ptA; omega), z0 _ (by omega) (by omega)]
theorem StB.congr {M : xMem} {k : Nat} {z z' : Nat → Int32} (h : StB M k z) (e : ∀ t, t < 2 → z t = z' t) : StB M k z' := ⟨h.1, fun t ht => by rw [← e t ht]; exact h.2 t ht⟩
/-- the class holds a tale and what has come of it -/
def CR (M : xMem) (a : xTl) : Prop := TaR M 6 a ∧ ((tdOK a ∧ MR M (rowT a)) ∨ (noT a ∧ M.1 24 5 = nI 0 ∧ M.1 12 2 = nI 0 ∧ M.1 12 3 = nI 0))
theorem TaR.fm {M M' : xMem} {a : xTl} (h : TaR M 6 a) (hF : Fm M M') : TaR M' 6 a := by
  unfold TaR
  rw [hF.1 8 (by decide), hF.1 10 (by decide), hF.1 9 (by decide), hF.1 6 (by decide), hF.2.1 11 (by decide)]
  exact h
theorem m_lineAt {M : xMem} {a : xTl} {i : Nat} {l : xLn} (h : TaR M 6 a) (hi : a.2.2[i]? = some l) (hn : a.2.2.length ≤ 280) : fX9_lineAt 6 (nI i) M = some (lN (codL l), M) := by
  have hlt : i < a.2.2.length := (List.getElem?_eq_some_iff.mp hi).1
  unfold fX9_lineAt
  rw [h.2.1, m61]
  refine sF (nI_pos (by omega)) (sF (by rw [eLe (by omega) (by omega)]; omega) (sGb i rfl (by rw [m_tab.2.2.2.2.2.2.2.2.2.2.2]; omega) (by rw [m_tab.2.2.2.2.2.2.2.2.2.2.2]; decide) ?_))
  rw [eCl (by omega), h.2.2 i l hi]
theorem td_len {a : xTl} (h : tdOK a) : a.2.2.length ≤ rowT a 25 + 2 * rowT a 26 ∧ a.2.2.length ≤ 280 := by
  have hI := RI.beg h.1
  have h1 := row_cnt hI h.2
  have h2 := (hI.row h.2).1.2.1
  have e1 : begR a.1 a.2.1 25 = 0 := beg_0 (by decide) (by decide)
  have e2 : begR a.1 a.2.1 26 = 0 := beg_0 (by decide) (by decide)
  have h3 : a.2.2.length ≤ rowT a 25 + 2 * rowT a 26 := by
    show _ ≤ rowF (begR a.1 a.2.1) a.2.2 25 + 2 * rowF (begR a.1 a.2.1) a.2.2 26
    omega
  refine ⟨h3, ?_⟩
  have b1 : rowT a 25 ≤ 200 := h2.1
  have b2 : rowT a 26 ≤ 40 := h2.2.1
  omega
theorem m_replay {M : xMem} {a : xTl} (h : TaR M 6 a) (ha : tdOK a ∨ noT a) : ∃ M', fX2_replay 5 M = some M' ∧ CR M' a ∧ Fm M M' := by
  obtain ⟨M1, f1, S1, z1, z2, z3, z4, F1⟩ := m_begin M
  have T1 := h.fm F1
  rcases ha with ha | ha
  · obtain ⟨hl1, hl2⟩ := td_len ha
    have R1 : MR M1 (begR a.1 a.2.1) := MR.beg ha.1 (S1.congr (fun t ht => (h.1 t ht).2.1)) z1 z2 z3 z4
    have key : ∀ m, m ≤ a.2.2.length → ∃ M', MR M' (rowF (begR a.1 a.2.1) (a.2.2.take m)) ∧ Fm M1 M' ∧ ∀ n, fX2_replay_l6 5 (fun (v6 : Int32) (M7 : xMem) => some M7) (n + m) (nI 0) M1 = fX2_replay_l6 5 (fun (v6 : Int32) (M7 : xMem) => some M7) n (nI m) M' := by
      intro m
      induction m with
      | zero => intro _; exact ⟨M1, by simpa [rowF] using R1, Fm.refl _, fun n => rfl⟩
      | succ m ih =>
        intro hm
        obtain ⟨M2, R2, F2, q2⟩ := ih (by omega)
        have hg : a.2.2[m]? = some a.2.2[m] := List.getElem?_eq_getElem (by omega)
        have T2 := T1.fm F2
        obtain ⟨M3, f3, R3, F3, -⟩ := m_apply R2 ((RI.beg ha.1).row (okC_take m ha.2)) (okC_at ha.2 hg)
        refine ⟨M3, by rw [take_app hg, rowF_app]; exact R3, F2.trans F3, fun n => ?_⟩
        rw [show n + (m + 1) = n + 1 + m by omega, q2 (n + 1), fX2_replay_l6.eq_2, m50, T2.2.1]
        refine sF (by rw [eLe (by omega) (by omega)]; omega) ?_
        refine sBn (m_lineAt T2 hg hl2) (sBv f3 (sLe (nI_1 m) rfl))
    obtain ⟨M2, R2, F2, q2⟩ := key a.2.2.length (Nat.le_refl _)
    rw [List.take_length] at R2
    have T2 := T1.fm F2
    refine ⟨M2, ?_, ⟨T2, Or.inl ⟨ha, R2⟩⟩, F1.trans F2⟩
    unfold fX2_replay
    refine sBv f1 ?_
    have e : xFU = (39000 + (999 - a.2.2.length)) + 1 + a.2.2.length := by rw [xFU_eq]; omega
    rw [e, q2, fX2_replay_l6.eq_2, m50, T2.2.1]
    exact sT (by rw [eLe (by omega) (by omega)]; exact Nat.le_refl _) rfl
  · refine ⟨M1, ?_, ⟨T1, Or.inr ⟨ha, z1, S1.1 2 (by decide) (by decide), S1.1 3 (by decide) (by decide)⟩⟩, F1⟩
    unfold fX2_replay
    refine sBv f1 ?_
    have e : xFU = 39999 + 1 := by decide
    rw [e, fX2_replay_l6.eq_2, m50, T1.2.1, ha.2]
    exact sT (by decide) rfl
