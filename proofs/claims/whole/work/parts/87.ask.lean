/-! ===== more questions: letter, shirts, changes, best ===== -/
theorem p5_div : ∀ (l : List Nat) (v : Nat), (∀ x ∈ l, x < 32) → l.foldl (fun v x => v * 32 + x) v / 32 ^ l.length = v
  | [], v, _ => by simp
  | x :: l, v, h => by
    rw [List.foldl_cons, List.length_cons, Nat.pow_succ, ← Nat.div_div_eq_div_mul, p5_div l _ (fun y hy => h y (List.mem_cons_of_mem _ hy))]
    have := h x (List.mem_cons_self ..)
    omega
theorem p5_take {l : List Nat} (h : ∀ x ∈ l, x < 32) (i : Nat) : p5 l / 32 ^ (l.length - i) = p5 (l.take i) := by
  have e : p5 l = (l.drop i).foldl (fun v x => v * 32 + x) (p5 (l.take i)) := by
    unfold p5
    rw [← List.foldl_append, List.take_append_drop]
  rw [e, ← List.length_drop, p5_div _ _ (fun x hx => h x (List.mem_of_mem_drop hx))]
theorem p5_snoc (l : List Nat) (x : Nat) : p5 (l ++ [x]) = p5 l * 32 + x := by unfold p5; rw [List.foldl_append]; rfl
theorem nm32 {l : List Nat} (h : nmOK l) : ∀ x ∈ l, x < 32 := fun x hx => by have := h.2.2 x hx; omega
theorem p5_at {l : List Nat} (h : nmOK l) {i : Nat} (hi : i < l.length) : p5 l / 32 ^ (l.length - 1 - i) = p5 (l.take i) * 32 + l.getD i 0 ∧ 1 ≤ l.getD i 0 ∧ l.getD i 0 ≤ 26 := by
  have hg : l[i]? = some l[i] := List.getElem?_eq_getElem hi
  have e4 : l.getD i 0 = l[i] := by rw [List.getD_eq_getElem?_getD, hg]; rfl
  have e5 : l.take (i + 1) = l.take i ++ [l[i]] := by rw [List.take_add_one, hg]; rfl
  rw [e4, show l.length - 1 - i = l.length - (i + 1) by omega, p5_take (nm32 h), e5, p5_snoc]
  exact ⟨rfl, h.2.2 _ (List.getElem_mem hi)⟩
theorem p5_lt {l : List Nat} (h : ∀ x ∈ l, x < 32) : p5 l < 32 ^ l.length := by
  have := p5_take h 0
  rw [Nat.sub_zero, List.take_zero] at this
  have e : p5 [] = 0 := rfl
  rw [e] at this
  rcases (Nat.div_eq_zero_iff).1 this with q | q
  · exact absurd q (Nat.ne_of_gt (Nat.pow_pos (by decide)))
  · exact q
theorem p5_30 {l : List Nat} (h : nmOK l) : p5 l < 1073741824 := by
  have := p5_lt (nm32 h)
  have h2 : 32 ^ l.length ≤ 32 ^ 6 := Nat.pow_le_pow_right (by decide) h.2.1
  have h3 : (32 : Nat) ^ 6 = 1073741824 := by decide
  omega
theorem e_shr5 {v k : Nat} (hv : v < 2147483648) (hk : k < 6) : nI v >>> (nI 5 * nI k &&& 31) = nI (v / 32 ^ k) := by
  have hs : ∀ i, i < 31 → ((nI i &&& 31).toBitVec.smod 32).toNat = i := by decide +kernel
  rw [pk_mul, pk_shrN hv _ (5 * k) (hs _ (by omega)), Nat.pow_mul]
theorem c_letterAt {M : xMem} {a : xTl} {ρ : Nat → Nat} (h : TQ M a ρ) {t i : Nat} (ht : t < 2) (hi : i < 6) : fX5_letterAt 7 (nI t) (nI i) M = some (nI ((a.1 t).getD i 0), M) := by
  have hN := (h.1.1 t ht).1
  have e8 : M.1 8 t = nI (p5 (a.1 t)) := (h.2.1.1 t ht).1
  have hp := p5_30 hN
  have hL := hN.2.1
  generalize hl : a.1 t = l at *
  unfold fX5_letterAt
  refine loopU (fun n k => fX5_letterAt_l2 7 (nI t) (nI i) _ n (nI k) M) l.length _ (by omega) (fun n k hk => ?_) (fun n => ?_)
  · rw [fX5_letterAt_l2.eq_2, m78, l8]
    refine sF (by rw [eLe (by omega) (by omega)]; omega) (sGb t rfl ht (by decide) ?_)
    rw [eCl (by omega), e8, e_shr5 (by omega) (by omega)]
    obtain ⟨z1, z2, z3⟩ := p5_at hN (i := l.length - 1 - k) (by omega)
    rw [show l.length - 1 - (l.length - 1 - k) = k by omega] at z1
    have hle : p5 l / 32 ^ k ≤ p5 l := Nat.div_le_self _ _
    refine sF (eN0 (by omega) (by omega)) (sLe (nI_1 k) rfl)
  · rw [fX5_letterAt_l2.eq_2, m78, l8]
    have fin : (if nI l.length ≤ nI i then (some ((nI 0), M)) else (xGb (nI t) 2 (some ((((M.1 8 (Int32.toNatClampNeg (nI t))) >>> (((nI 5) * ((nI l.length - (nI 1)) - nI i)) &&& 31)) &&& (nI 31)), M)))) = some (nI (l.getD i 0), M) := by
      by_cases q : i < l.length
      · refine sF (by rw [eLe (by omega) (by omega)]; omega) (sGb t rfl ht (by decide) ?_)
        rw [eCl (by omega), e8, eSub (by omega), eSub (by omega), e_shr5 (by omega) (by omega)]
        obtain ⟨z1, z2, z3⟩ := p5_at hN q
        have hle : p5 l / 32 ^ (l.length - 1 - i) ≤ p5 l := Nat.div_le_self _ _
        rw [pk_andN (by omega) 5 (by decide), z1]
        congr 2
        congr 1
        omega
      · refine sT (by rw [eLe (by omega) (by omega)]; omega) ?_
        rw [List.getD_eq_getElem?_getD, List.getElem?_eq_none (by omega)]
        rfl
    by_cases q6 : l.length = 6
    · exact sT (by rw [q6]; decide) fin
    · refine sF (by rw [eLe (by omega) (by omega)]; omega) (sGb t rfl ht (by decide) ?_)
      have z := p5_take (nm32 hN) 0
      rw [Nat.sub_zero, List.take_zero] at z
      refine sT ?_ fin
      rw [eCl (by omega), e8, e_shr5 (by omega) (by omega), z]
      rfl
theorem p27_eq (l : List Nat) : p27 l = 27 * (27 * (27 * (27 * (27 * (27 * 0 + l.getD 0 0) + l.getD 1 0) + l.getD 2 0) + l.getD 3 0) + l.getD 4 0) + l.getD 5 0 := rfl
theorem nm_le {l : List Nat} (h : nmOK l) (i : Nat) : l.getD i 0 ≤ 26 := by
  by_cases q : i < l.length
  · exact (p5_at h q).2.2
  · rw [List.getD_eq_getElem?_getD, List.getElem?_eq_none (by omega)]
    exact Nat.zero_le _
theorem p27_at {l : List Nat} (h : nmOK l) {i : Nat} (hi : i < 6) : p27 l / 27 ^ (5 - i) % 27 = l.getD i 0 ∧ p27 l < 387420489 := by
  have g0 := nm_le h 0
  have g1 := nm_le h 1
  have g2 := nm_le h 2
  have g3 := nm_le h 3
  have g4 := nm_le h 4
  have g5 := nm_le h 5
  rw [p27_eq]
  rcases (show i = 0 ∨ i = 1 ∨ i = 2 ∨ i = 3 ∨ i = 4 ∨ i = 5 by omega) with rfl | rfl | rfl | rfl | rfl | rfl <;>
    (constructor
     · generalize l.getD 0 0 = x0 at *
       generalize l.getD 1 0 = x1 at *
       generalize l.getD 2 0 = x2 at *
       generalize l.getD 3 0 = x3 at *
       generalize l.getD 4 0 = x4 at *
       generalize l.getD 5 0 = x5 at *
       first | (show _ / 14348907 % 27 = _; omega) | (show _ / 531441 % 27 = _; omega) | (show _ / 19683 % 27 = _; omega) | (show _ / 729 % 27 = _; omega) | (show _ / 27 % 27 = _; omega) | (show _ / 1 % 27 = _; omega)
     · omega)
theorem s_letter {x y : Int32} : STEP (fX10_letter 0 x y) (fX11_letter 146 x y) := by
  refine STEP.q (fun M a ρ h => ?_) (fun M h => ?_)
  · by_cases q0 : tmQ x
    · by_cases q1 : wnQ y 0 5
      · obtain ⟨t, ht, rfl⟩ := id q0
        obtain ⟨w, hwl, hw, rfl⟩ := id q1
        refine ⟨nI ((a.1 t).getD w 0), ?_, ?_⟩
        · unfold fX10_letter; try simp only [x02, m50, m51, m52, m53, m54, m60, m61, s120, s13l]
          refine sBn ((c_team h).1 q0) (sF (by decide) ?_)
          refine sBn ((c_within (by decide) (by decide)).1 q1) (sF (by decide) ?_)
          exact sBn (c_letterAt h ht (by omega)) rfl
        · unfold fX11_letter; try simp only [x02, m50, m51, m52, m53, m54, m60, m61, s120, s13l]
          refine sBn ((m_team h).1 q0) (sF (by decide) ?_)
          refine sBn ((m_within (by decide) (by decide)).1 q1) (sF (by decide) ?_)
          rw [nI_add, q_get h.tm (by omega), eBn, (h.2.2.2.2.2.2 t ht).2.1]
          obtain ⟨z1, z2⟩ := p27_at (h.1.1 t ht).1 (i := w) (by omega)
          have L := loopU (fun n k => fX11_letter_l34 146 (nI t) (nI w) (fun (v9 : Int32) (v10 : Int32) (M11 : xMem) => some ((v9 - v9 / (nI 27) * (nI 27)), M11)) n (nI (p27 (a.1 t) / 27 ^ k)) (nI (w + k)) M) (5 - w) (some (nI ((a.1 t).getD w 0), M)) (by omega) (fun n k hk => ?_) (fun n => ?_)
          · simp only [Nat.pow_zero, Nat.div_one, Nat.add_zero] at L
            exact L
          · have hle : p27 (a.1 t) / 27 ^ k ≤ p27 (a.1 t) := Nat.div_le_self _ _
            simp only [fX11_letter_l34.eq_2]
            refine sF (by rw [eLe (by omega) (by omega)]; omega) ?_
            rw [pk_div (by omega) (by decide) (by decide), Nat.div_div_eq_div_mul, ← Nat.pow_succ]
            exact sLt (sLe (nI_1 _) rfl)
          · have hle : p27 (a.1 t) / 27 ^ (5 - w) ≤ p27 (a.1 t) := Nat.div_le_self _ _
            simp only [fX11_letter_l34.eq_2]
            refine sT (by rw [eLe (by omega) (by omega)]; omega) ?_
            rw [pk_rem (by omega) (by decide) (by decide), z1]
      · refine ⟨-2, ?_, ?_⟩
        · unfold fX10_letter; try simp only [x02, m50, m51, m52, m53, m54, m60, m61, s120, s13l]
          refine sBn ((c_team h).1 q0) (sF (by decide) ?_)
          exact sBn ((c_within (by decide) (by decide)).2 q1) (sT (by decide) rfl)
        · unfold fX11_letter; try simp only [x02, m50, m51, m52, m53, m54, m60, m61, s120, s13l]
          refine sBn ((m_team h).1 q0) (sF (by decide) ?_)
          exact sBn ((m_within (by decide) (by decide)).2 q1) (sT (by decide) rfl)
    · refine ⟨-2, ?_, ?_⟩
      · unfold fX10_letter; try simp only [x02, m50, m51, m52, m53, m54, m60, m61, s120, s13l]
        exact sBn ((c_team h).2 q0) (sT (by decide) rfl)
      · unfold fX11_letter; try simp only [x02, m50, m51, m52, m53, m54, m60, m61, s120, s13l]
        exact sBn ((m_team h).2 q0) (sT (by decide) rfl)
  · refine ⟨-2, ?_, ?_⟩
    · unfold fX10_letter; try simp only [x02, m50, m51, m52, m53, m54, m60, m61, s120, s13l]
      exact sBn (c_noteam h) (sT (by decide) rfl)
    · unfold fX11_letter; try simp only [x02, m50, m51, m52, m53, m54, m60, m61, s120, s13l]
      exact sBn (m_noteam h) (sT (by decide) rfl)
theorem fsh_cases (ρ : Nat → Nat) (t x : Nat) : fsh ρ t x = -1 ∨ ∃ i, i < ρ (1 + t) ∧ fsh ρ t x = nI i := by
  have key : ∀ m k, k + m = ρ (1 + t) → (runL (S := Unit) (fun i _ => if ρ (5 + 10 * t + i) = x then .inr (nI i) else .inl ()) (fun _ => -1) m k () = -1 ∨ ∃ i, i < ρ (1 + t) ∧ runL (S := Unit) (fun i _ => if ρ (5 + 10 * t + i) = x then .inr (nI i) else .inl ()) (fun _ => -1) m k () = nI i) := by
    intro m
    induction m with
    | zero => intro k hk; exact Or.inl rfl
    | succ m ih =>
      intro k hk
      unfold runL
      by_cases q : ρ (5 + 10 * t + k) = x
      · simp only [q, if_true]
        exact Or.inr ⟨k, by omega, rfl⟩
      · simp only [q, if_false]
        exact ih (k + 1) (by omega)
  exact key _ 0 (by omega)
def stShi (ρ : Nat → Nat) (t w k : Nat) (s : Int32) : Int32 ⊕ Int32 := if fsh ρ t (1 + k) = -1 then .inl s else if ρ (48 + 10 * t + Int32.toNatClampNeg (fsh ρ t (1 + k))) = w then (if s = 0 then .inr (nI (1 + k)) else .inl (s + (-1))) else .inl s
theorem m1_ne {i : Nat} (h : i < 2147483648) : ¬ nI i = (-1 : Int32) := fun q => nI_pos h (by rw [q]; decide)
theorem s_shirts {x y z : Int32} : STEP (fX10_shirts 0 x y z) (fX11_shirts 146 x y z) := by
  refine STEP.q (fun M a ρ h => ?_) (fun M h => ?_)
  · by_cases q0 : tmQ x
    · by_cases q1 : wnQ y 0 4
      · by_cases q2 : 0 ≤ z
        · obtain ⟨t, ht, rfl⟩ := id q0
          obtain ⟨w, hwl, hw, rfl⟩ := id q1
          obtain ⟨-, h7, h10⟩ := h.sz ht
          have hst := (h.rw.2 t ht).2.1
          refine ⟨runL (stShi ρ t w) (fun _ => -1) 99 0 z, ?_, ?_⟩
          · unfold fX10_shirts; try simp only [x02, m50, m51, m52, m53, m54, m60, m61, s120, s13l]
            refine sBn ((c_team h).1 q0) (sF (by decide) ?_)
            refine sBn ((c_within (by decide) (by decide)).1 q1) (sF (by decide) (sT q2 ?_))
            refine sGb t rfl ht (by decide) ?_
            rw [x13 ht]
            refine sBn (s_maskOf ((st_rf kd12).2.2.2 t ht) (h.sd ht) ht h.rw (by omega)) ?_
            refine loopR (S := Int32) (fun n k s => fX10_shirts_l48 0 (nI t) (nI w) z (nI (mkP (fun i => ρ (48 + 10 * t + i) == w) (ρ (1 + t)))) (fun (v14 : Int32) (v15 : Int32) (M16 : xMem) => some ((-1), M16)) n s (nI (1 + k)) M) (stShi ρ t w) (fun _ => -1) 99 z (by decide) (fun n k s hk => ?_) (fun n s => ?_)
            · rw [fX10_shirts_l48.eq_2, x02, m50, m60]
              refine sF (by rw [eLtI (by omega) (by omega)]; omega) (sBn (c_playerWith h ht (by omega)) ?_)
              rcases fsh_cases ρ t (1 + k) with e | ⟨i, hi, e⟩
              · have E : stShi ρ t w k s = .inl s := by unfold stShi; rw [if_pos e]
                rw [E, e]
                exact sT rfl (sLe (nI_1 (1 + k)) rfl)
              · have e1 : ¬ fsh ρ t (1 + k) = -1 := by rw [e]; exact m1_ne (by omega)
                have e2 : Int32.toNatClampNeg (fsh ρ t (1 + k)) = i := by rw [e, eCl (by omega)]
                have hm := mk_lt (p := fun i => ρ (48 + 10 * t + i) == w) h10
                refine sF e1 ?_
                rw [e, e_bitI (by omega) (by omega), mkP_bit]
                by_cases q : ρ (48 + 10 * t + i) = w
                · have E : stShi ρ t w k s = if s = 0 then .inr (nI (1 + k)) else .inl (s + (-1)) := by unfold stShi; rw [if_neg e1, e2, if_pos q]
                  rw [E, if_pos (c := i < ρ (1 + t) ∧ (ρ (48 + 10 * t + i) == w) = true) ⟨hi, by rw [q]; exact beq_self_eq_true w⟩]
                  refine sT rfl ?_
                  by_cases zz : s = 0
                  · rw [if_pos zz, if_pos zz]; rfl
                  · rw [if_neg zz, if_neg zz]
                    exact sLt (sLe (nI_1 (1 + k)) rfl)
                · have E : stShi ρ t w k s = .inl s := by unfold stShi; rw [if_neg e1, e2, if_neg q]
                  rw [E, if_neg (c := i < ρ (1 + t) ∧ (ρ (48 + 10 * t + i) == w) = true) (fun z => q (by simpa using z.2))]
                  exact sF (by decide) (sLe (nI_1 (1 + k)) rfl)
            · rw [fX10_shirts_l48.eq_2]
              exact sT (by decide) rfl
          · unfold fX11_shirts
            refine sBn ((m_team h).1 q0) (sF (by decide) ?_)
            refine sBn ((m_within (by decide) (by decide)).1 q1) (sF (by decide) (sT q2 ?_))
            refine loopR (S := Int32) (fun n k s => fX11_shirts_l33 146 (nI t) (nI w) z (fun (v14 : Int32) (v15 : Int32) (M16 : xMem) => some ((-1), M16)) n s (nI (1 + k)) M) (stShi ρ t w) (fun _ => -1) 99 z (by decide) (fun n k s hk => ?_) (fun n s => ?_)
            · rw [fX11_shirts_l33.eq_2]
              refine sF (by rw [eLtI (by omega) (by omega)]; omega) (sBn (h.find ht (by omega)) ?_)
              rcases fsh_cases ρ t (1 + k) with e | ⟨i, hi, e⟩
              · have E : stShi ρ t w k s = .inl s := by unfold stShi; rw [if_pos e]
                rw [E, e]
                exact sT rfl (sLe (nI_1 (1 + k)) rfl)
              · have e1 : ¬ fsh ρ t (1 + k) = -1 := by rw [e]; exact m1_ne (by omega)
                have e2 : Int32.toNatClampNeg (fsh ρ t (1 + k)) = i := by rw [e, eCl (by omega)]
                have hs5 := (hst i (by omega)).1
                refine sF e1 ?_
                rw [e]
                refine sBn (q_isOf h.tm ht (by omega)) ?_
                by_cases q : ρ (48 + 10 * t + i) = w
                · have E : stShi ρ t w k s = if s = 0 then .inr (nI (1 + k)) else .inl (s + (-1)) := by unfold stShi; rw [if_neg e1, e2, if_pos q]
                  rw [E]
                  refine sT (by rw [q]) ?_
                  by_cases zz : s = 0
                  · rw [if_pos zz, if_pos zz]; rfl
                  · rw [if_neg zz, if_neg zz]
                    exact sLt (sLe (nI_1 (1 + k)) rfl)
                · have E : stShi ρ t w k s = .inl s := by unfold stShi; rw [if_neg e1, e2, if_neg q]
                  rw [E]
                  exact sF (by rw [eEq (by omega) (by omega)]; exact q) (sLe (nI_1 (1 + k)) rfl)
            · rw [fX11_shirts_l33.eq_2]
              exact sT (by decide) rfl
        · refine ⟨-2, ?_, ?_⟩
          · unfold fX10_shirts
            exact sBn ((c_team h).1 q0) (sF (by decide) (sBn ((c_within (by decide) (by decide)).1 q1) (sF (by decide) (sF q2 rfl))))
          · unfold fX11_shirts
            exact sBn ((m_team h).1 q0) (sF (by decide) (sBn ((m_within (by decide) (by decide)).1 q1) (sF (by decide) (sF q2 rfl))))
      · refine ⟨-2, ?_, ?_⟩
        · unfold fX10_shirts
          exact sBn ((c_team h).1 q0) (sF (by decide) (sBn ((c_within (by decide) (by decide)).2 q1) (sT (by decide) rfl)))
        · unfold fX11_shirts
          exact sBn ((m_team h).1 q0) (sF (by decide) (sBn ((m_within (by decide) (by decide)).2 q1) (sT (by decide) rfl)))
    · refine ⟨-2, ?_, ?_⟩
      · unfold fX10_shirts
        exact sBn ((c_team h).2 q0) (sT (by decide) rfl)
      · unfold fX11_shirts
        exact sBn ((m_team h).2 q0) (sT (by decide) rfl)
  · refine ⟨-2, ?_, ?_⟩
    · unfold fX10_shirts
      exact sBn (c_noteam h) (sT (by decide) rfl)
    · unfold fX11_shirts
      exact sBn (m_noteam h) (sT (by decide) rfl)
def sgI (x : Int32) : Int32 := if x = 0 then nI 0 else if x < 0 then -1 else nI 1
theorem e_sig {x : Int32} {M : xMem} : fJ6_signum_0f7a4 x M = some (sgI x, M) := by
  unfold fJ6_signum_0f7a4 sgI
  by_cases q : x < 0
  · have hs : x >>> (nI 31 &&& 31) = -1 := by
      apply Int32.toInt_inj.mp
      rw [pk_shr x _ 31 (by decide)]
      have h1 := Int32.le_toInt x
      rw [Int32.lt_iff_toInt_lt, Int32.toInt_zero] at q
      rw [Int.shiftRight_eq_div_pow]
      show x.toInt / 2147483648 = -1
      omega
    have h0 : ¬ x = 0 := fun z => by rw [z] at q; exact absurd q (by decide)
    rw [hs, if_neg h0, if_pos q]
    congr 2
    apply Int32.toBitVec_inj.mp
    rw [Int32.toBitVec_or]
    exact BitVec.allOnes_or
  · obtain ⟨n, hn, rfl⟩ := x_neg q
    rw [pk_shrN hn _ 31 (by decide), if_neg (c := nI n < 0) q]
    have e0 : n / 2 ^ 31 = 0 := Nat.div_eq_of_lt hn
    rw [e0]
    by_cases z : n = 0
    · subst z
      rw [if_pos (by decide)]
      rfl
    · rw [if_neg (eN0 hn z)]
      have hu : (Int32.toUInt32 (-nI n) >>> (Int32.toUInt32 (nI 31) &&& Int32.toUInt32 31)).toInt32 = nI 1 := by
        apply Int32.toBitVec_inj.mp
        apply BitVec.eq_of_toNat_eq
        rw [pk_ushr (-nI n) (nI 31) 31 (by decide)]
        have hb : (-nI n).toBitVec.toNat = 4294967296 - n := by
          rw [Int32.toBitVec_neg, BitVec.toNat_neg, pk_tn (by omega)]
          omega
        rw [hb]
        show _ / 2147483648 = 1
        omega
      rw [hu]
      rfl
def stChg (ρ : Nat → Nat) (k : Nat) (s : Int32 × Int32) : (Int32 × Int32) ⊕ Int32 := if ldI ρ (1 + k) = 0 then .inl s else .inl (if s.2 = 0 then s.1 else if (s.2 ≤ 0) = (ldI ρ (1 + k) ≤ 0) then s.1 else s.1 + nI 1, ldI ρ (1 + k))
theorem sg3 (x : Int32) : (x = 0 ∧ sgI x = nI 0 ∧ x ≤ 0) ∨ (¬ x = 0 ∧ x ≤ 0 ∧ sgI x = -1) ∨ (¬ x = 0 ∧ ¬ x ≤ 0 ∧ sgI x = nI 1) := by
  unfold sgI
  by_cases q : x = 0
  · left; rw [if_pos q]; exact ⟨q, rfl, by rw [q]; decide⟩
  · right
    rw [if_neg q]
    by_cases z : x < 0
    · left; rw [if_pos z]; exact ⟨q, Int32.le_of_lt z, rfl⟩
    · right; rw [if_neg z]
      refine ⟨q, fun y => ?_, rfl⟩
      rw [Int32.not_lt] at z
      exact q (Int32.le_antisymm y z)
theorem s_changes : STEP (fX10_changes 0) (fX11_changes 146) := by
  refine STEP.q (fun M a ρ h => ?_) (fun M h => ?_)
  · have hn := h.n25
    have hz := h.hs.1
    refine ⟨runL (stChg ρ) (fun s => s.1) (ρ 25) 0 (nI 0, nI 0), ?_, ?_⟩
    · unfold fX10_changes; try simp only [x02, m50, m51, m52, m53, m54, m60, m61, s120, s13l]
      refine sBn (c_told h) (sF (by decide) ?_)
      unfold fX1_leadChanges
      have e0 : sgI (nI 0) = nI 0 := by decide
      have L := loopR (S := Int32 × Int32) (M := M) (fun n k s => fX1_leadChanges_l6 24 (fun (v10 : Int32) (v11 : Int32) (v12 : Int32) (M13 : xMem) => some (v10, M13)) n s.1 (sgI s.2) (nI (1 + k)) M) (stChg ρ) (fun s => s.1) (ρ 25) (nI 0, nI 0) (by omega) (fun n k s hk => ?_) (fun n s => ?_)
      · simp only [e0, Nat.add_zero] at L
        exact sBn L rfl
      · simp only [fX1_leadChanges_l6.eq_2, hz, h2, hl43]
        refine sF (by rw [eLtI (by omega) (by omega)]; omega) (sGb (1 + k) rfl (by omega) (by decide) ?_)
        rw [eCl (by omega), c_leads h (by omega), e_sig, eBn]
        unfold stChg
        obtain ⟨s1, s2⟩ := s
        generalize ldI ρ (1 + k) = v
        simp only [eLt, nI_1]
        rcases sg3 v with ⟨rfl, a2, a3⟩ | ⟨a1, a2, a3⟩ | ⟨a1, a2, a3⟩ <;> rcases sg3 s2 with ⟨rfl, b2, b3⟩ | ⟨b1, b2, b3⟩ | ⟨b1, b2, b3⟩ <;> simp (decide := true) only [*, if_true, if_false, eq_self, xSt, nI_add]
        all_goals first | rfl | skip
      · simp only [fX1_leadChanges_l6.eq_2, hz]
        exact sT (by rw [eLtI (by omega) (by omega)]; omega) rfl
    · unfold fX11_changes; try simp only [x02, m50, m51, m52, m53, m54, m60, m61, s120, s13l]
      refine sBn (h.there) (sF (by decide) ?_)
      refine loopR (S := Int32 × Int32) (fun n k s => fX11_changes_l16 146 (fun (v10 : Int32) (v11 : Int32) (v12 : Int32) (M13 : xMem) => some (v10, M13)) n s.1 s.2 (nI (1 + k)) M) (stChg ρ) (fun s => s.1) (ρ 25) (nI 0, nI 0) (by omega) (fun n k s hk => ?_) (fun n s => ?_)
      · rw [fX11_changes_l16.eq_2, q_get h.tm (by decide), eBn]
        refine sF (by rw [eLtI (by omega) (by omega)]; omega) (sBn (m_leadAt h (by omega)) ?_)
        unfold stChg
        obtain ⟨s1, s2⟩ := s
        generalize ldI ρ (1 + k) = v
        simp only [eLt, nI_1]
        rcases sg3 v with ⟨rfl, a2, a3⟩ | ⟨a1, a2, a3⟩ | ⟨a1, a2, a3⟩ <;> rcases sg3 s2 with ⟨rfl, b2, b3⟩ | ⟨b1, b2, b3⟩ | ⟨b1, b2, b3⟩ <;> simp (decide := true) only [*, if_true, if_false, eq_self, xSt, addI0, nI_add]
        all_goals first | rfl | skip
      · rw [fX11_changes_l16.eq_2, q_get h.tm (by decide), eBn]
        exact sT (by rw [eLtI (by omega) (by omega)]; omega) rfl
  · refine ⟨-2, ?_, ?_⟩
    · unfold fX10_changes; try simp only [x02, m50, m51, m52, m53, m54, m60, m61, s120, s13l]
      exact sBn (c_untold h) (sT (by decide) rfl)
    · unfold fX11_changes; try simp only [x02, m50, m51, m52, m53, m54, m60, m61, s120, s13l]
      exact sBn (m_nothere h) (sT (by decide) rfl)
def nmQ (ρ : Nat → Nat) (b : Nat) : Prop := b % 10 < ρ (1 + b / 10)
theorem c_hasNumber {M : xMem} {a : xTl} {ρ : Nat → Nat} (h : TQ M a ρ) {b : Nat} (hb : b < 20) : (nmQ ρ b → fX2_hasNumber 5 (nI b) M = some (nI 1, M)) ∧ (¬ nmQ ρ b → fX2_hasNumber 5 (nI b) M = some (nI 0, M)) := by
  obtain ⟨e, h7, h10⟩ := h.sz (t := b / 10) (by omega)
  unfold fX2_hasNumber nmQ
  rw [m50, m60, pk_rem (by omega) (by decide) (by decide), pk_div (by omega) (by decide) (by decide), x_ros (by omega), eBn, e]
  constructor
  · intro q
    exact sF (by rw [eLe (by omega) (by omega)]; omega) rfl
  · intro q
    exact sT (by rw [eLe (by omega) (by omega)]; omega) rfl
theorem m_oneN {M : xMem} {a : xTl} {ρ : Nat → Nat} (h : TQ M a ρ) {b : Nat} (hb : b < 20) : (nmQ ρ b → fX11_isOne 146 (nI b / nI 10) (nI b - nI b / nI 10 * nI 10) M = some (nI 1, M)) ∧ (¬ nmQ ρ b → fX11_isOne 146 (nI b / nI 10) (nI b - nI b / nI 10 * nI 10) M = some (nI 0, M)) := by
  rw [pk_rem (by omega) (by decide) (by decide), pk_div (by omega) (by decide) (by decide)]
  unfold nmQ
  constructor
  · intro q
    exact (m_one h).1 ⟨b / 10, b % 10, by omega, q, rfl, rfl⟩
  · intro q
    refine (m_one h).2 ?_
    rintro ⟨t, i, ht, hi, e1, e2⟩
    obtain ⟨-, h7, h10⟩ := h.sz ht
    rw [nI_eq (by omega) (by omega)] at e1 e2
    rw [e1, e2] at q
    exact q hi
def aQ (ρ : Nat → Nat) (w a b : Nat) : Prop := tal ρ (a / 10) (a % 10) w < tal ρ (b / 10) (b % 10) w ∨ (tal ρ (b / 10) (b % 10) w = tal ρ (a / 10) (a % 10) w ∧ b < a)
noncomputable def ahd (ρ : Nat → Nat) (w a b : Nat) : Nat := by
  classical exact if nmQ ρ b ∧ aQ ρ w a b then 1 else 0
theorem ahd_1 {ρ : Nat → Nat} {w a b : Nat} (h : nmQ ρ b ∧ aQ ρ w a b) : ahd ρ w a b = 1 := by unfold ahd; exact if_pos h
theorem ahd_0 {ρ : Nat → Nat} {w a b : Nat} (h : ¬ (nmQ ρ b ∧ aQ ρ w a b)) : ahd ρ w a b = 0 := by unfold ahd; exact if_neg h
theorem sr1 {f : Nat → Nat} {k v : Nat} (h : f k = v) : sumR f (k + 1) = sumR f k + v := by rw [← h]; rfl
theorem c_tallyN {M : xMem} {a : xTl} {ρ : Nat → Nat} (h : TQ M a ρ) {b w : Nat} (hb : b < 20) (hw : w < 7) : fX1_tallyAt 24 (nI b / nI 10) (nI b - nI b / nI 10 * nI 10) (nI w) M = some (nI (tal ρ (b / 10) (b % 10) w), M) := by
  rw [pk_rem (by omega) (by decide) (by decide), pk_div (by omega) (by decide) (by decide)]
  exact c_tallyAt h (by omega) (by omega) hw
theorem m_ofN {M : xMem} {a : xTl} {ρ : Nat → Nat} (h : TQ M a ρ) {b w : Nat} (hb : b < 20) (hw : w < 7) : fX11_ofOne 146 (nI b / nI 10) (nI b - nI b / nI 10 * nI 10) (nI w) M = some (nI (tal ρ (b / 10) (b % 10) w), M) := by
  rw [pk_rem (by omega) (by decide) (by decide), pk_div (by omega) (by decide) (by decide), m_ofOne h (by omega) (by omega) (by omega)]
  unfold ofV
  rw [if_neg (by omega)]
theorem c_aheadOf {M : xMem} {a : xTl} {ρ : Nat → Nat} (h : TQ M a ρ) {n w : Nat} (hn : n < 20) (hw : w < 7) : fX2_aheadOf 5 (nI n) (nI w) M = some (nI (sumR (ahd ρ w n) 20), M) := by
  have l1 := tal_le h (n / 10) (n % 10) w
  unfold fX2_aheadOf
  rw [m52, c_tallyN h hn hw, eBn]
  refine loopU (fun m k => fX2_aheadOf_l23 5 (nI n) (nI w) (nI (tal ρ (n / 10) (n % 10) w)) _ m (nI (sumR (ahd ρ w n) k)) (nI k) M) 20 _ (by decide) (fun m k hk => ?_) (fun m => ?_)
  · have l2 := tal_le h (k / 10) (k % 10) w
    rw [fX2_aheadOf_l23.eq_2, m52]
    refine sF (by rw [eLe (by omega) (by omega)]; omega) (sBn (c_tallyN h hk hw) ?_)
    by_cases q : aQ ρ w n k
    · refine sJw (nI 1) M (fun J => ?_) ?_
      · rcases q with q | ⟨q1, q2⟩
        · exact sT (by rw [eLtI (by omega) (by omega)]; exact q) rfl
        · exact sF (by rw [eLtI (by omega) (by omega)]; omega) (sT (by rw [q1]) (sF (by rw [eLe (by omega) (by omega)]; omega) rfl))
      · by_cases z : nmQ ρ k
        · refine sBn ((c_hasNumber h hk).1 z) (sJw (nI 1) M (fun J => sF (by decide) (sF (by decide) rfl)) ?_)
          refine sLe (nI_add _ _) (sLe (nI_1 k) ?_)
          rw [sr1 (ahd_1 ⟨z, q⟩)]
        · refine sBn ((c_hasNumber h hk).2 z) (sJw (nI 0) M (fun J => sT (by decide) rfl) ?_)
          refine sLe (nI_add _ _) (sLe (nI_1 k) ?_)
          rw [sr1 (ahd_0 (fun y => z y.1))]
    · refine sJw (nI 0) M (fun J => ?_) ?_
      · unfold aQ at q
        refine sF (by rw [eLtI (by omega) (by omega)]; omega) ?_
        by_cases q1 : tal ρ (k / 10) (k % 10) w = tal ρ (n / 10) (n % 10) w
        · exact sT (by rw [q1]) (sT (by rw [eLe (by omega) (by omega)]; omega) rfl)
        · exact sF (by rw [eEq (by omega) (by omega)]; exact q1) rfl
      · have e0 : ahd ρ w n k = 0 := ahd_0 (fun y => q y.2)
        by_cases z : nmQ ρ k
        · refine sBn ((c_hasNumber h hk).1 z) (sJw (nI 0) M (fun J => sF (by decide) (sT (by decide) rfl)) ?_)
          refine sLe (nI_add _ _) (sLe (nI_1 k) ?_)
          rw [sr1 e0]
        · refine sBn ((c_hasNumber h hk).2 z) (sJw (nI 0) M (fun J => sT (by decide) rfl) ?_)
          refine sLe (nI_add _ _) (sLe (nI_1 k) ?_)
          rw [sr1 e0]
  · rw [fX2_aheadOf_l23.eq_2]
    exact sT (by decide) rfl
theorem m_isAhead {M : xMem} {a : xTl} {ρ : Nat → Nat} (h : TQ M a ρ) {n k w : Nat} (hn : n < 20) (hk : k < 20) (hw : w < 7) : (aQ ρ w n k → fX11_isAhead 146 (nI k) (nI n) (nI w) M = some (nI 1, M)) ∧ (¬ aQ ρ w n k → fX11_isAhead 146 (nI k) (nI n) (nI w) M = some (nI 0, M)) := by
  have l1 := tal_le h (n / 10) (n % 10) w
  have l2 := tal_le h (k / 10) (k % 10) w
  unfold fX11_isAhead
  rw [m_ofN h hk hw, eBn, m_ofN h hn hw, eBn]
  unfold aQ
  constructor
  · rintro (q | ⟨q1, q2⟩)
    · exact sT (by rw [eLtI (by omega) (by omega)]; exact q) rfl
    · exact sF (by rw [eLtI (by omega) (by omega)]; omega) (sT (by rw [q1]) (sF (by rw [eLe (by omega) (by omega)]; omega) rfl))
  · intro q
    refine sF (by rw [eLtI (by omega) (by omega)]; omega) ?_
    by_cases q1 : tal ρ (k / 10) (k % 10) w = tal ρ (n / 10) (n % 10) w
    · exact sT (by rw [q1]) (sT (by rw [eLe (by omega) (by omega)]; omega) rfl)
    · exact sF (by rw [eEq (by omega) (by omega)]; exact q1) rfl
theorem m_aheadL {M : xMem} {a : xTl} {ρ : Nat → Nat} (h : TQ M a ρ) {n w : Nat} (hn : n < 20) (hw : w < 7) (y : Int32) (K : Int32 → Int32 → xMem → Option (Int32 × xMem)) : fX11_best_l58 146 (nI w) y (nI n) K xFU (nI 0) (nI 0) M = K (nI (sumR (ahd ρ w n) 20)) (nI 20) M := by
  refine loopU (fun m k => fX11_best_l58 146 (nI w) y (nI n) K m (nI (sumR (ahd ρ w n) k)) (nI k) M) 20 _ (by decide) (fun m k hk => ?_) (fun m => ?_)
  · rw [fX11_best_l58.eq_2]
    refine sF (by rw [eLe (by omega) (by omega)]; omega) ?_
    by_cases q : nmQ ρ k ∧ aQ ρ w n k
    · refine sJw (nI 1) M (fun J => ?_) ?_
      · have hne : ¬ k = n := by
          intro e
          rcases q.2 with y | y
          · rw [e] at y; omega
          · omega
        refine sF (by rw [eEq (by omega) (by omega)]; exact hne) (sBn ((m_oneN h hk).1 q.1) (sF (by decide) (sBn ((m_isAhead h hn hk hw).1 q.2) (sF (by decide) rfl))))
      · refine sLe (nI_add _ _) (sLe (nI_1 k) ?_)
        rw [sr1 (ahd_1 q)]
    · refine sJw (nI 0) M (fun J => ?_) ?_
      · by_cases hne : k = n
        · exact sT (by rw [hne]) rfl
        · refine sF (by rw [eEq (by omega) (by omega)]; exact hne) ?_
          by_cases z : nmQ ρ k
          · exact sBn ((m_oneN h hk).1 z) (sF (by decide) (sBn ((m_isAhead h hn hk hw).2 (fun y => q ⟨z, y⟩)) (sT (by decide) rfl)))
          · exact sBn ((m_oneN h hk).2 z) (sT (by decide) rfl)
      · refine sLe (nI_add _ _) (sLe (nI_1 k) ?_)
        rw [sr1 (ahd_0 q)]
  · rw [fX11_best_l58.eq_2]
    exact sT (by decide) rfl
noncomputable def stBest (ρ : Nat → Nat) (w : Nat) (y : Int32) (k : Nat) (_ : Unit) : Unit ⊕ Int32 := by
  classical exact if nmQ ρ k ∧ nI (sumR (ahd ρ w k) 20) = y then .inr (nI k) else .inl ()
theorem stBest_1 {ρ : Nat → Nat} {w : Nat} {y : Int32} {k : Nat} {s : Unit} (h : nmQ ρ k ∧ nI (sumR (ahd ρ w k) 20) = y) : stBest ρ w y k s = .inr (nI k) := by unfold stBest; exact if_pos h
theorem stBest_0 {ρ : Nat → Nat} {w : Nat} {y : Int32} {k : Nat} {s : Unit} (h : ¬ (nmQ ρ k ∧ nI (sumR (ahd ρ w k) 20) = y)) : stBest ρ w y k s = .inl () := by unfold stBest; exact if_neg h
theorem s_best {x y : Int32} : STEP (fX10_best 0 x y) (fX11_best 146 x y) := by
  refine STEP.q (fun M a ρ h => ?_) (fun M h => ?_)
  · by_cases q1 : wnQ x 0 6
    · by_cases q2 : 0 ≤ y
      · obtain ⟨w, hwl, hw, rfl⟩ := id q1
        refine ⟨runL (stBest ρ w y) (fun _ => -1) 20 0 (), ?_, ?_⟩
        · unfold fX10_best
          rw [x02]
          refine sBn (c_told h) (sF (by decide) (sBn ((c_within (by decide) (by decide)).1 q1) (sF (by decide) (sT q2 ?_))))
          refine loopR (S := Unit) (fun n k s => fX10_best_l29 0 (nI w) y (fun (v11 : Int32) (M12 : xMem) => some ((-1), M12)) n (nI k) M) (stBest ρ w y) (fun _ => -1) 20 () (by decide) (fun n k s hk => ?_) (fun n s => ?_)
          · rw [fX10_best_l29.eq_2, x02]
            refine sF (by rw [eLe (by omega) (by omega)]; omega) ?_
            by_cases z : nmQ ρ k
            · refine sBn ((c_hasNumber h hk).1 z) (sF (by decide) (sBn (c_aheadOf h hk (by omega)) ?_))
              by_cases zz : nI (sumR (ahd ρ w k) 20) = y
              · rw [stBest_1 ⟨z, zz⟩]
                exact sT zz rfl
              · rw [stBest_0 (fun u => zz u.2)]
                exact sF zz (sLe (nI_1 k) rfl)
            · rw [stBest_0 (fun u => z u.1)]
              exact sBn ((c_hasNumber h hk).2 z) (sT (by decide) (sLe (nI_1 k) rfl))
          · rw [fX10_best_l29.eq_2]
            exact sT (by decide) rfl
        · unfold fX11_best
          refine sBn h.there (sF (by decide) (sBn ((m_within (by decide) (by decide)).1 q1) (sF (by decide) (sT q2 ?_))))
          refine loopR (S := Unit) (fun n k s => fX11_best_l28 146 (nI w) y (fun (v11 : Int32) (M12 : xMem) => some ((-1), M12)) n (nI k) M) (stBest ρ w y) (fun _ => -1) 20 () (by decide) (fun n k s hk => ?_) (fun n s => ?_)
          · rw [fX11_best_l28.eq_2]
            refine sF (by rw [eLe (by omega) (by omega)]; omega) ?_
            by_cases z : nmQ ρ k
            · refine sBn ((m_oneN h hk).1 z) (sF (by decide) ?_)
              rw [m_aheadL h hk (by omega)]
              by_cases zz : nI (sumR (ahd ρ w k) 20) = y
              · rw [stBest_1 ⟨z, zz⟩]
                exact sT zz rfl
              · rw [stBest_0 (fun u => zz u.2)]
                exact sF zz (sLe (nI_1 k) rfl)
            · rw [stBest_0 (fun u => z u.1)]
              exact sBn ((m_oneN h hk).2 z) (sT (by decide) (sLe (nI_1 k) rfl))
          · rw [fX11_best_l28.eq_2]
            exact sT (by decide) rfl
      · refine ⟨-2, ?_, ?_⟩
        · unfold fX10_best
          rw [x02]
          exact sBn (c_told h) (sF (by decide) (sBn ((c_within (by decide) (by decide)).1 q1) (sF (by decide) (sF q2 rfl))))
        · unfold fX11_best
          exact sBn h.there (sF (by decide) (sBn ((m_within (by decide) (by decide)).1 q1) (sF (by decide) (sF q2 rfl))))
    · refine ⟨-2, ?_, ?_⟩
      · unfold fX10_best
        rw [x02]
        exact sBn (c_told h) (sF (by decide) (sBn ((c_within (by decide) (by decide)).2 q1) (sT (by decide) rfl)))
      · unfold fX11_best
        exact sBn h.there (sF (by decide) (sBn ((m_within (by decide) (by decide)).2 q1) (sT (by decide) rfl)))
  · refine ⟨-2, ?_, ?_⟩
    · unfold fX10_best
      rw [x02]
      exact sBn (c_untold h) (sT (by decide) rfl)
    · unfold fX11_best
      exact sBn (m_nothere h) (sT (by decide) rfl)
