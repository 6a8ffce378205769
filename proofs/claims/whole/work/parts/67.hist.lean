/-! ===== the class: its history ===== -/
theorem hs_tab : xrf 24 0 = 25 ∧ xrf 24 1 = 42 ∧ xrf 24 2 = 43 ∧ xrf 24 3 = 44 ∧ xrf 24 4 = 45 ∧ xln 25 = 16 ∧ xln 42 = 200 ∧ xln 43 = 201 ∧ xln 44 = 160 ∧ xln 45 = 12 := by decide +kernel
theorem hs_col : ∀ w, w < 16 → xrf 25 w = 26 + w ∧ xln (26 + w) = 200 := by decide +kernel
theorem h0 : xrf 24 0 = 25 := hs_tab.1
theorem h1 : xrf 24 1 = 42 := hs_tab.2.1
theorem h2 : xrf 24 2 = 43 := hs_tab.2.2.1
theorem h3 : xrf 24 3 = 44 := hs_tab.2.2.2.1
theorem h4 : xrf 24 4 = 45 := hs_tab.2.2.2.2.1
theorem hl25 : xln 25 = 16 := hs_tab.2.2.2.2.2.1
theorem hl42 : xln 42 = 200 := hs_tab.2.2.2.2.2.2.1
theorem hl43 : xln 43 = 201 := hs_tab.2.2.2.2.2.2.2.1
theorem hl44 : xln 44 = 160 := hs_tab.2.2.2.2.2.2.2.2.1
theorem hl45 : xln 45 = 12 := hs_tab.2.2.2.2.2.2.2.2.2
/-- a column of the history and a place there -/
theorem sCo {β : Type} {F z : Option β} (w k : Nat) {a : Int32} (hw : w < 16) (hk : k < 200) (ha : a = nI k) (kk : F = z) : xGb (nI w) (xln (xrf 24 0)) (xGb a (xln (xrf (xrf 24 0) (Int32.toNatClampNeg (nI w)))) F) = z := by
  rw [h0]
  refine sGb w rfl (by rw [hl25]; exact hw) (by rw [hl25]; decide) ?_
  rw [eCl (by omega), (hs_col w hw).1]
  exact sGb k ha (by rw [(hs_col w hw).2]; exact hk) (by rw [(hs_col w hw).2]; decide) kk
theorem eCo {w k : Nat} {a : Int32} {M : xMem} (hw : w < 16) (hk : k < 200) (ha : a = nI k) : M.1 (xrf (xrf 24 0) (Int32.toNatClampNeg (nI w))) (Int32.toNatClampNeg a) = M.1 (26 + w) k := by
  rw [h0, eCl (by omega), (hs_col w hw).1, ha, eCl (by omega)]
/-! adding into the rows of tallies and parts -/
def xT (M : xMem) (f g : Nat → Int32) : xMem := xwR (xwR M 44 f) 45 g
theorem xT_44 (M : xMem) (f g : Nat → Int32) : (xT M f g).1 44 = f := by unfold xT; rw [xwR_ne (by decide), xwR_at]
theorem xT_45 (M : xMem) (f g : Nat → Int32) : (xT M f g).1 45 = g := by unfold xT; rw [xwR_at]
theorem xT_ne {M : xMem} {f g : Nat → Int32} {c : Nat} (h : c ≠ 44) (h' : c ≠ 45) : (xT M f g).1 c = M.1 c := by unfold xT; rw [xwR_ne h', xwR_ne h]
theorem xT_2 (M : xMem) (f g : Nat → Int32) : (xT M f g).2 = M.2 := rfl
theorem xT_w44 {M : xMem} {f g : Nat → Int32} {a : Nat} {v : Int32} : xwI (xT M f g) 44 a v = xT M (upd f a v) g := by
  unfold xwI
  rw [xT_44]
  unfold xT xwR
  simp only
  rw [va_up_comm (by decide), bx_uu]
theorem xT_w45 {M : xMem} {f g : Nat → Int32} {a : Nat} {v : Int32} : xwI (xT M f g) 45 a v = xT M f (upd g a v) := by
  unfold xwI
  rw [xT_45]
  unfold xT xwR
  simp only [bx_uu]
theorem xwR_self (M : xMem) (c : Nat) : xwR M c (M.1 c) = M := by
  unfold xwR
  have : va_up M.1 c (M.1 c) = M.1 := by
    funext j
    unfold va_up
    by_cases h : j = c <;> simp [h]
  rw [this]
theorem xT_self (M : xMem) : M = xT M (M.1 44) (M.1 45) := by
  have e : (xwR M 44 (M.1 44)).1 45 = M.1 45 := xwR_ne (by decide)
  unfold xT
  rw [xwR_self, xwR_self]
def ad1 (f : Nat → Int32) (a : Nat) (v : Int32) : Nat → Int32 := upd f a (f a + v)
def addL (f : Nat → Int32) (l : List (Nat × Int32)) : Nat → Int32 := l.foldl (fun f p => ad1 f p.1 p.2) f
def sumAt (a : Nat) : List (Nat × Int32) → Int32
  | [] => 0
  | p :: l => (if p.1 = a then p.2 else 0) + sumAt a l
theorem addL_at (a : Nat) : ∀ (l : List (Nat × Int32)) (f : Nat → Int32), addL f l a = f a + sumAt a l
  | [], f => by simp [addL, sumAt]
  | p :: l, f => by
    show addL (ad1 f p.1 p.2) l a = _
    rw [addL_at a l]
    show ad1 f p.1 p.2 a + sumAt a l = f a + ((if p.1 = a then p.2 else 0) + sumAt a l)
    unfold ad1 upd
    by_cases h : p.1 = a
    · rw [if_pos h.symm, if_pos h, h, Int32.add_assoc]
    · rw [if_neg (fun q => h q.symm), if_neg h, Int32.zero_add]
theorem sumAt_app (a : Nat) : ∀ (l m : List (Nat × Int32)), sumAt a (l ++ m) = sumAt a l + sumAt a m
  | [], m => by simp [sumAt]
  | p :: l, m => by
    show _ + sumAt a (l ++ m) = _
    rw [sumAt_app a l m]
    show _ = (_ + sumAt a l) + _
    rw [Int32.add_assoc]
def taA (t i w : Nat) : Nat := (10 * t + i) * 8 + w
theorem e_taA (t i w : Nat) : ((nI t * nI 10) + nI i) * nI 8 + nI w = nI (taA t i w) := by
  rw [pk_mul, nI_add, pk_mul, nI_add]
  unfold taA
  rw [Nat.mul_comm t 10]
theorem taA_eq {t i w t' i' w' : Nat} (hi : i < 10) (hi' : i' < 10) (hw : w < 8) (hw' : w' < 8) : taA t i w = taA t' i' w' ↔ t = t' ∧ i = i' ∧ w = w' := by
  unfold taA; omega
theorem s_addTally {M : xMem} {f g : Nat → Int32} {t i w : Nat} {v : Int32} (ht : t < 2) (hi : i < 10) (hw : w < 8) : fX1_addTally 24 (nI t) (nI i) (nI w) v (xT M f g) = some (xT M (ad1 f (taA t i w) v) g) := by
  have hlt : taA t i w < 160 := by unfold taA; omega
  unfold fX1_addTally
  refine sLe (e_taA t i w) ?_
  rw [h3, hl44]
  refine sF (nI_pos (by omega)) (sF (by rw [eLe (by decide) (by omega)]; omega) (sGb _ rfl hlt (by decide) (sGb _ rfl hlt (by decide) ?_)))
  rw [eCl (by omega), xT_44, xT_w44]
  rfl
def ptA (t w : Nat) : Nat := 6 * t + w
theorem s_addPart {M : xMem} {f g : Nat → Int32} {t w : Nat} {v : Int32} (ht : t < 2) (hw : w < 6) : fX1_addPart 24 (nI t) (nI w) v (xT M f g) = some (xT M f (ad1 g (ptA t w) v)) := by
  have hlt : ptA t w < 12 := by unfold ptA; omega
  unfold fX1_addPart
  refine sLe (b := nI (ptA t w)) (by rw [pk_mul, nI_add]; unfold ptA; rw [Nat.mul_comm t 6]) ?_
  rw [h4, hl45]
  refine sF (nI_pos (by omega)) (sF (by rw [eLe (by decide) (by omega)]; omega) (sGb _ rfl hlt (by decide) (sGb _ rfl hlt (by decide) ?_)))
  rw [eCl (by omega), xT_45, xT_w45]
  rfl
/-- bit i of a set, of a number that may be beyond 31 bits only if it isn't looked at -/
theorem e_bitI {v i : Nat} (hv : v < 2147483648) (hi : i < 31) : (nI v >>> (nI i &&& 31)) &&& nI 1 = nI (v / 2 ^ i % 2) := by
  have hs : ∀ i, i < 31 → ((nI i &&& 31).toBitVec.smod 32).toNat = i := by decide +kernel
  rw [pk_shrN hv _ i (hs i hi)]
  unfold nI
  apply Int32.toBitVec_inj.mp
  rw [Int32.toBitVec_and]
  have hb : ∀ k : Nat, (Int32.ofNat k).toBitVec = BitVec.ofNat 32 k := fun k => rfl
  rw [hb, hb, hb]
  apply BitVec.eq_of_toNat_eq
  rw [BitVec.toNat_and, BitVec.toNat_ofNat, BitVec.toNat_ofNat, BitVec.toNat_ofNat, ← Nat.and_mod_two_pow, show (1 : Nat) = 2 ^ 1 - 1 by decide, Nat.and_two_pow_sub_one_eq_mod]
/-- a raid's column as numbers: team, raider, result, set, touches, points, went out, by three, all outs -/
def CoR (M : xMem) (k tm r s st nt pb wo sp ao : Nat) : Prop := M.1 26 k = nI tm ∧ M.1 27 k = nI r ∧ M.1 28 k = nI s ∧ M.1 31 k = nI st ∧ M.1 38 k = nI nt ∧ M.1 39 k = nI pb ∧ M.1 40 k = nI wo ∧ M.1 41 k = nI sp ∧ M.1 37 k = nI ao
theorem CoR.keep {M M' : xMem} {k tm r s st nt pb wo sp ao : Nat} (h : CoR M k tm r s st nt pb wo sp ao) (e : ∀ c, 26 ≤ c → c < 42 → M'.1 c = M.1 c) : CoR M' k tm r s st nt pb wo sp ao := by
  unfold CoR
  rw [e 26 (by decide) (by decide), e 27 (by decide) (by decide), e 28 (by decide) (by decide), e 31 (by decide) (by decide), e 37 (by decide) (by decide), e 38 (by decide) (by decide), e 39 (by decide) (by decide), e 40 (by decide) (by decide), e 41 (by decide) (by decide)]
  exact h
theorem CoR.T {M : xMem} {f g : Nat → Int32} {k tm r s st nt pb wo sp ao : Nat} (h : CoR M k tm r s st nt pb wo sp ao) : CoR (xT M f g) k tm r s st nt pb wo sp ao := h.keep (fun c h1 h2 => xT_ne (by omega) (by omega))
def tlL (sg : Int32) (o st : Nat) : Nat → List (Nat × Int32)
  | 0 => []
  | n + 1 => tlL sg o st n ++ [(taA o n 5, sg * nI (st / 2 ^ n % 2))]
theorem addL_app (f : Nat → Int32) (l m : List (Nat × Int32)) : addL f (l ++ m) = addL (addL f l) m := List.foldl_append
theorem s_bookOthers {M : xMem} {f g : Nat → Int32} {sg : Int32} {k tm r s st nt pb wo sp ao : Nat} (hC : CoR M k tm r s st nt pb wo sp ao) (hk : k < 200) (ht : tm < 2) (hs : s < 5) (hst : s = 3 → st < 10) (hst1 : s = 1 → st < 1024) (hsp : sp < 2) (hwo : wo < 2) :
    fX1_bookOthers 24 (nI k) sg (xT M f g) = some (xT M (addL f ((if s = 3 then [(taA (1 - tm) st 3, sg), (taA (1 - tm) st 4, sg * (nI 1 + nI sp))] else []) ++ (if s = 1 then tlL sg (1 - tm) st 10 else []))) (addL g (if s = 3 then [(ptA (1 - tm) 2, sg), (ptA (1 - tm) 3, sg * nI sp)] else [(ptA (1 - tm) 5, sg * nI wo)]))) := by
  have hT : ∀ f g, CoR (xT M f g) k tm r s st nt pb wo sp ao := fun f g => hC.T
  have loop : ∀ (f g : Nat → Int32), fX1_bookOthers_l107 24 (nI k) sg (nI (1 - tm)) (nI st) (fun v14 M15 => some M15) xFU (nI 0) (xT M f g) = some (xT M (addL f (if s = 1 then tlL sg (1 - tm) st 10 else [])) g) := by
    intro f g
    by_cases e : s = 1
    · rw [if_pos e]
      have hst' := hst1 e
      refine loopU (fun n i => fX1_bookOthers_l107 24 (nI k) sg (nI (1 - tm)) (nI st) (fun v14 M15 => some M15) n (nI i) (xT M (addL f (tlL sg (1 - tm) st i)) g)) 10 _ (by decide) (fun n i hi => ?_) (fun n => ?_)
      · rw [fX1_bookOthers_l107.eq_2]
        refine sF (by rw [eLe (by decide) (by omega)]; omega) (sCo 2 k (by decide) hk rfl ?_)
        rw [eCo (by decide) hk rfl, (hT _ _).2.2.1]
        refine sT (by rw [e]) ?_
        rw [e_bitI (by omega) (by omega), s_addTally (by omega) (by omega) (by decide), eBv]
        refine sLe (nI_1 i) ?_
        show _ = fX1_bookOthers_l107 24 (nI k) sg (nI (1 - tm)) (nI st) (fun v14 M15 => some M15) n (nI (i + 1)) (xT M (addL f (tlL sg (1 - tm) st i ++ [(taA (1 - tm) i 5, sg * nI (st / 2 ^ i % 2))])) g)
        rw [addL_app]
        rfl
      · rw [fX1_bookOthers_l107.eq_2]
        exact sT (by decide) rfl
    · rw [if_neg e]
      have e2 : xFU = 39999 + 1 := by decide
      rw [e2, fX1_bookOthers_l107.eq_2]
      refine sF (by decide) (sCo 2 k (by decide) hk rfl ?_)
      rw [eCo (by decide) hk rfl, (hT _ _).2.2.1]
      exact sF (by rw [eEq (by omega) (by decide)]; exact e) rfl
  unfold fX1_bookOthers
  refine sCo 0 k (by decide) hk rfl ?_
  rw [eCo (by decide) hk rfl, (hT _ _).1, eSub (by omega)]
  refine sLt (sCo 5 k (by decide) hk rfl ?_)
  rw [eCo (by decide) hk rfl, (hT _ _).2.2.2.1]
  refine sLt (sCo 2 k (by decide) hk rfl ?_)
  rw [eCo (by decide) hk rfl, (hT _ _).2.2.1]
  by_cases e : s = 3
  · rw [if_pos e, if_pos e]
    have hst' := hst e
    refine sJx (xT M (addL f [(taA (1 - tm) st 3, sg), (taA (1 - tm) st 4, sg * (nI 1 + nI sp))]) (addL g [(ptA (1 - tm) 2, sg), (ptA (1 - tm) 3, sg * nI sp)])) (fun J => ?_) ?_
    · refine sT (by rw [e]) (sCo 15 k (by decide) hk rfl ?_)
      rw [eCo (by decide) hk rfl, (hT _ _).2.2.2.2.2.2.2.1, eLt, s_addTally (by omega) hst' (by decide), eBv, s_addTally (by omega) hst' (by decide), eBv, s_addPart (by omega) (by decide), eBv, s_addPart (by omega) (by decide), eBv]
      rfl
    · rw [loop, addL_app]
  · rw [if_neg e, if_neg e]
    refine sJx (xT M f (addL g [(ptA (1 - tm) 5, sg * nI wo)])) (fun J => ?_) ?_
    · refine sF (by rw [eEq (by omega) (by decide)]; exact e) (sCo 14 k (by decide) hk rfl ?_)
      rw [eCo (by decide) hk rfl, (hT _ _).2.2.2.2.2.2.1, s_addPart (by omega) (by decide), eBv]
      rfl
    · rw [loop]
      rfl
def bkT (sg : Int32) (tm r s st nt pb wo sp : Nat) : List (Nat × Int32) := [(taA tm r 0, sg), (taA tm r 1, sg * nI pb), (taA tm r 2, sg * nI nt), (taA tm r 5, sg * nI wo), (taA tm r 6, if s = 0 then sg else nI 0)] ++ ((if s = 3 then [(taA (1 - tm) st 3, sg), (taA (1 - tm) st 4, sg * (nI 1 + nI sp))] else []) ++ (if s = 1 then tlL sg (1 - tm) st 10 else []))
def bkP (sg : Int32) (tm s nt pb wo sp ao : Nat) : List (Nat × Int32) := [(ptA tm 0, sg * nI nt), (ptA tm 1, sg * (nI pb - nI nt))] ++ ((if s = 3 then [(ptA (1 - tm) 2, sg), (ptA (1 - tm) 3, sg * nI sp)] else [(ptA (1 - tm) 5, sg * nI wo)]) ++ [(ptA 1 4, sg * nI 2 * nI (ao / 2 ^ 0 % 2)), (ptA 0 4, sg * nI 2 * nI (ao / 2 ^ 1 % 2))])
theorem s_book {M : xMem} {f g : Nat → Int32} {sg : Int32} {k tm r s st nt pb wo sp ao : Nat} (hC : CoR M k tm r s st nt pb wo sp ao) (hk : k < 200) (ht : tm < 2) (hr : r < 10) (hs : s < 5) (hst : s = 3 → st < 10) (hst1 : s = 1 → st < 1024) (hsp : sp < 2) (hwo : wo < 2) (hao : ao < 4) :
    fX1_book 24 (nI k) sg (xT M f g) = some (xT M (addL f (bkT sg tm r s st nt pb wo sp)) (addL g (bkP sg tm s nt pb wo sp ao))) := by
  have hT : ∀ f g, CoR (xT M f g) k tm r s st nt pb wo sp ao := fun f g => hC.T
  have loop : ∀ (f g : Nat → Int32) (p3 p4 p5 p6 : Int32), fX1_book_l150 24 (nI k) sg p3 p4 p5 p6 (fun v32 M33 => some M33) xFU (nI 0) (xT M f g) = some (xT M f (addL g [(ptA 1 4, sg * nI 2 * nI (ao / 2 ^ 0 % 2)), (ptA 0 4, sg * nI 2 * nI (ao / 2 ^ 1 % 2))])) := by
    intro f g p3 p4 p5 p6
    have e2 : xFU = 39997 + 1 + 1 + 1 := by decide
    rw [e2, fX1_book_l150.eq_2]
    refine sF (by decide) (sCo 11 k (by decide) hk rfl ?_)
    rw [eCo (by decide) hk rfl, (hT _ _).2.2.2.2.2.2.2.2, e_bitI (by omega) (by decide), eLt, eSub (by decide), s_addPart (by decide) (by decide), eBv]
    refine sLe (nI_1 0) ?_
    rw [fX1_book_l150.eq_2]
    refine sF (by decide) (sCo 11 k (by decide) hk rfl ?_)
    rw [eCo (by decide) hk rfl, (hT _ _).2.2.2.2.2.2.2.2, e_bitI (by omega) (by decide), eLt, eSub (by decide), s_addPart (by decide) (by decide), eBv]
    refine sLe (nI_1 1) ?_
    rw [fX1_book_l150.eq_2]
    exact sT (by decide) rfl
  unfold fX1_book
  refine sCo 0 k (by decide) hk rfl ?_
  rw [eCo (by decide) hk rfl, (hT _ _).1]
  refine sLt (sCo 1 k (by decide) hk rfl ?_)
  rw [eCo (by decide) hk rfl, (hT _ _).2.1]
  refine sLt (sCo 12 k (by decide) hk rfl ?_)
  rw [eCo (by decide) hk rfl, (hT _ _).2.2.2.2.1]
  refine sLt (sCo 13 k (by decide) hk rfl ?_)
  rw [eCo (by decide) hk rfl, (hT _ _).2.2.2.2.2.1, eLt, s_addTally ht hr (by decide), eBv, s_addTally ht hr (by decide), eBv, s_addTally ht hr (by decide), eBv]
  refine sCo 14 k (by decide) hk rfl ?_
  rw [eCo (by decide) hk rfl, (hT _ _).2.2.2.2.2.2.1, s_addTally ht hr (by decide), eBv]
  refine sCo 2 k (by decide) hk rfl ?_
  rw [eCo (by decide) hk rfl, (hT _ _).2.2.1]
  generalize hff : ad1 (ad1 (ad1 (ad1 f (taA tm r 0) sg) (taA tm r 1) (sg * nI pb)) (taA tm r 2) (sg * nI nt)) (taA tm r 5) (sg * nI wo) = ff
  refine sJw (if s = 0 then sg else nI 0) (xT M ff g) (fun J => ?_) ?_
  · by_cases e : s = 0
    · exact sT (by rw [e]; decide) (by rw [if_pos e])
    · exact sF (eN0 (by omega) e) (by rw [if_neg e])
  rw [s_addTally ht hr (by decide), eBv, s_addPart ht (by decide), eBv, s_addPart ht (by decide), eBv, s_bookOthers hC hk ht hs hst hst1 hsp hwo, eBv, loop]
  unfold bkT bkP
  rw [addL_app (f := f), addL_app (f := g), addL_app (l := if s = 3 then [(ptA (1 - tm) 2, sg), (ptA (1 - tm) 3, sg * nI sp)] else [(ptA (1 - tm) 5, sg * nI wo)]), ← hff]
  rfl
