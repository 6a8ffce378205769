/-! ===== the tape ===== -/
def byO (x : Int32) : Nat := x.toBitVec.toNat % 256
theorem byO_lt (x : Int32) : byO x < 256 := Nat.mod_lt _ (by decide)
theorem i32_cond (x : Int32) : x.toInt = if x.toBitVec.toNat < 2147483648 then (x.toBitVec.toNat : Int) else (x.toBitVec.toNat : Int) - 4294967296 := by
  have h : x.toInt = x.toBitVec.toInt := rfl
  rw [h, BitVec.toInt_eq_toNat_cond]
  split <;> split <;> omega
theorem byO_int (x : Int32) : (byO x : Int) = x.toInt % 256 := by
  have h := i32_cond x
  have hl : x.toBitVec.toNat < 4294967296 := x.toBitVec.isLt
  unfold byO
  rw [h]
  split <;> omega
theorem by8 (x : Int32) : x.toInt8 = (nI (byO x)).toInt8 := by
  have e : ∀ y : Int32, y.toInt8.toBitVec.toNat = y.toBitVec.toNat % 256 := fun y => by
    show (BitVec.signExtend 8 y.toBitVec).toNat = _
    rw [BitVec.signExtend_eq_setWidth_of_le _ (by decide), BitVec.toNat_setWidth]
  apply Int8.toBitVec_inj.mp
  apply BitVec.eq_of_toNat_eq
  rw [e, e, pk_tn (by have := byO_lt x; omega)]
  unfold byO
  omega
theorem vB (x : Int32) : vp_nar .byte ((Int32.toInt8 x).toInt32) = bI (byO x) := by
  unfold bI
  rw [pk_vb, vp_nar_byte, by8]
/-- the bytes of a number -/
def bts (x : Int32) : List Nat := [x.toBitVec.toNat / 16777216 % 256, x.toBitVec.toNat / 65536 % 256, x.toBitVec.toNat / 256 % 256, x.toBitVec.toNat % 256]
theorem byO_u (x : Int32) (k : Nat) (hk : k < 32) : byO ((Int32.toUInt32 x >>> (Int32.toUInt32 (nI k) &&& Int32.toUInt32 31)).toInt32) = x.toBitVec.toNat / 2 ^ k % 256 := by
  have hs : ∀ k, k < 32 → (((nI k).toUInt32 &&& Int32.toUInt32 31).toBitVec % 32).toNat = k := by decide +kernel
  unfold byO
  rw [pk_ushr x (nI k) k (hs k hk)]
theorem byO_s (x : Int32) (k : Nat) (hk : k = 0 ∨ k = 8 ∨ k = 16 ∨ k = 24) : byO (x >>> (nI k &&& 31)) = x.toBitVec.toNat / 2 ^ k % 256 := by
  have hs : ∀ i, i < 31 → ((nI i &&& 31).toBitVec.smod 32).toNat = i := by decide +kernel
  have h1 := byO_int (x >>> (nI k &&& 31))
  rw [pk_shr x _ k (hs k (by omega)), Int.shiftRight_eq_div_pow, i32_cond] at h1
  have hl : x.toBitVec.toNat < 4294967296 := x.toBitVec.isLt
  rcases hk with rfl | rfl | rfl | rfl
  · show _ = _ / 1 % 256
    have h2 : ((2 ^ 0 : Nat) : Int) = 1 := rfl
    rw [h2] at h1
    split at h1 <;> omega
  · show _ = _ / 256 % 256
    have h2 : ((2 ^ 8 : Nat) : Int) = 256 := rfl
    rw [h2] at h1
    split at h1 <;> omega
  · show _ = _ / 65536 % 256
    have h2 : ((2 ^ 16 : Nat) : Int) = 65536 := rfl
    rw [h2] at h1
    split at h1 <;> omega
  · show _ = _ / 16777216 % 256
    have h2 : ((2 ^ 24 : Nat) : Int) = 16777216 := rfl
    rw [h2] at h1
    split at h1 <;> omega
def RwR (M : xMem) (p : Nat) (l : List Nat) : Prop := M.1 p 1 = nI l.length ∧ ∀ j (b : Nat), l[j]? = some b → M.1 (p + 1) j = bI b
theorem snoc_at {l : List Nat} {x y j : Nat} (h : (l ++ [x])[j]? = some y) : (j = l.length ∧ x = y) ∨ (j < l.length ∧ l[j]? = some y) := by
  rcases Nat.lt_or_ge j l.length with z | z
  · rw [List.getElem?_append_left z] at h
    exact Or.inr ⟨z, h⟩
  · rw [List.getElem?_append_right z] at h
    rcases Nat.eq_zero_or_pos (j - l.length) with y2 | y2
    · rw [y2] at h
      exact Or.inl ⟨by omega, by simpa using h⟩
    · rw [List.getElem?_eq_none (by simp; omega)] at h
      exact absurd h (by simp)
theorem rw_tab : ∀ p, (p = 1 ∨ p = 3) → xrf p 0 = p + 1 ∧ 2000 ≤ xln (p + 1) ∧ xln (p + 1) ≤ 2064 ∧ (p = 3 → xln (p + 1) = 2064) := by
  rintro p (rfl | rfl) <;> decide +kernel
theorem c_put {M : xMem} {p : Nat} {l : List Nat} {x : Int32} (hp : p = 1 ∨ p = 3) (h : RwR M p l) (hl : l.length < xln (p + 1)) : ∃ M', fX6_put p x M = some M' ∧ RwR M' p (l ++ [byO x]) ∧ Fi (fun c => c = p ∨ c = p + 1) M M' := by
  obtain ⟨t1, t2, t3, -⟩ := rw_tab p hp
  refine ⟨xwI (xwI M (p + 1) l.length (bI (byO x))) p 1 (nI (l.length + 1)), ?_, ⟨?_, ?_⟩, ?_⟩
  · unfold fX6_put
    rw [t1, h.1]
    refine sF (by rw [eLe (by omega) (by omega)]; omega) (sGb _ rfl hl (by omega) ?_)
    rw [eCl (by omega), vB]
    refine sLt ?_
    rw [xwI_c (by omega), h.1, nI_add]
    rfl
  · rw [xwI_at, List.length_append]; rfl
  · intro j b hj
    rw [xwI_c (by omega)]
    rcases snoc_at hj with ⟨rfl, rfl⟩ | ⟨z, hz⟩
    · rw [xwI_at]
    · rw [xwI_ne (Or.inr (by omega))]
      exact h.2 j b hz
  · exact ((Fi.refl (fun c => c = p ∨ c = p + 1) M).wI (Or.inr rfl)).wI (Or.inl rfl)
theorem c_putNumber {M : xMem} {l : List Nat} {x : Int32} (h : RwR M 1 l) (hl : l.length + 4 ≤ 2000) : ∃ M', fX6_putNumber 1 x M = some M' ∧ RwR M' 1 (l ++ bts x) ∧ Fi (fun c => c = 1 ∨ c = 2) M M' := by
  have l2' : xln (1 + 1) = 2000 := l2
  obtain ⟨M1, f1, r1, F1⟩ := c_put (x := (Int32.toUInt32 x >>> (Int32.toUInt32 (nI 24) &&& Int32.toUInt32 31)).toInt32) (Or.inl rfl) h (by rw [l2']; omega)
  obtain ⟨M2, f2, r2, F2⟩ := c_put (x := (Int32.toUInt32 x >>> (Int32.toUInt32 (nI 16) &&& Int32.toUInt32 31)).toInt32) (Or.inl rfl) r1 (by rw [l2', List.length_append]; simp; omega)
  obtain ⟨M3, f3, r3, F3⟩ := c_put (x := (Int32.toUInt32 x >>> (Int32.toUInt32 (nI 8) &&& Int32.toUInt32 31)).toInt32) (Or.inl rfl) r2 (by rw [l2', List.length_append, List.length_append]; simp; omega)
  obtain ⟨M4, f4, r4, F4⟩ := c_put (x := x) (Or.inl rfl) r3 (by rw [l2', List.length_append, List.length_append, List.length_append]; simp; omega)
  refine ⟨M4, ?_, ?_, ((F1.trans F2).trans F3).trans F4⟩
  · unfold fX6_putNumber
    rw [f1, eBv, f2, eBv, f3, eBv, f4, eBv]
  · rw [byO_u x 24 (by decide), byO_u x 16 (by decide), byO_u x 8 (by decide)] at r4
    have e : l ++ bts x = l ++ [x.toBitVec.toNat / 2 ^ 24 % 256] ++ [x.toBitVec.toNat / 2 ^ 16 % 256] ++ [x.toBitVec.toNat / 2 ^ 8 % 256] ++ [byO x] := by
      unfold bts byO
      simp
    rw [e]
    exact r4
theorem bts_lt (x : Int32) : ∀ b ∈ bts x, b < 256 := by
  intro b hb
  unfold bts at hb
  simp at hb
  rcases hb with rfl | rfl | rfl | rfl <;> exact Nat.mod_lt _ (by decide)
/-! the model's -/
def TpM (M : xMem) (l : List Nat) : Prop := M.1 146 11 = nI l.length ∧ ∀ j (b : Nat), l[j]? = some b → M.1 150 j = bI b
def Ftp (M M' : xMem) : Prop := (∀ c, c ≠ 146 → c ≠ 150 → M'.1 c = M.1 c) ∧ (∀ j, j ≠ 11 → M'.1 146 j = M.1 146 j) ∧ M'.2 = M.2
theorem Ftp.refl (M : xMem) : Ftp M M := ⟨fun _ _ _ => rfl, fun _ _ => rfl, rfl⟩
theorem Ftp.trans {M M1 M2 : xMem} (h1 : Ftp M M1) (h2 : Ftp M1 M2) : Ftp M M2 := ⟨fun c a b => (h2.1 c a b).trans (h1.1 c a b), fun j a => (h2.2.1 j a).trans (h1.2.1 j a), h2.2.2.trans h1.2.2⟩
theorem Ftp.fd {M M' : xMem} (h : Ftp M M') : FdM M M' := ⟨fun c hc => h.1 c (by omega) (by omega), fun c _ => by rw [h.2.2], by rw [h.2.2]⟩
theorem x14610 : xrf 146 10 = 150 := by decide +kernel
theorem l150 : xln 150 = 2000 := by decide +kernel
def by4 : Nat → Int32
  | 0 => nI 24
  | 1 => nI 16
  | 2 => nI 8
  | 3 => nI 0
  | _ => -8
theorem m_put1 {M : xMem} {l : List Nat} {b : Nat} (h : TpM M l) : TpM (xwI (xwI M 150 l.length (bI b)) 146 11 (nI (l.length + 1))) (l ++ [b]) ∧ Ftp M (xwI (xwI M 150 l.length (bI b)) 146 11 (nI (l.length + 1))) := by
  refine ⟨⟨?_, ?_⟩, fun c u v => ?_, fun j u => ?_, rfl⟩
  · rw [xwI_at, List.length_append]; rfl
  · intro j y hj
    rw [xwI_c (by decide)]
    rcases snoc_at hj with ⟨rfl, rfl⟩ | ⟨z, hz⟩
    · rw [xwI_at]
    · rw [xwI_ne (Or.inr (by omega))]
      exact h.2 j y hz
  · rw [xwI_c (by omega), xwI_c (by omega)]
  · rw [xwI_ne (Or.inr u), xwI_c (by decide)]
theorem m_puts4 {M : xMem} {l : List Nat} {x : Int32} (h : TpM M l) (hl : l.length + 4 ≤ 2000) : ∃ M', fX11_puts4 146 x M = some M' ∧ TpM M' (l ++ bts x) ∧ Ftp M M' := by
  obtain ⟨M', n, ⟨i1, i2⟩, e⟩ := loopE (fun n k M => fX11_puts4_l3 146 x (fun (v5 : Int32) (M6 : xMem) => some M6) n (by4 k) M) (fun k M' => TpM M' (l ++ (bts x).take k) ∧ Ftp M M') 4 (M := M) (by decide) ⟨by simpa using h, Ftp.refl M⟩ (fun n k M1 hk hI => by
    obtain ⟨i1, i2⟩ := hI
    have hlen : (l ++ (bts x).take k).length = l.length + k := by
      rw [List.length_append, List.length_take]
      have : (bts x).length = 4 := rfl
      omega
    have step : ∀ b v, (¬ v < 0) → (∀ J : Int32, True) → byO (x >>> (v &&& 31)) = b → (bts x).take (k + 1) = (bts x).take k ++ [b] → by4 k = v → v + (-8) = by4 (k + 1) → ∃ M', fX11_puts4_l3 146 x (fun (v5 : Int32) (M6 : xMem) => some M6) (n + 1) (by4 k) M1 = fX11_puts4_l3 146 x (fun (v5 : Int32) (M6 : xMem) => some M6) n (by4 (k + 1)) M' ∧ TpM M' (l ++ (bts x).take (k + 1)) ∧ Ftp M M' := by
      intro b v h0 _ hb ht hv hv2
      obtain ⟨p1, p2⟩ := m_put1 (b := b) i1
      refine ⟨_, ?_, ?_, i2.trans p2⟩
      · rw [fX11_puts4_l3.eq_2, hv, x14610, l150, i1.1]
        refine sF h0 (sGb _ rfl (by omega) (by decide) ?_)
        rw [eCl (by omega), vB, hb]
        refine sLt ?_
        rw [xwI_c (by decide), i1.1, nI_add]
        refine sLt (sLe hv2 rfl)
      · rw [ht, ← List.append_assoc]
        exact p1
    rcases (show k = 0 ∨ k = 1 ∨ k = 2 ∨ k = 3 by omega) with rfl | rfl | rfl | rfl
    · exact step _ (nI 24) (by decide) (fun _ => trivial) (byO_s x 24 (by omega)) rfl rfl (by decide)
    · exact step _ (nI 16) (by decide) (fun _ => trivial) (byO_s x 16 (by omega)) rfl rfl (by decide)
    · exact step _ (nI 8) (by decide) (fun _ => trivial) (byO_s x 8 (by omega)) rfl rfl (by decide)
    · refine step _ (nI 0) (by decide) (fun _ => trivial) (byO_s x 0 (by omega)) ?_ rfl (by decide)
      show _ = [_, _, _] ++ [x.toBitVec.toNat / 1 % 256]
      rw [Nat.div_one]
      rfl)
  refine ⟨M', ?_, by simpa [bts] using i1, i2⟩
  unfold fX11_puts4
  refine e.trans ?_
  simp only [fX11_puts4_l3.eq_2]
  exact sT (by decide) rfl
theorem KC.tp {M M' : xMem} {a : xTl} {hs : List xTl} {tp tp' : List Nat} {fk fp : Int32} {ou : List Nat} (h : KC M a hs tp fk fp ou) (hF : Fi (fun c => c = 1 ∨ c = 2) M M') (hT : RwR M' 1 tp') (hl : tp'.length ≤ 2000) (hb : ∀ b ∈ tp', b < 256) : KC M' a hs tp' fk fp ou := by
  obtain ⟨h1, h2, h3, h4, h5, h6⟩ := h
  have e : ∀ c, c ≠ 1 → c ≠ 2 → M'.1 c = M.1 c := fun c a b => hF.1 c (fun q => by omega)
  refine ⟨h1.keep (fun c u v => e c (by omega) (by omega)) (fun c u v => by rw [hF.2]), h2.keep (fun c u v => e c (by omega) (by omega)) (fun c u v => by rw [hF.2]) (by rw [hF.2]), ⟨hT.1, hl, hb, hT.2⟩, by rw [e 0 (by decide) (by decide)]; exact h4, by rw [e 0 (by decide) (by decide)]; exact h5, ?_⟩
  rw [e 3 (by decide) (by decide), e 4 (by decide) (by decide)]
  exact h6
theorem KM.tp {M M' : xMem} {a : xTl} {hs : List xTl} {tp tp' : List Nat} {fk fp : Int32} {ou : List Nat} (h : KM M a hs tp fk fp ou) (hF : Ftp M M') (hT : TpM M' tp') : KM M' a hs tp' fk fp ou := by
  obtain ⟨r1, r2, r3, r4, -, r8, r9, r10⟩ := h
  unfold KM
  rw [hF.2.2, hF.1 152 (by decide) (by decide), hF.2.1 17 (by decide), hF.2.1 18 (by decide), hF.2.1 19 (by decide), hF.2.1 22 (by decide)]
  exact ⟨r1, r2, r3, r4, hT, r8, r9, r10⟩
theorem s_feed {x y z v w : Int32} : STEP (fX10_feed 0 x y z v w) (fX11_feed 146 x y z v w) := by
  intro M hM
  obtain ⟨a, hs, tp, fk, fp, ou, hC, hR⟩ := id hM
  obtain ⟨c1, c2, c3, c4⟩ := hC.2.2.1
  have r7 := hR.2.2.2.2.1
  by_cases q : tp.length + 20 ≤ 2000
  · have b4 : ∀ x, (bts x).length = 4 := fun _ => rfl
    obtain ⟨M1, f1, t1, F1⟩ := c_putNumber (x := x) (⟨c1, c4⟩ : RwR M 1 tp) (by omega)
    obtain ⟨M2, f2, t2, F2⟩ := c_putNumber (x := y) t1 (by rw [List.length_append, b4]; omega)
    obtain ⟨M3, f3, t3, F3⟩ := c_putNumber (x := z) t2 (by rw [List.length_append, List.length_append, b4, b4]; omega)
    obtain ⟨M4, f4, t4, F4⟩ := c_putNumber (x := v) t3 (by rw [List.length_append, List.length_append, List.length_append, b4, b4, b4]; omega)
    obtain ⟨M5, f5, t5, F5⟩ := c_putNumber (x := w) t4 (by rw [List.length_append, List.length_append, List.length_append, List.length_append, b4, b4, b4, b4]; omega)
    have F := (((F1.trans F2).trans F3).trans F4).trans F5
    generalize htp : tp ++ bts x ++ bts y ++ bts z ++ bts v ++ bts w = tp' at t5
    have hlen : tp'.length = tp.length + 20 := by
      rw [← htp]
      simp only [List.length_append, b4]
    have hb : ∀ b ∈ tp', b < 256 := by
      intro b hb
      rw [← htp] at hb
      simp only [List.mem_append] at hb
      rcases hb with ((((hb | hb) | hb) | hb) | hb) | hb
      · exact c3 b hb
      all_goals exact bts_lt _ b hb
    have hC5 := hC.tp F t5 (by omega) hb
    have hFc : Fc M M5 := Fc.ofFi F (fun c q => by omega)
    have hR5 := hR.fc hFc
    have r5 : TpM M5 tp := hR5.2.2.2.2.1
    obtain ⟨N1, g1, u1, G1⟩ := m_puts4 (x := x) r5 (by omega)
    obtain ⟨N2, g2, u2, G2⟩ := m_puts4 (x := y) u1 (by rw [List.length_append, b4]; omega)
    obtain ⟨N3, g3, u3, G3⟩ := m_puts4 (x := z) u2 (by rw [List.length_append, List.length_append, b4, b4]; omega)
    obtain ⟨N4, g4, u4, G4⟩ := m_puts4 (x := v) u3 (by rw [List.length_append, List.length_append, List.length_append, b4, b4, b4]; omega)
    obtain ⟨N5, g5, u5, G5⟩ := m_puts4 (x := w) u4 (by rw [List.length_append, List.length_append, List.length_append, List.length_append, b4, b4, b4, b4]; omega)
    have G := (((G1.trans G2).trans G3).trans G4).trans G5
    rw [htp] at u5
    refine ⟨nI tp'.length, M5, N5, ?_, ?_, a, hs, tp', fk, fp, ou, hC5.fd G.fd, hR5.tp G u5⟩
    · unfold fX10_feed fX6_size
      rw [x00, eBn, c1, nI_add]
      refine sT (by rw [eLe (by omega) (by decide)]; exact q) ?_
      rw [f1, eBv, f2, eBv, f3, eBv, f4, eBv, f5, eBv, eBn, t5.1]
    · unfold fX11_feed
      rw [r5.1, nI_add]
      refine sT (by rw [eLe (by omega) (by decide)]; exact q) ?_
      rw [g1, eBv, g2, eBv, g3, eBv, g4, eBv, g5, eBv, u5.1]
  · refine ⟨-1, M, M, ?_, ?_, hM⟩
    · unfold fX10_feed fX6_size
      rw [x00, eBn, c1, nI_add]
      exact sF (by rw [eLe (by omega) (by decide)]; exact q) rfl
    · unfold fX11_feed
      rw [r7.1, nI_add]
      exact sF (by rw [eLe (by omega) (by decide)]; exact q) rfl
theorem c_cut {M : xMem} {p n : Nat} {l : List Nat} (h : RwR M p l) (hl : l.length < 2147483648) (hn : n ≤ l.length) : ∃ M', fX6_cut p (nI n) M = some M' ∧ RwR M' p (l.take n) ∧ Fi (fun c => c = p) M M' := by
  have hlen : (l.take n).length = n := by rw [List.length_take]; omega
  have ht : ∀ j (b : Nat), (l.take n)[j]? = some b → l[j]? = some b := fun j b hj => by
    rw [List.getElem?_take] at hj
    split at hj
    · exact hj
    · exact absurd hj (by simp)
  by_cases q : n = l.length
  · refine ⟨M, ?_, ⟨by rw [hlen, q]; exact h.1, fun j b hj => h.2 j b (ht j b hj)⟩, Fi.refl _ M⟩
    unfold fX6_cut
    rw [h.1]
    exact sF (nI_pos (by omega)) (sT (by rw [eLe (by omega) (by omega)]; omega) rfl)
  · refine ⟨xwI M p 1 (nI n), ?_, ⟨by rw [xwI_at, hlen], fun j b hj => by rw [xwI_c (by omega)]; exact h.2 j b (ht j b hj)⟩, (Fi.refl _ M).wI rfl⟩
    unfold fX6_cut
    rw [h.1]
    exact sF (nI_pos (by omega)) (sF (by rw [eLe (by omega) (by omega)]; omega) rfl)
theorem s_end {x : Int32} : STEP (fX10_end 0 x) (fX11_end 146 x) := by
  intro M hM
  obtain ⟨a, hs, tp, fk, fp, ou, hC, hR⟩ := id hM
  obtain ⟨c1, c2, c3, c4⟩ := hC.2.2.1
  have r7 := hR.2.2.2.2.1
  by_cases q : wnQ x 0 tp.length
  · obtain ⟨n, -, hn, rfl⟩ := id q
    obtain ⟨M1, f1, t1, F1⟩ := c_cut (⟨c1, c4⟩ : RwR M 1 tp) (by omega) hn
    have F1' : Fi (fun c => c = 1 ∨ c = 2) M M1 := F1.mono (fun c q => Or.inl q)
    have hC1 := hC.tp F1' t1 (by rw [List.length_take]; omega) (fun b hb => c3 b (List.mem_of_mem_take hb))
    have hR1 := hR.fc (Fc.ofFi F1' (fun c q => by omega))
    have r5 : TpM M1 tp := hR1.2.2.2.2.1
    have G : Ftp M1 (xwI M1 146 11 (nI n)) := ⟨fun c u v => xwI_c u, fun j u => xwI_ne (Or.inr u), rfl⟩
    have u5 : TpM (xwI M1 146 11 (nI n)) (tp.take n) := by
      refine ⟨by rw [xwI_at, List.length_take, Nat.min_eq_left hn], fun j b hj => ?_⟩
      rw [xwI_c (by decide)]
      refine r5.2 j b ?_
      rw [List.getElem?_take] at hj
      split at hj
      · exact hj
      · exact absurd hj (by simp)
    refine ⟨nI n, M1, xwI M1 146 11 (nI n), ?_, ?_, a, hs, tp.take n, fk, fp, ou, hC1.fd G.fd, hR1.tp G u5⟩
    · unfold fX10_end fX6_size
      rw [x00]
      refine sF (nI_pos (by omega)) (sBn rfl (sT (by rw [c1, eLe (by omega) (by omega)]; exact hn) (sBv f1 rfl)))
    · unfold fX11_end
      rw [r5.1, eI2L (n := tp.length) (by omega)]
      exact sBn ((m_within (by decide) (by omega)).1 q) (sF (by decide) rfl)
  · refine ⟨-1, M, M, ?_, ?_, hM⟩
    · unfold fX10_end fX6_size
      rw [x00]
      by_cases z : x < 0
      · exact sT z rfl
      · obtain ⟨n, hn, rfl⟩ := x_neg z
        refine sF z (sBn rfl (sF ?_ rfl))
        rw [c1, eLe (by omega) (by omega)]
        exact fun w => q ⟨n, by omega, w, rfl⟩
    · unfold fX11_end
      rw [r7.1, eI2L (n := tp.length) (by omega)]
      exact sBn ((m_within (by decide) (by omega)).2 q) (sT (by decide) rfl)
