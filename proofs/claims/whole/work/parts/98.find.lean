/-! ===== names; find ===== -/
theorem p5_dig {l : List Nat} (h : nmOK l) {k : Nat} (hk : k < 6) : p5 l / 32 ^ k % 32 = if k < l.length then l.getD (l.length - 1 - k) 0 else 0 := by
  by_cases q : k < l.length
  · rw [if_pos q]
    obtain ⟨z1, z2, z3⟩ := p5_at h (i := l.length - 1 - k) (by omega)
    rw [show l.length - 1 - (l.length - 1 - k) = k by omega] at z1
    rw [z1]
    omega
  · rw [if_neg q]
    have := p5_lt (nm32 h)
    have h2 : 32 ^ l.length ≤ 32 ^ k := Nat.pow_le_pow_right (by decide) (by omega)
    rw [Nat.div_eq_of_lt (by omega)]
theorem nm_ext {l m : List Nat} (hl : nmOK l) (hm : nmOK m) (h : ∀ i, i < 6 → l.getD i 0 = m.getD i 0) : l = m := by
  have len : ∀ {l m : List Nat}, nmOK l → nmOK m → (∀ i, i < 6 → l.getD i 0 = m.getD i 0) → ¬ l.length < m.length := by
    intro l m hl hm h q
    have h1 := h l.length (by have := hm.2.1; omega)
    have h2 := (p5_at hm q).2.1
    rw [← h1, List.getD_eq_getElem?_getD, List.getElem?_eq_none (Nat.le_refl _)] at h2
    exact absurd h2 (by decide)
  have e : l.length = m.length := by
    have a := len hl hm h
    have b := len hm hl (fun i hi => (h i hi).symm)
    omega
  apply List.ext_getElem e
  intro i h1 h2
  have := h i (by have := hl.2.1; omega)
  rw [List.getD_eq_getElem?_getD, List.getD_eq_getElem?_getD, List.getElem?_eq_getElem h1, List.getElem?_eq_getElem h2] at this
  exact this
theorem p27_inj {l m : List Nat} (hl : nmOK l) (hm : nmOK m) : p27 l = p27 m ↔ l = m := by
  constructor
  · intro h
    refine nm_ext hl hm (fun i hi => ?_)
    rw [← (p27_at hl hi).1, ← (p27_at hm hi).1, h]
  · intro h; rw [h]
theorem p5_inj {l m : List Nat} (hl : nmOK l) (hm : nmOK m) : p5 l = p5 m ↔ l = m := by
  constructor
  · intro h
    have len : ∀ {l m : List Nat}, nmOK l → nmOK m → p5 l = p5 m → ¬ l.length < m.length := by
      intro l m hl hm h q
      have hm6 := hm.2.1
      have h1 := p5_dig hl (k := l.length) (by omega)
      have h2 := p5_dig hm (k := l.length) (by omega)
      rw [if_neg (Nat.lt_irrefl _), h, h2, if_pos q] at h1
      have := (p5_at hm (i := m.length - 1 - l.length) (by omega)).2.1
      omega
    have e : l.length = m.length := by
      have a := len hl hm h
      have b := len hm hl h.symm
      omega
    have hl6 := hl.2.1
    refine nm_ext hl hm (fun i hi => ?_)
    by_cases q : i < l.length
    · have h1 := p5_dig hl (k := l.length - 1 - i) (by omega)
      have h2 := p5_dig hm (k := l.length - 1 - i) (by omega)
      rw [if_pos (by omega), h, h2, if_pos (by omega), show m.length - 1 - (l.length - 1 - i) = i by omega, show l.length - 1 - (l.length - 1 - i) = i by omega] at h1
      exact h1.symm
    · rw [List.getD_eq_getElem?_getD, List.getD_eq_getElem?_getD, List.getElem?_eq_none (by omega), List.getElem?_eq_none (by omega)]
  · intro h; rw [h]
theorem bI_and {b : Nat} (h : b < 256) : bI b &&& nI 255 = nI b := by
  unfold bI
  rw [vp_nar_byte]
  exact sc_k8 b h
theorem bI_lt {b : Nat} (h : b < 128) : bI b = nI b := by
  have : ∀ b, b < 128 → bI b = nI b := by decide +kernel
  exact this b h
theorem bI_neg {b : Nat} (h : 128 ≤ b) (h2 : b < 256) : bI b < 0 := by
  have : ∀ b, b < 256 → 128 ≤ b → bI b < 0 := by decide +kernel
  exact this b h2 h
theorem c_at {M : xMem} {l : List Nat} {j b : Nat} (h : RwR M 1 l) (hl : l.length ≤ 2000) (hj : l[j]? = some b) (hb : b < 256) : fX6_at 1 (nI j) M = some (nI b, M) := by
  have hlt : j < l.length := (List.getElem?_eq_some_iff.1 hj).1
  unfold fX6_at
  rw [x10r, l2, h.1]
  refine sF (nI_pos (by omega)) (sF (by rw [eLe (by omega) (by omega)]; omega) (sGb j rfl (by omega) (by decide) ?_))
  rw [eCl (by omega), h.2 j b hj, bI_and hb]
theorem c_teamNamed {M : xMem} {x : Int32} : fX5_teamNamed 7 x M = some (if M.1 8 0 = x then nI 0 else if M.1 8 1 = x then nI 1 else -1, M) := by
  unfold fX5_teamNamed
  rw [show xFU = 39997 + 1 + 1 + 1 from rfl, fX5_teamNamed_l2.eq_2, m78, l8]
  refine sF (by decide) (sGb 0 rfl (by decide) (by decide) ?_)
  rw [eCl (by decide)]
  by_cases q : M.1 8 0 = x
  · exact sT q (by rw [if_pos q])
  · refine sF q ?_
    rw [if_neg q]
    refine sLe (b := nI 1) (by decide) ?_
    rw [fX5_teamNamed_l2.eq_2, m78, l8]
    refine sF (by decide) (sGb 1 rfl (by decide) (by decide) ?_)
    rw [eCl (by decide)]
    by_cases q : M.1 8 1 = x
    · exact sT q (by rw [if_pos q])
    · refine sF q ?_
      rw [if_neg q]
      refine sLe (b := nI 2) (by decide) ?_
      rw [fX5_teamNamed_l2.eq_2]
      exact sT (by decide) rfl
theorem e_acc {v x : Nat} (hv : v < 67108864) (hx : x < 32) : (nI v <<< (nI 5 &&& 31)) ||| nI x = nI (v * 32 + x) := by
  have hs : ((nI 5 &&& 31).toBitVec.smod 32).toNat = 5 := by decide
  rw [pk_shlN _ 5 hs (by omega)]
  unfold nI
  apply Int32.toBitVec_inj.mp
  rw [Int32.toBitVec_or]
  have hb : ∀ k : Nat, (Int32.ofNat k).toBitVec = BitVec.ofNat 32 k := fun k => rfl
  rw [hb, hb, hb]
  apply BitVec.eq_of_toNat_eq
  rw [BitVec.toNat_or, BitVec.toNat_ofNat, BitVec.toNat_ofNat, BitVec.toNat_ofNat, ← Nat.or_mod_two_pow]
  congr 1
  have := Nat.two_pow_add_eq_or_of_lt (show x < 2 ^ 5 from hx) v
  rw [Nat.mul_comm v (2 ^ 5), ← this]
abbrev isL (b : Nat) : Prop := 97 ≤ b ∧ b ≤ 122
theorem c_kindL {b : Nat} {M : xMem} (hb : b < 256) (h : isL b) : fX3_kindOf (nI b) M = some (nI 1, M) := by
  unfold isL at h
  unfold fX3_kindOf
  exact sLt (sF (by rw [eLtI (by omega) (by decide)]; omega) (sF (by rw [eLtI (by decide) (by omega)]; omega) rfl))
theorem c_kindN {b : Nat} {M : xMem} (hb : b < 256) (h : ¬ isL b) : fX3_kindOf (nI b) M = some (nI (if 48 ≤ b ∧ b ≤ 57 then 2 else 3), M) := by
  unfold isL at h
  unfold fX3_kindOf
  refine sJx M (fun J => ?_) ?_
  · by_cases q : b < 97
    · exact sT (by rw [eLtI (by omega) (by decide)]; exact q) rfl
    · exact sF (by rw [eLtI (by omega) (by decide)]; exact q) (sT (by rw [eLtI (by decide) (by omega)]; omega) rfl)
  · by_cases h1 : b < 48
    · exact sT (by rw [eLtI (by omega) (by decide)]; exact h1) (by rw [if_neg (by omega)])
    · refine sF (by rw [eLtI (by omega) (by decide)]; exact h1) ?_
      by_cases h2 : 57 < b
      · exact sT (by rw [eLtI (by decide) (by omega)]; exact h2) (by rw [if_neg (by omega)])
      · exact sF (by rw [eLtI (by decide) (by omega)]; exact h2) (by rw [if_pos (by omega)])
def ltr (l : List Nat) : List Nat := l.map (· - 96)
theorem ltr_at {l : List Nat} {j b : Nat} (h : l[j]? = some b) : (ltr l)[j]? = some (b - 96) := by
  unfold ltr
  rw [List.getElem?_map, h]
  rfl
theorem ltr_ok {l : List Nat} (h1 : 1 ≤ l.length) (h6 : l.length ≤ 6) (h : ∀ b ∈ l, isL b) : nmOK (ltr l) := by
  refine ⟨by unfold ltr; rw [List.length_map]; exact h1, by unfold ltr; rw [List.length_map]; exact h6, fun x hx => ?_⟩
  unfold ltr at hx
  rw [List.mem_map] at hx
  obtain ⟨b, hb, rfl⟩ := hx
  have := h b hb
  unfold isL at this
  omega
theorem p5_tk {l : List Nat} {k : Nat} (h : ∀ j (x : Nat), j < k → l[j]? = some x → x < 32) : p5 (l.take k) < 32 ^ k := by
  have h1 : ∀ x ∈ l.take k, x < 32 := by
    intro x hx
    obtain ⟨j, hj⟩ := List.getElem?_of_mem hx
    rw [List.getElem?_take] at hj
    split at hj
    · rename_i q
      exact h j x q hj
    · exact absurd hj (by simp)
  have h2 := p5_lt h1
  have h3 : 32 ^ (l.take k).length ≤ 32 ^ k := Nat.pow_le_pow_right (by decide) (by rw [List.length_take]; omega)
  omega
/-- the class: the name that the tape is -/
noncomputable def nmV (tp : List Nat) : Int32 := by
  classical exact if 1 ≤ tp.length ∧ tp.length ≤ 6 ∧ ∀ b ∈ tp, isL b then nI (p5 (ltr tp)) else -1
theorem nmV_1 {tp : List Nat} (h : 1 ≤ tp.length ∧ tp.length ≤ 6 ∧ ∀ b ∈ tp, isL b) : nmV tp = nI (p5 (ltr tp)) := by unfold nmV; exact if_pos h
theorem nmV_0 {tp : List Nat} (h : ¬ (1 ≤ tp.length ∧ tp.length ≤ 6 ∧ ∀ b ∈ tp, isL b)) : nmV tp = -1 := by unfold nmV; exact if_neg h
theorem c_nameOnTape {M : xMem} {tp : List Nat} (h : RwR M 1 tp) (hl : tp.length ≤ 2000) (hb : ∀ b ∈ tp, b < 256) : fX10_nameOnTape 0 M = some (nmV tp, M) := by
  unfold fX10_nameOnTape fX6_size
  rw [x00, eBn, h.1]
  by_cases q1 : tp.length < 1
  · rw [nmV_0 (by omega)]
    exact sT (by rw [eLtI (by omega) (by decide)]; exact q1) rfl
  · refine sF (by rw [eLtI (by omega) (by decide)]; exact q1) ?_
    by_cases q2 : tp.length ≤ 6
    · refine sT (by rw [eLe (by omega) (by decide)]; exact q2) ?_
      have stp : ∀ (k : Nat), (∀ j (b : Nat), j < k → tp[j]? = some b → isL b) → ∀ n, k < tp.length → ∀ b, tp[k]? = some b → isL b → fX10_nameOnTape_l25 0 (nI tp.length) (fun (v11 : Int32) (v12 : Int32) (M13 : xMem) => some (v11, M13)) (n + 1) (nI (p5 ((ltr tp).take k))) (nI k) M = fX10_nameOnTape_l25 0 (nI tp.length) (fun (v11 : Int32) (v12 : Int32) (M13 : xMem) => some (v11, M13)) n (nI (p5 ((ltr tp).take (k + 1)))) (nI (k + 1)) M := by
        intro k hk n hkl b hbk hL
        have hb1 := hb b (List.mem_of_getElem? hbk)
        have hL' := hL
        unfold isL at hL'
        have hp : p5 ((ltr tp).take k) < 32 ^ k := p5_tk (fun j x hj hx => by
          have hjl : j < tp.length := by omega
          have hjb := List.getElem?_eq_getElem hjl
          rw [ltr_at hjb] at hx
          have := hk j _ hj hjb
          unfold isL at this
          have hx' : tp[j] - 96 = x := by simpa using hx
          omega)
        have hp5 : 32 ^ k ≤ 32 ^ 5 := Nat.pow_le_pow_right (by decide) (by omega)
        have hp5' : (32 : Nat) ^ 5 = 33554432 := by decide
        rw [fX10_nameOnTape_l25.eq_2, x00]
        refine sF (by rw [eLe (by omega) (by omega)]; omega) ?_
        rw [c_at h hl hbk hb1, eBn, c_kindL hb1 hL, eBn]
        refine sT rfl (sBn (c_at h hl hbk hb1) ?_)
        rw [eSub (by omega), nI_add, e_acc (by omega) (by omega), show b - 97 + 1 = b - 96 by omega, ← p5_snoc]
        have e5 : (ltr tp).take (k + 1) = (ltr tp).take k ++ [b - 96] := by rw [List.take_add_one, ltr_at hbk]; rfl
        rw [e5]
        exact sLt (sLe (nI_1 k) rfl)
      by_cases q3 : ∀ b ∈ tp, isL b
      · rw [nmV_1 ⟨by omega, q2, q3⟩]
        have hlen : (ltr tp).length = tp.length := by unfold ltr; rw [List.length_map]
        have L := loopU (fun n k => fX10_nameOnTape_l25 0 (nI tp.length) (fun (v11 : Int32) (v12 : Int32) (M13 : xMem) => some (v11, M13)) n (nI (p5 ((ltr tp).take k))) (nI k) M) tp.length (some (nI (p5 (ltr tp)), M)) (by omega) (fun n k hk => ?_) (fun n => ?_)
        · exact L
        · have hbk := List.getElem?_eq_getElem hk
          exact stp k (fun j b _ hj => q3 b (List.mem_of_getElem? hj)) n hk _ hbk (q3 _ (List.mem_of_getElem? hbk))
        · simp only [fX10_nameOnTape_l25.eq_2]
          refine sT (by rw [eLe (by omega) (by omega)]; exact Nat.le_refl _) ?_
          rw [List.take_of_length_le (by omega)]
      · rw [nmV_0 (fun z => q3 z.2.2)]
        have ex : ∃ k : Nat, ∃ b : Nat, tp[k]? = some b ∧ ¬ isL b := by
          by_cases z : ∃ k : Nat, ∃ b : Nat, tp[k]? = some b ∧ ¬ isL b
          · exact z
          · exfalso
            apply q3
            intro b hb2
            obtain ⟨j, hj⟩ := List.getElem?_of_mem hb2
            by_cases y : isL b
            · exact y
            · exact absurd ⟨j, b, hj, y⟩ z
        obtain ⟨k, ⟨b, hbk, hnb⟩, hmin⟩ := pk_least _ ex
        have hkl : k < tp.length := (List.getElem?_eq_some_iff.1 hbk).1
        have hpre : ∀ j (b : Nat), j < k → tp[j]? = some b → isL b := fun j b hj hb2 => by
          by_cases y : isL b
          · exact y
          · exact absurd ⟨b, hb2, y⟩ (hmin j hj)
        have L := loopU (fun n k => fX10_nameOnTape_l25 0 (nI tp.length) (fun (v11 : Int32) (v12 : Int32) (M13 : xMem) => some (v11, M13)) n (nI (p5 ((ltr tp).take k))) (nI k) M) k (some ((-1 : Int32), M)) (by omega) (fun n i hi => ?_) (fun n => ?_)
        · exact L
        · have hbi := List.getElem?_eq_getElem (show i < tp.length by omega)
          exact stp i (fun j b hj hb2 => hpre j b (by omega) hb2) n (by omega) _ hbi (hpre i _ hi hbi)
        · simp only [fX10_nameOnTape_l25.eq_2, x00]
          have hb1 := hb b (List.mem_of_getElem? hbk)
          refine sF (by rw [eLe (by omega) (by omega)]; omega) ?_
          rw [c_at h hl hbk hb1, eBn, c_kindN hb1 hnb, eBn]
          refine sF ?_ rfl
          split <;> decide
    · rw [nmV_0 (by omega)]
      exact sF (by rw [eLe (by omega) (by decide)]; exact q2) rfl
def p27k (l : List Nat) (k : Nat) : Nat := (List.range k).foldl (fun v k => 27 * v + l.getD k 0) 0
theorem p27k_succ (l : List Nat) (k : Nat) : p27k l (k + 1) = 27 * p27k l k + l.getD k 0 := by
  unfold p27k
  rw [List.range_succ, List.foldl_append]
  rfl
theorem m_in97 {b : Nat} {M : xMem} (hb : b < 256) : fX11_in (Int32.toInt64 (bI b)) (lN 97) (lN 122) M = some (nI (if 97 ≤ b ∧ b ≤ 122 then 1 else 0), M) := by
  rw [show lN 97 = Int32.toInt64 (nI 97) by decide, show lN 122 = Int32.toInt64 (nI 122) by decide, m_in]
  rcases Nat.lt_or_ge b 128 with q | q
  · rw [bI_lt q]
    by_cases z : 97 ≤ b ∧ b ≤ 122
    · rw [if_neg (show ¬ (nI b < nI 97 ∨ nI 122 < nI b) by rw [eLtI (by omega) (by decide), eLtI (by decide) (by omega)]; omega), if_pos z]
    · rw [if_pos (show nI b < nI 97 ∨ nI 122 < nI b by rw [eLtI (by omega) (by decide), eLtI (by decide) (by omega)]; omega), if_neg z]
  · have hn := bI_neg q hb
    rw [if_pos (Or.inl ?_), if_neg (by omega)]
    rw [Int32.lt_iff_toInt_lt] at hn ⊢
    rw [nI_toInt (by decide)]
    rw [Int32.toInt_zero] at hn
    omega
theorem s_find : STEP (fX10_find 0) (fX11_find 146) := by
  intro M hM
  obtain ⟨a, hs, tp, fk, fp, ou, hC, hR⟩ := id hM
  obtain ⟨c1, c2, c3, c4⟩ := hC.2.2.1
  obtain ⟨M1, f1, t1, F1⟩ := c_cut (⟨c1, c4⟩ : RwR M 1 tp) (by omega) (Nat.zero_le _)
  have F1' : Fi (fun c => c = 1 ∨ c = 2) M M1 := F1.mono (fun c q => Or.inl q)
  have hC1 := hC.tp F1' t1 (by rw [List.length_take]; omega) (fun b hb => c3 b (List.mem_of_mem_take hb))
  have hR1 := hR.fc (Fc.ofFi F1' (fun c q => by omega))
  rw [List.take_zero] at hC1
  have r5 : TpM M1 tp := hR1.2.2.2.2.1
  have G : Ftp M1 (xwI M1 146 11 (nI 0)) := ⟨fun c u v => xwI_c u, fun j u => xwI_ne (Or.inr u), rfl⟩
  have u5 : TpM (xwI M1 146 11 (nI 0)) [] := ⟨by rw [xwI_at]; rfl, fun j b hj => by simp at hj⟩
  have hC2 := hC1.fd G.fd
  have hR2 := hR1.tp G u5
  have tp2 : ∀ j (b : Nat), tp[j]? = some b → (xwI M1 146 11 (nI 0)).1 150 j = bI b := fun j b hj => by
    rw [xwI_c (by decide)]
    exact r5.2 j b hj
  generalize hM2 : xwI M1 146 11 (nI 0) = M2 at *
  have ns : ∀ v K, K (nI 0) (nI 0) M2 = some (v, M2) → fX11_find_l40 146 (nI tp.length) (nI 0) K xFU (nI 0) (nI 0) M2 = some (v, M2) := by
    intro v K hK
    rw [show xFU = 39999 + 1 from rfl, fX11_find_l40.eq_2]
    by_cases z : tp.length ≤ 0
    · exact sT (by rw [eLe (by omega) (by decide)]; exact z) hK
    · exact sF (by rw [eLe (by omega) (by decide)]; exact z) (sT (by decide) hK)
  have no77 : ∀ K v, K (nI 0) (nI 0) M2 = some (v, M2) → fX11_find_l77 146 (nI tp.length) (nI 0) K xFU (nI 0) (nI 0) M2 = some (v, M2) := by
    intro K v hK
    rw [show xFU = 39999 + 1 from rfl, fX11_find_l77.eq_2]
    exact sF (by decide) (sT (by decide) hK)
  rcases hC1.1.q hR1.1 hR1.2.1 with ⟨ha, h⟩ | ⟨hn, h⟩
  · have h2 : MQm M2 (rowT a) := by
      have := h.mq
      refine ⟨⟨hR2.1, ?_⟩, this.2⟩
      rw [hR2.2.1, rowX_td ha]
    have hnm0 := (h.1.1 0 (by decide)).1
    have hnm1 := (h.1.1 1 (by decide)).1
    have b0 := p5_30 hnm0
    have b1 := p5_30 hnm1
    have d0 := (p27_at hnm0 (i := 0) (by decide)).2
    have d1 := (p27_at hnm1 (i := 0) (by decide)).2
    have e80 : M1.1 8 0 = nI (p5 (a.1 0)) := (h.2.1.1 0 (by decide)).1
    have e81 : M1.1 8 1 = nI (p5 (a.1 1)) := (h.2.1.1 1 (by decide)).1
    by_cases q : 1 ≤ tp.length ∧ tp.length ≤ 6 ∧ ∀ b ∈ tp, isL b
    · have hnm := ltr_ok q.1 q.2.1 q.2.2
      have bb := p5_30 hnm
      have dd := (p27_at hnm (i := 0) (by decide)).2
      have hlen : (ltr tp).length = tp.length := by unfold ltr; rw [List.length_map]
      refine ⟨if a.1 0 = ltr tp then nI 0 else if a.1 1 = ltr tp then nI 1 else -1, M1, M2, ?_, ?_, a, hs, [], fk, fp, ou, hC2, hR2⟩
      · unfold fX10_find
        rw [x00, x02, m50, m60]
        refine sBn (c_nameOnTape ⟨c1, c4⟩ c2 c3) (sBv f1 (sBn (c_told h) (sF (by decide) ?_)))
        rw [nmV_1 q]
        refine sF (m1_ne (by omega)) (sBn c_teamNamed ?_)
        rw [e80, e81]
        by_cases z0 : a.1 0 = ltr tp
        · rw [if_pos z0, if_pos (by rw [z0])]
        · rw [if_neg z0, if_neg (by rw [nI_eq (by omega) (by omega), p5_inj hnm0 hnm]; exact z0)]
          by_cases z1 : a.1 1 = ltr tp
          · rw [if_pos z1, if_pos (by rw [z1])]
          · rw [if_neg z1, if_neg (by rw [nI_eq (by omega) (by omega), p5_inj hnm1 hnm]; exact z1)]
      · unfold fX11_find
        rw [r5.1]
        refine sLt (sLe hM2 (sBn h2.there (sJw (nI 1) M2 (fun J => ?_) ?_)))
        · refine sF (by decide) (sBn ((m_within (by decide) (by decide)).1 ⟨tp.length, q.1, q.2.1, rfl⟩) (sF (by decide) rfl))
        · have L := loopU (fun n k => fX11_find_l40 146 (nI tp.length) (nI 0) (fun (v11 : Int32) (v12 : Int32) (M13 : xMem) => fX11_find_l77 146 (nI tp.length) v11 (fun (v19 : Int32) (v20 : Int32) (M21 : xMem) => if v11 = 0 then (some ((-2), M21)) else (xBn (fX11_get 146 (nI 3) M21) fun r22 M23 => if r22 = v19 then (some ((nI 0), M23)) else (xBn (fX11_get 146 (nI 4) M23) fun r24 M25 => if r24 = v19 then (some ((nI 1), M25)) else (some ((-1), M25))))) xFU (nI 0) (nI 0) M13) n (nI 1) (nI k) M2) tp.length (some (if a.1 0 = ltr tp then nI 0 else if a.1 1 = ltr tp then nI 1 else -1, M2)) (by omega) (fun n k hk => ?_) (fun n => ?_)
          · exact L
          · simp only [fX11_find_l40.eq_2, x14610, l150]
            have hbk := List.getElem?_eq_getElem hk
            have hb1 := c3 _ (List.mem_of_getElem? hbk)
            refine sF (by rw [eLe (by omega) (by omega)]; omega) (sF (by decide) (sGb k rfl (by omega) (by decide) ?_))
            rw [eCl (by omega), tp2 k _ hbk, m_in97 hb1, eBn, iN1 (q.2.2 _ (List.mem_of_getElem? hbk))]
            exact sLe (nI_1 k) rfl
          · simp only [fX11_find_l40.eq_2]
            refine sT (by rw [eLe (by omega) (by omega)]; exact Nat.le_refl _) ?_
            refine loopU (fun n k => fX11_find_l77 146 (nI tp.length) (nI 1) _ n (nI (p27k (ltr tp) k)) (nI k) M2) 6 _ (by decide) (fun n k hk => ?_) (fun n => ?_)
            · rw [fX11_find_l77.eq_2, x14610, l150]
              refine sF (by rw [eLe (by omega) (by omega)]; omega) (sF (by decide) ?_)
              refine sJw (nI ((ltr tp).getD k 0)) M2 (fun J => ?_) ?_
              · by_cases z : tp.length ≤ k
                · refine sT (by rw [eLe (by omega) (by omega)]; exact z) ?_
                  rw [List.getD_eq_getElem?_getD, List.getElem?_eq_none (by omega)]
                  rfl
                · have hbk := List.getElem?_eq_getElem (show k < tp.length by omega)
                  have hb1 := q.2.2 _ (List.mem_of_getElem? hbk)
                  unfold isL at hb1
                  refine sF (by rw [eLe (by omega) (by omega)]; exact z) (sGb k rfl (by omega) (by decide) ?_)
                  rw [eCl (by omega), tp2 k _ hbk, bI_lt (by omega), eSub (by omega), nI_add, List.getD_eq_getElem?_getD, ltr_at hbk]
                  congr 1
                  show nI _ = nI _
                  congr 1
                  show _ = tp[k] - 96
                  omega
              · refine sLe (b := nI (p27k (ltr tp) (k + 1))) ?_ (sLe (nI_1 k) rfl)
                rw [p27k_succ, pk_mul, nI_add]
            · rw [fX11_find_l77.eq_2]
              refine sT (by decide) (sF (by decide) ?_)
              have e6 : p27k (ltr tp) 6 = p27 (ltr tp) := rfl
              rw [e6, q_get h2.tm (by decide), eBn, q_get h2.tm (by decide), eBn, (h.2.2.2.2.2.2 0 (by decide)).2.1, (h.2.2.2.2.2.2 1 (by decide)).2.1]
              by_cases z0 : a.1 0 = ltr tp
              · rw [if_pos z0, if_pos (by rw [z0])]
              · rw [if_neg z0, if_neg (by rw [nI_eq (by omega) (by omega), p27_inj hnm0 hnm]; exact z0)]
                by_cases z1 : a.1 1 = ltr tp
                · rw [if_pos z1, if_pos (by rw [z1])]
                · rw [if_neg z1, if_neg (by rw [nI_eq (by omega) (by omega), p27_inj hnm1 hnm]; exact z1)]
    · refine ⟨-2, M1, M2, ?_, ?_, a, hs, [], fk, fp, ou, hC2, hR2⟩
      · unfold fX10_find
        rw [x00, x02, m50, m60]
        refine sBn (c_nameOnTape ⟨c1, c4⟩ c2 c3) (sBv f1 (sBn (c_told h) (sF (by decide) ?_)))
        rw [nmV_0 q]
        exact sT rfl rfl
      · unfold fX11_find
        rw [r5.1]
        refine sLt (sLe hM2 (sBn h2.there (sLt (sF (by decide) ?_))))
        by_cases z : 1 ≤ tp.length ∧ tp.length ≤ 6
        · refine sBn ((m_within (by decide) (by decide)).1 ⟨tp.length, z.1, z.2, rfl⟩) (sF (by decide) ?_)
          have ex : ∃ k : Nat, ∃ b : Nat, tp[k]? = some b ∧ ¬ isL b := by
            by_cases z2 : ∃ k : Nat, ∃ b : Nat, tp[k]? = some b ∧ ¬ isL b
            · exact z2
            · exfalso
              apply q
              refine ⟨z.1, z.2, fun b hb2 => ?_⟩
              obtain ⟨j, hj⟩ := List.getElem?_of_mem hb2
              by_cases y : isL b
              · exact y
              · exact absurd ⟨j, b, hj, y⟩ z2
          obtain ⟨k, ⟨b, hbk, hnb⟩, hmin⟩ := pk_least _ ex
          have hkl : k < tp.length := (List.getElem?_eq_some_iff.1 hbk).1
          have L := loopU (fun n i => fX11_find_l40 146 (nI tp.length) (nI 0) (fun (v11 : Int32) (v12 : Int32) (M13 : xMem) => fX11_find_l77 146 (nI tp.length) v11 (fun (v19 : Int32) (v20 : Int32) (M21 : xMem) => if v11 = 0 then (some ((-2), M21)) else (xBn (fX11_get 146 (nI 3) M21) fun r22 M23 => if r22 = v19 then (some ((nI 0), M23)) else (xBn (fX11_get 146 (nI 4) M23) fun r24 M25 => if r24 = v19 then (some ((nI 1), M25)) else (some ((-1), M25))))) xFU (nI 0) (nI 0) M13) n (if i ≤ k then nI 1 else nI 0) (nI i) M2) (k + 1) (some ((-2 : Int32), M2)) (by omega) (fun n i hi => ?_) (fun n => ?_)
          · simp only [Nat.zero_le, if_true] at L
            exact L
          · simp only [fX11_find_l40.eq_2, x14610, l150]
            have hbi := List.getElem?_eq_getElem (show i < tp.length by omega)
            have hb1 := c3 _ (List.mem_of_getElem? hbi)
            rw [if_pos (show i ≤ k by omega)]
            refine sF (by rw [eLe (by omega) (by omega)]; omega) (sF (by decide) (sGb i rfl (by omega) (by decide) ?_))
            rw [eCl (by omega), tp2 i _ hbi, m_in97 hb1, eBn]
            refine sLe (nI_1 i) ?_
            by_cases zi : i < k
            · have hL : isL tp[i] := by
                by_cases y : isL tp[i]
                · exact y
                · exact absurd ⟨_, hbi, y⟩ (hmin i zi)
              rw [iN1 hL, if_pos (show i + 1 ≤ k by omega)]
            · have ei : i = k := by omega
              subst ei
              have eb : tp[i] = b := by
                have := hbi.symm.trans hbk
                simpa using this
              rw [iN0 (by rw [eb]; exact hnb), if_neg (show ¬ i + 1 ≤ i by omega)]
          · simp only [fX11_find_l40.eq_2]
            rw [if_neg (show ¬ k + 1 ≤ k by omega)]
            by_cases y : tp.length ≤ k + 1
            · exact sT (by rw [eLe (by omega) (by omega)]; exact y) (no77 _ _ (sT (by decide) rfl))
            · exact sF (by rw [eLe (by omega) (by omega)]; exact y) (sT (by decide) (no77 _ _ (sT (by decide) rfl)))
        · refine sBn ((m_within (by decide) (by decide)).2 ?_) (sT (by decide) ?_)
          · rintro ⟨n, u1, u2, e⟩
            rw [nI_eq (by omega) (by omega)] at e
            omega
          · exact ns _ _ (no77 _ _ (sT (by decide) rfl))
  · refine ⟨-2, M1, M2, ?_, ?_, a, hs, [], fk, fp, ou, hC2, hR2⟩
    · unfold fX10_find
      rw [x00, x02]
      exact sBn (c_nameOnTape ⟨c1, c4⟩ c2 c3) (sBv f1 (sBn (c_untold h) (sT (by decide) rfl)))
    · unfold fX11_find
      rw [r5.1]
      have h2 : fX11_isThere 146 M2 = some (nI 0, M2) := by
        refine m_nothere ⟨?_, ?_, ?_, ?_, hR2.1, ?_⟩
        · intro t ht; rw [← hM2, xwI_c (by decide)]; exact h.1 t ht
        · rw [← hM2, xwI_c (by decide)]; exact h.2.1
        · rw [← hM2, xwI_c (by decide)]; exact h.2.2.1
        · rw [← hM2, xwI_c (by decide)]; exact h.2.2.2.1
        · rw [hR2.2.1, rowX_no hn]
      exact sLt (sLe hM2 (sBn h2 (sLt (sT (by decide) (ns _ _ (no77 _ _ (sT (by decide) rfl)))))))
