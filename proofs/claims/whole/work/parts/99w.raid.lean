/-! ===== the class reads a raid ===== -/
section
variable {tp : List Nat} {n : Nat → List Nat} {σ : Nat → Nat} {M : xMem} {T : TK} {r s b tk : Nat} {tl : List Nat}
theorem xBon_inl (b : Nat × Nat) : xBon tp σ (.inl b) = .inl b := by unfold xBon; rw [xW_inl]; rfl
theorem c_tackled (hl : tp.length ≤ 2000) (hb : ∀ b ∈ tp, b < 256) (hT : TkO tp T) (h : PkC tp M T) (hC : CS tp M n σ) (hP : PlF M 61 r 3 0 0 []) : ∃ r' M' b' tk', fX3_readDefenders 60 M = some (r', M') ∧ OutC tp M' r' (tkV tp σ (1 - σ 28) (xOne tp σ (1 - σ 28) (.inr T))).1 ∧ PlF M' 61 r 3 b' tk' [] ∧ (∀ T', (tkV tp σ (1 - σ 28) (xOne tp σ (1 - σ 28) (.inr T))).1 = .inr T' → b' = (tkV tp σ (1 - σ 28) (xOne tp σ (1 - σ 28) (.inr T))).2.1 ∧ tk' = (tkV tp σ (1 - σ 28) (xOne tp σ (1 - σ 28) (.inr T))).2.2) ∧ Fy M M' := by
  have hRT := hC.2.2.2.2.1.1
  have h28 := hRT.1.1
  have hu : 1 - σ 28 < 2 := by omega
  have m10 := hRT.1.m hu
  unfold fX3_readDefenders
  rw [show xFU = 39999 + 1 from rfl, fX3_readDefenders_l2.eq_2, x602]
  obtain ⟨r1, M1, f1, o1, F1, v1⟩ := c_checkDef hT h hC hP
  have C1 := hC.fy F1.fy
  have P1 := hP.fz F1
  unfold tkV
  cases e : thB σ (1 - σ 28) [] (xOne tp σ (1 - σ 28) (.inr T)) with
  | inl b' =>
    rw [e] at o1
    have eU : ∀ i, (tkU tp σ i (xAd tp (.inl b'))).1 = .inl b' := fun i => by unfold tkU; rw [xAd_inl, xBon_inl]
    refine ⟨r1, M1, 0, 0, sF (by decide) (sBn f1 (sF o1.bad rfl)), by rw [eU]; exact o1, P1, fun T' y => ?_, F1.fy⟩
    rw [eU] at y
    exact absurd y (by simp)
  | inr T1 =>
    rw [e] at o1
    obtain ⟨rfl, v8⟩ := v1 T1 e
    obtain ⟨e1, e2⟩ := xCan_inr e
    obtain ⟨-, e6⟩ := xOne_inr e2
    generalize (xOne tp σ (1 - σ 28) (.inr T1)).2 = i at *
    obtain ⟨c1, k1, -⟩ := o1
    obtain ⟨M2, f2, k2, t2, F2⟩ := c_adv hl hb C1.1 hT k1
    have P2 := P1.fz F2.fz
    have C2 := C1.fy F2.fz.fy
    have v8' : M2.1 60 8 = nI i := by rw [F2.2.1 8 (by decide) (by decide) (by decide)]; exact v8
    have P3 : PlF (xwI M2 61 2 (nI i)) 61 r 3 0 i [] := by
      obtain ⟨⟨a0, a1, a2, a3, a4, a5, a6, a7, a8, a9, a10⟩, b1, b2, b3⟩ := P2
      exact ⟨⟨by rw [xwI_ne (by omega)]; exact a0, by rw [xwI_ne (by omega)]; exact a1, fun _ => xwI_at _ _ _ _, by rw [xwI_ne (by omega)]; exact a3, by rw [xwI_ne (by omega)]; exact a4, fun j x hj => by simp at hj, a6, a7, a8, a9, by omega⟩, xwI_at _ _ _ _, b2, b3⟩
    have k3 : PkC tp (xwI M2 61 2 (nI i)) (adv tp T1.2.2) := k2.of (xwI_c (by decide)) rfl
    have G3 : Fy M2 (xwI M2 61 2 (nI i)) := ⟨fun c _ a _ => xwI_c a, fun _ _ => rfl, rfl⟩
    obtain ⟨r4, M4, b4, f4, o4, P4, w4, F4⟩ := c_with hl hb t2 k3 (C2.fy G3) P3
    refine ⟨r4, M4, b4, i, sF (by decide) (sBn f1 (sT c1 (sBv f2 (sT P2.1.2.1 ?_)))), o4, P4, fun T' y => ⟨w4 T' y, rfl⟩, ((F1.fy.trans F2.fz.fy).trans G3).trans F4⟩
    rw [v8']
    exact sLt (sBn f4 rfl)
theorem pl_begin {M : xMem} {r s : Nat} (hr : r < 10) (hs : s < 5) : ∃ M', fX4_begin 61 (nI r) (nI s) M = some M' ∧ PlF M' 61 r s 0 0 [] ∧ (∀ c, c ≠ 61 → M'.1 c = M.1 c) ∧ M'.2 = M.2 := by
  refine ⟨xwI (xwI (xwI (xwI (xwI M 61 0 (nI r)) 61 1 (nI s)) 61 2 (nI 0)) 61 3 (nI 0)) 61 4 (nI 0), rfl, ⟨⟨?_, ?_, fun _ => ?_, ?_, ?_, fun j x hj => by simp at hj, fun _ => rfl, hr, hs, by omega, by omega⟩, ?_, by decide, fun x hx => by simp at hx⟩, fun c hc => ?_, rfl⟩
  · rw [xwI_ne (by omega), xwI_ne (by omega), xwI_ne (by omega), xwI_ne (by omega), xwI_at]
  · rw [xwI_ne (by omega), xwI_ne (by omega), xwI_ne (by omega), xwI_at]
  · rw [xwI_ne (by omega), xwI_ne (by omega), xwI_at]
  · rw [xwI_ne (by omega), xwI_at]
  · exact xwI_at _ _ _ _
  · rw [xwI_ne (by omega), xwI_ne (by omega), xwI_at]
  · rw [xwI_c hc, xwI_c hc, xwI_c hc, xwI_c hc, xwI_c hc]
/-- the result of a raid is read; then the line is packed -/
theorem c_rdRes (hl : tp.length ≤ 2000) (hb : ∀ b ∈ tp, b < 256) (hr : r < 10) (hT : TkO tp T) (h : PkC tp M T) (hC : CS tp M n σ) (hw : 12 ≤ wd tp T ∧ wd tp T ≤ 16) : ∃ r' M', (xBv (fX4_begin 61 (nI r) (nI (wd tp T - 12)) M) fun M11 => xLt (fun  (M12 : xMem) => (xBv (fX3_advance 60 M12) fun M13 => xLt (fun (v14 : Int32) (M15 : xMem) => (xBn (fX4_pack 61 M15) fun r16 M17 => xLt (xwL M17 60 9 r16) fun M18 => some (v14, M18) : Option (Int32 × xMem))) fun J138 => xLt (fun  (M19 : xMem) => (xBn (fX3_readDefenders 60 M19) fun r20 M21 => J138 r20 M21 : Option (Int32 × xMem))) fun J133 => if (M13.1 61 1) = (nI 1) then (J133  M13) else (if (M13.1 61 1) = (nI 3) then (J133  M13) else (J138 (nI 0) M13)) : Option (Int32 × xMem))) fun J107 => if (M11.1 61 1) = (nI 2) then (xBn (fX8_isBonusOpen 12 M11) fun r22 M23 => if r22 = 0 then (some ((nI 5), M23)) else (J107  M23)) else (J107  M11)) = some (r', M') ∧ OutL tp M' r' (rdV tp σ r (.inr T)) ∧ Fy M M' := by
  have hRT := hC.2.2.2.2.1.1
  obtain ⟨M1, f1, P1, g1a, g1b⟩ := pl_begin (M := M) (r := r) (s := wd tp T - 12) hr (by omega)
  have G1 : Fy M M1 := ⟨fun c _ a _ => g1a c a, fun c _ => by rw [g1b], by rw [g1b]⟩
  have C1 := hC.fy G1
  have k1 : PkC tp M1 T := h.of (g1a 60 (by decide)) (by rw [g1b])
  obtain ⟨M2, f2, k2, t2, F2⟩ := c_adv hl hb C1.1 hT k1
  have C2 := C1.fy F2.fz.fy
  have P2 := P1.fz F2.fz
  have s1 : M1.1 61 1 = nI (wd tp T - 12) := P1.1.2.1
  have s2 : M2.1 61 1 = nI (wd tp T - 12) := P2.1.2.1
  have fin : ∀ {v : Int32} {N : xMem} {s b tk : Nat} {tl : List Nat} {q : PL}, PlF N 61 r s b tk tl → OutC tp N v q.1 → (∀ T', q.1 = .inr T' → q.2 = .inl (r, s, b, tk, tl)) → Fy M N → ∃ M', (xBn (fX4_pack 61 N) fun r16 M17 => xLt (xwL M17 60 9 r16) fun M18 => some (v, M18)) = some (v, M') ∧ OutL tp M' v q ∧ Fy M M' := by
    intro v N s b tk tl q hp ho hq hF
    refine ⟨xwL N 60 9 (lN (rdC r s b tk tl)), sBn (s_pack kd61 hp) rfl, ⟨?_, fun T' y => ?_⟩, hF.trans Fz.wL.fy⟩
    · cases hq1 : q.1 with
      | inl b' => rw [hq1] at ho; exact ho
      | inr T' => rw [hq1] at ho; exact ⟨ho.1, ho.2.1.wL, ho.2.2⟩
    · rw [hq T' y]; exact xwL_at _ _ _ _
  have wj : ∀ j, xW tp j (.inr T) = 1 ↔ wd tp T = j := fun j => ⟨fun y => ite_1 y, fun y => by rw [xW_T, if_pos y]⟩
  have nj : ∀ j, wd tp T ≠ j → ¬ xW tp j (.inr T) = 1 := fun j y z => y ((wj j).1 z)
  have FA := G1.trans F2.fz.fy
  have eA : xAd tp (.inr T) = .inr (adv tp T.2.2) := rfl
  rcases (show wd tp T = 12 ∨ wd tp T = 13 ∨ wd tp T = 14 ∨ wd tp T = 15 ∨ wd tp T = 16 by omega) with w | w | w | w | w
  · have eV : rdV tp σ r (.inr T) = (.inr (adv tp T.2.2), .inl (r, 0, 0, 0, [])) := by unfold rdV; rw [if_pos ((wj 12).2 w)]; rfl
    rw [w] at s1 s2 P2
    obtain ⟨M3, f3, o3, F3⟩ := fin (v := nI 0) (q := rdV tp σ r (.inr T)) P2 (by rw [eV]; exact ⟨rfl, k2, t2⟩) (fun _ _ => by rw [eV]) FA
    refine ⟨nI 0, M3, sBv f1 (sLt (sF (by rw [s1]; decide) (sBv f2 (sLt (sLt (sF (by rw [s2]; decide) (sF (by rw [s2]; decide) f3))))))), o3, F3⟩
  · have eV : rdV tp σ r (.inr T) = rdL1 r (thL tp σ (1 - σ 28) 11 [] (.inr (adv tp T.2.2))) := by unfold rdV; rw [if_neg (nj 12 (by omega)), if_pos ((wj 13).2 w)]; rfl
    rw [w] at s1 s2 P2
    obtain ⟨r4, M4, b4, tl4, f4, o4, P4, w4, F4⟩ := c_touched' (n := n) hl hb 11 [] (adv tp T.2.2) M2 xFU rfl (by decide) ⟨List.nodup_nil, fun x hx => absurd hx (by simp)⟩ t2 k2 C2 P2
    have f4' : fX3_readDefenders 60 M2 = some (r4, M4) := f4
    obtain ⟨M3, f3, o3, F3⟩ := fin (v := r4) (q := rdV tp σ r (.inr T)) P4 (by rw [eV]; exact o4) (fun T' y => by
      rw [eV] at y ⊢
      obtain ⟨z1, z2⟩ := w4 T' y
      rw [z1, z2]
      rfl) (FA.trans F4)
    refine ⟨r4, M3, sBv f1 (sLt (sF (by rw [s1]; decide) (sBv f2 (sLt (sLt (sT s2 (sBn f4' f3))))))), o3, F3⟩
  · have eV : rdV tp σ r (.inr T) = (xBon tp σ (.inr T), .inl (r, 2, 0, 0, [])) := by unfold rdV; rw [if_neg (nj 12 (by omega)), if_neg (nj 13 (by omega)), if_pos ((wj 14).2 w)]
    have eB : xBon tp σ (.inr T) = xAd tp (xCan (boR σ) (.inr T)) := by unfold xBon; rw [if_pos ((wj 14).2 w)]
    rw [w] at s1 s2 P2
    rcases boR_le σ with z | z
    · refine ⟨nI 5, M1, sBv f1 (sLt (sT s1 (sBn (s_isBonusOpen kd12 C1.2.2.2.1.1 hRT.1) (sT (by rw [z]; decide) rfl)))), OutL.inl (b := (5, T.1)) ?_ (OutC.f (by decide) (by decide) k1.2.1), G1⟩
      rw [eV, eB, z]
      rfl
    · obtain ⟨M3, f3, o3, F3⟩ := fin (v := nI 0) (q := rdV tp σ r (.inr T)) P2 (by rw [eV, eB, z]; exact ⟨rfl, k2, t2⟩) (fun _ _ => by rw [eV]) FA
      refine ⟨nI 0, M3, sBv f1 (sLt (sT s1 (sBn (s_isBonusOpen kd12 C1.2.2.2.1.1 hRT.1) (sF (by rw [z]; decide) (sBv f2 (sLt (sLt (sF (by rw [s2]; decide) (sF (by rw [s2]; decide) f3))))))))), o3, F3⟩
  · have eV : rdV tp σ r (.inr T) = rdL3 r (tkV tp σ (1 - σ 28) (xOne tp σ (1 - σ 28) (.inr (adv tp T.2.2)))) := by unfold rdV; rw [if_neg (nj 12 (by omega)), if_neg (nj 13 (by omega)), if_neg (nj 14 (by omega)), if_pos ((wj 15).2 w)]; rfl
    rw [w] at s1 s2 P2
    obtain ⟨r4, M4, b4, tk4, f4, o4, P4, w4, F4⟩ := c_tackled hl hb t2 k2 C2 P2
    obtain ⟨M3, f3, o3, F3⟩ := fin (v := r4) (q := rdV tp σ r (.inr T)) P4 (by rw [eV]; exact o4) (fun T' y => by
      rw [eV] at y ⊢
      obtain ⟨z1, z2⟩ := w4 T' y
      rw [z1, z2]
      rfl) (FA.trans F4)
    refine ⟨r4, M3, sBv f1 (sLt (sF (by rw [s1]; decide) (sBv f2 (sLt (sLt (sF (by rw [s2]; decide) (sT s2 (sBn f4 f3)))))))), o3, F3⟩
  · have eV : rdV tp σ r (.inr T) = (.inr (adv tp T.2.2), .inl (r, 4, 0, 0, [])) := by unfold rdV; rw [if_neg (nj 12 (by omega)), if_neg (nj 13 (by omega)), if_neg (nj 14 (by omega)), if_neg (nj 15 (by omega)), if_pos ((wj 16).2 w)]; rfl
    rw [w] at s1 s2 P2
    obtain ⟨M3, f3, o3, F3⟩ := fin (v := nI 0) (q := rdV tp σ r (.inr T)) P2 (by rw [eV]; exact ⟨rfl, k2, t2⟩) (fun _ _ => by rw [eV]) FA
    refine ⟨nI 0, M3, sBv f1 (sLt (sF (by rw [s1]; decide) (sBv f2 (sLt (sLt (sF (by rw [s2]; decide) (sF (by rw [s2]; decide) f3))))))), o3, F3⟩
theorem rdV_inl (b : Nat × Nat) : (rdV tp σ r (.inl b)).1 = .inl b := rfl
theorem c_raid (hl : tp.length ≤ 2000) (hb : ∀ b ∈ tp, b < 256) (hT : TkO tp T) (h : PkC tp M T) (hC : CS tp M n σ) (hw : wd tp T = 1) (h25 : σ 25 < 200) : ∃ r M', fX3_readRaid 60 M = some (r, M') ∧ OutL tp M' r (xRaid tp σ (.inr T)) ∧ Fy M M' := by
  obtain ⟨-, x1, -⟩ := x60t
  have hR := hC.2.2.2.2.1.1.1
  have hBD := hC.2.2.2.2.1.2.1
  have h28 := hR.1
  have w1 : xW tp 1 (.inr T) = 1 := by rw [xW_T, if_pos hw]
  unfold fX3_readRaid xRaid
  rw [if_neg (show ¬ σ 25 = 200 by omega), xPass_1 w1, x1, m51, x602]
  show ∃ r M', _ ∧ OutL tp M' r (rdU tp σ (xOne tp σ (σ 28) (.inr (adv tp T.2.2)))) ∧ Fy M M'
  obtain ⟨M1, f1, k1, t1, F1⟩ := c_adv hl hb hC.1 hT h
  generalize adv tp T.2.2 = T1 at *
  have C1 := hC.fy F1.fz.fy
  have h121 : M.1 12 1 = nI (σ 28) := hC.2.2.2.1.1.1
  obtain ⟨r4, M4, f4, o4, F4, k4, e4, -, v4⟩ := c_checkShirt t1 k1 C1.2.2.1 h28
  have C4 := C1.fy F4.fy
  have f14 := c_nextS f1 f4
  have hin2 := fun T' => xOne_inr (tp := tp) (σ := σ) (t := σ 28) (st := .inr T1) (T := T')
  generalize xOne tp σ (σ 28) (.inr T1) = o at *
  obtain ⟨s4, i⟩ := o
  simp only at *
  have FA := (F1.fz.trans F4).fy
  unfold rdU
  cases s4 with
  | inl b =>
    refine ⟨r4, M4, ?_, OutL.inl (b := b) (by rw [xCan_inl, xAd_inl]; exact rdV_inl b) o4, FA⟩
    rw [h121]
    exact sBn f14 (sF o4.bad rfl)
  | inr T1' =>
    obtain ⟨e3, hi⟩ := hin2 T1' rfl
    have e3' : T1 = T1' := by simpa using e3
    subst e3'
    have v8 := v4 rfl
    obtain ⟨d1, -, -⟩ := o4
    have h10 := hR.m h28
    have cs := s_canSend kd12 C4.2.2.2.1.1 hR hBD hi
    simp only
    by_cases q : ovR σ = 0 ∧ σ (48 + 10 * σ 28 + i) = 0
    · rw [if_pos q] at cs ⊢
      show ∃ r M', _ ∧ OutL tp M' r (rdV tp σ i (.inr (adv tp T1.2.2))) ∧ Fy M M'
      obtain ⟨M5, f5, k5, t5, F5⟩ := c_adv hl hb C4.1 t1 k4
      generalize adv tp T1.2.2 = T5 at *
      have C5 := C4.fy F5.fz.fy
      have hle := wd_le tp T5
      have z8 : M5.1 60 8 = nI i := by rw [F5.2.1 8 (by decide) (by decide) (by decide)]; exact v8
      by_cases qw : 12 ≤ wd tp T5 ∧ wd tp T5 ≤ 16
      · obtain ⟨r6, M6, f6, o6, F6⟩ := c_rdRes (n := n) (r := i) hl hb (by omega) t5 k5 C5 qw
        have ex : wI (wd tp T5) - nI 12 = nI (wd tp T5 - 12) := by
          unfold wI; rw [if_neg (by omega), eSub (by omega)]
        refine ⟨r6, M6, ?_, o6, (FA.trans F5.fz.fy).trans F6⟩
        rw [h121]
        refine sBn f14 (sT d1 ?_)
        rw [v8]
        refine sBn cs (sF (by decide) (sBv f5 (sBn (c_word k5 t5) (sBn (c_wordIn hle (by decide) (by decide)) ?_))))
        rw [if_pos qw]
        refine sF (by decide) ?_
        rw [z8, ex, d1]
        exact f6
      · refine ⟨nI 1, M5, ?_, OutL.inl (b := (1, T5.1)) ?_ (OutC.f (by decide) (by decide) k5.2.1), FA.trans F5.fz.fy⟩
        · rw [h121]
          refine sBn f14 (sT d1 ?_)
          rw [v8]
          refine sBn cs (sF (by decide) (sBv f5 (sBn (c_word k5 t5) (sBn (c_wordIn hle (by decide) (by decide)) ?_))))
          rw [if_neg qw]
          exact sT (by decide) rfl
        · have nj : ∀ j, wd tp T5 ≠ j → ¬ xW tp j (.inr T5) = 1 := fun j y z => y (ite_1 z)
          unfold rdV
          rw [if_neg (nj 12 (by omega)), if_neg (nj 13 (by omega)), if_neg (nj 14 (by omega)), if_neg (nj 15 (by omega)), if_neg (nj 16 (by omega))]
          rfl
    · rw [if_neg q] at cs ⊢
      refine ⟨nI 5, M4, ?_, OutL.inl (b := (5, T1.1)) rfl (OutC.f (by decide) (by decide) k4.2.1), FA⟩
      rw [h121]
      refine sBn f14 (sT d1 ?_)
      rw [v8]
      exact sBn cs (sT (by decide) rfl)
end
