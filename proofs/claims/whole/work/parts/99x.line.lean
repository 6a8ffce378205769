/-! ===== the class reads a line, and lines ===== -/
section
variable {tp : List Nat} {n s : Nat → List Nat} {σ : Nat → Nat} {M : xMem} {T : TK}
theorem c_roomR' (h : HsR M σ) (hn : σ 25 ≤ 200) : fX2_hasRoomForRaid 5 M = some (nI (if σ 25 < 200 then 1 else 0), M) := by
  unfold fX2_hasRoomForRaid
  rw [m52, h.1]
  by_cases q : σ 25 < 200
  · exact sF (by rw [eLe (by omega) (by omega)]; omega) (by rw [if_pos q])
  · exact sT (by rw [eLe (by omega) (by omega)]; omega) (by rw [if_neg q])
theorem c_line (hl : tp.length ≤ 2000) (hb : ∀ b ∈ tp, b < 256) (hT : TkO tp T) (h : PkC tp M T) (hC : CS tp M n σ) : ∃ r M', fX3_readLine 60 M = some (r, M') ∧ OutC tp M' r (xSemi tp (lnF tp n σ (.inr T)).1) ∧ (∀ T', xSemi tp (lnF tp n σ (.inr T)).1 = .inr T' → M'.2.1 60 9 = lN (codL (lnF tp n σ (.inr T)).2)) ∧ Fy M M' := by
  obtain ⟨-, x1, -⟩ := x60t
  have hBD := hC.2.2.2.2.1.2.1
  have h25 := hBD.1
  have h26 := hBD.2.1
  have hle := wd_le tp T
  have wj : ∀ j, xW tp j (.inr T) = 1 ↔ wd tp T = j := fun j => ⟨fun y => ite_1 y, fun y => by rw [xW_T, if_pos y]⟩
  have nj : ∀ j, wd tp T ≠ j → ¬ xW tp j (.inr T) = 1 := fun j y z => y ((wj j).1 z)
  have tail : ∀ {v : Int32} {N : xMem} {q : PL}, OutL tp N v q → Fy M N → ∃ r M', (if v = 0 then (xBn (fX3_isSign 60 (nI 59) N) fun r9 M10 => if r9 = 0 then (some ((nI 1), M10)) else (some (v, M10))) else (some (v, N))) = some (r, M') ∧ OutC tp M' r (xSemi tp q.1) ∧ (∀ T', xSemi tp q.1 = .inr T' → M'.2.1 60 9 = lN (codL q.2)) ∧ Fy M M' := by
    intro v N q o hF
    obtain ⟨o1, o2⟩ := o
    cases e : q.1 with
    | inl b =>
      rw [e] at o1
      rw [xSemi_inl]
      exact ⟨v, N, sF o1.bad rfl, o1, fun T' y => absurd y (by simp), hF⟩
    | inr T1 =>
      rw [e] at o1
      obtain ⟨c1, k1, t1⟩ := o1
      by_cases q59 : T1.2.1 = 3 ∧ tp.getD T1.1 0 = 59
      · rw [xSemi_1 (xS_1 q59.1 q59.2)]
        refine ⟨v, N, sT c1 ?_, ⟨c1, k1, t1⟩, fun T' _ => o2 T1 e, hF⟩
        rw [c_isSign k1 t1 hb (by decide), eBn, iN1 q59]
        exact sF (by decide) rfl
      · rw [xSemi_0 (xS_0 q59)]
        refine ⟨nI 1, N, sT c1 ?_, OutC.f (by decide) (by decide) k1.2.1, fun T' y => absurd y xE_inr, hF⟩
        rw [c_isSign k1 t1 hb (by decide), eBn, iN0 q59]
        exact sT (by decide) rfl
  unfold fX3_readLine
  rw [c_word h hT, eBn, c_wordIn hle (by decide) (by decide), eBn, x1]
  have full : ∀ (f : PS → PL), (∀ b, (f (.inl b)).1 = .inl b) → ¬ σ 26 < 40 → xSemi tp (f (lnO σ (.inr T))).1 = .inl (7, T.1) := by
    intro f hf y
    have : lnO σ (.inr T) = .inl (7, T.1) := by unfold lnO; rw [if_pos (by omega)]; rfl
    rw [this, hf, xSemi_inl]
  have room : σ 26 < 40 → lnO σ (.inr T) = .inr T := by
    intro y
    unfold lnO; rw [if_neg (by omega)]
  have rO := c_roomO hC.2.2.2.1.1 hBD
  have rR := c_roomR' hC.2.2.2.1.2.1 h25
  by_cases qw : 1 ≤ wd tp T ∧ wd tp T ≤ 5
  · rw [if_pos qw]
    rcases (show wd tp T = 1 ∨ wd tp T = 2 ∨ wd tp T = 3 ∨ wd tp T = 4 ∨ wd tp T = 5 by omega) with w | w | w | w | w
    · have eF : lnF tp n σ (.inr T) = xRaid tp σ (.inr T) := by unfold lnF; rw [if_pos ((wj 1).2 w)]
      have e1 : wI (wd tp T) = nI 1 := by rw [wI_eq hle (by decide)]; exact w
      rw [eF, e1]
      by_cases q : σ 25 < 200
      · rw [if_pos q] at rR
        obtain ⟨r1, M1, f1, o1, F1⟩ := c_raid hl hb hT h hC w q
        obtain ⟨r2, M2, f2, o2⟩ := tail o1 F1
        exact ⟨r2, M2, sF (by decide) (sLt (sT rfl (sBn rR (sF (by decide) (sLt (sT rfl (sBn f1 f2))))))), o2⟩
      · rw [if_neg q] at rR
        have e7 : xSemi tp (xRaid tp σ (.inr T)).1 = .inl (7, T.1) := by
          unfold xRaid
          rw [if_pos (show σ 25 = 200 by omega)]
          show xSemi tp (rdU tp σ (xOne tp σ (σ 28) (xPass tp 1 (.inl (7, T.1))))).1 = _
          rw [xPass_inl, xOne_inl]
          unfold rdU
          rw [xCan_inl, xAd_inl, rdV_inl, xSemi_inl]
        rw [e7]
        exact ⟨nI 7, M, sF (by decide) (sLt (sT rfl (sBn rR (sT (by decide) rfl)))), OutC.f (by decide) (by decide) h.2.1, fun T' y => absurd y (by simp), Fy.refl M⟩
    · have eF : lnF tp n σ (.inr T) = xCard tp n σ (lnO σ (.inr T)) := by unfold lnF; rw [if_neg (nj 1 (by omega)), if_pos ((wj 2).2 w)]
      have e1 : wI (wd tp T) = nI 2 := by rw [wI_eq hle (by decide)]; exact w
      rw [eF, e1]
      by_cases q : σ 26 < 40
      · rw [if_pos q] at rO
        rw [room q]
        obtain ⟨r1, M1, f1, o1, F1⟩ := c_card hl hb hT h hC w
        obtain ⟨r2, M2, f2, o2⟩ := tail o1 F1
        exact ⟨r2, M2, sF (by decide) (sLt (sF (by decide) (sBn rO (sF (by decide) (sLt (sF (by decide) (sT rfl (sBn f1 f2)))))))), o2⟩
      · rw [if_neg q] at rO
        rw [full _ card_inl q]
        exact ⟨nI 7, M, sF (by decide) (sLt (sF (by decide) (sBn rO (sT (by decide) rfl)))), OutC.f (by decide) (by decide) h.2.1, fun T' y => absurd y (by simp), Fy.refl M⟩
    · have eF : lnF tp n σ (.inr T) = xChange tp n σ (lnO σ (.inr T)) := by unfold lnF; rw [if_neg (nj 1 (by omega)), if_neg (nj 2 (by omega)), if_pos ((wj 3).2 w)]
      have e1 : wI (wd tp T) = nI 3 := by rw [wI_eq hle (by decide)]; exact w
      rw [eF, e1]
      by_cases q : σ 26 < 40
      · rw [if_pos q] at rO
        rw [room q]
        obtain ⟨r1, M1, f1, o1, F1⟩ := c_change hl hb hT h hC w
        obtain ⟨r2, M2, f2, o2⟩ := tail o1 F1
        exact ⟨r2, M2, sF (by decide) (sLt (sF (by decide) (sBn rO (sF (by decide) (sLt (sF (by decide) (sF (by decide) (sT rfl (sBn f1 f2))))))))), o2⟩
      · rw [if_neg q] at rO
        rw [full _ change_inl q]
        exact ⟨nI 7, M, sF (by decide) (sLt (sF (by decide) (sBn rO (sT (by decide) rfl)))), OutC.f (by decide) (by decide) h.2.1, fun T' y => absurd y (by simp), Fy.refl M⟩
    · have eF : lnF tp n σ (.inr T) = xHalf tp σ (lnO σ (.inr T)) := by unfold lnF; rw [if_neg (nj 1 (by omega)), if_neg (nj 2 (by omega)), if_neg (nj 3 (by omega)), if_pos ((wj 4).2 w)]
      have e1 : wI (wd tp T) = nI 4 := by rw [wI_eq hle (by decide)]; exact w
      rw [eF, e1]
      by_cases q : σ 26 < 40
      · rw [if_pos q] at rO
        rw [room q]
        obtain ⟨r1, M1, f1, o1, F1⟩ := c_half hl hb hT h hC w
        obtain ⟨r2, M2, f2, o2⟩ := tail o1 F1
        exact ⟨r2, M2, sF (by decide) (sLt (sF (by decide) (sBn rO (sF (by decide) (sLt (sF (by decide) (sF (by decide) (sF (by decide) (sT rfl (sBn f1 f2)))))))))), o2⟩
      · rw [if_neg q] at rO
        rw [full _ half_inl q]
        exact ⟨nI 7, M, sF (by decide) (sLt (sF (by decide) (sBn rO (sT (by decide) rfl)))), OutC.f (by decide) (by decide) h.2.1, fun T' y => absurd y (by simp), Fy.refl M⟩
    · have eF : lnF tp n σ (.inr T) = xReview tp n σ (lnO σ (.inr T)) := by unfold lnF; rw [if_neg (nj 1 (by omega)), if_neg (nj 2 (by omega)), if_neg (nj 3 (by omega)), if_neg (nj 4 (by omega)), if_pos ((wj 5).2 w)]
      have e1 : wI (wd tp T) = nI 5 := by rw [wI_eq hle (by decide)]; exact w
      rw [eF, e1]
      by_cases q : σ 26 < 40
      · rw [if_pos q] at rO
        rw [room q]
        obtain ⟨r1, M1, f1, o1, F1⟩ := c_review hl hb hT h hC w q
        obtain ⟨r2, M2, f2, o2⟩ := tail o1 F1
        exact ⟨r2, M2, sF (by decide) (sLt (sF (by decide) (sBn rO (sF (by decide) (sLt (sF (by decide) (sF (by decide) (sF (by decide) (sF (by decide) (sBn f1 f2)))))))))), o2⟩
      · rw [if_neg q] at rO
        rw [full _ review_inl q]
        exact ⟨nI 7, M, sF (by decide) (sLt (sF (by decide) (sBn rO (sT (by decide) rfl)))), OutC.f (by decide) (by decide) h.2.1, fun T' y => absurd y (by simp), Fy.refl M⟩
  · rw [if_neg qw]
    have eF : xSemi tp (lnF tp n σ (.inr T)).1 = .inl (1, T.1) := by
      unfold lnF; rw [if_neg (nj 1 (by omega)), if_neg (nj 2 (by omega)), if_neg (nj 3 (by omega)), if_neg (nj 4 (by omega)), if_neg (nj 5 (by omega))]
      exact xSemi_inl _
    rw [eF]
    exact ⟨nI 1, M, sT (by decide) rfl, OutC.f (by decide) (by decide) h.2.1, fun T' y => absurd y (by simp), Fy.refl M⟩
end
