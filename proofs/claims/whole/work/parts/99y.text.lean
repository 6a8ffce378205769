/-! ===== the class reads the whole text ===== -/
/-- all but the tale, the match and the parser stays -/
def Fj (M M' : xMem) : Prop := (∀ c, c < 6 ∨ 63 ≤ c → M'.1 c = M.1 c) ∧ (∀ c, c ≠ 11 → c ≠ 42 → c ≠ 60 → M'.2.1 c = M.2.1 c) ∧ M'.2.2 = M.2.2
theorem Fj.refl (M : xMem) : Fj M M := ⟨fun _ _ => rfl, fun _ _ _ _ => rfl, rfl⟩
theorem Fj.trans {M M1 M2 : xMem} (h1 : Fj M M1) (h2 : Fj M1 M2) : Fj M M2 := ⟨fun c a => (h2.1 c a).trans (h1.1 c a), fun c a b d => (h2.2.1 c a b d).trans (h1.2.1 c a b d), h2.2.2.trans h1.2.2⟩
theorem Fy.fj {M M' : xMem} (h : Fy M M') : Fj M M' := ⟨fun c a => h.1 c (by omega) (by omega) (by omega), fun c _ _ a => h.2.1 c a, h.2.2⟩
theorem Fg.fj {M M' : xMem} (h : Fg M M') : Fj M M' := ⟨fun c a => h.1 c (by omega) (by omega) (by omega) (by omega), fun c _ _ a => h.2.1 c a, h.2.2⟩
theorem Fm.fj {M M' : xMem} (h : Fm M M') : Fj M M' := ⟨fun c a => h.1 c (by omega), fun c _ a _ => h.2.1 c a, h.2.2⟩
theorem Ft.fj {M M' : xMem} (h : Ft 6 M M') : Fj M M' := ⟨fun c a => h.1 c (by omega), fun c a _ _ => h.2.1 c a, h.2.2⟩
section
variable {tp : List Nat} {n s : Nat → List Nat}
theorem ros_row {M : xMem} {ls : List xLn} (hr : rsOK n s) (hk : okC (begR n s) ls) (hA : TaR M 6 (n, s, ls)) : RosC M (rowF (begR n s) ls) := by
  have hS : SOK s := fun u hu => (hr.1 u hu).2.1
  intro t ht
  obtain ⟨a, b, c⟩ := hA.ros hS t ht
  rw [row_ros (by omega) (RI.beg hr) hk]
  refine ⟨a, b, fun i hi => ?_⟩
  rw [row_ros (by omega) (RI.beg hr) hk]
  exact c i hi
theorem cs_of {M : xMem} {ls : List xLn} (hr : rsOK n s) (hk : okC (begR n s) ls) (hA : TaR M 6 (n, s, ls)) (hR : RwR M 1 tp) (hM : MR M (rowF (begR n s) ls)) : CS tp M n (rowF (begR n s) ls) :=
  ⟨hR, fun u hu => ⟨(hA.1 u hu).1, (hr.1 u hu).1⟩, ros_row hr hk hA, hM, (RI.beg hr).row hk⟩
theorem TaR.fy {M M' : xMem} {a : xTl} (h : TaR M 6 a) (hF : Fy M M') : TaR M' 6 a := h.keep (fun c u v => hF.1 c (by omega) (by omega) (by omega)) (hF.2.1 _ (by decide))
theorem RwR.fj {M M' : xMem} (h : RwR M 1 tp) (hF : Fj M M') : RwR M' 1 tp := h.of (hF.1 1 (by decide)) (hF.1 2 (by decide))
theorem c_lines (hl : tp.length ≤ 2000) (hb : ∀ b ∈ tp, b < 256) (hr : rsOK n s) : ∀ (k : Nat) (ls : List xLn) (T : TK) (M : xMem) (F : Nat), ls.length + k = 281 → k < F → okC (begR n s) ls → TkO tp T → PkC tp M T → RwR M 1 tp → TaR M 6 (n, s, ls) → MR M (rowF (begR n s) ls) → ∃ r M', fX3_readText_l44 60 (fun (v16 : Int32) (v17 : Int32) (M18 : xMem) => some (v16, M18)) F (nI 0) (nI ls.length) M = some (r, M') ∧ OutC tp M' r (alL tp n (begR n s) k ls (.inr T)).1 ∧ (∀ T', (alL tp n (begR n s) k ls (.inr T)).1 = .inr T' → TaR M' 6 (n, s, (alL tp n (begR n s) k ls (.inr T)).2) ∧ MR M' (rowF (begR n s) (alL tp n (begR n s) k ls (.inr T)).2)) ∧ Fj M M' := by
  obtain ⟨-, x1, -⟩ := x60t
  intro k
  induction k with
  | zero =>
    intro ls T M F h1 h2 h3
    have := (td_len (a := (n, s, ls)) ⟨hr, h3⟩).2
    simp only at this
    omega
  | succ k ih =>
    intro ls T M F h1 h2 h3 hT h hR hA hM
    obtain ⟨F, rfl⟩ : ∃ q, F = q + 1 := ⟨F - 1, by omega⟩
    rw [fX3_readText_l44.eq_2, x1, m50]
    have hk4 := hT.b.2.2.2.1
    by_cases z : T.2.1 = 0
    · have eA : alL tp n (begR n s) (k + 1) ls (.inr T) = (.inr T, ls) := by unfold alL; rw [if_pos z]
      rw [eA]
      exact ⟨nI 0, M, sF (by rw [eLe (by decide) (by omega)]; omega) (sT (by decide) (sT (by rw [h.1, z]; decide) rfl)), ⟨rfl, h, hT⟩, fun _ _ => ⟨hA, hM⟩, Fj.refl M⟩
    · have eA : alL tp n (begR n s) (k + 1) ls (.inr T) = alF tp ls (lnF tp n (rowF (begR n s) ls) (.inr T)).2 (alL tp n (begR n s) k) (xSemi tp (lnF tp n (rowF (begR n s) ls) (.inr T)).1) := by
        show (if T.2.1 = 0 then _ else _) = _
        rw [if_neg z]
      rw [eA]
      have hI := (RI.beg hr).row h3
      obtain ⟨r1, M1, f1, o1, v1, F1⟩ := c_line hl hb hT h (cs_of hr h3 hA hR hM)
      have A1 := hA.fy F1
      have R1 := hR.fj F1.fj
      have hM1 : MR M1 (rowF (begR n s) ls) := hM.keep (fun c a b => F1.1 c (by omega) (by omega) (by omega)) (F1.2.1 42 (by decide))
      have step : ∀ w, (if r1 = 0 then (xBv (fX9_addLine 6 (M1.2.1 60 9) M1) fun M12 => xBv (fX2_apply 5 (M12.2.1 60 9) M12) fun M13 => xBv (fX3_advance 60 M13) fun M14 => xLt (nI ls.length + nI 1) fun x15 => fX3_readText_l44 60 (fun (v16 : Int32) (v17 : Int32) (M18 : xMem) => some (v16, M18)) F r1 x15 M14) else (xLt (nI ls.length + nI 1) fun x11 => fX3_readText_l44 60 (fun (v16 : Int32) (v17 : Int32) (M18 : xMem) => some (v16, M18)) F r1 x11 M1)) = w → (if (nI 2000) ≤ nI ls.length then (some (nI 0, M)) else (if nI 0 = 0 then (if (M.1 60 3) = 0 then (some (nI 0, M)) else (xBn (fX3_readLine 60 M) fun r9 M10 => if r9 = 0 then (xBv (fX9_addLine 6 (M10.2.1 60 9) M10) fun M12 => xBv (fX2_apply 5 (M12.2.1 60 9) M12) fun M13 => xBv (fX3_advance 60 M13) fun M14 => xLt (nI ls.length + nI 1) fun x15 => fX3_readText_l44 60 (fun (v16 : Int32) (v17 : Int32) (M18 : xMem) => some (v16, M18)) F r9 x15 M14) else (xLt (nI ls.length + nI 1) fun x11 => fX3_readText_l44 60 (fun (v16 : Int32) (v17 : Int32) (M18 : xMem) => some (v16, M18)) F r9 x11 M10))) else (some (nI 0, M)))) = w := by
        intro w hw
        exact sF (by rw [eLe (by decide) (by omega)]; omega) (sT (by decide) (sF (by rw [h.1]; exact eN0 (by omega) z) (sBn f1 hw)))
      cases e : xSemi tp (lnF tp n (rowF (begR n s) ls) (.inr T)).1 with
      | inl b =>
        rw [e] at o1
        obtain ⟨F, rfl⟩ : ∃ q, F = q + 1 := ⟨F - 1, by omega⟩
        refine ⟨r1, M1, step _ (sF o1.bad (sLe (nI_add _ _) ?_)), o1, fun T' y => absurd y (by simp [alF]), F1.fj⟩
        rw [fX3_readText_l44.eq_2]
        exact sF (by rw [eLe (by decide) (by omega)]; omega) (sF o1.bad rfl)
      | inr T1 =>
        rw [e] at o1
        obtain ⟨c1, k1, t1⟩ := o1
        have v9 := v1 T1 e
        have ok := lnF_ok hI (xSemi_inr e)
        have hs59 : xPassS tp 59 (.inr T1) = .inr (adv tp T1.2.2) := by
          have : xS tp 59 (lnF tp n (rowF (begR n s) ls) (.inr T)).1 = 1 := by
            rcases xS_lt tp 59 (lnF tp n (rowF (begR n s) ls) (.inr T)).1 with y | y
            · rw [xSemi_0 y] at e; exact absurd e xE_inr
            · exact y
          rw [xSemi_inr e] at this
          rw [xPassS_1 this]; rfl
        generalize hq : lnF tp n (rowF (begR n s) ls) (.inr T) = q at *
        have h3' : okC (begR n s) (ls ++ [q.2]) := okC_app.2 ⟨h3, ok⟩
        have hlen : (ls ++ [q.2]).length = ls.length + 1 := by rw [List.length_append]; rfl
        obtain ⟨M2, f2, A2, F2, g2⟩ := t_addLine (l := q.2) A1 (show ls.length < 280 by have := (td_len (a := (n, s, ls ++ [q.2])) ⟨hr, h3'⟩).2; simp only at this; omega)
        have k2 : PkC tp M2 T1 := k1.of (g2 60 (by decide)) (F2.2.1 60 (by decide))
        have hM2 : MR M2 (rowF (begR n s) ls) := hM1.keep (fun c a b => g2 c (by omega)) (F2.2.1 42 (by decide))
        have v9' : M2.2.1 60 9 = lN (codL q.2) := by rw [F2.2.1 60 (by decide)]; exact v9
        obtain ⟨M3, f3, hM3, F3, -⟩ := m_apply hM2 hI ok
        have A3 : TaR M3 6 (n, s, ls ++ [q.2]) := TaR.fm A2 F3
        have k3 : PkC tp M3 T1 := k2.of (F3.1 60 (by decide)) (F3.2.1 60 (by decide))
        have R3 := (R1.fj F2.fj).fj F3.fj
        obtain ⟨M4, f4, k4, t4, F4⟩ := c_adv hl hb R3 t1 k3
        have A4 := A3.fz F4.fz
        have hM4 : MR M4 (rowF (begR n s) (ls ++ [q.2])) := by
          rw [rowF_app]
          exact hM3.keep (fun c a b => F4.fz.1 c (by omega)) (F4.fz.2.1 42 (by decide))
        obtain ⟨r5, M5, f5, o5, w5, F5⟩ := ih (ls ++ [q.2]) (adv tp T1.2.2) M4 F (by omega) (by omega) h3' t4 k4 (R3.fz F4.fz) A4 hM4
        rw [hlen] at f5
        unfold alF
        simp only
        rw [hs59]
        refine ⟨r5, M5, step _ (sT c1 ?_), o5, w5, (((F1.fj.trans F2.fj).trans F3.fj).trans F4.fz.fy.fj).trans F5⟩
        rw [v9]
        refine sBv f2 ?_
        rw [v9']
        refine sBv f3 (sBv f4 (sLe (nI_add _ _) ?_))
        rw [c1]
        exact f5
end
