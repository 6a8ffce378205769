/-! ===== the class reads the whole text ===== -/
section
variable {tp : List Nat} {n s : Nat → List Nat}
theorem c_readText (hl : tp.length ≤ 2000) (hb : ∀ b ∈ tp, b < 256) {M : xMem} (hR : RwR M 1 tp) (hA : ∀ T, (txA tp).1 = .inr T → TkO tp T) : ∃ r M', fX3_readText 60 M = some (r, M') ∧ OutC tp M' r (txL tp).1 ∧ (∀ T', (txL tp).1 = .inr T' → TaR M' 6 (txT tp) ∧ MR M' (rowT (txT tp))) ∧ Fj M M' := by
  obtain ⟨-, x1, -⟩ := x60t
  unfold fX3_readText
  rw [x1, m50]
  obtain ⟨M1, f1, z1, z2, F1⟩ := t_clear (M := M)
  have A1 : TaR M1 6 (N0, N0, []) := ⟨fun t ht => ⟨(z1 t ht).1, (z1 t ht).2, fun i x hi => by simp [N0] at hi⟩, z2, fun i l hi => by simp at hi⟩
  have A2 : TaR (xwI M1 60 5 (nI 0)) 6 (N0, N0, []) := A1.fz Fz.wI
  have R2 : RwR (xwI M1 60 5 (nI 0)) 1 tp := (hR.fj F1.fj).fz Fz.wI
  obtain ⟨M3, f3, k3, F3⟩ := c_advance R2 hl hb (p := 0) (by omega) (xwI_at _ _ _ _)
  have A3 := A2.fz F3.fz
  have R3 := R2.fz F3.fz
  obtain ⟨r4, M4, f4, o4, g4, F4⟩ := c_readTeam (t := 0) (n := N0) (s := N0) hl hb (by decide) (fun u hu => by rw [if_neg (by omega)]; rfl) sok0 rfl ⟨0, by omega, rfl⟩ k3 R3 A3
  have o4' : OutC tp M4 r4 (txA tp).1 := o4
  obtain ⟨a1, a2, a3⟩ := xTeam_ok (tp := tp) (t := 0) (n := N0) (s := N0) (st := .inr (adv tp 0)) (by decide) sok0 rfl tk0
  have FA : Fj M M4 := ((F1.fj.trans Fz.wI.fy.fj).trans F3.fz.fy.fj).trans F4.fj
  have R4 := hR.fj FA
  -- what a fault in the teams leaves
  have bad : ∀ {r : Int32} {N : xMem} {b : Nat × Nat}, OutC tp N r (.inl b) → (txB tp).1 = .inl b → Fj M N → ∃ M', (xBv (fX2_begin 5 N) fun M8 => fX3_readText_l44 60 (fun (v16 : Int32) (v17 : Int32) (M18 : xMem) => some (v16, M18)) xFU r (nI 0) M8) = some (r, M') ∧ OutC tp M' r (txL tp).1 ∧ (∀ T', (txL tp).1 = .inr T' → TaR M' 6 (txT tp) ∧ MR M' (rowT (txT tp))) ∧ Fj M M' := by
    intro r N b o e hF
    have eL : (txL tp).1 = .inl b := by unfold txL; rw [e]; rfl
    obtain ⟨N1, g1, -, -, -, -, -, G1⟩ := m_begin N
    rw [eL]
    refine ⟨N1, sBv g1 ?_, ?_, fun T' y => absurd y (by simp), hF.trans G1.fj⟩
    · rw [show xFU = 39999 + 1 from rfl, fX3_readText_l44.eq_2]
      exact sF (by decide) (sF o.bad rfl)
    · obtain ⟨c1, c2, c3⟩ := o
      exact ⟨c1, by rw [G1.1 60 (by decide)]; exact c2, c3⟩
  cases e : (txA tp).1 with
  | inl b =>
    rw [e] at o4'
    have eB : (txB tp).1 = .inl b := by
      unfold txB
      rw [e, xTeam_def, xPass_inl, nnF_inl, xPassS_inl, shL_inl]
    obtain ⟨M', f', o', w', F'⟩ := bad o4' eB FA
    exact ⟨r4, M', sBv f1 (sLt (sBv f3 (sBn f4 (sLt (sF o4'.bad f'))))), o', w', F'⟩
  | inr T4 =>
    rw [e] at o4'
    obtain ⟨c4, k4, t4⟩ := o4'
    obtain ⟨A4, n4, -⟩ := g4 T4 e
    have n1 : (txA tp).2.1 1 = [] := (a2 1 (by decide)).1
    obtain ⟨r5, M5, f5, o5, g5, F5⟩ := c_readTeam (t := 1) (n := (txA tp).2.1) (s := (txA tp).2.2) hl hb (by decide) (fun u hu => by
      rcases (show u = 0 ∨ u = 1 by omega) with rfl | rfl
      · rw [if_pos (by decide)]; exact n4
      · rw [if_neg (by decide)]; exact n1) a1 (a2 1 (by decide)).2 t4 k4 R4 A4
    have eB : txB tp = xTeam tp 1 (txA tp).2.1 (txA tp).2.2 (.inr T4) := by unfold txB; rw [e]
    rw [← eB] at o5 g5
    have FB := FA.trans F5.fj
    have hd : ∀ w, (xBv (fX2_begin 5 M5) fun M8 => fX3_readText_l44 60 (fun (v16 : Int32) (v17 : Int32) (M18 : xMem) => some (v16, M18)) xFU r5 (nI 0) M8) = w → (xBv (fX9_clear 6 M) fun M1 => xLt (xwI M1 60 5 (nI 0)) fun M2 => xBv (fX3_advance 60 M2) fun M3 => xBn (fX3_readTeam 60 (nI 0) M3) fun r4 M5 => xLt (fun (v6 : Int32) (M7 : xMem) => (xBv (fX2_begin 5 M7) fun M8 => fX3_readText_l44 60 (fun (v16 : Int32) (v17 : Int32) (M18 : xMem) => some (v16, M18)) xFU v6 (nI 0) M8 : Option (Int32 × xMem))) fun J35 => if r4 = 0 then (xBn (fX3_readTeam 60 (nI 1) M5) fun r19 M20 => J35 r19 M20) else (J35 r4 M5)) = w := by
      intro w hw
      exact sBv f1 (sLt (sBv f3 (sBn f4 (sLt (sT c4 (sBn f5 hw))))))
    cases e5 : (txB tp).1 with
    | inl b =>
      rw [e5] at o5
      obtain ⟨M', f', o', w', F'⟩ := bad o5 e5 FB
      exact ⟨r5, M', hd _ f', o', w', F'⟩
    | inr T5 =>
      rw [e5] at o5
      obtain ⟨c5, k5, t5⟩ := o5
      obtain ⟨A5, -, -⟩ := g5 T5 e5
      have hr := (tx_ok hA).2 T5 e5
      obtain ⟨N1, h1, S1, y1, y2, y3, y4, G1⟩ := m_begin M5
      have B1 := A5.fm G1
      have hM : MR N1 (begR (txB tp).2.1 (txB tp).2.2) := MR.beg hr (S1.congr (fun t ht => (A5.1 t ht).2.1)) y1 y2 y3 y4
      have kN : PkC tp N1 T5 := k5.of (G1.1 60 (by decide)) (G1.2.1 60 (by decide))
      have RN := (hR.fj FB).fj G1.fj
      obtain ⟨r6, M6, f6, o6, w6, F6⟩ := c_lines hl hb hr 281 [] T5 N1 xFU rfl (by decide) trivial t5 kN RN B1 hM
      have eL : txL tp = alL tp (txB tp).2.1 (begR (txB tp).2.1 (txB tp).2.2) 281 [] (.inr T5) := by unfold txL; rw [e5]
      rw [← eL] at o6 w6
      refine ⟨r6, M6, hd _ (sBv h1 ?_), o6, w6, (FB.trans G1.fj).trans F6⟩
      rw [c5]
      exact f6
end
