/-! ===== the law's cases: a pattern ===== -/
theorem dL_t0 : decode cL_law 667 = .ok (.aload_n 1, 1) := by decide +kernel
theorem dL_t1 : decode cL_law 668 = .ok (.invokevirtual 69, 3) := by decide +kernel
theorem dL_t2 : decode cL_law 671 = .ok (.aload_n 2, 1) := by decide +kernel
theorem dL_t3 : decode cL_law 672 = .ok (.invokevirtual 72, 3) := by decide +kernel
theorem dL_t4 : decode cL_law 675 = .ok (.if_icmp .eq 1258, 3) := by decide +kernel
theorem law_13 {X : xCX} {b : Nat} {i : Int32} {M : xMem} (C : xCk X cL_law RL 16) (hT : TOP M) (kk : ∀ M', TOP M' → WW X 1933 [some (.ref b), some (vr X.1 0), some (vr X.1 146), some (.int i)] [] M') : WW X 667 [some (.ref b), some (vr X.1 0), some (vr X.1 146), some (.int i)] [] M := by
  obtain ⟨v, M1, M2, f1, f2, T2⟩ := s_turn M hT
  refine r_aload_n (pc := 667) C dL_t0 rfl rfl ?_
  refine r_vI0 (pc := 668) (o := fX10_turn 0 M) (F := fun r M' => some (r, M')) (z := (v, M1)) C (fun r M' e => zX10_turn X.1 0 rfl M r M' e) rfl (by decide) rfl mX10_turn lL_69 (by decide) (Nat.le_of_ble_eq_true rfl) dL_t1 (by rw [f1]; rfl) (fun r M' e => ?_)
  cases e
  refine r_aload_n (pc := 671) C dL_t2 rfl rfl ?_
  refine r_vI0 (pc := 672) (o := fX11_turn 146 M1) (F := fun r M' => some (r, M')) (z := (v, M2)) C (fun r M' e => zX11_turn X.1 146 rfl M1 r M' e) rfl (by decide) rfl mX11_turn lL_72 (by decide) (Nat.le_of_ble_eq_true rfl) dL_t3 (by rw [f2]; rfl) (fun r M' e => ?_)
  cases e
  refine r_icmp_eq (pc := 675) (tgt := 1933) (A := some ()) (B := none) (r := ()) C dL_t4 (by decide) (if_pos rfl) (fun _ _ => kk M2 T2) (fun _ h => absurd h (by simp))
