theorem dX8_endHalf_0 : decode cX8_endHalf 0 = .ok (.aload_n 0, 1) := by decide +kernel
theorem dX8_endHalf_1 : decode cX8_endHalf 1 = .ok (.invokevirtual 143, 3) := by decide +kernel
theorem dX8_endHalf_4 : decode cX8_endHalf 4 = .ok (.aload_n 0, 1) := by decide +kernel
theorem dX8_endHalf_5 : decode cX8_endHalf 5 = .ok (.dup, 1) := by decide +kernel
theorem dX8_endHalf_6 : decode cX8_endHalf 6 = .ok (.getfield 22, 3) := by decide +kernel
theorem dX8_endHalf_9 : decode cX8_endHalf 9 = .ok (.iconst 1, 1) := by decide +kernel
theorem dX8_endHalf_10 : decode cX8_endHalf 10 = .ok (.iadd, 1) := by decide +kernel
theorem dX8_endHalf_11 : decode cX8_endHalf 11 = .ok (.putfield 22, 3) := by decide +kernel
theorem dX8_endHalf_14 : decode cX8_endHalf 14 = .ok (.aload_n 0, 1) := by decide +kernel
theorem dX8_endHalf_15 : decode cX8_endHalf 15 = .ok (.iconst 1, 1) := by decide +kernel
theorem dX8_endHalf_16 : decode cX8_endHalf 16 = .ok (.putfield 18, 3) := by decide +kernel
theorem dX8_endHalf_19 : decode cX8_endHalf 19 = .ok (.iconst 0, 1) := by decide +kernel
theorem dX8_endHalf_20 : decode cX8_endHalf 20 = .ok (.istore_n 1, 1) := by decide +kernel
theorem dX8_endHalf_21 : decode cX8_endHalf 21 = .ok (.iload_n 1, 1) := by decide +kernel
theorem dX8_endHalf_22 : decode cX8_endHalf 22 = .ok (.iconst 2, 1) := by decide +kernel
theorem dX8_endHalf_23 : decode cX8_endHalf 23 = .ok (.if_icmp .ge 29, 3) := by decide +kernel
theorem dX8_endHalf_26 : decode cX8_endHalf 26 = .ok (.aload_n 0, 1) := by decide +kernel
theorem dX8_endHalf_27 : decode cX8_endHalf 27 = .ok (.getfield 12, 3) := by decide +kernel
theorem dX8_endHalf_30 : decode cX8_endHalf 30 = .ok (.iload_n 1, 1) := by decide +kernel
theorem dX8_endHalf_31 : decode cX8_endHalf 31 = .ok (.aaload, 1) := by decide +kernel
theorem dX8_endHalf_32 : decode cX8_endHalf 32 = .ok (.iconst 0, 1) := by decide +kernel
theorem dX8_endHalf_33 : decode cX8_endHalf 33 = .ok (.putfield 68, 3) := by decide +kernel
theorem dX8_endHalf_36 : decode cX8_endHalf 36 = .ok (.aload_n 0, 1) := by decide +kernel
theorem dX8_endHalf_37 : decode cX8_endHalf 37 = .ok (.getfield 12, 3) := by decide +kernel
theorem dX8_endHalf_40 : decode cX8_endHalf 40 = .ok (.iload_n 1, 1) := by decide +kernel
theorem dX8_endHalf_41 : decode cX8_endHalf 41 = .ok (.aaload, 1) := by decide +kernel
theorem dX8_endHalf_42 : decode cX8_endHalf 42 = .ok (.iconst 0, 1) := by decide +kernel
theorem dX8_endHalf_43 : decode cX8_endHalf 43 = .ok (.putfield 93, 3) := by decide +kernel
theorem dX8_endHalf_46 : decode cX8_endHalf 46 = .ok (.iinc 1 1, 3) := by decide +kernel
theorem dX8_endHalf_49 : decode cX8_endHalf 49 = .ok (.goto (-28), 3) := by decide +kernel
theorem dX8_endHalf_52 : decode cX8_endHalf 52 = .ok (.return_, 1) := by decide +kernel
def fX8_endHalf_l21 (p0 : Nat) (K : Int32 → xMem → Option (xMem)) : Nat → Int32 → xMem → Option (xMem)
  | 0, _, _ => none
  | n + 1, v1, M => if (nI 2) ≤ v1 then (K v1 M) else (xGb v1 (xln (xrf p0 0)) (xLt (xwI M (xrf (xrf p0 0) (Int32.toNatClampNeg v1)) 7 (nI 0)) fun M5 => xGb v1 (xln (xrf p0 0)) (xLt (xwI M5 (xrf (xrf p0 0) (Int32.toNatClampNeg v1)) 9 (nI 0)) fun M7 => xLt (v1 + nI 1) fun x8 => fX8_endHalf_l21 p0 K n x8 M7)))
def fX8_endHalf (a0 : Nat) (M : xMem) : Option (xMem) :=
  xBv (fX8_noteOther a0 M) fun M1 => xLt (xwI M1 a0 2 ((M1.1 a0 2) + (nI 1))) fun M2 => xLt (xwI M2 a0 1 (nI 1)) fun M3 => fX8_endHalf_l21 a0 (fun (v9 : Int32) (M10 : xMem) => some M10) xFU (nI 0) M3
set_option maxRecDepth 100000 in
set_option maxHeartbeats 4000000 in
theorem lX8_endHalf_21 {X : xCX} {M' : xMem} (C : xCk X cX8_endHalf RX8 2) (R0 : xRk X none (none, M')) (hnL : X.2.2.2.2.2.2.2.2.2.2.2.2.2 = 2) (p0 : Nat) (hp0 : xkd p0 = 8) (K : Int32 → xMem → Option (xMem)) (hK : ∀ (v1 : Int32) (M : xMem), K v1 M = some M' → WW X 52 [some (vr X.1 p0), some (.int v1)] [] M) : ∀ (n : Nat) (v1 : Int32) (M : xMem), fX8_endHalf_l21 p0 K n v1 M = some M' → WW X 21 [some (vr X.1 p0), some (.int v1)] [] M := by
  have hn1 : 1 < X.2.2.2.2.2.2.2.2.2.2.2.2.2 := by rw [hnL]; decide
  intro n
  induction n with
  | zero =>
    intro v1 M h
    cases (show (none : Option (xMem)) = some M' from h)
  | succ n ih =>
    intro v1 M h
    rw [fX8_endHalf_l21.eq_2] at h
    refine r_iload_n (pc := 21) C dX8_endHalf_21 rfl rfl ?_
    refine r_iconst (pc := 22) (v := (nI 2)) C dX8_endHalf_22 (by decide) ?_
    refine r_icmp_ge (pc := 23) (tgt := 52) C dX8_endHalf_23 (by decide) h (fun _ h => ?_) (fun _ h => ?_)
    · exact hK v1 M h
    · refine r_aload_n (pc := 26) C dX8_endHalf_26 rfl rfl ?_
      refine r_getR (pc := 27) C kX8_12 hp0 (by decide) dX8_endHalf_27 ?_
      refine r_iload_n (pc := 30) C dX8_endHalf_30 rfl rfl ?_
      obtain ⟨g4, h⟩ := xGb_of h
      refine r_aaldS (pc := 31) C (xtk hp0 (by decide) rfl rfl) g4 dX8_endHalf_31 ?_
      refine r_iconst (pc := 32) (v := (nI 0)) C dX8_endHalf_32 (by decide) ?_
      refine r_putI (pc := 33) C kX8_68 (xkeS (xtk hp0 (by decide) rfl rfl) (xin_lt g4)) dX8_endHalf_33 ?_
      refine r_letM h (fun M5 h => ?_)
      refine r_aload_n (pc := 36) C dX8_endHalf_36 rfl rfl ?_
      refine r_getR (pc := 37) C kX8_12 hp0 (by decide) dX8_endHalf_37 ?_
      refine r_iload_n (pc := 40) C dX8_endHalf_40 rfl rfl ?_
      obtain ⟨g6, h⟩ := xGb_of h
      refine r_aaldS (pc := 41) C (xtk hp0 (by decide) rfl rfl) g6 dX8_endHalf_41 ?_
      refine r_iconst (pc := 42) (v := (nI 0)) C dX8_endHalf_42 (by decide) ?_
      refine r_putZ (pc := 43) C kX8_93 (xkeS (xtk hp0 (by decide) rfl rfl) (xin_lt g6)) (Or.inl (by decide)) dX8_endHalf_43 ?_
      refine r_letM h (fun M7 h => ?_)
      refine r_iincL (pc := 46) (c := nI 1) C dX8_endHalf_46 rfl (by decide) hn1 h (fun x8 h => ?_)
      refine r_lvE (lv' := [_, _]) rfl ?_
      refine r_goto (pc := 49) (tgt := 21) C dX8_endHalf_49 (by decide) ?_
      exact ih x8 M7 h
set_option maxRecDepth 100000 in
set_option maxHeartbeats 4000000 in
theorem zX8_endHalf (G : xGX) (a0 : Nat) (h0 : xkd a0 = 8) (M : xMem) (M' : xMem) (h : fX8_endHalf a0 M = some M') : xCt G yX8_endHalf cX8_endHalf 2 none 2 [vr G a0] M (none, M') := by
  refine xMet (lv := [some (vr G a0), none]) (by decide) (Nat.le_of_ble_eq_true rfl) rfl ?_
  intro X hG hnL C R0
  subst hG
  have C : xCk X cX8_endHalf RX8 2 := C
  have hn1 : 1 < X.2.2.2.2.2.2.2.2.2.2.2.2.2 := by rw [hnL]; decide
  unfold fX8_endHalf at h
  refine r_aload_n (pc := 0) C dX8_endHalf_0 rfl rfl ?_
  refine r_vV0 (pc := 1) C (fun M' e => zX8_noteOther X.1 a0 h0 M M' e) h0 (by decide) rfl mX8_noteOther lX8_143 (by decide) (Nat.le_of_ble_eq_true rfl) dX8_endHalf_1 h (fun M1 h => ?_)
  refine r_aload_n (pc := 4) C dX8_endHalf_4 rfl rfl ?_
  refine r_dup (pc := 5) C rfl dX8_endHalf_5 ?_
  refine r_getI (pc := 6) C kX8_22 h0 dX8_endHalf_6 ?_
  refine r_iconst (pc := 9) (v := (nI 1)) C dX8_endHalf_9 (by decide) ?_
  refine r_iadd (pc := 10) C dX8_endHalf_10 ?_
  refine r_putI (pc := 11) C kX8_22 h0 dX8_endHalf_11 ?_
  refine r_letM h (fun M2 h => ?_)
  refine r_aload_n (pc := 14) C dX8_endHalf_14 rfl rfl ?_
  refine r_iconst (pc := 15) (v := (nI 1)) C dX8_endHalf_15 (by decide) ?_
  refine r_putI (pc := 16) C kX8_18 h0 dX8_endHalf_16 ?_
  refine r_letM h (fun M3 h => ?_)
  refine r_iconst (pc := 19) (v := (nI 0)) C dX8_endHalf_19 (by decide) ?_
  refine r_istore_n (pc := 20) (lv' := [_, _]) C dX8_endHalf_20 rfl hn1 rfl ?_
  refine lX8_endHalf_21 C R0 hnL a0 h0 _ (fun v9 M10 h => ?_) _ _ _ h
  exact r_vret (pc := 52) C R0 h dX8_endHalf_52
