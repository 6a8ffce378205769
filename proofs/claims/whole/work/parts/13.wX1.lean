theorem dX1_clear_0 : decode cX1_clear 0 = .ok (.aload_n 0, 1) := by decide +kernel
theorem dX1_clear_1 : decode cX1_clear 1 = .ok (.iconst 0, 1) := by decide +kernel
theorem dX1_clear_2 : decode cX1_clear 2 = .ok (.putfield 30, 3) := by decide +kernel
theorem dX1_clear_5 : decode cX1_clear 5 = .ok (.aload_n 0, 1) := by decide +kernel
theorem dX1_clear_6 : decode cX1_clear 6 = .ok (.getfield 20, 3) := by decide +kernel
theorem dX1_clear_9 : decode cX1_clear 9 = .ok (.iconst 0, 1) := by decide +kernel
theorem dX1_clear_10 : decode cX1_clear 10 = .ok (.iconst 0, 1) := by decide +kernel
theorem dX1_clear_11 : decode cX1_clear 11 = .ok (.iastore, 1) := by decide +kernel
theorem dX1_clear_12 : decode cX1_clear 12 = .ok (.iconst 0, 1) := by decide +kernel
theorem dX1_clear_13 : decode cX1_clear 13 = .ok (.istore_n 1, 1) := by decide +kernel
theorem dX1_clear_14 : decode cX1_clear 14 = .ok (.iload_n 1, 1) := by decide +kernel
theorem dX1_clear_15 : decode cX1_clear 15 = .ok (.aload_n 0, 1) := by decide +kernel
theorem dX1_clear_16 : decode cX1_clear 16 = .ok (.getfield 24, 3) := by decide +kernel
theorem dX1_clear_19 : decode cX1_clear 19 = .ok (.arraylength, 1) := by decide +kernel
theorem dX1_clear_20 : decode cX1_clear 20 = .ok (.if_icmp .ge 16, 3) := by decide +kernel
theorem dX1_clear_23 : decode cX1_clear 23 = .ok (.aload_n 0, 1) := by decide +kernel
theorem dX1_clear_24 : decode cX1_clear 24 = .ok (.getfield 24, 3) := by decide +kernel
theorem dX1_clear_27 : decode cX1_clear 27 = .ok (.iload_n 1, 1) := by decide +kernel
theorem dX1_clear_28 : decode cX1_clear 28 = .ok (.iconst 0, 1) := by decide +kernel
theorem dX1_clear_29 : decode cX1_clear 29 = .ok (.iastore, 1) := by decide +kernel
theorem dX1_clear_30 : decode cX1_clear 30 = .ok (.iinc 1 1, 3) := by decide +kernel
theorem dX1_clear_33 : decode cX1_clear 33 = .ok (.goto (-19), 3) := by decide +kernel
theorem dX1_clear_36 : decode cX1_clear 36 = .ok (.iconst 0, 1) := by decide +kernel
theorem dX1_clear_37 : decode cX1_clear 37 = .ok (.istore_n 1, 1) := by decide +kernel
theorem dX1_clear_38 : decode cX1_clear 38 = .ok (.iload_n 1, 1) := by decide +kernel
theorem dX1_clear_39 : decode cX1_clear 39 = .ok (.aload_n 0, 1) := by decide +kernel
theorem dX1_clear_40 : decode cX1_clear 40 = .ok (.getfield 27, 3) := by decide +kernel
theorem dX1_clear_43 : decode cX1_clear 43 = .ok (.arraylength, 1) := by decide +kernel
theorem dX1_clear_44 : decode cX1_clear 44 = .ok (.if_icmp .ge 16, 3) := by decide +kernel
theorem dX1_clear_47 : decode cX1_clear 47 = .ok (.aload_n 0, 1) := by decide +kernel
theorem dX1_clear_48 : decode cX1_clear 48 = .ok (.getfield 27, 3) := by decide +kernel
theorem dX1_clear_51 : decode cX1_clear 51 = .ok (.iload_n 1, 1) := by decide +kernel
theorem dX1_clear_52 : decode cX1_clear 52 = .ok (.iconst 0, 1) := by decide +kernel
theorem dX1_clear_53 : decode cX1_clear 53 = .ok (.iastore, 1) := by decide +kernel
theorem dX1_clear_54 : decode cX1_clear 54 = .ok (.iinc 1 1, 3) := by decide +kernel
theorem dX1_clear_57 : decode cX1_clear 57 = .ok (.goto (-19), 3) := by decide +kernel
theorem dX1_clear_60 : decode cX1_clear 60 = .ok (.return_, 1) := by decide +kernel
def fX1_clear_l14 (p0 : Nat) (K : Int32 → xMem → Option (xMem)) : Nat → Int32 → xMem → Option (xMem)
  | 0, _, _ => none
  | n + 1, v1, M => if (nI (xln (xrf p0 3))) ≤ v1 then (K v1 M) else (xGb v1 (xln (xrf p0 3)) (xLt (xwI M (xrf p0 3) (Int32.toNatClampNeg v1) (nI 0)) fun M5 => xLt (v1 + nI 1) fun x6 => fX1_clear_l14 p0 K n x6 M5))
def fX1_clear_l38 (p0 : Nat) (K : Int32 → xMem → Option (xMem)) : Nat → Int32 → xMem → Option (xMem)
  | 0, _, _ => none
  | n + 1, v1, M => if (nI (xln (xrf p0 4))) ≤ v1 then (K v1 M) else (xGb v1 (xln (xrf p0 4)) (xLt (xwI M (xrf p0 4) (Int32.toNatClampNeg v1) (nI 0)) fun M10 => xLt (v1 + nI 1) fun x11 => fX1_clear_l38 p0 K n x11 M10))
def fX1_clear (a0 : Nat) (M : xMem) : Option (xMem) :=
  xLt (xwI M a0 5 (nI 0)) fun M1 => xGb (nI 0) (xln (xrf a0 2)) (xLt (xwI M1 (xrf a0 2) (Int32.toNatClampNeg (nI 0)) (nI 0)) fun M3 => fX1_clear_l14 a0 (fun (v7 : Int32) (M8 : xMem) => fX1_clear_l38 a0 (fun (v12 : Int32) (M13 : xMem) => some M13) xFU (nI 0) M8) xFU (nI 0) M3)
set_option maxRecDepth 100000 in
set_option maxHeartbeats 4000000 in
theorem lX1_clear_14 {X : xCX} {M' : xMem} (C : xCk X cX1_clear RX1 1) (R0 : xRk X none (none, M')) (hnL : X.2.2.2.2.2.2.2.2.2.2.2.2.2 = 2) (p0 : Nat) (hp0 : xkd p0 = 1) (K : Int32 → xMem → Option (xMem)) (hK : ∀ (v1 : Int32) (M : xMem), K v1 M = some M' → WW X 36 [some (vr X.1 p0), some (.int v1)] [] M) : ∀ (n : Nat) (v1 : Int32) (M : xMem), fX1_clear_l14 p0 K n v1 M = some M' → WW X 14 [some (vr X.1 p0), some (.int v1)] [] M := by
  have hn1 : 1 < X.2.2.2.2.2.2.2.2.2.2.2.2.2 := by rw [hnL]; decide
  intro n
  induction n with
  | zero =>
    intro v1 M h
    cases (show (none : Option (xMem)) = some M' from h)
  | succ n ih =>
    intro v1 M h
    rw [fX1_clear_l14.eq_2] at h
    refine r_iload_n (pc := 14) C dX1_clear_14 rfl rfl ?_
    refine r_aload_n (pc := 15) C dX1_clear_15 rfl rfl ?_
    refine r_getR (pc := 16) C kX1_24 hp0 (by decide) dX1_clear_16 ?_
    refine r_alen (pc := 19) C (xkar (xtk hp0 (by decide) rfl rfl) (by decide)) dX1_clear_19 ?_
    refine r_icmp_ge (pc := 20) (tgt := 36) C dX1_clear_20 (by decide) h (fun _ h => ?_) (fun _ h => ?_)
    · exact hK v1 M h
    · refine r_aload_n (pc := 23) C dX1_clear_23 rfl rfl ?_
      refine r_getR (pc := 24) C kX1_24 hp0 (by decide) dX1_clear_24 ?_
      refine r_iload_n (pc := 27) C dX1_clear_27 rfl rfl ?_
      refine r_iconst (pc := 28) (v := (nI 0)) C dX1_clear_28 (by decide) ?_
      obtain ⟨g4, h⟩ := xGb_of h
      refine r_iast (pc := 29) C (xtk hp0 (by decide) rfl rfl) g4 dX1_clear_29 ?_
      refine r_letM h (fun M5 h => ?_)
      refine r_iincL (pc := 30) (c := nI 1) C dX1_clear_30 rfl (by decide) hn1 h (fun x6 h => ?_)
      refine r_lvE (lv' := [_, _]) rfl ?_
      refine r_goto (pc := 33) (tgt := 14) C dX1_clear_33 (by decide) ?_
      exact ih x6 M5 h
set_option maxRecDepth 100000 in
set_option maxHeartbeats 4000000 in
theorem lX1_clear_38 {X : xCX} {M' : xMem} (C : xCk X cX1_clear RX1 1) (R0 : xRk X none (none, M')) (hnL : X.2.2.2.2.2.2.2.2.2.2.2.2.2 = 2) (p0 : Nat) (hp0 : xkd p0 = 1) (K : Int32 → xMem → Option (xMem)) (hK : ∀ (v1 : Int32) (M : xMem), K v1 M = some M' → WW X 60 [some (vr X.1 p0), some (.int v1)] [] M) : ∀ (n : Nat) (v1 : Int32) (M : xMem), fX1_clear_l38 p0 K n v1 M = some M' → WW X 38 [some (vr X.1 p0), some (.int v1)] [] M := by
  have hn1 : 1 < X.2.2.2.2.2.2.2.2.2.2.2.2.2 := by rw [hnL]; decide
  intro n
  induction n with
  | zero =>
    intro v1 M h
    cases (show (none : Option (xMem)) = some M' from h)
  | succ n ih =>
    intro v1 M h
    rw [fX1_clear_l38.eq_2] at h
    refine r_iload_n (pc := 38) C dX1_clear_38 rfl rfl ?_
    refine r_aload_n (pc := 39) C dX1_clear_39 rfl rfl ?_
    refine r_getR (pc := 40) C kX1_27 hp0 (by decide) dX1_clear_40 ?_
    refine r_alen (pc := 43) C (xkar (xtk hp0 (by decide) rfl rfl) (by decide)) dX1_clear_43 ?_
    refine r_icmp_ge (pc := 44) (tgt := 60) C dX1_clear_44 (by decide) h (fun _ h => ?_) (fun _ h => ?_)
    · exact hK v1 M h
    · refine r_aload_n (pc := 47) C dX1_clear_47 rfl rfl ?_
      refine r_getR (pc := 48) C kX1_27 hp0 (by decide) dX1_clear_48 ?_
      refine r_iload_n (pc := 51) C dX1_clear_51 rfl rfl ?_
      refine r_iconst (pc := 52) (v := (nI 0)) C dX1_clear_52 (by decide) ?_
      obtain ⟨g9, h⟩ := xGb_of h
      refine r_iast (pc := 53) C (xtk hp0 (by decide) rfl rfl) g9 dX1_clear_53 ?_
      refine r_letM h (fun M10 h => ?_)
      refine r_iincL (pc := 54) (c := nI 1) C dX1_clear_54 rfl (by decide) hn1 h (fun x11 h => ?_)
      refine r_lvE (lv' := [_, _]) rfl ?_
      refine r_goto (pc := 57) (tgt := 38) C dX1_clear_57 (by decide) ?_
      exact ih x11 M10 h
set_option maxRecDepth 100000 in
set_option maxHeartbeats 4000000 in
theorem zX1_clear (G : xGX) (a0 : Nat) (h0 : xkd a0 = 1) (M : xMem) (M' : xMem) (h : fX1_clear a0 M = some M') : xCt G yX1_clear cX1_clear 2 none 1 [vr G a0] M (none, M') := by
  refine xMet (lv := [some (vr G a0), none]) (by decide) (Nat.le_of_ble_eq_true rfl) rfl ?_
  intro X hG hnL C R0
  subst hG
  have C : xCk X cX1_clear RX1 1 := C
  have hn1 : 1 < X.2.2.2.2.2.2.2.2.2.2.2.2.2 := by rw [hnL]; decide
  unfold fX1_clear at h
  refine r_aload_n (pc := 0) C dX1_clear_0 rfl rfl ?_
  refine r_iconst (pc := 1) (v := (nI 0)) C dX1_clear_1 (by decide) ?_
  refine r_putI (pc := 2) C kX1_30 h0 dX1_clear_2 ?_
  refine r_letM h (fun M1 h => ?_)
  refine r_aload_n (pc := 5) C dX1_clear_5 rfl rfl ?_
  refine r_getR (pc := 6) C kX1_20 h0 (by decide) dX1_clear_6 ?_
  refine r_iconst (pc := 9) (v := (nI 0)) C dX1_clear_9 (by decide) ?_
  refine r_iconst (pc := 10) (v := (nI 0)) C dX1_clear_10 (by decide) ?_
  obtain ⟨g2, h⟩ := xGb_of h
  refine r_iast (pc := 11) C (xtk h0 (by decide) rfl rfl) g2 dX1_clear_11 ?_
  refine r_letM h (fun M3 h => ?_)
  refine r_iconst (pc := 12) (v := (nI 0)) C dX1_clear_12 (by decide) ?_
  refine r_istore_n (pc := 13) (lv' := [_, _]) C dX1_clear_13 rfl hn1 rfl ?_
  refine lX1_clear_14 C R0 hnL a0 h0 _ (fun v7 M8 h => ?_) _ _ _ h
  refine r_iconst (pc := 36) (v := (nI 0)) C dX1_clear_36 (by decide) ?_
  refine r_istore_n (pc := 37) (lv' := [_, _]) C dX1_clear_37 rfl hn1 rfl ?_
  refine lX1_clear_38 C R0 hnL a0 h0 _ (fun v12 M13 h => ?_) _ _ _ h
  exact r_vret (pc := 60) C R0 h dX1_clear_60
theorem dX1_setOf_0 : decode cX1_setOf 0 = .ok (.aload_n 0, 1) := by decide +kernel
theorem dX1_setOf_1 : decode cX1_setOf 1 = .ok (.getfield 44, 3) := by decide +kernel
theorem dX1_setOf_4 : decode cX1_setOf 4 = .ok (.iconst 1, 1) := by decide +kernel
theorem dX1_setOf_5 : decode cX1_setOf 5 = .ok (.if_icmp .ne 8, 3) := by decide +kernel
theorem dX1_setOf_8 : decode cX1_setOf 8 = .ok (.aload_n 0, 1) := by decide +kernel
theorem dX1_setOf_9 : decode cX1_setOf 9 = .ok (.invokevirtual 102, 3) := by decide +kernel
theorem dX1_setOf_12 : decode cX1_setOf 12 = .ok (.ireturn, 1) := by decide +kernel
theorem dX1_setOf_13 : decode cX1_setOf 13 = .ok (.aload_n 0, 1) := by decide +kernel
theorem dX1_setOf_14 : decode cX1_setOf 14 = .ok (.getfield 44, 3) := by decide +kernel
theorem dX1_setOf_17 : decode cX1_setOf 17 = .ok (.iconst 3, 1) := by decide +kernel
theorem dX1_setOf_18 : decode cX1_setOf 18 = .ok (.if_icmp .ne 10, 3) := by decide +kernel
theorem dX1_setOf_21 : decode cX1_setOf 21 = .ok (.aload_n 0, 1) := by decide +kernel
theorem dX1_setOf_22 : decode cX1_setOf 22 = .ok (.getfield 106, 3) := by decide +kernel
theorem dX1_setOf_25 : decode cX1_setOf 25 = .ok (.goto 4, 3) := by decide +kernel
theorem dX1_setOf_28 : decode cX1_setOf 28 = .ok (.iconst (-1), 1) := by decide +kernel
theorem dX1_setOf_29 : decode cX1_setOf 29 = .ok (.ireturn, 1) := by decide +kernel
def fX1_setOf (a0 : Nat) (M : xMem) : Option (Int32 × xMem) :=
  if (M.1 a0 1) = (nI 1) then (xBn (fX4_touchedMask a0 M) fun r1 M2 => some (r1, M2)) else (if (M.1 a0 1) = (nI 3) then (some ((M.1 a0 2), M)) else (some ((-1), M)))
set_option maxRecDepth 100000 in
set_option maxHeartbeats 4000000 in
theorem zX1_setOf (G : xGX) (a0 : Nat) (h0 : xkd a0 = 4) (M : xMem) (r : Int32) (M' : xMem) (h : fX1_setOf a0 M = some (r, M')) : xCt G yX1_setOf cX1_setOf 1 (some .int) 2 [vr G a0] M (some (.int r), M') := by
  refine xMet (lv := [some (vr G a0)]) (by decide) (Nat.le_of_ble_eq_true rfl) rfl ?_
  intro X hG hnL C R0
  subst hG
  have C : xCk X cX1_setOf RX1 2 := C
  unfold fX1_setOf at h
  refine r_aload_n (pc := 0) C dX1_setOf_0 rfl rfl ?_
  refine r_getI (pc := 1) C kX1_44 h0 dX1_setOf_1 ?_
  refine r_iconst (pc := 4) (v := (nI 1)) C dX1_setOf_4 (by decide) ?_
  refine r_icmp_ne (pc := 5) (tgt := 13) C dX1_setOf_5 (by decide) h (fun _ h => ?_) (fun _ h => ?_)
  · refine r_aload_n (pc := 13) C dX1_setOf_13 rfl rfl ?_
    refine r_getI (pc := 14) C kX1_44 h0 dX1_setOf_14 ?_
    refine r_iconst (pc := 17) (v := (nI 3)) C dX1_setOf_17 (by decide) ?_
    refine r_icmp_ne (pc := 18) (tgt := 28) C dX1_setOf_18 (by decide) h (fun _ h => ?_) (fun _ h => ?_)
    · refine r_iconst (pc := 28) (v := (-1)) C dX1_setOf_28 (by decide) ?_
      exact r_iret (pc := 29) C R0 h dX1_setOf_29
    · refine r_aload_n (pc := 21) C dX1_setOf_21 rfl rfl ?_
      refine r_getI (pc := 22) C kX1_106 h0 dX1_setOf_22 ?_
      refine r_goto (pc := 25) (tgt := 29) C dX1_setOf_25 (by decide) ?_
      exact r_iret (pc := 29) C R0 h dX1_setOf_29
  · refine r_aload_n (pc := 8) C dX1_setOf_8 rfl rfl ?_
    refine r_vI0 (pc := 9) C (fun r M' e => zX4_touchedMask X.1 a0 h0 M r M' e) h0 (by decide) rfl mX4_touchedMask lX1_102 (by decide) (Nat.le_of_ble_eq_true rfl) dX1_setOf_9 h (fun r1 M2 h => ?_)
    exact r_iret (pc := 12) C R0 h dX1_setOf_12
theorem dX1_setLead_0 : decode cX1_setLead 0 = .ok (.aload_n 0, 1) := by decide +kernel
theorem dX1_setLead_1 : decode cX1_setLead 1 = .ok (.getfield 20, 3) := by decide +kernel
theorem dX1_setLead_4 : decode cX1_setLead 4 = .ok (.aload_n 0, 1) := by decide +kernel
theorem dX1_setLead_5 : decode cX1_setLead 5 = .ok (.getfield 30, 3) := by decide +kernel
theorem dX1_setLead_8 : decode cX1_setLead 8 = .ok (.aload_n 1, 1) := by decide +kernel
theorem dX1_setLead_9 : decode cX1_setLead 9 = .ok (.iconst 0, 1) := by decide +kernel
theorem dX1_setLead_10 : decode cX1_setLead 10 = .ok (.invokevirtual 109, 3) := by decide +kernel
theorem dX1_setLead_13 : decode cX1_setLead 13 = .ok (.iastore, 1) := by decide +kernel
theorem dX1_setLead_14 : decode cX1_setLead 14 = .ok (.return_, 1) := by decide +kernel
def fX1_setLead (a0 : Nat) (a1 : Nat) (M : xMem) : Option (xMem) :=
  xBn (fX8_leadOf a1 (nI 0) M) fun r1 M2 => xGb (M.1 a0 5) (xln (xrf a0 2)) (xLt (xwI M2 (xrf a0 2) (Int32.toNatClampNeg (M.1 a0 5)) r1) fun M4 => some M4)
set_option maxRecDepth 100000 in
set_option maxHeartbeats 4000000 in
theorem zX1_setLead (G : xGX) (a0 : Nat) (h0 : xkd a0 = 1) (a1 : Nat) (h1 : xkd a1 = 8) (M : xMem) (M' : xMem) (h : fX1_setLead a0 a1 M = some M') : xCt G yX1_setLead cX1_setLead 2 none 2 [vr G a0, vr G a1] M (none, M') := by
  refine xMet (lv := [some (vr G a0), some (vr G a1)]) (by decide) (Nat.le_of_ble_eq_true rfl) rfl ?_
  intro X hG hnL C R0
  subst hG
  have C : xCk X cX1_setLead RX1 2 := C
  unfold fX1_setLead at h
  refine r_aload_n (pc := 0) C dX1_setLead_0 rfl rfl ?_
  refine r_getR (pc := 1) C kX1_20 h0 (by decide) dX1_setLead_1 ?_
  refine r_aload_n (pc := 4) C dX1_setLead_4 rfl rfl ?_
  refine r_getI (pc := 5) C kX1_30 h0 dX1_setLead_5 ?_
  refine r_aload_n (pc := 8) C dX1_setLead_8 rfl rfl ?_
  refine r_iconst (pc := 9) (v := (nI 0)) C dX1_setLead_9 (by decide) ?_
  refine r_vI1 (pc := 10) C (fun r M' e => zX8_leadOf X.1 a1 h1 (nI 0) M r M' e) h1 (by decide) rfl mX8_leadOf lX1_109 (by decide) (Nat.le_of_ble_eq_true rfl) dX1_setLead_10 h (fun r1 M2 h => ?_)
  obtain ⟨g3, h⟩ := xGb_of h
  refine r_iast (pc := 13) C (xtk h0 (by decide) rfl rfl) g3 dX1_setLead_13 ?_
  refine r_letM h (fun M4 h => ?_)
  exact r_vret (pc := 14) C R0 h dX1_setLead_14
theorem dX1_addTally_0 : decode cX1_addTally 0 = .ok (.iload_n 1, 1) := by decide +kernel
theorem dX1_addTally_1 : decode cX1_addTally 1 = .ok (.bipush 10, 2) := by decide +kernel
theorem dX1_addTally_3 : decode cX1_addTally 3 = .ok (.imul, 1) := by decide +kernel
theorem dX1_addTally_4 : decode cX1_addTally 4 = .ok (.iload_n 2, 1) := by decide +kernel
theorem dX1_addTally_5 : decode cX1_addTally 5 = .ok (.iadd, 1) := by decide +kernel
theorem dX1_addTally_6 : decode cX1_addTally 6 = .ok (.bipush 8, 2) := by decide +kernel
theorem dX1_addTally_8 : decode cX1_addTally 8 = .ok (.imul, 1) := by decide +kernel
theorem dX1_addTally_9 : decode cX1_addTally 9 = .ok (.iload_n 3, 1) := by decide +kernel
theorem dX1_addTally_10 : decode cX1_addTally 10 = .ok (.iadd, 1) := by decide +kernel
theorem dX1_addTally_11 : decode cX1_addTally 11 = .ok (.istore 5, 2) := by decide +kernel
theorem dX1_addTally_13 : decode cX1_addTally 13 = .ok (.iload 5, 2) := by decide +kernel
theorem dX1_addTally_15 : decode cX1_addTally 15 = .ok (.ifCond .lt 25, 3) := by decide +kernel
theorem dX1_addTally_18 : decode cX1_addTally 18 = .ok (.iload 5, 2) := by decide +kernel
theorem dX1_addTally_20 : decode cX1_addTally 20 = .ok (.aload_n 0, 1) := by decide +kernel
theorem dX1_addTally_21 : decode cX1_addTally 21 = .ok (.getfield 24, 3) := by decide +kernel
theorem dX1_addTally_24 : decode cX1_addTally 24 = .ok (.arraylength, 1) := by decide +kernel
theorem dX1_addTally_25 : decode cX1_addTally 25 = .ok (.if_icmp .ge 15, 3) := by decide +kernel
theorem dX1_addTally_28 : decode cX1_addTally 28 = .ok (.aload_n 0, 1) := by decide +kernel
theorem dX1_addTally_29 : decode cX1_addTally 29 = .ok (.getfield 24, 3) := by decide +kernel
theorem dX1_addTally_32 : decode cX1_addTally 32 = .ok (.iload 5, 2) := by decide +kernel
theorem dX1_addTally_34 : decode cX1_addTally 34 = .ok (.dup2, 1) := by decide +kernel
theorem dX1_addTally_35 : decode cX1_addTally 35 = .ok (.iaload, 1) := by decide +kernel
theorem dX1_addTally_36 : decode cX1_addTally 36 = .ok (.iload 4, 2) := by decide +kernel
theorem dX1_addTally_38 : decode cX1_addTally 38 = .ok (.iadd, 1) := by decide +kernel
theorem dX1_addTally_39 : decode cX1_addTally 39 = .ok (.iastore, 1) := by decide +kernel
theorem dX1_addTally_40 : decode cX1_addTally 40 = .ok (.return_, 1) := by decide +kernel
def fX1_addTally (a0 : Nat) (a1 : Int32) (a2 : Int32) (a3 : Int32) (a4 : Int32) (M : xMem) : Option (xMem) :=
  xLt ((((a1 * (nI 10)) + a2) * (nI 8)) + a3) fun x1 => if x1 < 0 then (some M) else (if (nI (xln (xrf a0 3))) ≤ x1 then (some M) else (xGb x1 (xln (xrf a0 3)) (xGb x1 (xln (xrf a0 3)) (xLt (xwI M (xrf a0 3) (Int32.toNatClampNeg x1) ((M.1 (xrf a0 3) (Int32.toNatClampNeg x1)) + a4)) fun M4 => some M4))))
set_option maxRecDepth 100000 in
set_option maxHeartbeats 4000000 in
theorem zX1_addTally (G : xGX) (a0 : Nat) (h0 : xkd a0 = 1) (a1 : Int32) (a2 : Int32) (a3 : Int32) (a4 : Int32) (M : xMem) (M' : xMem) (h : fX1_addTally a0 a1 a2 a3 a4 M = some M') : xCt G yX1_addTally cX1_addTally 6 none 1 [vr G a0, .int a1, .int a2, .int a3, .int a4] M (none, M') := by
  refine xMet (lv := [some (vr G a0), some (.int a1), some (.int a2), some (.int a3), some (.int a4), none]) (by decide) (Nat.le_of_ble_eq_true rfl) rfl ?_
  intro X hG hnL C R0
  subst hG
  have C : xCk X cX1_addTally RX1 1 := C
  have hn5 : 5 < X.2.2.2.2.2.2.2.2.2.2.2.2.2 := by rw [hnL]; decide
  unfold fX1_addTally at h
  refine r_iload_n (pc := 0) C dX1_addTally_0 rfl rfl ?_
  refine r_bipush (pc := 1) (v := (nI 10)) C dX1_addTally_1 (by decide) ?_
  refine r_imul (pc := 3) C dX1_addTally_3 ?_
  refine r_iload_n (pc := 4) C dX1_addTally_4 rfl rfl ?_
  refine r_iadd (pc := 5) C dX1_addTally_5 ?_
  refine r_bipush (pc := 6) (v := (nI 8)) C dX1_addTally_6 (by decide) ?_
  refine r_imul (pc := 8) C dX1_addTally_8 ?_
  refine r_iload_n (pc := 9) C dX1_addTally_9 rfl rfl ?_
  refine r_iadd (pc := 10) C dX1_addTally_10 ?_
  refine r_letI h (fun x1 h => ?_)
  refine r_istore (pc := 11) (lv' := [_, _, _, _, _, _]) C dX1_addTally_11 hn5 rfl ?_
  refine r_iload (pc := 13) C dX1_addTally_13 rfl ?_
  refine r_if_lt (pc := 15) (tgt := 40) C dX1_addTally_15 (by decide) h (fun _ h => ?_) (fun _ h => ?_)
  · exact r_vret (pc := 40) C R0 h dX1_addTally_40
  · refine r_iload (pc := 18) C dX1_addTally_18 rfl ?_
    refine r_aload_n (pc := 20) C dX1_addTally_20 rfl rfl ?_
    refine r_getR (pc := 21) C kX1_24 h0 (by decide) dX1_addTally_21 ?_
    refine r_alen (pc := 24) C (xkar (xtk h0 (by decide) rfl rfl) (by decide)) dX1_addTally_24 ?_
    refine r_icmp_ge (pc := 25) (tgt := 40) C dX1_addTally_25 (by decide) h (fun _ h => ?_) (fun _ h => ?_)
    · exact r_vret (pc := 40) C R0 h dX1_addTally_40
    · refine r_aload_n (pc := 28) C dX1_addTally_28 rfl rfl ?_
      refine r_getR (pc := 29) C kX1_24 h0 (by decide) dX1_addTally_29 ?_
      refine r_iload (pc := 32) C dX1_addTally_32 rfl ?_
      refine r_dup2 (pc := 34) C rfl rfl dX1_addTally_34 ?_
      obtain ⟨g2, h⟩ := xGb_of h
      refine r_iald (pc := 35) C (xtk h0 (by decide) rfl rfl) g2 dX1_addTally_35 ?_
      refine r_iload (pc := 36) C dX1_addTally_36 rfl ?_
      refine r_iadd (pc := 38) C dX1_addTally_38 ?_
      obtain ⟨g3, h⟩ := xGb_of h
      refine r_iast (pc := 39) C (xtk h0 (by decide) rfl rfl) g3 dX1_addTally_39 ?_
      refine r_letM h (fun M4 h => ?_)
      exact r_vret (pc := 40) C R0 h dX1_addTally_40
theorem dX1_addPart_0 : decode cX1_addPart 0 = .ok (.iload_n 1, 1) := by decide +kernel
theorem dX1_addPart_1 : decode cX1_addPart 1 = .ok (.bipush 6, 2) := by decide +kernel
theorem dX1_addPart_3 : decode cX1_addPart 3 = .ok (.imul, 1) := by decide +kernel
theorem dX1_addPart_4 : decode cX1_addPart 4 = .ok (.iload_n 2, 1) := by decide +kernel
theorem dX1_addPart_5 : decode cX1_addPart 5 = .ok (.iadd, 1) := by decide +kernel
theorem dX1_addPart_6 : decode cX1_addPart 6 = .ok (.istore 4, 2) := by decide +kernel
theorem dX1_addPart_8 : decode cX1_addPart 8 = .ok (.iload 4, 2) := by decide +kernel
theorem dX1_addPart_10 : decode cX1_addPart 10 = .ok (.ifCond .lt 24, 3) := by decide +kernel
theorem dX1_addPart_13 : decode cX1_addPart 13 = .ok (.iload 4, 2) := by decide +kernel
theorem dX1_addPart_15 : decode cX1_addPart 15 = .ok (.aload_n 0, 1) := by decide +kernel
theorem dX1_addPart_16 : decode cX1_addPart 16 = .ok (.getfield 27, 3) := by decide +kernel
theorem dX1_addPart_19 : decode cX1_addPart 19 = .ok (.arraylength, 1) := by decide +kernel
theorem dX1_addPart_20 : decode cX1_addPart 20 = .ok (.if_icmp .ge 14, 3) := by decide +kernel
theorem dX1_addPart_23 : decode cX1_addPart 23 = .ok (.aload_n 0, 1) := by decide +kernel
theorem dX1_addPart_24 : decode cX1_addPart 24 = .ok (.getfield 27, 3) := by decide +kernel
theorem dX1_addPart_27 : decode cX1_addPart 27 = .ok (.iload 4, 2) := by decide +kernel
theorem dX1_addPart_29 : decode cX1_addPart 29 = .ok (.dup2, 1) := by decide +kernel
theorem dX1_addPart_30 : decode cX1_addPart 30 = .ok (.iaload, 1) := by decide +kernel
theorem dX1_addPart_31 : decode cX1_addPart 31 = .ok (.iload_n 3, 1) := by decide +kernel
theorem dX1_addPart_32 : decode cX1_addPart 32 = .ok (.iadd, 1) := by decide +kernel
theorem dX1_addPart_33 : decode cX1_addPart 33 = .ok (.iastore, 1) := by decide +kernel
theorem dX1_addPart_34 : decode cX1_addPart 34 = .ok (.return_, 1) := by decide +kernel
def fX1_addPart (a0 : Nat) (a1 : Int32) (a2 : Int32) (a3 : Int32) (M : xMem) : Option (xMem) :=
  xLt ((a1 * (nI 6)) + a2) fun x1 => if x1 < 0 then (some M) else (if (nI (xln (xrf a0 4))) ≤ x1 then (some M) else (xGb x1 (xln (xrf a0 4)) (xGb x1 (xln (xrf a0 4)) (xLt (xwI M (xrf a0 4) (Int32.toNatClampNeg x1) ((M.1 (xrf a0 4) (Int32.toNatClampNeg x1)) + a3)) fun M4 => some M4))))
set_option maxRecDepth 100000 in
set_option maxHeartbeats 4000000 in
theorem zX1_addPart (G : xGX) (a0 : Nat) (h0 : xkd a0 = 1) (a1 : Int32) (a2 : Int32) (a3 : Int32) (M : xMem) (M' : xMem) (h : fX1_addPart a0 a1 a2 a3 M = some M') : xCt G yX1_addPart cX1_addPart 5 none 1 [vr G a0, .int a1, .int a2, .int a3] M (none, M') := by
  refine xMet (lv := [some (vr G a0), some (.int a1), some (.int a2), some (.int a3), none]) (by decide) (Nat.le_of_ble_eq_true rfl) rfl ?_
  intro X hG hnL C R0
  subst hG
  have C : xCk X cX1_addPart RX1 1 := C
  have hn4 : 4 < X.2.2.2.2.2.2.2.2.2.2.2.2.2 := by rw [hnL]; decide
  unfold fX1_addPart at h
  refine r_iload_n (pc := 0) C dX1_addPart_0 rfl rfl ?_
  refine r_bipush (pc := 1) (v := (nI 6)) C dX1_addPart_1 (by decide) ?_
  refine r_imul (pc := 3) C dX1_addPart_3 ?_
  refine r_iload_n (pc := 4) C dX1_addPart_4 rfl rfl ?_
  refine r_iadd (pc := 5) C dX1_addPart_5 ?_
  refine r_letI h (fun x1 h => ?_)
  refine r_istore (pc := 6) (lv' := [_, _, _, _, _]) C dX1_addPart_6 hn4 rfl ?_
  refine r_iload (pc := 8) C dX1_addPart_8 rfl ?_
  refine r_if_lt (pc := 10) (tgt := 34) C dX1_addPart_10 (by decide) h (fun _ h => ?_) (fun _ h => ?_)
  · exact r_vret (pc := 34) C R0 h dX1_addPart_34
  · refine r_iload (pc := 13) C dX1_addPart_13 rfl ?_
    refine r_aload_n (pc := 15) C dX1_addPart_15 rfl rfl ?_
    refine r_getR (pc := 16) C kX1_27 h0 (by decide) dX1_addPart_16 ?_
    refine r_alen (pc := 19) C (xkar (xtk h0 (by decide) rfl rfl) (by decide)) dX1_addPart_19 ?_
    refine r_icmp_ge (pc := 20) (tgt := 34) C dX1_addPart_20 (by decide) h (fun _ h => ?_) (fun _ h => ?_)
    · exact r_vret (pc := 34) C R0 h dX1_addPart_34
    · refine r_aload_n (pc := 23) C dX1_addPart_23 rfl rfl ?_
      refine r_getR (pc := 24) C kX1_27 h0 (by decide) dX1_addPart_24 ?_
      refine r_iload (pc := 27) C dX1_addPart_27 rfl ?_
      refine r_dup2 (pc := 29) C rfl rfl dX1_addPart_29 ?_
      obtain ⟨g2, h⟩ := xGb_of h
      refine r_iald (pc := 30) C (xtk h0 (by decide) rfl rfl) g2 dX1_addPart_30 ?_
      refine r_iload_n (pc := 31) C dX1_addPart_31 rfl rfl ?_
      refine r_iadd (pc := 32) C dX1_addPart_32 ?_
      obtain ⟨g3, h⟩ := xGb_of h
      refine r_iast (pc := 33) C (xtk h0 (by decide) rfl rfl) g3 dX1_addPart_33 ?_
      refine r_letM h (fun M4 h => ?_)
      exact r_vret (pc := 34) C R0 h dX1_addPart_34
theorem dX1_bookOthers_0 : decode cX1_bookOthers 0 = .ok (.iconst 1, 1) := by decide +kernel
theorem dX1_bookOthers_1 : decode cX1_bookOthers 1 = .ok (.aload_n 0, 1) := by decide +kernel
theorem dX1_bookOthers_2 : decode cX1_bookOthers 2 = .ok (.getfield 13, 3) := by decide +kernel
theorem dX1_bookOthers_5 : decode cX1_bookOthers 5 = .ok (.iconst 0, 1) := by decide +kernel
theorem dX1_bookOthers_6 : decode cX1_bookOthers 6 = .ok (.aaload, 1) := by decide +kernel
theorem dX1_bookOthers_7 : decode cX1_bookOthers 7 = .ok (.iload_n 1, 1) := by decide +kernel
theorem dX1_bookOthers_8 : decode cX1_bookOthers 8 = .ok (.iaload, 1) := by decide +kernel
theorem dX1_bookOthers_9 : decode cX1_bookOthers 9 = .ok (.isub, 1) := by decide +kernel
theorem dX1_bookOthers_10 : decode cX1_bookOthers 10 = .ok (.istore_n 3, 1) := by decide +kernel
theorem dX1_bookOthers_11 : decode cX1_bookOthers 11 = .ok (.aload_n 0, 1) := by decide +kernel
theorem dX1_bookOthers_12 : decode cX1_bookOthers 12 = .ok (.getfield 13, 3) := by decide +kernel
theorem dX1_bookOthers_15 : decode cX1_bookOthers 15 = .ok (.iconst 5, 1) := by decide +kernel
theorem dX1_bookOthers_16 : decode cX1_bookOthers 16 = .ok (.aaload, 1) := by decide +kernel
theorem dX1_bookOthers_17 : decode cX1_bookOthers 17 = .ok (.iload_n 1, 1) := by decide +kernel
theorem dX1_bookOthers_18 : decode cX1_bookOthers 18 = .ok (.iaload, 1) := by decide +kernel
theorem dX1_bookOthers_19 : decode cX1_bookOthers 19 = .ok (.istore 4, 2) := by decide +kernel
theorem dX1_bookOthers_21 : decode cX1_bookOthers 21 = .ok (.aload_n 0, 1) := by decide +kernel
theorem dX1_bookOthers_22 : decode cX1_bookOthers 22 = .ok (.getfield 13, 3) := by decide +kernel
theorem dX1_bookOthers_25 : decode cX1_bookOthers 25 = .ok (.iconst 2, 1) := by decide +kernel
theorem dX1_bookOthers_26 : decode cX1_bookOthers 26 = .ok (.aaload, 1) := by decide +kernel
theorem dX1_bookOthers_27 : decode cX1_bookOthers 27 = .ok (.iload_n 1, 1) := by decide +kernel
theorem dX1_bookOthers_28 : decode cX1_bookOthers 28 = .ok (.iaload, 1) := by decide +kernel
theorem dX1_bookOthers_29 : decode cX1_bookOthers 29 = .ok (.iconst 3, 1) := by decide +kernel
theorem dX1_bookOthers_30 : decode cX1_bookOthers 30 = .ok (.if_icmp .ne 57, 3) := by decide +kernel
theorem dX1_bookOthers_33 : decode cX1_bookOthers 33 = .ok (.aload_n 0, 1) := by decide +kernel
theorem dX1_bookOthers_34 : decode cX1_bookOthers 34 = .ok (.getfield 13, 3) := by decide +kernel
theorem dX1_bookOthers_37 : decode cX1_bookOthers 37 = .ok (.bipush 15, 2) := by decide +kernel
theorem dX1_bookOthers_39 : decode cX1_bookOthers 39 = .ok (.aaload, 1) := by decide +kernel
theorem dX1_bookOthers_40 : decode cX1_bookOthers 40 = .ok (.iload_n 1, 1) := by decide +kernel
theorem dX1_bookOthers_41 : decode cX1_bookOthers 41 = .ok (.iaload, 1) := by decide +kernel
theorem dX1_bookOthers_42 : decode cX1_bookOthers 42 = .ok (.istore 5, 2) := by decide +kernel
theorem dX1_bookOthers_44 : decode cX1_bookOthers 44 = .ok (.aload_n 0, 1) := by decide +kernel
theorem dX1_bookOthers_45 : decode cX1_bookOthers 45 = .ok (.iload_n 3, 1) := by decide +kernel
theorem dX1_bookOthers_46 : decode cX1_bookOthers 46 = .ok (.iload 4, 2) := by decide +kernel
theorem dX1_bookOthers_48 : decode cX1_bookOthers 48 = .ok (.iconst 3, 1) := by decide +kernel
theorem dX1_bookOthers_49 : decode cX1_bookOthers 49 = .ok (.iload_n 2, 1) := by decide +kernel
theorem dX1_bookOthers_50 : decode cX1_bookOthers 50 = .ok (.invokevirtual 116, 3) := by decide +kernel
theorem dX1_bookOthers_53 : decode cX1_bookOthers 53 = .ok (.aload_n 0, 1) := by decide +kernel
theorem dX1_bookOthers_54 : decode cX1_bookOthers 54 = .ok (.iload_n 3, 1) := by decide +kernel
theorem dX1_bookOthers_55 : decode cX1_bookOthers 55 = .ok (.iload 4, 2) := by decide +kernel
theorem dX1_bookOthers_57 : decode cX1_bookOthers 57 = .ok (.iconst 4, 1) := by decide +kernel
theorem dX1_bookOthers_58 : decode cX1_bookOthers 58 = .ok (.iload_n 2, 1) := by decide +kernel
theorem dX1_bookOthers_59 : decode cX1_bookOthers 59 = .ok (.iconst 1, 1) := by decide +kernel
theorem dX1_bookOthers_60 : decode cX1_bookOthers 60 = .ok (.iload 5, 2) := by decide +kernel
theorem dX1_bookOthers_62 : decode cX1_bookOthers 62 = .ok (.iadd, 1) := by decide +kernel
theorem dX1_bookOthers_63 : decode cX1_bookOthers 63 = .ok (.imul, 1) := by decide +kernel
theorem dX1_bookOthers_64 : decode cX1_bookOthers 64 = .ok (.invokevirtual 116, 3) := by decide +kernel
theorem dX1_bookOthers_67 : decode cX1_bookOthers 67 = .ok (.aload_n 0, 1) := by decide +kernel
theorem dX1_bookOthers_68 : decode cX1_bookOthers 68 = .ok (.iload_n 3, 1) := by decide +kernel
theorem dX1_bookOthers_69 : decode cX1_bookOthers 69 = .ok (.iconst 2, 1) := by decide +kernel
theorem dX1_bookOthers_70 : decode cX1_bookOthers 70 = .ok (.iload_n 2, 1) := by decide +kernel
theorem dX1_bookOthers_71 : decode cX1_bookOthers 71 = .ok (.invokevirtual 112, 3) := by decide +kernel
theorem dX1_bookOthers_74 : decode cX1_bookOthers 74 = .ok (.aload_n 0, 1) := by decide +kernel
theorem dX1_bookOthers_75 : decode cX1_bookOthers 75 = .ok (.iload_n 3, 1) := by decide +kernel
theorem dX1_bookOthers_76 : decode cX1_bookOthers 76 = .ok (.iconst 3, 1) := by decide +kernel
theorem dX1_bookOthers_77 : decode cX1_bookOthers 77 = .ok (.iload_n 2, 1) := by decide +kernel
theorem dX1_bookOthers_78 : decode cX1_bookOthers 78 = .ok (.iload 5, 2) := by decide +kernel
theorem dX1_bookOthers_80 : decode cX1_bookOthers 80 = .ok (.imul, 1) := by decide +kernel
theorem dX1_bookOthers_81 : decode cX1_bookOthers 81 = .ok (.invokevirtual 112, 3) := by decide +kernel
theorem dX1_bookOthers_84 : decode cX1_bookOthers 84 = .ok (.goto 20, 3) := by decide +kernel
theorem dX1_bookOthers_87 : decode cX1_bookOthers 87 = .ok (.aload_n 0, 1) := by decide +kernel
theorem dX1_bookOthers_88 : decode cX1_bookOthers 88 = .ok (.iload_n 3, 1) := by decide +kernel
theorem dX1_bookOthers_89 : decode cX1_bookOthers 89 = .ok (.iconst 5, 1) := by decide +kernel
theorem dX1_bookOthers_90 : decode cX1_bookOthers 90 = .ok (.iload_n 2, 1) := by decide +kernel
theorem dX1_bookOthers_91 : decode cX1_bookOthers 91 = .ok (.aload_n 0, 1) := by decide +kernel
theorem dX1_bookOthers_92 : decode cX1_bookOthers 92 = .ok (.getfield 13, 3) := by decide +kernel
theorem dX1_bookOthers_95 : decode cX1_bookOthers 95 = .ok (.bipush 14, 2) := by decide +kernel
theorem dX1_bookOthers_97 : decode cX1_bookOthers 97 = .ok (.aaload, 1) := by decide +kernel
theorem dX1_bookOthers_98 : decode cX1_bookOthers 98 = .ok (.iload_n 1, 1) := by decide +kernel
theorem dX1_bookOthers_99 : decode cX1_bookOthers 99 = .ok (.iaload, 1) := by decide +kernel
theorem dX1_bookOthers_100 : decode cX1_bookOthers 100 = .ok (.imul, 1) := by decide +kernel
theorem dX1_bookOthers_101 : decode cX1_bookOthers 101 = .ok (.invokevirtual 112, 3) := by decide +kernel
theorem dX1_bookOthers_104 : decode cX1_bookOthers 104 = .ok (.iconst 0, 1) := by decide +kernel
theorem dX1_bookOthers_105 : decode cX1_bookOthers 105 = .ok (.istore 5, 2) := by decide +kernel
theorem dX1_bookOthers_107 : decode cX1_bookOthers 107 = .ok (.iload 5, 2) := by decide +kernel
theorem dX1_bookOthers_109 : decode cX1_bookOthers 109 = .ok (.bipush 10, 2) := by decide +kernel
theorem dX1_bookOthers_111 : decode cX1_bookOthers 111 = .ok (.if_icmp .ge 38, 3) := by decide +kernel
theorem dX1_bookOthers_114 : decode cX1_bookOthers 114 = .ok (.aload_n 0, 1) := by decide +kernel
theorem dX1_bookOthers_115 : decode cX1_bookOthers 115 = .ok (.getfield 13, 3) := by decide +kernel
theorem dX1_bookOthers_118 : decode cX1_bookOthers 118 = .ok (.iconst 2, 1) := by decide +kernel
theorem dX1_bookOthers_119 : decode cX1_bookOthers 119 = .ok (.aaload, 1) := by decide +kernel
theorem dX1_bookOthers_120 : decode cX1_bookOthers 120 = .ok (.iload_n 1, 1) := by decide +kernel
theorem dX1_bookOthers_121 : decode cX1_bookOthers 121 = .ok (.iaload, 1) := by decide +kernel
theorem dX1_bookOthers_122 : decode cX1_bookOthers 122 = .ok (.iconst 1, 1) := by decide +kernel
theorem dX1_bookOthers_123 : decode cX1_bookOthers 123 = .ok (.if_icmp .ne 26, 3) := by decide +kernel
theorem dX1_bookOthers_126 : decode cX1_bookOthers 126 = .ok (.aload_n 0, 1) := by decide +kernel
theorem dX1_bookOthers_127 : decode cX1_bookOthers 127 = .ok (.iload_n 3, 1) := by decide +kernel
theorem dX1_bookOthers_128 : decode cX1_bookOthers 128 = .ok (.iload 5, 2) := by decide +kernel
theorem dX1_bookOthers_130 : decode cX1_bookOthers 130 = .ok (.iconst 5, 1) := by decide +kernel
theorem dX1_bookOthers_131 : decode cX1_bookOthers 131 = .ok (.iload_n 2, 1) := by decide +kernel
theorem dX1_bookOthers_132 : decode cX1_bookOthers 132 = .ok (.iload 4, 2) := by decide +kernel
theorem dX1_bookOthers_134 : decode cX1_bookOthers 134 = .ok (.iload 5, 2) := by decide +kernel
theorem dX1_bookOthers_136 : decode cX1_bookOthers 136 = .ok (.ishr, 1) := by decide +kernel
theorem dX1_bookOthers_137 : decode cX1_bookOthers 137 = .ok (.iconst 1, 1) := by decide +kernel
theorem dX1_bookOthers_138 : decode cX1_bookOthers 138 = .ok (.iand, 1) := by decide +kernel
theorem dX1_bookOthers_139 : decode cX1_bookOthers 139 = .ok (.imul, 1) := by decide +kernel
theorem dX1_bookOthers_140 : decode cX1_bookOthers 140 = .ok (.invokevirtual 116, 3) := by decide +kernel
theorem dX1_bookOthers_143 : decode cX1_bookOthers 143 = .ok (.iinc 5 1, 3) := by decide +kernel
theorem dX1_bookOthers_146 : decode cX1_bookOthers 146 = .ok (.goto (-39), 3) := by decide +kernel
theorem dX1_bookOthers_149 : decode cX1_bookOthers 149 = .ok (.return_, 1) := by decide +kernel
def fX1_bookOthers_l107 (p0 : Nat) (p1 : Int32) (p2 : Int32) (p3 : Int32) (p4 : Int32) (K : Int32 → xMem → Option (xMem)) : Nat → Int32 → xMem → Option (xMem)
  | 0, _, _ => none
  | n + 1, v5, M => if (nI 10) ≤ v5 then (K v5 M) else (xGb (nI 2) (xln (xrf p0 0)) (xGb p1 (xln (xrf (xrf p0 0) (Int32.toNatClampNeg (nI 2)))) (if (M.1 (xrf (xrf p0 0) (Int32.toNatClampNeg (nI 2))) (Int32.toNatClampNeg p1)) = (nI 1) then (xBv (fX1_addTally p0 p3 v5 (nI 5) (p2 * ((p4 >>> (v5 &&& 31)) &&& (nI 1))) M) fun M12 => xLt (v5 + nI 1) fun x13 => fX1_bookOthers_l107 p0 p1 p2 p3 p4 K n x13 M12) else (K v5 M))))
def fX1_bookOthers (a0 : Nat) (a1 : Int32) (a2 : Int32) (M : xMem) : Option (xMem) :=
  xGb (nI 0) (xln (xrf a0 0)) (xGb a1 (xln (xrf (xrf a0 0) (Int32.toNatClampNeg (nI 0)))) (xLt ((nI 1) - (M.1 (xrf (xrf a0 0) (Int32.toNatClampNeg (nI 0))) (Int32.toNatClampNeg a1))) fun x3 => xGb (nI 5) (xln (xrf a0 0)) (xGb a1 (xln (xrf (xrf a0 0) (Int32.toNatClampNeg (nI 5)))) (xLt (M.1 (xrf (xrf a0 0) (Int32.toNatClampNeg (nI 5))) (Int32.toNatClampNeg a1)) fun x6 => xGb (nI 2) (xln (xrf a0 0)) (xGb a1 (xln (xrf (xrf a0 0) (Int32.toNatClampNeg (nI 2)))) (xLt (fun  (M9 : xMem) => (fX1_bookOthers_l107 a0 a1 a2 x3 x6 (fun (v14 : Int32) (M15 : xMem) => some M15) xFU (nI 0) M9 : Option (xMem))) fun J104 => if (M.1 (xrf (xrf a0 0) (Int32.toNatClampNeg (nI 2))) (Int32.toNatClampNeg a1)) = (nI 3) then (xGb (nI 15) (xln (xrf a0 0)) (xGb a1 (xln (xrf (xrf a0 0) (Int32.toNatClampNeg (nI 15)))) (xLt (M.1 (xrf (xrf a0 0) (Int32.toNatClampNeg (nI 15))) (Int32.toNatClampNeg a1)) fun x21 => xBv (fX1_addTally a0 x3 x6 (nI 3) a2 M) fun M22 => xBv (fX1_addTally a0 x3 x6 (nI 4) (a2 * ((nI 1) + x21)) M22) fun M23 => xBv (fX1_addPart a0 x3 (nI 2) a2 M23) fun M24 => xBv (fX1_addPart a0 x3 (nI 3) (a2 * x21) M24) fun M25 => J104  M25))) else (xGb (nI 14) (xln (xrf a0 0)) (xGb a1 (xln (xrf (xrf a0 0) (Int32.toNatClampNeg (nI 14)))) (xBv (fX1_addPart a0 x3 (nI 5) (a2 * (M.1 (xrf (xrf a0 0) (Int32.toNatClampNeg (nI 14))) (Int32.toNatClampNeg a1))) M) fun M18 => J104  M18)))))))))
set_option maxRecDepth 100000 in
set_option maxHeartbeats 4000000 in
theorem lX1_bookOthers_107 {X : xCX} {M' : xMem} (C : xCk X cX1_bookOthers RX1 2) (R0 : xRk X none (none, M')) (hnL : X.2.2.2.2.2.2.2.2.2.2.2.2.2 = 6) (p0 : Nat) (hp0 : xkd p0 = 1) (p1 : Int32) (p2 : Int32) (p3 : Int32) (p4 : Int32) (K : Int32 → xMem → Option (xMem)) (hK : ∀ (v5 : Int32) (M : xMem), K v5 M = some M' → WW X 149 [some (vr X.1 p0), some (.int p1), some (.int p2), some (.int p3), some (.int p4), some (.int v5)] [] M) : ∀ (n : Nat) (v5 : Int32) (M : xMem), fX1_bookOthers_l107 p0 p1 p2 p3 p4 K n v5 M = some M' → WW X 107 [some (vr X.1 p0), some (.int p1), some (.int p2), some (.int p3), some (.int p4), some (.int v5)] [] M := by
  have hn3 : 3 < X.2.2.2.2.2.2.2.2.2.2.2.2.2 := by rw [hnL]; decide
  have hn4 : 4 < X.2.2.2.2.2.2.2.2.2.2.2.2.2 := by rw [hnL]; decide
  have hn5 : 5 < X.2.2.2.2.2.2.2.2.2.2.2.2.2 := by rw [hnL]; decide
  intro n
  induction n with
  | zero =>
    intro v5 M h
    cases (show (none : Option (xMem)) = some M' from h)
  | succ n ih =>
    intro v5 M h
    rw [fX1_bookOthers_l107.eq_2] at h
    refine r_iload (pc := 107) C dX1_bookOthers_107 rfl ?_
    refine r_bipush (pc := 109) (v := (nI 10)) C dX1_bookOthers_109 (by decide) ?_
    refine r_icmp_ge (pc := 111) (tgt := 149) C dX1_bookOthers_111 (by decide) h (fun _ h => ?_) (fun _ h => ?_)
    · exact hK v5 M h
    · refine r_aload_n (pc := 114) C dX1_bookOthers_114 rfl rfl ?_
      refine r_getR (pc := 115) C kX1_13 hp0 (by decide) dX1_bookOthers_115 ?_
      refine r_iconst (pc := 118) (v := (nI 2)) C dX1_bookOthers_118 (by decide) ?_
      obtain ⟨g10, h⟩ := xGb_of h
      refine r_aaldI (pc := 119) C (xtk hp0 (by decide) rfl rfl) g10 dX1_bookOthers_119 ?_
      refine r_iload_n (pc := 120) C dX1_bookOthers_120 rfl rfl ?_
      obtain ⟨g11, h⟩ := xGb_of h
      refine r_iald (pc := 121) C (xkeI (xtk hp0 (by decide) rfl rfl) (xin_lt g10)) g11 dX1_bookOthers_121 ?_
      refine r_iconst (pc := 122) (v := (nI 1)) C dX1_bookOthers_122 (by decide) ?_
      refine r_icmp_ne (pc := 123) (tgt := 149) C dX1_bookOthers_123 (by decide) h (fun _ h => ?_) (fun _ h => ?_)
      · exact hK v5 M h
      · refine r_aload_n (pc := 126) C dX1_bookOthers_126 rfl rfl ?_
        refine r_iload_n (pc := 127) C dX1_bookOthers_127 rfl rfl ?_
        refine r_iload (pc := 128) C dX1_bookOthers_128 rfl ?_
        refine r_iconst (pc := 130) (v := (nI 5)) C dX1_bookOthers_130 (by decide) ?_
        refine r_iload_n (pc := 131) C dX1_bookOthers_131 rfl rfl ?_
        refine r_iload (pc := 132) C dX1_bookOthers_132 rfl ?_
        refine r_iload (pc := 134) C dX1_bookOthers_134 rfl ?_
        refine r_ishr (pc := 136) C dX1_bookOthers_136 ?_
        refine r_iconst (pc := 137) (v := (nI 1)) C dX1_bookOthers_137 (by decide) ?_
        refine r_iand (pc := 138) C dX1_bookOthers_138 ?_
        refine r_imul (pc := 139) C dX1_bookOthers_139 ?_
        refine r_vV4 (pc := 140) C (fun M' e => zX1_addTally X.1 p0 hp0 p3 v5 (nI 5) (p2 * ((p4 >>> (v5 &&& 31)) &&& (nI 1))) M M' e) hp0 (by decide) rfl mX1_addTally lX1_116 (by decide) (Nat.le_of_ble_eq_true rfl) dX1_bookOthers_140 h (fun M12 h => ?_)
        refine r_iincL (pc := 143) (c := nI 1) C dX1_bookOthers_143 rfl (by decide) hn5 h (fun x13 h => ?_)
        refine r_lvE (lv' := [_, _, _, _, _, _]) rfl ?_
        refine r_goto (pc := 146) (tgt := 107) C dX1_bookOthers_146 (by decide) ?_
        exact ih x13 M12 h
set_option maxRecDepth 100000 in
set_option maxHeartbeats 4000000 in
theorem zX1_bookOthers (G : xGX) (a0 : Nat) (h0 : xkd a0 = 1) (a1 : Int32) (a2 : Int32) (M : xMem) (M' : xMem) (h : fX1_bookOthers a0 a1 a2 M = some M') : xCt G yX1_bookOthers cX1_bookOthers 6 none 2 [vr G a0, .int a1, .int a2] M (none, M') := by
  refine xMet (lv := [some (vr G a0), some (.int a1), some (.int a2), none, none, none]) (by decide) (Nat.le_of_ble_eq_true rfl) rfl ?_
  intro X hG hnL C R0
  subst hG
  have C : xCk X cX1_bookOthers RX1 2 := C
  have hn3 : 3 < X.2.2.2.2.2.2.2.2.2.2.2.2.2 := by rw [hnL]; decide
  have hn4 : 4 < X.2.2.2.2.2.2.2.2.2.2.2.2.2 := by rw [hnL]; decide
  have hn5 : 5 < X.2.2.2.2.2.2.2.2.2.2.2.2.2 := by rw [hnL]; decide
  unfold fX1_bookOthers at h
  refine r_iconst (pc := 0) (v := (nI 1)) C dX1_bookOthers_0 (by decide) ?_
  refine r_aload_n (pc := 1) C dX1_bookOthers_1 rfl rfl ?_
  refine r_getR (pc := 2) C kX1_13 h0 (by decide) dX1_bookOthers_2 ?_
  refine r_iconst (pc := 5) (v := (nI 0)) C dX1_bookOthers_5 (by decide) ?_
  obtain ⟨g1, h⟩ := xGb_of h
  refine r_aaldI (pc := 6) C (xtk h0 (by decide) rfl rfl) g1 dX1_bookOthers_6 ?_
  refine r_iload_n (pc := 7) C dX1_bookOthers_7 rfl rfl ?_
  obtain ⟨g2, h⟩ := xGb_of h
  refine r_iald (pc := 8) C (xkeI (xtk h0 (by decide) rfl rfl) (xin_lt g1)) g2 dX1_bookOthers_8 ?_
  refine r_isub (pc := 9) C dX1_bookOthers_9 ?_
  refine r_letI h (fun x3 h => ?_)
  refine r_istore_n (pc := 10) (lv' := [_, _, _, _, _, _]) C dX1_bookOthers_10 rfl hn3 rfl ?_
  refine r_aload_n (pc := 11) C dX1_bookOthers_11 rfl rfl ?_
  refine r_getR (pc := 12) C kX1_13 h0 (by decide) dX1_bookOthers_12 ?_
  refine r_iconst (pc := 15) (v := (nI 5)) C dX1_bookOthers_15 (by decide) ?_
  obtain ⟨g4, h⟩ := xGb_of h
  refine r_aaldI (pc := 16) C (xtk h0 (by decide) rfl rfl) g4 dX1_bookOthers_16 ?_
  refine r_iload_n (pc := 17) C dX1_bookOthers_17 rfl rfl ?_
  obtain ⟨g5, h⟩ := xGb_of h
  refine r_iald (pc := 18) C (xkeI (xtk h0 (by decide) rfl rfl) (xin_lt g4)) g5 dX1_bookOthers_18 ?_
  refine r_letI h (fun x6 h => ?_)
  refine r_istore (pc := 19) (lv' := [_, _, _, _, _, _]) C dX1_bookOthers_19 hn4 rfl ?_
  refine r_aload_n (pc := 21) C dX1_bookOthers_21 rfl rfl ?_
  refine r_getR (pc := 22) C kX1_13 h0 (by decide) dX1_bookOthers_22 ?_
  refine r_iconst (pc := 25) (v := (nI 2)) C dX1_bookOthers_25 (by decide) ?_
  obtain ⟨g7, h⟩ := xGb_of h
  refine r_aaldI (pc := 26) C (xtk h0 (by decide) rfl rfl) g7 dX1_bookOthers_26 ?_
  refine r_iload_n (pc := 27) C dX1_bookOthers_27 rfl rfl ?_
  obtain ⟨g8, h⟩ := xGb_of h
  refine r_iald (pc := 28) C (xkeI (xtk h0 (by decide) rfl rfl) (xin_lt g7)) g8 dX1_bookOthers_28 ?_
  refine r_iconst (pc := 29) (v := (nI 3)) C dX1_bookOthers_29 (by decide) ?_
  refine r_jn (fun J => ∀  (M9 : xMem) , J  M9 = some M' → WW X 104 [some (vr X.1 a0), some (.int a1), some (.int a2), some (.int x3), some (.int x6), none] [] M9) h (fun  M9  h => ?_) (fun J104 hJ104 h => ?_)
  · refine r_iconst (pc := 104) (v := (nI 0)) C dX1_bookOthers_104 (by decide) ?_
    refine r_istore (pc := 105) (lv' := [_, _, _, _, _, _]) C dX1_bookOthers_105 hn5 rfl ?_
    refine lX1_bookOthers_107 C R0 hnL a0 h0 a1 a2 x3 x6 _ (fun v14 M15 h => ?_) _ _ _ h
    exact r_vret (pc := 149) C R0 h dX1_bookOthers_149
  refine r_icmp_ne (pc := 30) (tgt := 87) C dX1_bookOthers_30 (by decide) h (fun _ h => ?_) (fun _ h => ?_)
  · refine r_aload_n (pc := 87) C dX1_bookOthers_87 rfl rfl ?_
    refine r_iload_n (pc := 88) C dX1_bookOthers_88 rfl rfl ?_
    refine r_iconst (pc := 89) (v := (nI 5)) C dX1_bookOthers_89 (by decide) ?_
    refine r_iload_n (pc := 90) C dX1_bookOthers_90 rfl rfl ?_
    refine r_aload_n (pc := 91) C dX1_bookOthers_91 rfl rfl ?_
    refine r_getR (pc := 92) C kX1_13 h0 (by decide) dX1_bookOthers_92 ?_
    refine r_bipush (pc := 95) (v := (nI 14)) C dX1_bookOthers_95 (by decide) ?_
    obtain ⟨g16, h⟩ := xGb_of h
    refine r_aaldI (pc := 97) C (xtk h0 (by decide) rfl rfl) g16 dX1_bookOthers_97 ?_
    refine r_iload_n (pc := 98) C dX1_bookOthers_98 rfl rfl ?_
    obtain ⟨g17, h⟩ := xGb_of h
    refine r_iald (pc := 99) C (xkeI (xtk h0 (by decide) rfl rfl) (xin_lt g16)) g17 dX1_bookOthers_99 ?_
    refine r_imul (pc := 100) C dX1_bookOthers_100 ?_
    refine r_vV3 (pc := 101) C (fun M' e => zX1_addPart X.1 a0 h0 x3 (nI 5) (a2 * (M.1 (xrf (xrf a0 0) (Int32.toNatClampNeg (nI 14))) (Int32.toNatClampNeg a1))) M M' e) h0 (by decide) rfl mX1_addPart lX1_112 (by decide) (Nat.le_of_ble_eq_true rfl) dX1_bookOthers_101 h (fun M18 h => ?_)
    exact hJ104  M18  h
  · refine r_aload_n (pc := 33) C dX1_bookOthers_33 rfl rfl ?_
    refine r_getR (pc := 34) C kX1_13 h0 (by decide) dX1_bookOthers_34 ?_
    refine r_bipush (pc := 37) (v := (nI 15)) C dX1_bookOthers_37 (by decide) ?_
    obtain ⟨g19, h⟩ := xGb_of h
    refine r_aaldI (pc := 39) C (xtk h0 (by decide) rfl rfl) g19 dX1_bookOthers_39 ?_
    refine r_iload_n (pc := 40) C dX1_bookOthers_40 rfl rfl ?_
    obtain ⟨g20, h⟩ := xGb_of h
    refine r_iald (pc := 41) C (xkeI (xtk h0 (by decide) rfl rfl) (xin_lt g19)) g20 dX1_bookOthers_41 ?_
    refine r_letI h (fun x21 h => ?_)
    refine r_istore (pc := 42) (lv' := [_, _, _, _, _, _]) C dX1_bookOthers_42 hn5 rfl ?_
    refine r_aload_n (pc := 44) C dX1_bookOthers_44 rfl rfl ?_
    refine r_iload_n (pc := 45) C dX1_bookOthers_45 rfl rfl ?_
    refine r_iload (pc := 46) C dX1_bookOthers_46 rfl ?_
    refine r_iconst (pc := 48) (v := (nI 3)) C dX1_bookOthers_48 (by decide) ?_
    refine r_iload_n (pc := 49) C dX1_bookOthers_49 rfl rfl ?_
    refine r_vV4 (pc := 50) C (fun M' e => zX1_addTally X.1 a0 h0 x3 x6 (nI 3) a2 M M' e) h0 (by decide) rfl mX1_addTally lX1_116 (by decide) (Nat.le_of_ble_eq_true rfl) dX1_bookOthers_50 h (fun M22 h => ?_)
    refine r_aload_n (pc := 53) C dX1_bookOthers_53 rfl rfl ?_
    refine r_iload_n (pc := 54) C dX1_bookOthers_54 rfl rfl ?_
    refine r_iload (pc := 55) C dX1_bookOthers_55 rfl ?_
    refine r_iconst (pc := 57) (v := (nI 4)) C dX1_bookOthers_57 (by decide) ?_
    refine r_iload_n (pc := 58) C dX1_bookOthers_58 rfl rfl ?_
    refine r_iconst (pc := 59) (v := (nI 1)) C dX1_bookOthers_59 (by decide) ?_
    refine r_iload (pc := 60) C dX1_bookOthers_60 rfl ?_
    refine r_iadd (pc := 62) C dX1_bookOthers_62 ?_
    refine r_imul (pc := 63) C dX1_bookOthers_63 ?_
    refine r_vV4 (pc := 64) C (fun M' e => zX1_addTally X.1 a0 h0 x3 x6 (nI 4) (a2 * ((nI 1) + x21)) M22 M' e) h0 (by decide) rfl mX1_addTally lX1_116 (by decide) (Nat.le_of_ble_eq_true rfl) dX1_bookOthers_64 h (fun M23 h => ?_)
    refine r_aload_n (pc := 67) C dX1_bookOthers_67 rfl rfl ?_
    refine r_iload_n (pc := 68) C dX1_bookOthers_68 rfl rfl ?_
    refine r_iconst (pc := 69) (v := (nI 2)) C dX1_bookOthers_69 (by decide) ?_
    refine r_iload_n (pc := 70) C dX1_bookOthers_70 rfl rfl ?_
    refine r_vV3 (pc := 71) C (fun M' e => zX1_addPart X.1 a0 h0 x3 (nI 2) a2 M23 M' e) h0 (by decide) rfl mX1_addPart lX1_112 (by decide) (Nat.le_of_ble_eq_true rfl) dX1_bookOthers_71 h (fun M24 h => ?_)
    refine r_aload_n (pc := 74) C dX1_bookOthers_74 rfl rfl ?_
    refine r_iload_n (pc := 75) C dX1_bookOthers_75 rfl rfl ?_
    refine r_iconst (pc := 76) (v := (nI 3)) C dX1_bookOthers_76 (by decide) ?_
    refine r_iload_n (pc := 77) C dX1_bookOthers_77 rfl rfl ?_
    refine r_iload (pc := 78) C dX1_bookOthers_78 rfl ?_
    refine r_imul (pc := 80) C dX1_bookOthers_80 ?_
    refine r_vV3 (pc := 81) C (fun M' e => zX1_addPart X.1 a0 h0 x3 (nI 3) (a2 * x21) M24 M' e) h0 (by decide) rfl mX1_addPart lX1_112 (by decide) (Nat.le_of_ble_eq_true rfl) dX1_bookOthers_81 h (fun M25 h => ?_)
    refine r_goto (pc := 84) (tgt := 104) C dX1_bookOthers_84 (by decide) ?_
    exact r_lv (xle_at (xle_some rfl (xle_some rfl (xle_some rfl (xle_some rfl (xle_some rfl (xle_none xle_nil))))))) (hJ104  M25  h)
theorem dX1_book_0 : decode cX1_book 0 = .ok (.aload_n 0, 1) := by decide +kernel
theorem dX1_book_1 : decode cX1_book 1 = .ok (.getfield 13, 3) := by decide +kernel
theorem dX1_book_4 : decode cX1_book 4 = .ok (.iconst 0, 1) := by decide +kernel
theorem dX1_book_5 : decode cX1_book 5 = .ok (.aaload, 1) := by decide +kernel
theorem dX1_book_6 : decode cX1_book 6 = .ok (.iload_n 1, 1) := by decide +kernel
theorem dX1_book_7 : decode cX1_book 7 = .ok (.iaload, 1) := by decide +kernel
theorem dX1_book_8 : decode cX1_book 8 = .ok (.istore_n 3, 1) := by decide +kernel
theorem dX1_book_9 : decode cX1_book 9 = .ok (.aload_n 0, 1) := by decide +kernel
theorem dX1_book_10 : decode cX1_book 10 = .ok (.getfield 13, 3) := by decide +kernel
theorem dX1_book_13 : decode cX1_book 13 = .ok (.iconst 1, 1) := by decide +kernel
theorem dX1_book_14 : decode cX1_book 14 = .ok (.aaload, 1) := by decide +kernel
theorem dX1_book_15 : decode cX1_book 15 = .ok (.iload_n 1, 1) := by decide +kernel
theorem dX1_book_16 : decode cX1_book 16 = .ok (.iaload, 1) := by decide +kernel
theorem dX1_book_17 : decode cX1_book 17 = .ok (.istore 4, 2) := by decide +kernel
theorem dX1_book_19 : decode cX1_book 19 = .ok (.aload_n 0, 1) := by decide +kernel
theorem dX1_book_20 : decode cX1_book 20 = .ok (.getfield 13, 3) := by decide +kernel
theorem dX1_book_23 : decode cX1_book 23 = .ok (.bipush 12, 2) := by decide +kernel
theorem dX1_book_25 : decode cX1_book 25 = .ok (.aaload, 1) := by decide +kernel
theorem dX1_book_26 : decode cX1_book 26 = .ok (.iload_n 1, 1) := by decide +kernel
theorem dX1_book_27 : decode cX1_book 27 = .ok (.iaload, 1) := by decide +kernel
theorem dX1_book_28 : decode cX1_book 28 = .ok (.istore 5, 2) := by decide +kernel
theorem dX1_book_30 : decode cX1_book 30 = .ok (.aload_n 0, 1) := by decide +kernel
theorem dX1_book_31 : decode cX1_book 31 = .ok (.getfield 13, 3) := by decide +kernel
theorem dX1_book_34 : decode cX1_book 34 = .ok (.bipush 13, 2) := by decide +kernel
theorem dX1_book_36 : decode cX1_book 36 = .ok (.aaload, 1) := by decide +kernel
theorem dX1_book_37 : decode cX1_book 37 = .ok (.iload_n 1, 1) := by decide +kernel
theorem dX1_book_38 : decode cX1_book 38 = .ok (.iaload, 1) := by decide +kernel
theorem dX1_book_39 : decode cX1_book 39 = .ok (.istore 6, 2) := by decide +kernel
theorem dX1_book_41 : decode cX1_book 41 = .ok (.aload_n 0, 1) := by decide +kernel
theorem dX1_book_42 : decode cX1_book 42 = .ok (.iload_n 3, 1) := by decide +kernel
theorem dX1_book_43 : decode cX1_book 43 = .ok (.iload 4, 2) := by decide +kernel
theorem dX1_book_45 : decode cX1_book 45 = .ok (.iconst 0, 1) := by decide +kernel
theorem dX1_book_46 : decode cX1_book 46 = .ok (.iload_n 2, 1) := by decide +kernel
theorem dX1_book_47 : decode cX1_book 47 = .ok (.invokevirtual 116, 3) := by decide +kernel
theorem dX1_book_50 : decode cX1_book 50 = .ok (.aload_n 0, 1) := by decide +kernel
theorem dX1_book_51 : decode cX1_book 51 = .ok (.iload_n 3, 1) := by decide +kernel
theorem dX1_book_52 : decode cX1_book 52 = .ok (.iload 4, 2) := by decide +kernel
theorem dX1_book_54 : decode cX1_book 54 = .ok (.iconst 1, 1) := by decide +kernel
theorem dX1_book_55 : decode cX1_book 55 = .ok (.iload_n 2, 1) := by decide +kernel
theorem dX1_book_56 : decode cX1_book 56 = .ok (.iload 6, 2) := by decide +kernel
theorem dX1_book_58 : decode cX1_book 58 = .ok (.imul, 1) := by decide +kernel
theorem dX1_book_59 : decode cX1_book 59 = .ok (.invokevirtual 116, 3) := by decide +kernel
theorem dX1_book_62 : decode cX1_book 62 = .ok (.aload_n 0, 1) := by decide +kernel
theorem dX1_book_63 : decode cX1_book 63 = .ok (.iload_n 3, 1) := by decide +kernel
theorem dX1_book_64 : decode cX1_book 64 = .ok (.iload 4, 2) := by decide +kernel
theorem dX1_book_66 : decode cX1_book 66 = .ok (.iconst 2, 1) := by decide +kernel
theorem dX1_book_67 : decode cX1_book 67 = .ok (.iload_n 2, 1) := by decide +kernel
theorem dX1_book_68 : decode cX1_book 68 = .ok (.iload 5, 2) := by decide +kernel
theorem dX1_book_70 : decode cX1_book 70 = .ok (.imul, 1) := by decide +kernel
theorem dX1_book_71 : decode cX1_book 71 = .ok (.invokevirtual 116, 3) := by decide +kernel
theorem dX1_book_74 : decode cX1_book 74 = .ok (.aload_n 0, 1) := by decide +kernel
theorem dX1_book_75 : decode cX1_book 75 = .ok (.iload_n 3, 1) := by decide +kernel
theorem dX1_book_76 : decode cX1_book 76 = .ok (.iload 4, 2) := by decide +kernel
theorem dX1_book_78 : decode cX1_book 78 = .ok (.iconst 5, 1) := by decide +kernel
theorem dX1_book_79 : decode cX1_book 79 = .ok (.iload_n 2, 1) := by decide +kernel
theorem dX1_book_80 : decode cX1_book 80 = .ok (.aload_n 0, 1) := by decide +kernel
theorem dX1_book_81 : decode cX1_book 81 = .ok (.getfield 13, 3) := by decide +kernel
theorem dX1_book_84 : decode cX1_book 84 = .ok (.bipush 14, 2) := by decide +kernel
theorem dX1_book_86 : decode cX1_book 86 = .ok (.aaload, 1) := by decide +kernel
theorem dX1_book_87 : decode cX1_book 87 = .ok (.iload_n 1, 1) := by decide +kernel
theorem dX1_book_88 : decode cX1_book 88 = .ok (.iaload, 1) := by decide +kernel
theorem dX1_book_89 : decode cX1_book 89 = .ok (.imul, 1) := by decide +kernel
theorem dX1_book_90 : decode cX1_book 90 = .ok (.invokevirtual 116, 3) := by decide +kernel
theorem dX1_book_93 : decode cX1_book 93 = .ok (.aload_n 0, 1) := by decide +kernel
theorem dX1_book_94 : decode cX1_book 94 = .ok (.iload_n 3, 1) := by decide +kernel
theorem dX1_book_95 : decode cX1_book 95 = .ok (.iload 4, 2) := by decide +kernel
theorem dX1_book_97 : decode cX1_book 97 = .ok (.bipush 6, 2) := by decide +kernel
theorem dX1_book_99 : decode cX1_book 99 = .ok (.aload_n 0, 1) := by decide +kernel
theorem dX1_book_100 : decode cX1_book 100 = .ok (.getfield 13, 3) := by decide +kernel
theorem dX1_book_103 : decode cX1_book 103 = .ok (.iconst 2, 1) := by decide +kernel
theorem dX1_book_104 : decode cX1_book 104 = .ok (.aaload, 1) := by decide +kernel
theorem dX1_book_105 : decode cX1_book 105 = .ok (.iload_n 1, 1) := by decide +kernel
theorem dX1_book_106 : decode cX1_book 106 = .ok (.iaload, 1) := by decide +kernel
theorem dX1_book_107 : decode cX1_book 107 = .ok (.ifCond .ne 7, 3) := by decide +kernel
theorem dX1_book_110 : decode cX1_book 110 = .ok (.iload_n 2, 1) := by decide +kernel
theorem dX1_book_111 : decode cX1_book 111 = .ok (.goto 4, 3) := by decide +kernel
theorem dX1_book_114 : decode cX1_book 114 = .ok (.iconst 0, 1) := by decide +kernel
theorem dX1_book_115 : decode cX1_book 115 = .ok (.invokevirtual 116, 3) := by decide +kernel
theorem dX1_book_118 : decode cX1_book 118 = .ok (.aload_n 0, 1) := by decide +kernel
theorem dX1_book_119 : decode cX1_book 119 = .ok (.iload_n 3, 1) := by decide +kernel
theorem dX1_book_120 : decode cX1_book 120 = .ok (.iconst 0, 1) := by decide +kernel
theorem dX1_book_121 : decode cX1_book 121 = .ok (.iload_n 2, 1) := by decide +kernel
theorem dX1_book_122 : decode cX1_book 122 = .ok (.iload 5, 2) := by decide +kernel
theorem dX1_book_124 : decode cX1_book 124 = .ok (.imul, 1) := by decide +kernel
theorem dX1_book_125 : decode cX1_book 125 = .ok (.invokevirtual 112, 3) := by decide +kernel
theorem dX1_book_128 : decode cX1_book 128 = .ok (.aload_n 0, 1) := by decide +kernel
theorem dX1_book_129 : decode cX1_book 129 = .ok (.iload_n 3, 1) := by decide +kernel
theorem dX1_book_130 : decode cX1_book 130 = .ok (.iconst 1, 1) := by decide +kernel
theorem dX1_book_131 : decode cX1_book 131 = .ok (.iload_n 2, 1) := by decide +kernel
theorem dX1_book_132 : decode cX1_book 132 = .ok (.iload 6, 2) := by decide +kernel
theorem dX1_book_134 : decode cX1_book 134 = .ok (.iload 5, 2) := by decide +kernel
theorem dX1_book_136 : decode cX1_book 136 = .ok (.isub, 1) := by decide +kernel
theorem dX1_book_137 : decode cX1_book 137 = .ok (.imul, 1) := by decide +kernel
theorem dX1_book_138 : decode cX1_book 138 = .ok (.invokevirtual 112, 3) := by decide +kernel
theorem dX1_book_141 : decode cX1_book 141 = .ok (.aload_n 0, 1) := by decide +kernel
theorem dX1_book_142 : decode cX1_book 142 = .ok (.iload_n 1, 1) := by decide +kernel
theorem dX1_book_143 : decode cX1_book 143 = .ok (.iload_n 2, 1) := by decide +kernel
theorem dX1_book_144 : decode cX1_book 144 = .ok (.invokevirtual 120, 3) := by decide +kernel
theorem dX1_book_147 : decode cX1_book 147 = .ok (.iconst 0, 1) := by decide +kernel
theorem dX1_book_148 : decode cX1_book 148 = .ok (.istore 7, 2) := by decide +kernel
theorem dX1_book_150 : decode cX1_book 150 = .ok (.iload 7, 2) := by decide +kernel
theorem dX1_book_152 : decode cX1_book 152 = .ok (.iconst 2, 1) := by decide +kernel
theorem dX1_book_153 : decode cX1_book 153 = .ok (.if_icmp .ge 40, 3) := by decide +kernel
theorem dX1_book_156 : decode cX1_book 156 = .ok (.aload_n 0, 1) := by decide +kernel
theorem dX1_book_157 : decode cX1_book 157 = .ok (.getfield 13, 3) := by decide +kernel
theorem dX1_book_160 : decode cX1_book 160 = .ok (.bipush 11, 2) := by decide +kernel
theorem dX1_book_162 : decode cX1_book 162 = .ok (.aaload, 1) := by decide +kernel
theorem dX1_book_163 : decode cX1_book 163 = .ok (.iload_n 1, 1) := by decide +kernel
theorem dX1_book_164 : decode cX1_book 164 = .ok (.iaload, 1) := by decide +kernel
theorem dX1_book_165 : decode cX1_book 165 = .ok (.iload 7, 2) := by decide +kernel
theorem dX1_book_167 : decode cX1_book 167 = .ok (.ishr, 1) := by decide +kernel
theorem dX1_book_168 : decode cX1_book 168 = .ok (.iconst 1, 1) := by decide +kernel
theorem dX1_book_169 : decode cX1_book 169 = .ok (.iand, 1) := by decide +kernel
theorem dX1_book_170 : decode cX1_book 170 = .ok (.istore 8, 2) := by decide +kernel
theorem dX1_book_172 : decode cX1_book 172 = .ok (.aload_n 0, 1) := by decide +kernel
theorem dX1_book_173 : decode cX1_book 173 = .ok (.iconst 1, 1) := by decide +kernel
theorem dX1_book_174 : decode cX1_book 174 = .ok (.iload 7, 2) := by decide +kernel
theorem dX1_book_176 : decode cX1_book 176 = .ok (.isub, 1) := by decide +kernel
theorem dX1_book_177 : decode cX1_book 177 = .ok (.iconst 4, 1) := by decide +kernel
theorem dX1_book_178 : decode cX1_book 178 = .ok (.iload_n 2, 1) := by decide +kernel
theorem dX1_book_179 : decode cX1_book 179 = .ok (.iconst 2, 1) := by decide +kernel
theorem dX1_book_180 : decode cX1_book 180 = .ok (.imul, 1) := by decide +kernel
theorem dX1_book_181 : decode cX1_book 181 = .ok (.iload 8, 2) := by decide +kernel
theorem dX1_book_183 : decode cX1_book 183 = .ok (.imul, 1) := by decide +kernel
theorem dX1_book_184 : decode cX1_book 184 = .ok (.invokevirtual 112, 3) := by decide +kernel
theorem dX1_book_187 : decode cX1_book 187 = .ok (.iinc 7 1, 3) := by decide +kernel
theorem dX1_book_190 : decode cX1_book 190 = .ok (.goto (-40), 3) := by decide +kernel
theorem dX1_book_193 : decode cX1_book 193 = .ok (.return_, 1) := by decide +kernel
def fX1_book_l150 (p0 : Nat) (p1 : Int32) (p2 : Int32) (p3 : Int32) (p4 : Int32) (p5 : Int32) (p6 : Int32) (K : Int32 → xMem → Option (xMem)) : Nat → Int32 → xMem → Option (xMem)
  | 0, _, _ => none
  | n + 1, v7, M => if (nI 2) ≤ v7 then (K v7 M) else (xGb (nI 11) (xln (xrf p0 0)) (xGb p1 (xln (xrf (xrf p0 0) (Int32.toNatClampNeg (nI 11)))) (xLt (((M.1 (xrf (xrf p0 0) (Int32.toNatClampNeg (nI 11))) (Int32.toNatClampNeg p1)) >>> (v7 &&& 31)) &&& (nI 1)) fun x29 => xBv (fX1_addPart p0 ((nI 1) - v7) (nI 4) ((p2 * (nI 2)) * x29) M) fun M30 => xLt (v7 + nI 1) fun x31 => fX1_book_l150 p0 p1 p2 p3 p4 p5 p6 K n x31 M30)))
def fX1_book (a0 : Nat) (a1 : Int32) (a2 : Int32) (M : xMem) : Option (xMem) :=
  xGb (nI 0) (xln (xrf a0 0)) (xGb a1 (xln (xrf (xrf a0 0) (Int32.toNatClampNeg (nI 0)))) (xLt (M.1 (xrf (xrf a0 0) (Int32.toNatClampNeg (nI 0))) (Int32.toNatClampNeg a1)) fun x3 => xGb (nI 1) (xln (xrf a0 0)) (xGb a1 (xln (xrf (xrf a0 0) (Int32.toNatClampNeg (nI 1)))) (xLt (M.1 (xrf (xrf a0 0) (Int32.toNatClampNeg (nI 1))) (Int32.toNatClampNeg a1)) fun x6 => xGb (nI 12) (xln (xrf a0 0)) (xGb a1 (xln (xrf (xrf a0 0) (Int32.toNatClampNeg (nI 12)))) (xLt (M.1 (xrf (xrf a0 0) (Int32.toNatClampNeg (nI 12))) (Int32.toNatClampNeg a1)) fun x9 => xGb (nI 13) (xln (xrf a0 0)) (xGb a1 (xln (xrf (xrf a0 0) (Int32.toNatClampNeg (nI 13)))) (xLt (M.1 (xrf (xrf a0 0) (Int32.toNatClampNeg (nI 13))) (Int32.toNatClampNeg a1)) fun x12 => xBv (fX1_addTally a0 x3 x6 (nI 0) a2 M) fun M13 => xBv (fX1_addTally a0 x3 x6 (nI 1) (a2 * x12) M13) fun M14 => xBv (fX1_addTally a0 x3 x6 (nI 2) (a2 * x9) M14) fun M15 => xGb (nI 14) (xln (xrf a0 0)) (xGb a1 (xln (xrf (xrf a0 0) (Int32.toNatClampNeg (nI 14)))) (xBv (fX1_addTally a0 x3 x6 (nI 5) (a2 * (M15.1 (xrf (xrf a0 0) (Int32.toNatClampNeg (nI 14))) (Int32.toNatClampNeg a1))) M15) fun M18 => xGb (nI 2) (xln (xrf a0 0)) (xGb a1 (xln (xrf (xrf a0 0) (Int32.toNatClampNeg (nI 2)))) (xLt (fun (s21 : Int32) (M22 : xMem) => (xBv (fX1_addTally a0 x3 x6 (nI 6) s21 M22) fun M23 => xBv (fX1_addPart a0 x3 (nI 0) (a2 * x9) M23) fun M24 => xBv (fX1_addPart a0 x3 (nI 1) (a2 * (x12 - x9)) M24) fun M25 => xBv (fX1_bookOthers a0 a1 a2 M25) fun M26 => fX1_book_l150 a0 a1 a2 x3 x6 x9 x12 (fun (v32 : Int32) (M33 : xMem) => some M33) xFU (nI 0) M26 : Option (xMem))) fun J115 => if (M18.1 (xrf (xrf a0 0) (Int32.toNatClampNeg (nI 2))) (Int32.toNatClampNeg a1)) = 0 then (J115 a2 M18) else (J115 (nI 0) M18)))))))))))))
set_option maxRecDepth 100000 in
set_option maxHeartbeats 4000000 in
theorem lX1_book_150 {X : xCX} {M' : xMem} (C : xCk X cX1_book RX1 3) (R0 : xRk X none (none, M')) (hnL : X.2.2.2.2.2.2.2.2.2.2.2.2.2 = 9) (p0 : Nat) (hp0 : xkd p0 = 1) (p1 : Int32) (p2 : Int32) (p3 : Int32) (p4 : Int32) (p5 : Int32) (p6 : Int32) (K : Int32 → xMem → Option (xMem)) (hK : ∀ (v7 : Int32) (M : xMem), K v7 M = some M' → WW X 193 [some (vr X.1 p0), some (.int p1), some (.int p2), some (.int p3), some (.int p4), some (.int p5), some (.int p6), some (.int v7), none] [] M) : ∀ (n : Nat) (v7 : Int32) (M : xMem), fX1_book_l150 p0 p1 p2 p3 p4 p5 p6 K n v7 M = some M' → WW X 150 [some (vr X.1 p0), some (.int p1), some (.int p2), some (.int p3), some (.int p4), some (.int p5), some (.int p6), some (.int v7), none] [] M := by
  have hn3 : 3 < X.2.2.2.2.2.2.2.2.2.2.2.2.2 := by rw [hnL]; decide
  have hn4 : 4 < X.2.2.2.2.2.2.2.2.2.2.2.2.2 := by rw [hnL]; decide
  have hn5 : 5 < X.2.2.2.2.2.2.2.2.2.2.2.2.2 := by rw [hnL]; decide
  have hn6 : 6 < X.2.2.2.2.2.2.2.2.2.2.2.2.2 := by rw [hnL]; decide
  have hn7 : 7 < X.2.2.2.2.2.2.2.2.2.2.2.2.2 := by rw [hnL]; decide
  have hn8 : 8 < X.2.2.2.2.2.2.2.2.2.2.2.2.2 := by rw [hnL]; decide
  intro n
  induction n with
  | zero =>
    intro v7 M h
    cases (show (none : Option (xMem)) = some M' from h)
  | succ n ih =>
    intro v7 M h
    rw [fX1_book_l150.eq_2] at h
    refine r_iload (pc := 150) C dX1_book_150 rfl ?_
    refine r_iconst (pc := 152) (v := (nI 2)) C dX1_book_152 (by decide) ?_
    refine r_icmp_ge (pc := 153) (tgt := 193) C dX1_book_153 (by decide) h (fun _ h => ?_) (fun _ h => ?_)
    · exact hK v7 M h
    · refine r_aload_n (pc := 156) C dX1_book_156 rfl rfl ?_
      refine r_getR (pc := 157) C kX1_13 hp0 (by decide) dX1_book_157 ?_
      refine r_bipush (pc := 160) (v := (nI 11)) C dX1_book_160 (by decide) ?_
      obtain ⟨g27, h⟩ := xGb_of h
      refine r_aaldI (pc := 162) C (xtk hp0 (by decide) rfl rfl) g27 dX1_book_162 ?_
      refine r_iload_n (pc := 163) C dX1_book_163 rfl rfl ?_
      obtain ⟨g28, h⟩ := xGb_of h
      refine r_iald (pc := 164) C (xkeI (xtk hp0 (by decide) rfl rfl) (xin_lt g27)) g28 dX1_book_164 ?_
      refine r_iload (pc := 165) C dX1_book_165 rfl ?_
      refine r_ishr (pc := 167) C dX1_book_167 ?_
      refine r_iconst (pc := 168) (v := (nI 1)) C dX1_book_168 (by decide) ?_
      refine r_iand (pc := 169) C dX1_book_169 ?_
      refine r_letI h (fun x29 h => ?_)
      refine r_istore (pc := 170) (lv' := [_, _, _, _, _, _, _, _, _]) C dX1_book_170 hn8 rfl ?_
      refine r_aload_n (pc := 172) C dX1_book_172 rfl rfl ?_
      refine r_iconst (pc := 173) (v := (nI 1)) C dX1_book_173 (by decide) ?_
      refine r_iload (pc := 174) C dX1_book_174 rfl ?_
      refine r_isub (pc := 176) C dX1_book_176 ?_
      refine r_iconst (pc := 177) (v := (nI 4)) C dX1_book_177 (by decide) ?_
      refine r_iload_n (pc := 178) C dX1_book_178 rfl rfl ?_
      refine r_iconst (pc := 179) (v := (nI 2)) C dX1_book_179 (by decide) ?_
      refine r_imul (pc := 180) C dX1_book_180 ?_
      refine r_iload (pc := 181) C dX1_book_181 rfl ?_
      refine r_imul (pc := 183) C dX1_book_183 ?_
      refine r_vV3 (pc := 184) C (fun M' e => zX1_addPart X.1 p0 hp0 ((nI 1) - v7) (nI 4) ((p2 * (nI 2)) * x29) M M' e) hp0 (by decide) rfl mX1_addPart lX1_112 (by decide) (Nat.le_of_ble_eq_true rfl) dX1_book_184 h (fun M30 h => ?_)
      refine r_iincL (pc := 187) (c := nI 1) C dX1_book_187 rfl (by decide) hn7 h (fun x31 h => ?_)
      refine r_lvE (lv' := [_, _, _, _, _, _, _, _, _]) rfl ?_
      refine r_goto (pc := 190) (tgt := 150) C dX1_book_190 (by decide) ?_
      exact r_lv (xle_at (xle_some rfl (xle_some rfl (xle_some rfl (xle_some rfl (xle_some rfl (xle_some rfl (xle_some rfl (xle_some rfl (xle_none xle_nil)))))))))) (ih x31 M30 h)
set_option maxRecDepth 100000 in
set_option maxHeartbeats 4000000 in
theorem zX1_book (G : xGX) (a0 : Nat) (h0 : xkd a0 = 1) (a1 : Int32) (a2 : Int32) (M : xMem) (M' : xMem) (h : fX1_book a0 a1 a2 M = some M') : xCt G yX1_book cX1_book 9 none 3 [vr G a0, .int a1, .int a2] M (none, M') := by
  refine xMet (lv := [some (vr G a0), some (.int a1), some (.int a2), none, none, none, none, none, none]) (by decide) (Nat.le_of_ble_eq_true rfl) rfl ?_
  intro X hG hnL C R0
  subst hG
  have C : xCk X cX1_book RX1 3 := C
  have hn3 : 3 < X.2.2.2.2.2.2.2.2.2.2.2.2.2 := by rw [hnL]; decide
  have hn4 : 4 < X.2.2.2.2.2.2.2.2.2.2.2.2.2 := by rw [hnL]; decide
  have hn5 : 5 < X.2.2.2.2.2.2.2.2.2.2.2.2.2 := by rw [hnL]; decide
  have hn6 : 6 < X.2.2.2.2.2.2.2.2.2.2.2.2.2 := by rw [hnL]; decide
  have hn7 : 7 < X.2.2.2.2.2.2.2.2.2.2.2.2.2 := by rw [hnL]; decide
  have hn8 : 8 < X.2.2.2.2.2.2.2.2.2.2.2.2.2 := by rw [hnL]; decide
  unfold fX1_book at h
  refine r_aload_n (pc := 0) C dX1_book_0 rfl rfl ?_
  refine r_getR (pc := 1) C kX1_13 h0 (by decide) dX1_book_1 ?_
  refine r_iconst (pc := 4) (v := (nI 0)) C dX1_book_4 (by decide) ?_
  obtain ⟨g1, h⟩ := xGb_of h
  refine r_aaldI (pc := 5) C (xtk h0 (by decide) rfl rfl) g1 dX1_book_5 ?_
  refine r_iload_n (pc := 6) C dX1_book_6 rfl rfl ?_
  obtain ⟨g2, h⟩ := xGb_of h
  refine r_iald (pc := 7) C (xkeI (xtk h0 (by decide) rfl rfl) (xin_lt g1)) g2 dX1_book_7 ?_
  refine r_letI h (fun x3 h => ?_)
  refine r_istore_n (pc := 8) (lv' := [_, _, _, _, _, _, _, _, _]) C dX1_book_8 rfl hn3 rfl ?_
  refine r_aload_n (pc := 9) C dX1_book_9 rfl rfl ?_
  refine r_getR (pc := 10) C kX1_13 h0 (by decide) dX1_book_10 ?_
  refine r_iconst (pc := 13) (v := (nI 1)) C dX1_book_13 (by decide) ?_
  obtain ⟨g4, h⟩ := xGb_of h
  refine r_aaldI (pc := 14) C (xtk h0 (by decide) rfl rfl) g4 dX1_book_14 ?_
  refine r_iload_n (pc := 15) C dX1_book_15 rfl rfl ?_
  obtain ⟨g5, h⟩ := xGb_of h
  refine r_iald (pc := 16) C (xkeI (xtk h0 (by decide) rfl rfl) (xin_lt g4)) g5 dX1_book_16 ?_
  refine r_letI h (fun x6 h => ?_)
  refine r_istore (pc := 17) (lv' := [_, _, _, _, _, _, _, _, _]) C dX1_book_17 hn4 rfl ?_
  refine r_aload_n (pc := 19) C dX1_book_19 rfl rfl ?_
  refine r_getR (pc := 20) C kX1_13 h0 (by decide) dX1_book_20 ?_
  refine r_bipush (pc := 23) (v := (nI 12)) C dX1_book_23 (by decide) ?_
  obtain ⟨g7, h⟩ := xGb_of h
  refine r_aaldI (pc := 25) C (xtk h0 (by decide) rfl rfl) g7 dX1_book_25 ?_
  refine r_iload_n (pc := 26) C dX1_book_26 rfl rfl ?_
  obtain ⟨g8, h⟩ := xGb_of h
  refine r_iald (pc := 27) C (xkeI (xtk h0 (by decide) rfl rfl) (xin_lt g7)) g8 dX1_book_27 ?_
  refine r_letI h (fun x9 h => ?_)
  refine r_istore (pc := 28) (lv' := [_, _, _, _, _, _, _, _, _]) C dX1_book_28 hn5 rfl ?_
  refine r_aload_n (pc := 30) C dX1_book_30 rfl rfl ?_
  refine r_getR (pc := 31) C kX1_13 h0 (by decide) dX1_book_31 ?_
  refine r_bipush (pc := 34) (v := (nI 13)) C dX1_book_34 (by decide) ?_
  obtain ⟨g10, h⟩ := xGb_of h
  refine r_aaldI (pc := 36) C (xtk h0 (by decide) rfl rfl) g10 dX1_book_36 ?_
  refine r_iload_n (pc := 37) C dX1_book_37 rfl rfl ?_
  obtain ⟨g11, h⟩ := xGb_of h
  refine r_iald (pc := 38) C (xkeI (xtk h0 (by decide) rfl rfl) (xin_lt g10)) g11 dX1_book_38 ?_
  refine r_letI h (fun x12 h => ?_)
  refine r_istore (pc := 39) (lv' := [_, _, _, _, _, _, _, _, _]) C dX1_book_39 hn6 rfl ?_
  refine r_aload_n (pc := 41) C dX1_book_41 rfl rfl ?_
  refine r_iload_n (pc := 42) C dX1_book_42 rfl rfl ?_
  refine r_iload (pc := 43) C dX1_book_43 rfl ?_
  refine r_iconst (pc := 45) (v := (nI 0)) C dX1_book_45 (by decide) ?_
  refine r_iload_n (pc := 46) C dX1_book_46 rfl rfl ?_
  refine r_vV4 (pc := 47) C (fun M' e => zX1_addTally X.1 a0 h0 x3 x6 (nI 0) a2 M M' e) h0 (by decide) rfl mX1_addTally lX1_116 (by decide) (Nat.le_of_ble_eq_true rfl) dX1_book_47 h (fun M13 h => ?_)
  refine r_aload_n (pc := 50) C dX1_book_50 rfl rfl ?_
  refine r_iload_n (pc := 51) C dX1_book_51 rfl rfl ?_
  refine r_iload (pc := 52) C dX1_book_52 rfl ?_
  refine r_iconst (pc := 54) (v := (nI 1)) C dX1_book_54 (by decide) ?_
  refine r_iload_n (pc := 55) C dX1_book_55 rfl rfl ?_
  refine r_iload (pc := 56) C dX1_book_56 rfl ?_
  refine r_imul (pc := 58) C dX1_book_58 ?_
  refine r_vV4 (pc := 59) C (fun M' e => zX1_addTally X.1 a0 h0 x3 x6 (nI 1) (a2 * x12) M13 M' e) h0 (by decide) rfl mX1_addTally lX1_116 (by decide) (Nat.le_of_ble_eq_true rfl) dX1_book_59 h (fun M14 h => ?_)
  refine r_aload_n (pc := 62) C dX1_book_62 rfl rfl ?_
  refine r_iload_n (pc := 63) C dX1_book_63 rfl rfl ?_
  refine r_iload (pc := 64) C dX1_book_64 rfl ?_
  refine r_iconst (pc := 66) (v := (nI 2)) C dX1_book_66 (by decide) ?_
  refine r_iload_n (pc := 67) C dX1_book_67 rfl rfl ?_
  refine r_iload (pc := 68) C dX1_book_68 rfl ?_
  refine r_imul (pc := 70) C dX1_book_70 ?_
  refine r_vV4 (pc := 71) C (fun M' e => zX1_addTally X.1 a0 h0 x3 x6 (nI 2) (a2 * x9) M14 M' e) h0 (by decide) rfl mX1_addTally lX1_116 (by decide) (Nat.le_of_ble_eq_true rfl) dX1_book_71 h (fun M15 h => ?_)
  refine r_aload_n (pc := 74) C dX1_book_74 rfl rfl ?_
  refine r_iload_n (pc := 75) C dX1_book_75 rfl rfl ?_
  refine r_iload (pc := 76) C dX1_book_76 rfl ?_
  refine r_iconst (pc := 78) (v := (nI 5)) C dX1_book_78 (by decide) ?_
  refine r_iload_n (pc := 79) C dX1_book_79 rfl rfl ?_
  refine r_aload_n (pc := 80) C dX1_book_80 rfl rfl ?_
  refine r_getR (pc := 81) C kX1_13 h0 (by decide) dX1_book_81 ?_
  refine r_bipush (pc := 84) (v := (nI 14)) C dX1_book_84 (by decide) ?_
  obtain ⟨g16, h⟩ := xGb_of h
  refine r_aaldI (pc := 86) C (xtk h0 (by decide) rfl rfl) g16 dX1_book_86 ?_
  refine r_iload_n (pc := 87) C dX1_book_87 rfl rfl ?_
  obtain ⟨g17, h⟩ := xGb_of h
  refine r_iald (pc := 88) C (xkeI (xtk h0 (by decide) rfl rfl) (xin_lt g16)) g17 dX1_book_88 ?_
  refine r_imul (pc := 89) C dX1_book_89 ?_
  refine r_vV4 (pc := 90) C (fun M' e => zX1_addTally X.1 a0 h0 x3 x6 (nI 5) (a2 * (M15.1 (xrf (xrf a0 0) (Int32.toNatClampNeg (nI 14))) (Int32.toNatClampNeg a1))) M15 M' e) h0 (by decide) rfl mX1_addTally lX1_116 (by decide) (Nat.le_of_ble_eq_true rfl) dX1_book_90 h (fun M18 h => ?_)
  refine r_aload_n (pc := 93) C dX1_book_93 rfl rfl ?_
  refine r_iload_n (pc := 94) C dX1_book_94 rfl rfl ?_
  refine r_iload (pc := 95) C dX1_book_95 rfl ?_
  refine r_bipush (pc := 97) (v := (nI 6)) C dX1_book_97 (by decide) ?_
  refine r_aload_n (pc := 99) C dX1_book_99 rfl rfl ?_
  refine r_getR (pc := 100) C kX1_13 h0 (by decide) dX1_book_100 ?_
  refine r_iconst (pc := 103) (v := (nI 2)) C dX1_book_103 (by decide) ?_
  obtain ⟨g19, h⟩ := xGb_of h
  refine r_aaldI (pc := 104) C (xtk h0 (by decide) rfl rfl) g19 dX1_book_104 ?_
  refine r_iload_n (pc := 105) C dX1_book_105 rfl rfl ?_
  obtain ⟨g20, h⟩ := xGb_of h
  refine r_iald (pc := 106) C (xkeI (xtk h0 (by decide) rfl rfl) (xin_lt g19)) g20 dX1_book_106 ?_
  refine r_jn (fun J => ∀ (s21 : Int32) (M22 : xMem) , J s21 M22 = some M' → WW X 115 [some (vr X.1 a0), some (.int a1), some (.int a2), some (.int x3), some (.int x6), some (.int x9), some (.int x12), none, none] [.int s21, .int (nI 6), .int x6, .int x3, vr X.1 a0] M22) h (fun s21 M22  h => ?_) (fun J115 hJ115 h => ?_)
  · refine r_vV4 (pc := 115) C (fun M' e => zX1_addTally X.1 a0 h0 x3 x6 (nI 6) s21 M22 M' e) h0 (by decide) rfl mX1_addTally lX1_116 (by decide) (Nat.le_of_ble_eq_true rfl) dX1_book_115 h (fun M23 h => ?_)
    refine r_aload_n (pc := 118) C dX1_book_118 rfl rfl ?_
    refine r_iload_n (pc := 119) C dX1_book_119 rfl rfl ?_
    refine r_iconst (pc := 120) (v := (nI 0)) C dX1_book_120 (by decide) ?_
    refine r_iload_n (pc := 121) C dX1_book_121 rfl rfl ?_
    refine r_iload (pc := 122) C dX1_book_122 rfl ?_
    refine r_imul (pc := 124) C dX1_book_124 ?_
    refine r_vV3 (pc := 125) C (fun M' e => zX1_addPart X.1 a0 h0 x3 (nI 0) (a2 * x9) M23 M' e) h0 (by decide) rfl mX1_addPart lX1_112 (by decide) (Nat.le_of_ble_eq_true rfl) dX1_book_125 h (fun M24 h => ?_)
    refine r_aload_n (pc := 128) C dX1_book_128 rfl rfl ?_
    refine r_iload_n (pc := 129) C dX1_book_129 rfl rfl ?_
    refine r_iconst (pc := 130) (v := (nI 1)) C dX1_book_130 (by decide) ?_
    refine r_iload_n (pc := 131) C dX1_book_131 rfl rfl ?_
    refine r_iload (pc := 132) C dX1_book_132 rfl ?_
    refine r_iload (pc := 134) C dX1_book_134 rfl ?_
    refine r_isub (pc := 136) C dX1_book_136 ?_
    refine r_imul (pc := 137) C dX1_book_137 ?_
    refine r_vV3 (pc := 138) C (fun M' e => zX1_addPart X.1 a0 h0 x3 (nI 1) (a2 * (x12 - x9)) M24 M' e) h0 (by decide) rfl mX1_addPart lX1_112 (by decide) (Nat.le_of_ble_eq_true rfl) dX1_book_138 h (fun M25 h => ?_)
    refine r_aload_n (pc := 141) C dX1_book_141 rfl rfl ?_
    refine r_iload_n (pc := 142) C dX1_book_142 rfl rfl ?_
    refine r_iload_n (pc := 143) C dX1_book_143 rfl rfl ?_
    refine r_vV2 (pc := 144) C (fun M' e => zX1_bookOthers X.1 a0 h0 a1 a2 M25 M' e) h0 (by decide) rfl mX1_bookOthers lX1_120 (by decide) (Nat.le_of_ble_eq_true rfl) dX1_book_144 h (fun M26 h => ?_)
    refine r_iconst (pc := 147) (v := (nI 0)) C dX1_book_147 (by decide) ?_
    refine r_istore (pc := 148) (lv' := [_, _, _, _, _, _, _, _, _]) C dX1_book_148 hn7 rfl ?_
    refine lX1_book_150 C R0 hnL a0 h0 a1 a2 x3 x6 x9 x12 _ (fun v32 M33 h => ?_) _ _ _ h
    exact r_vret (pc := 193) C R0 h dX1_book_193
  refine r_if_ne (pc := 107) (tgt := 114) C dX1_book_107 (by decide) h (fun _ h => ?_) (fun _ h => ?_)
  · refine r_iconst (pc := 114) (v := (nI 0)) C dX1_book_114 (by decide) ?_
    exact hJ115 (nI 0) M18  h
  · refine r_iload_n (pc := 110) C dX1_book_110 rfl rfl ?_
    refine r_goto (pc := 111) (tgt := 115) C dX1_book_111 (by decide) ?_
    exact hJ115 a2 M18  h
theorem dX1_write_0 : decode cX1_write 0 = .ok (.aload_n 0, 1) := by decide +kernel
theorem dX1_write_1 : decode cX1_write 1 = .ok (.getfield 30, 3) := by decide +kernel
theorem dX1_write_4 : decode cX1_write 4 = .ok (.istore 4, 2) := by decide +kernel
theorem dX1_write_6 : decode cX1_write 6 = .ok (.iload 4, 2) := by decide +kernel
theorem dX1_write_8 : decode cX1_write 8 = .ok (.sipush 200, 3) := by decide +kernel
theorem dX1_write_11 : decode cX1_write 11 = .ok (.if_icmp .lt 4, 3) := by decide +kernel
theorem dX1_write_14 : decode cX1_write 14 = .ok (.return_, 1) := by decide +kernel
theorem dX1_write_15 : decode cX1_write 15 = .ok (.aload_n 0, 1) := by decide +kernel
theorem dX1_write_16 : decode cX1_write 16 = .ok (.getfield 13, 3) := by decide +kernel
theorem dX1_write_19 : decode cX1_write 19 = .ok (.iconst 0, 1) := by decide +kernel
theorem dX1_write_20 : decode cX1_write 20 = .ok (.aaload, 1) := by decide +kernel
theorem dX1_write_21 : decode cX1_write 21 = .ok (.iload 4, 2) := by decide +kernel
theorem dX1_write_23 : decode cX1_write 23 = .ok (.aload_n 1, 1) := by decide +kernel
theorem dX1_write_24 : decode cX1_write 24 = .ok (.getfield 34, 3) := by decide +kernel
theorem dX1_write_27 : decode cX1_write 27 = .ok (.iastore, 1) := by decide +kernel
theorem dX1_write_28 : decode cX1_write 28 = .ok (.aload_n 0, 1) := by decide +kernel
theorem dX1_write_29 : decode cX1_write 29 = .ok (.getfield 13, 3) := by decide +kernel
theorem dX1_write_32 : decode cX1_write 32 = .ok (.iconst 1, 1) := by decide +kernel
theorem dX1_write_33 : decode cX1_write 33 = .ok (.aaload, 1) := by decide +kernel
theorem dX1_write_34 : decode cX1_write 34 = .ok (.iload 4, 2) := by decide +kernel
theorem dX1_write_36 : decode cX1_write 36 = .ok (.aload_n 2, 1) := by decide +kernel
theorem dX1_write_37 : decode cX1_write 37 = .ok (.getfield 39, 3) := by decide +kernel
theorem dX1_write_40 : decode cX1_write 40 = .ok (.iastore, 1) := by decide +kernel
theorem dX1_write_41 : decode cX1_write 41 = .ok (.aload_n 0, 1) := by decide +kernel
theorem dX1_write_42 : decode cX1_write 42 = .ok (.getfield 13, 3) := by decide +kernel
theorem dX1_write_45 : decode cX1_write 45 = .ok (.iconst 2, 1) := by decide +kernel
theorem dX1_write_46 : decode cX1_write 46 = .ok (.aaload, 1) := by decide +kernel
theorem dX1_write_47 : decode cX1_write 47 = .ok (.iload 4, 2) := by decide +kernel
theorem dX1_write_49 : decode cX1_write 49 = .ok (.aload_n 2, 1) := by decide +kernel
theorem dX1_write_50 : decode cX1_write 50 = .ok (.getfield 44, 3) := by decide +kernel
theorem dX1_write_53 : decode cX1_write 53 = .ok (.iastore, 1) := by decide +kernel
theorem dX1_write_54 : decode cX1_write 54 = .ok (.aload_n 0, 1) := by decide +kernel
theorem dX1_write_55 : decode cX1_write 55 = .ok (.getfield 13, 3) := by decide +kernel
theorem dX1_write_58 : decode cX1_write 58 = .ok (.iconst 3, 1) := by decide +kernel
theorem dX1_write_59 : decode cX1_write 59 = .ok (.aaload, 1) := by decide +kernel
theorem dX1_write_60 : decode cX1_write 60 = .ok (.iload 4, 2) := by decide +kernel
theorem dX1_write_62 : decode cX1_write 62 = .ok (.aload_n 3, 1) := by decide +kernel
theorem dX1_write_63 : decode cX1_write 63 = .ok (.getfield 47, 3) := by decide +kernel
theorem dX1_write_66 : decode cX1_write 66 = .ok (.iastore, 1) := by decide +kernel
theorem dX1_write_67 : decode cX1_write 67 = .ok (.aload_n 0, 1) := by decide +kernel
theorem dX1_write_68 : decode cX1_write 68 = .ok (.getfield 13, 3) := by decide +kernel
theorem dX1_write_71 : decode cX1_write 71 = .ok (.iconst 4, 1) := by decide +kernel
theorem dX1_write_72 : decode cX1_write 72 = .ok (.aaload, 1) := by decide +kernel
theorem dX1_write_73 : decode cX1_write 73 = .ok (.iload 4, 2) := by decide +kernel
theorem dX1_write_75 : decode cX1_write 75 = .ok (.aload_n 3, 1) := by decide +kernel
theorem dX1_write_76 : decode cX1_write 76 = .ok (.getfield 50, 3) := by decide +kernel
theorem dX1_write_79 : decode cX1_write 79 = .ok (.iastore, 1) := by decide +kernel
theorem dX1_write_80 : decode cX1_write 80 = .ok (.aload_n 0, 1) := by decide +kernel
theorem dX1_write_81 : decode cX1_write 81 = .ok (.getfield 13, 3) := by decide +kernel
theorem dX1_write_84 : decode cX1_write 84 = .ok (.iconst 5, 1) := by decide +kernel
theorem dX1_write_85 : decode cX1_write 85 = .ok (.aaload, 1) := by decide +kernel
theorem dX1_write_86 : decode cX1_write 86 = .ok (.iload 4, 2) := by decide +kernel
theorem dX1_write_88 : decode cX1_write 88 = .ok (.aload_n 2, 1) := by decide +kernel
theorem dX1_write_89 : decode cX1_write 89 = .ok (.invokestatic 53, 3) := by decide +kernel
theorem dX1_write_92 : decode cX1_write 92 = .ok (.iastore, 1) := by decide +kernel
theorem dX1_write_93 : decode cX1_write 93 = .ok (.aload_n 0, 1) := by decide +kernel
theorem dX1_write_94 : decode cX1_write 94 = .ok (.getfield 13, 3) := by decide +kernel
theorem dX1_write_97 : decode cX1_write 97 = .ok (.bipush 6, 2) := by decide +kernel
theorem dX1_write_99 : decode cX1_write 99 = .ok (.aaload, 1) := by decide +kernel
theorem dX1_write_100 : decode cX1_write 100 = .ok (.iload 4, 2) := by decide +kernel
theorem dX1_write_102 : decode cX1_write 102 = .ok (.aload_n 2, 1) := by decide +kernel
theorem dX1_write_103 : decode cX1_write 103 = .ok (.getfield 57, 3) := by decide +kernel
theorem dX1_write_106 : decode cX1_write 106 = .ok (.iastore, 1) := by decide +kernel
theorem dX1_write_107 : decode cX1_write 107 = .ok (.aload_n 0, 1) := by decide +kernel
theorem dX1_write_108 : decode cX1_write 108 = .ok (.getfield 13, 3) := by decide +kernel
theorem dX1_write_111 : decode cX1_write 111 = .ok (.bipush 7, 2) := by decide +kernel
theorem dX1_write_113 : decode cX1_write 113 = .ok (.aaload, 1) := by decide +kernel
theorem dX1_write_114 : decode cX1_write 114 = .ok (.iload 4, 2) := by decide +kernel
theorem dX1_write_116 : decode cX1_write 116 = .ok (.aload_n 1, 1) := by decide +kernel
theorem dX1_write_117 : decode cX1_write 117 = .ok (.invokevirtual 60, 3) := by decide +kernel
theorem dX1_write_120 : decode cX1_write 120 = .ok (.ifCond .eq 7, 3) := by decide +kernel
theorem dX1_write_123 : decode cX1_write 123 = .ok (.iconst 1, 1) := by decide +kernel
theorem dX1_write_124 : decode cX1_write 124 = .ok (.goto 4, 3) := by decide +kernel
theorem dX1_write_127 : decode cX1_write 127 = .ok (.iconst 0, 1) := by decide +kernel
theorem dX1_write_128 : decode cX1_write 128 = .ok (.iastore, 1) := by decide +kernel
theorem dX1_write_129 : decode cX1_write 129 = .ok (.aload_n 0, 1) := by decide +kernel
theorem dX1_write_130 : decode cX1_write 130 = .ok (.getfield 13, 3) := by decide +kernel
theorem dX1_write_133 : decode cX1_write 133 = .ok (.bipush 8, 2) := by decide +kernel
theorem dX1_write_135 : decode cX1_write 135 = .ok (.aaload, 1) := by decide +kernel
theorem dX1_write_136 : decode cX1_write 136 = .ok (.iload 4, 2) := by decide +kernel
theorem dX1_write_138 : decode cX1_write 138 = .ok (.aload_n 3, 1) := by decide +kernel
theorem dX1_write_139 : decode cX1_write 139 = .ok (.getfield 64, 3) := by decide +kernel
theorem dX1_write_142 : decode cX1_write 142 = .ok (.iastore, 1) := by decide +kernel
theorem dX1_write_143 : decode cX1_write 143 = .ok (.aload_n 0, 1) := by decide +kernel
theorem dX1_write_144 : decode cX1_write 144 = .ok (.getfield 13, 3) := by decide +kernel
theorem dX1_write_147 : decode cX1_write 147 = .ok (.bipush 9, 2) := by decide +kernel
theorem dX1_write_149 : decode cX1_write 149 = .ok (.aaload, 1) := by decide +kernel
theorem dX1_write_150 : decode cX1_write 150 = .ok (.iload 4, 2) := by decide +kernel
theorem dX1_write_152 : decode cX1_write 152 = .ok (.aload_n 1, 1) := by decide +kernel
theorem dX1_write_153 : decode cX1_write 153 = .ok (.getfield 67, 3) := by decide +kernel
theorem dX1_write_156 : decode cX1_write 156 = .ok (.iconst 0, 1) := by decide +kernel
theorem dX1_write_157 : decode cX1_write 157 = .ok (.aaload, 1) := by decide +kernel
theorem dX1_write_158 : decode cX1_write 158 = .ok (.iconst 0, 1) := by decide +kernel
theorem dX1_write_159 : decode cX1_write 159 = .ok (.invokevirtual 71, 3) := by decide +kernel
theorem dX1_write_162 : decode cX1_write 162 = .ok (.iastore, 1) := by decide +kernel
theorem dX1_write_163 : decode cX1_write 163 = .ok (.aload_n 0, 1) := by decide +kernel
theorem dX1_write_164 : decode cX1_write 164 = .ok (.getfield 13, 3) := by decide +kernel
theorem dX1_write_167 : decode cX1_write 167 = .ok (.bipush 10, 2) := by decide +kernel
theorem dX1_write_169 : decode cX1_write 169 = .ok (.aaload, 1) := by decide +kernel
theorem dX1_write_170 : decode cX1_write 170 = .ok (.iload 4, 2) := by decide +kernel
theorem dX1_write_172 : decode cX1_write 172 = .ok (.aload_n 1, 1) := by decide +kernel
theorem dX1_write_173 : decode cX1_write 173 = .ok (.getfield 67, 3) := by decide +kernel
theorem dX1_write_176 : decode cX1_write 176 = .ok (.iconst 1, 1) := by decide +kernel
theorem dX1_write_177 : decode cX1_write 177 = .ok (.aaload, 1) := by decide +kernel
theorem dX1_write_178 : decode cX1_write 178 = .ok (.iconst 0, 1) := by decide +kernel
theorem dX1_write_179 : decode cX1_write 179 = .ok (.invokevirtual 71, 3) := by decide +kernel
theorem dX1_write_182 : decode cX1_write 182 = .ok (.iastore, 1) := by decide +kernel
theorem dX1_write_183 : decode cX1_write 183 = .ok (.aload_n 0, 1) := by decide +kernel
theorem dX1_write_184 : decode cX1_write 184 = .ok (.getfield 13, 3) := by decide +kernel
theorem dX1_write_187 : decode cX1_write 187 = .ok (.bipush 11, 2) := by decide +kernel
theorem dX1_write_189 : decode cX1_write 189 = .ok (.aaload, 1) := by decide +kernel
theorem dX1_write_190 : decode cX1_write 190 = .ok (.iload 4, 2) := by decide +kernel
theorem dX1_write_192 : decode cX1_write 192 = .ok (.aload_n 3, 1) := by decide +kernel
theorem dX1_write_193 : decode cX1_write 193 = .ok (.getfield 77, 3) := by decide +kernel
theorem dX1_write_196 : decode cX1_write 196 = .ok (.iastore, 1) := by decide +kernel
theorem dX1_write_197 : decode cX1_write 197 = .ok (.aload_n 0, 1) := by decide +kernel
theorem dX1_write_198 : decode cX1_write 198 = .ok (.getfield 13, 3) := by decide +kernel
theorem dX1_write_201 : decode cX1_write 201 = .ok (.bipush 12, 2) := by decide +kernel
theorem dX1_write_203 : decode cX1_write 203 = .ok (.aaload, 1) := by decide +kernel
theorem dX1_write_204 : decode cX1_write 204 = .ok (.iload 4, 2) := by decide +kernel
theorem dX1_write_206 : decode cX1_write 206 = .ok (.aload_n 2, 1) := by decide +kernel
theorem dX1_write_207 : decode cX1_write 207 = .ok (.getfield 80, 3) := by decide +kernel
theorem dX1_write_210 : decode cX1_write 210 = .ok (.iastore, 1) := by decide +kernel
theorem dX1_write_211 : decode cX1_write 211 = .ok (.aload_n 0, 1) := by decide +kernel
theorem dX1_write_212 : decode cX1_write 212 = .ok (.getfield 13, 3) := by decide +kernel
theorem dX1_write_215 : decode cX1_write 215 = .ok (.bipush 13, 2) := by decide +kernel
theorem dX1_write_217 : decode cX1_write 217 = .ok (.aaload, 1) := by decide +kernel
theorem dX1_write_218 : decode cX1_write 218 = .ok (.iload 4, 2) := by decide +kernel
theorem dX1_write_220 : decode cX1_write 220 = .ok (.aload_n 2, 1) := by decide +kernel
theorem dX1_write_221 : decode cX1_write 221 = .ok (.getfield 80, 3) := by decide +kernel
theorem dX1_write_224 : decode cX1_write 224 = .ok (.aload_n 2, 1) := by decide +kernel
theorem dX1_write_225 : decode cX1_write 225 = .ok (.getfield 57, 3) := by decide +kernel
theorem dX1_write_228 : decode cX1_write 228 = .ok (.iadd, 1) := by decide +kernel
theorem dX1_write_229 : decode cX1_write 229 = .ok (.aload_n 2, 1) := by decide +kernel
theorem dX1_write_230 : decode cX1_write 230 = .ok (.getfield 44, 3) := by decide +kernel
theorem dX1_write_233 : decode cX1_write 233 = .ok (.iconst 2, 1) := by decide +kernel
theorem dX1_write_234 : decode cX1_write 234 = .ok (.if_icmp .ne 7, 3) := by decide +kernel
theorem dX1_write_237 : decode cX1_write 237 = .ok (.iconst 1, 1) := by decide +kernel
theorem dX1_write_238 : decode cX1_write 238 = .ok (.goto 4, 3) := by decide +kernel
theorem dX1_write_241 : decode cX1_write 241 = .ok (.iconst 0, 1) := by decide +kernel
theorem dX1_write_242 : decode cX1_write 242 = .ok (.iadd, 1) := by decide +kernel
theorem dX1_write_243 : decode cX1_write 243 = .ok (.iastore, 1) := by decide +kernel
theorem dX1_write_244 : decode cX1_write 244 = .ok (.aload_n 0, 1) := by decide +kernel
theorem dX1_write_245 : decode cX1_write 245 = .ok (.getfield 13, 3) := by decide +kernel
theorem dX1_write_248 : decode cX1_write 248 = .ok (.bipush 14, 2) := by decide +kernel
theorem dX1_write_250 : decode cX1_write 250 = .ok (.aaload, 1) := by decide +kernel
theorem dX1_write_251 : decode cX1_write 251 = .ok (.iload 4, 2) := by decide +kernel
theorem dX1_write_253 : decode cX1_write 253 = .ok (.aload_n 1, 1) := by decide +kernel
theorem dX1_write_254 : decode cX1_write 254 = .ok (.aload_n 2, 1) := by decide +kernel
theorem dX1_write_255 : decode cX1_write 255 = .ok (.invokevirtual 83, 3) := by decide +kernel
theorem dX1_write_258 : decode cX1_write 258 = .ok (.ifCond .eq 7, 3) := by decide +kernel
theorem dX1_write_261 : decode cX1_write 261 = .ok (.iconst 1, 1) := by decide +kernel
theorem dX1_write_262 : decode cX1_write 262 = .ok (.goto 4, 3) := by decide +kernel
theorem dX1_write_265 : decode cX1_write 265 = .ok (.iconst 0, 1) := by decide +kernel
theorem dX1_write_266 : decode cX1_write 266 = .ok (.iastore, 1) := by decide +kernel
theorem dX1_write_267 : decode cX1_write 267 = .ok (.aload_n 0, 1) := by decide +kernel
theorem dX1_write_268 : decode cX1_write 268 = .ok (.getfield 13, 3) := by decide +kernel
theorem dX1_write_271 : decode cX1_write 271 = .ok (.bipush 15, 2) := by decide +kernel
theorem dX1_write_273 : decode cX1_write 273 = .ok (.aaload, 1) := by decide +kernel
theorem dX1_write_274 : decode cX1_write 274 = .ok (.iload 4, 2) := by decide +kernel
theorem dX1_write_276 : decode cX1_write 276 = .ok (.aload_n 1, 1) := by decide +kernel
theorem dX1_write_277 : decode cX1_write 277 = .ok (.aload_n 2, 1) := by decide +kernel
theorem dX1_write_278 : decode cX1_write 278 = .ok (.invokevirtual 87, 3) := by decide +kernel
theorem dX1_write_281 : decode cX1_write 281 = .ok (.ifCond .eq 7, 3) := by decide +kernel
theorem dX1_write_284 : decode cX1_write 284 = .ok (.iconst 1, 1) := by decide +kernel
theorem dX1_write_285 : decode cX1_write 285 = .ok (.goto 4, 3) := by decide +kernel
theorem dX1_write_288 : decode cX1_write 288 = .ok (.iconst 0, 1) := by decide +kernel
theorem dX1_write_289 : decode cX1_write 289 = .ok (.iastore, 1) := by decide +kernel
theorem dX1_write_290 : decode cX1_write 290 = .ok (.aload_n 0, 1) := by decide +kernel
theorem dX1_write_291 : decode cX1_write 291 = .ok (.getfield 16, 3) := by decide +kernel
theorem dX1_write_294 : decode cX1_write 294 = .ok (.iload 4, 2) := by decide +kernel
theorem dX1_write_296 : decode cX1_write 296 = .ok (.aload_n 2, 1) := by decide +kernel
theorem dX1_write_297 : decode cX1_write 297 = .ok (.invokevirtual 90, 3) := by decide +kernel
theorem dX1_write_300 : decode cX1_write 300 = .ok (.lastore, 1) := by decide +kernel
theorem dX1_write_301 : decode cX1_write 301 = .ok (.aload_n 0, 1) := by decide +kernel
theorem dX1_write_302 : decode cX1_write 302 = .ok (.dup, 1) := by decide +kernel
theorem dX1_write_303 : decode cX1_write 303 = .ok (.getfield 30, 3) := by decide +kernel
theorem dX1_write_306 : decode cX1_write 306 = .ok (.iconst 1, 1) := by decide +kernel
theorem dX1_write_307 : decode cX1_write 307 = .ok (.iadd, 1) := by decide +kernel
theorem dX1_write_308 : decode cX1_write 308 = .ok (.putfield 30, 3) := by decide +kernel
theorem dX1_write_311 : decode cX1_write 311 = .ok (.aload_n 0, 1) := by decide +kernel
theorem dX1_write_312 : decode cX1_write 312 = .ok (.aload_n 3, 1) := by decide +kernel
theorem dX1_write_313 : decode cX1_write 313 = .ok (.invokevirtual 94, 3) := by decide +kernel
theorem dX1_write_316 : decode cX1_write 316 = .ok (.aload_n 0, 1) := by decide +kernel
theorem dX1_write_317 : decode cX1_write 317 = .ok (.iload 4, 2) := by decide +kernel
theorem dX1_write_319 : decode cX1_write 319 = .ok (.iconst 1, 1) := by decide +kernel
theorem dX1_write_320 : decode cX1_write 320 = .ok (.invokevirtual 98, 3) := by decide +kernel
theorem dX1_write_323 : decode cX1_write 323 = .ok (.return_, 1) := by decide +kernel
def fX1_write (a0 : Nat) (a1 : Nat) (a2 : Nat) (a3 : Nat) (M : xMem) : Option (xMem) :=
  xLt (M.1 a0 5) fun x1 => if x1 < (nI 200) then (xGb (nI 0) (xln (xrf a0 0)) (xGb x1 (xln (xrf (xrf a0 0) (Int32.toNatClampNeg (nI 0)))) (xLt (xwI M (xrf (xrf a0 0) (Int32.toNatClampNeg (nI 0))) (Int32.toNatClampNeg x1) (M.1 a1 1)) fun M4 => xGb (nI 1) (xln (xrf a0 0)) (xGb x1 (xln (xrf (xrf a0 0) (Int32.toNatClampNeg (nI 1)))) (xLt (xwI M4 (xrf (xrf a0 0) (Int32.toNatClampNeg (nI 1))) (Int32.toNatClampNeg x1) (M4.1 a2 0)) fun M7 => xGb (nI 2) (xln (xrf a0 0)) (xGb x1 (xln (xrf (xrf a0 0) (Int32.toNatClampNeg (nI 2)))) (xLt (xwI M7 (xrf (xrf a0 0) (Int32.toNatClampNeg (nI 2))) (Int32.toNatClampNeg x1) (M7.1 a2 1)) fun M10 => xGb (nI 3) (xln (xrf a0 0)) (xGb x1 (xln (xrf (xrf a0 0) (Int32.toNatClampNeg (nI 3)))) (xLt (xwI M10 (xrf (xrf a0 0) (Int32.toNatClampNeg (nI 3))) (Int32.toNatClampNeg x1) (M10.1 a3 5)) fun M13 => xGb (nI 4) (xln (xrf a0 0)) (xGb x1 (xln (xrf (xrf a0 0) (Int32.toNatClampNeg (nI 4)))) (xLt (xwI M13 (xrf (xrf a0 0) (Int32.toNatClampNeg (nI 4))) (Int32.toNatClampNeg x1) (M13.1 a3 6)) fun M16 => xGb (nI 5) (xln (xrf a0 0)) (xBn (fX1_setOf a2 M16) fun r18 M19 => xGb x1 (xln (xrf (xrf a0 0) (Int32.toNatClampNeg (nI 5)))) (xLt (xwI M19 (xrf (xrf a0 0) (Int32.toNatClampNeg (nI 5))) (Int32.toNatClampNeg x1) r18) fun M21 => xGb (nI 6) (xln (xrf a0 0)) (xGb x1 (xln (xrf (xrf a0 0) (Int32.toNatClampNeg (nI 6)))) (xLt (xwI M21 (xrf (xrf a0 0) (Int32.toNatClampNeg (nI 6))) (Int32.toNatClampNeg x1) (M21.1 a2 3)) fun M24 => xGb (nI 7) (xln (xrf a0 0)) (xBn (fX8_mustScore a1 M24) fun r26 M27 => xLt (fun (s28 : Int32) (M29 : xMem) => (xGb x1 (xln (xrf (xrf a0 0) (Int32.toNatClampNeg (nI 7)))) (xLt (xwI M29 (xrf (xrf a0 0) (Int32.toNatClampNeg (nI 7))) (Int32.toNatClampNeg x1) s28) fun M31 => xGb (nI 8) (xln (xrf a0 0)) (xGb x1 (xln (xrf (xrf a0 0) (Int32.toNatClampNeg (nI 8)))) (xLt (xwI M31 (xrf (xrf a0 0) (Int32.toNatClampNeg (nI 8))) (Int32.toNatClampNeg x1) (M31.1 a3 7)) fun M34 => xGb (nI 9) (xln (xrf a0 0)) (xGb (nI 0) (xln (xrf a1 0)) (xBn (fX7_maskOf (xrf (xrf a1 0) (Int32.toNatClampNeg (nI 0))) (nI 0) M34) fun r37 M38 => xGb x1 (xln (xrf (xrf a0 0) (Int32.toNatClampNeg (nI 9)))) (xLt (xwI M38 (xrf (xrf a0 0) (Int32.toNatClampNeg (nI 9))) (Int32.toNatClampNeg x1) r37) fun M40 => xGb (nI 10) (xln (xrf a0 0)) (xGb (nI 1) (xln (xrf a1 0)) (xBn (fX7_maskOf (xrf (xrf a1 0) (Int32.toNatClampNeg (nI 1))) (nI 0) M40) fun r43 M44 => xGb x1 (xln (xrf (xrf a0 0) (Int32.toNatClampNeg (nI 10)))) (xLt (xwI M44 (xrf (xrf a0 0) (Int32.toNatClampNeg (nI 10))) (Int32.toNatClampNeg x1) r43) fun M46 => xGb (nI 11) (xln (xrf a0 0)) (xGb x1 (xln (xrf (xrf a0 0) (Int32.toNatClampNeg (nI 11)))) (xLt (xwI M46 (xrf (xrf a0 0) (Int32.toNatClampNeg (nI 11))) (Int32.toNatClampNeg x1) (M46.1 a3 8)) fun M49 => xGb (nI 12) (xln (xrf a0 0)) (xGb x1 (xln (xrf (xrf a0 0) (Int32.toNatClampNeg (nI 12)))) (xLt (xwI M49 (xrf (xrf a0 0) (Int32.toNatClampNeg (nI 12))) (Int32.toNatClampNeg x1) (M49.1 a2 4)) fun M52 => xGb (nI 13) (xln (xrf a0 0)) (xLt (fun (s54 : Int32) (M55 : xMem) => (xGb x1 (xln (xrf (xrf a0 0) (Int32.toNatClampNeg (nI 13)))) (xLt (xwI M55 (xrf (xrf a0 0) (Int32.toNatClampNeg (nI 13))) (Int32.toNatClampNeg x1) (((M52.1 a2 4) + (M52.1 a2 3)) + s54)) fun M57 => xGb (nI 14) (xln (xrf a0 0)) (xBn (fX8_isRaiderLost a1 a2 M57) fun r59 M60 => xLt (fun (s61 : Int32) (M62 : xMem) => (xGb x1 (xln (xrf (xrf a0 0) (Int32.toNatClampNeg (nI 14)))) (xLt (xwI M62 (xrf (xrf a0 0) (Int32.toNatClampNeg (nI 14))) (Int32.toNatClampNeg x1) s61) fun M64 => xGb (nI 15) (xln (xrf a0 0)) (xBn (fX8_isSuper a1 a2 M64) fun r66 M67 => xLt (fun (s68 : Int32) (M69 : xMem) => (xGb x1 (xln (xrf (xrf a0 0) (Int32.toNatClampNeg (nI 15)))) (xLt (xwI M69 (xrf (xrf a0 0) (Int32.toNatClampNeg (nI 15))) (Int32.toNatClampNeg x1) s68) fun M71 => xBn (fX4_pack a2 M71) fun r72 M73 => xGb x1 (xln (xrf a0 1)) (xLt (xwL M73 (xrf a0 1) (Int32.toNatClampNeg x1) r72) fun M75 => xLt (xwI M75 a0 5 ((M75.1 a0 5) + (nI 1))) fun M76 => xBv (fX1_setLead a0 a3 M76) fun M77 => xBv (fX1_book a0 x1 (nI 1) M77) fun M78 => some M78)) : Option (xMem))) fun J289 => if r66 = 0 then (J289 (nI 0) M67) else (J289 (nI 1) M67))) : Option (xMem))) fun J266 => if r59 = 0 then (J266 (nI 0) M60) else (J266 (nI 1) M60))) : Option (xMem))) fun J242 => if (M52.1 a2 1) = (nI 2) then (J242 (nI 1) M52) else (J242 (nI 0) M52))))))))))))))) : Option (xMem))) fun J128 => if r26 = 0 then (J128 (nI 0) M27) else (J128 (nI 1) M27))))))))))))))))) else (some M)
set_option maxRecDepth 100000 in
set_option maxHeartbeats 4000000 in
theorem zX1_write (G : xGX) (a0 : Nat) (h0 : xkd a0 = 1) (a1 : Nat) (h1 : xkd a1 = 8) (a2 : Nat) (h2 : xkd a2 = 4) (a3 : Nat) (h3 : xkd a3 = 8) (M : xMem) (M' : xMem) (h : fX1_write a0 a1 a2 a3 M = some M') : xCt G yX1_write cX1_write 5 none 4 [vr G a0, vr G a1, vr G a2, vr G a3] M (none, M') := by
  refine xMet (lv := [some (vr G a0), some (vr G a1), some (vr G a2), some (vr G a3), none]) (by decide) (Nat.le_of_ble_eq_true rfl) rfl ?_
  intro X hG hnL C R0
  subst hG
  have C : xCk X cX1_write RX1 4 := C
  have hn4 : 4 < X.2.2.2.2.2.2.2.2.2.2.2.2.2 := by rw [hnL]; decide
  unfold fX1_write at h
  refine r_aload_n (pc := 0) C dX1_write_0 rfl rfl ?_
  refine r_getI (pc := 1) C kX1_30 h0 dX1_write_1 ?_
  refine r_letI h (fun x1 h => ?_)
  refine r_istore (pc := 4) (lv' := [_, _, _, _, _]) C dX1_write_4 hn4 rfl ?_
  refine r_iload (pc := 6) C dX1_write_6 rfl ?_
  refine r_sipush (pc := 8) (v := (nI 200)) C dX1_write_8 (by decide) ?_
  refine r_icmp_lt (pc := 11) (tgt := 15) C dX1_write_11 (by decide) h (fun _ h => ?_) (fun _ h => ?_)
  · refine r_aload_n (pc := 15) C dX1_write_15 rfl rfl ?_
    refine r_getR (pc := 16) C kX1_13 h0 (by decide) dX1_write_16 ?_
    refine r_iconst (pc := 19) (v := (nI 0)) C dX1_write_19 (by decide) ?_
    obtain ⟨g2, h⟩ := xGb_of h
    refine r_aaldI (pc := 20) C (xtk h0 (by decide) rfl rfl) g2 dX1_write_20 ?_
    refine r_iload (pc := 21) C dX1_write_21 rfl ?_
    refine r_aload_n (pc := 23) C dX1_write_23 rfl rfl ?_
    refine r_getI (pc := 24) C kX1_34 h1 dX1_write_24 ?_
    obtain ⟨g3, h⟩ := xGb_of h
    refine r_iast (pc := 27) C (xkeI (xtk h0 (by decide) rfl rfl) (xin_lt g2)) g3 dX1_write_27 ?_
    refine r_letM h (fun M4 h => ?_)
    refine r_aload_n (pc := 28) C dX1_write_28 rfl rfl ?_
    refine r_getR (pc := 29) C kX1_13 h0 (by decide) dX1_write_29 ?_
    refine r_iconst (pc := 32) (v := (nI 1)) C dX1_write_32 (by decide) ?_
    obtain ⟨g5, h⟩ := xGb_of h
    refine r_aaldI (pc := 33) C (xtk h0 (by decide) rfl rfl) g5 dX1_write_33 ?_
    refine r_iload (pc := 34) C dX1_write_34 rfl ?_
    refine r_aload_n (pc := 36) C dX1_write_36 rfl rfl ?_
    refine r_getI (pc := 37) C kX1_39 h2 dX1_write_37 ?_
    obtain ⟨g6, h⟩ := xGb_of h
    refine r_iast (pc := 40) C (xkeI (xtk h0 (by decide) rfl rfl) (xin_lt g5)) g6 dX1_write_40 ?_
    refine r_letM h (fun M7 h => ?_)
    refine r_aload_n (pc := 41) C dX1_write_41 rfl rfl ?_
    refine r_getR (pc := 42) C kX1_13 h0 (by decide) dX1_write_42 ?_
    refine r_iconst (pc := 45) (v := (nI 2)) C dX1_write_45 (by decide) ?_
    obtain ⟨g8, h⟩ := xGb_of h
    refine r_aaldI (pc := 46) C (xtk h0 (by decide) rfl rfl) g8 dX1_write_46 ?_
    refine r_iload (pc := 47) C dX1_write_47 rfl ?_
    refine r_aload_n (pc := 49) C dX1_write_49 rfl rfl ?_
    refine r_getI (pc := 50) C kX1_44 h2 dX1_write_50 ?_
    obtain ⟨g9, h⟩ := xGb_of h
    refine r_iast (pc := 53) C (xkeI (xtk h0 (by decide) rfl rfl) (xin_lt g8)) g9 dX1_write_53 ?_
    refine r_letM h (fun M10 h => ?_)
    refine r_aload_n (pc := 54) C dX1_write_54 rfl rfl ?_
    refine r_getR (pc := 55) C kX1_13 h0 (by decide) dX1_write_55 ?_
    refine r_iconst (pc := 58) (v := (nI 3)) C dX1_write_58 (by decide) ?_
    obtain ⟨g11, h⟩ := xGb_of h
    refine r_aaldI (pc := 59) C (xtk h0 (by decide) rfl rfl) g11 dX1_write_59 ?_
    refine r_iload (pc := 60) C dX1_write_60 rfl ?_
    refine r_aload_n (pc := 62) C dX1_write_62 rfl rfl ?_
    refine r_getI (pc := 63) C kX1_47 h3 dX1_write_63 ?_
    obtain ⟨g12, h⟩ := xGb_of h
    refine r_iast (pc := 66) C (xkeI (xtk h0 (by decide) rfl rfl) (xin_lt g11)) g12 dX1_write_66 ?_
    refine r_letM h (fun M13 h => ?_)
    refine r_aload_n (pc := 67) C dX1_write_67 rfl rfl ?_
    refine r_getR (pc := 68) C kX1_13 h0 (by decide) dX1_write_68 ?_
    refine r_iconst (pc := 71) (v := (nI 4)) C dX1_write_71 (by decide) ?_
    obtain ⟨g14, h⟩ := xGb_of h
    refine r_aaldI (pc := 72) C (xtk h0 (by decide) rfl rfl) g14 dX1_write_72 ?_
    refine r_iload (pc := 73) C dX1_write_73 rfl ?_
    refine r_aload_n (pc := 75) C dX1_write_75 rfl rfl ?_
    refine r_getI (pc := 76) C kX1_50 h3 dX1_write_76 ?_
    obtain ⟨g15, h⟩ := xGb_of h
    refine r_iast (pc := 79) C (xkeI (xtk h0 (by decide) rfl rfl) (xin_lt g14)) g15 dX1_write_79 ?_
    refine r_letM h (fun M16 h => ?_)
    refine r_aload_n (pc := 80) C dX1_write_80 rfl rfl ?_
    refine r_getR (pc := 81) C kX1_13 h0 (by decide) dX1_write_81 ?_
    refine r_iconst (pc := 84) (v := (nI 5)) C dX1_write_84 (by decide) ?_
    obtain ⟨g17, h⟩ := xGb_of h
    refine r_aaldI (pc := 85) C (xtk h0 (by decide) rfl rfl) g17 dX1_write_85 ?_
    refine r_iload (pc := 86) C dX1_write_86 rfl ?_
    refine r_aload_n (pc := 88) C dX1_write_88 rfl rfl ?_
    refine r_sI1 (pc := 89) C (fun r M' e => zX1_setOf X.1 a2 h2 M16 r M' e) mX1_setOf lX1_53 (by decide) (Nat.le_of_ble_eq_true rfl) dX1_write_89 h (fun r18 M19 h => ?_)
    obtain ⟨g20, h⟩ := xGb_of h
    refine r_iast (pc := 92) C (xkeI (xtk h0 (by decide) rfl rfl) (xin_lt g17)) g20 dX1_write_92 ?_
    refine r_letM h (fun M21 h => ?_)
    refine r_aload_n (pc := 93) C dX1_write_93 rfl rfl ?_
    refine r_getR (pc := 94) C kX1_13 h0 (by decide) dX1_write_94 ?_
    refine r_bipush (pc := 97) (v := (nI 6)) C dX1_write_97 (by decide) ?_
    obtain ⟨g22, h⟩ := xGb_of h
    refine r_aaldI (pc := 99) C (xtk h0 (by decide) rfl rfl) g22 dX1_write_99 ?_
    refine r_iload (pc := 100) C dX1_write_100 rfl ?_
    refine r_aload_n (pc := 102) C dX1_write_102 rfl rfl ?_
    refine r_getI (pc := 103) C kX1_57 h2 dX1_write_103 ?_
    obtain ⟨g23, h⟩ := xGb_of h
    refine r_iast (pc := 106) C (xkeI (xtk h0 (by decide) rfl rfl) (xin_lt g22)) g23 dX1_write_106 ?_
    refine r_letM h (fun M24 h => ?_)
    refine r_aload_n (pc := 107) C dX1_write_107 rfl rfl ?_
    refine r_getR (pc := 108) C kX1_13 h0 (by decide) dX1_write_108 ?_
    refine r_bipush (pc := 111) (v := (nI 7)) C dX1_write_111 (by decide) ?_
    obtain ⟨g25, h⟩ := xGb_of h
    refine r_aaldI (pc := 113) C (xtk h0 (by decide) rfl rfl) g25 dX1_write_113 ?_
    refine r_iload (pc := 114) C dX1_write_114 rfl ?_
    refine r_aload_n (pc := 116) C dX1_write_116 rfl rfl ?_
    refine r_vI0 (pc := 117) C (fun r M' e => zX8_mustScore X.1 a1 h1 M24 r M' e) h1 (by decide) rfl mX8_mustScore lX1_60 (by decide) (Nat.le_of_ble_eq_true rfl) dX1_write_117 h (fun r26 M27 h => ?_)
    refine r_jn (fun J => ∀ (s28 : Int32) (M29 : xMem) , J s28 M29 = some M' → WW X 128 [some (vr X.1 a0), some (vr X.1 a1), some (vr X.1 a2), some (vr X.1 a3), some (.int x1)] [.int s28, .int x1, vr X.1 (xrf (xrf a0 0) (Int32.toNatClampNeg (nI 7)))] M29) h (fun s28 M29  h => ?_) (fun J128 hJ128 h => ?_)
    · obtain ⟨g30, h⟩ := xGb_of h
      refine r_iast (pc := 128) C (xkeI (xtk h0 (by decide) rfl rfl) (xin_lt g25)) g30 dX1_write_128 ?_
      refine r_letM h (fun M31 h => ?_)
      refine r_aload_n (pc := 129) C dX1_write_129 rfl rfl ?_
      refine r_getR (pc := 130) C kX1_13 h0 (by decide) dX1_write_130 ?_
      refine r_bipush (pc := 133) (v := (nI 8)) C dX1_write_133 (by decide) ?_
      obtain ⟨g32, h⟩ := xGb_of h
      refine r_aaldI (pc := 135) C (xtk h0 (by decide) rfl rfl) g32 dX1_write_135 ?_
      refine r_iload (pc := 136) C dX1_write_136 rfl ?_
      refine r_aload_n (pc := 138) C dX1_write_138 rfl rfl ?_
      refine r_getI (pc := 139) C kX1_64 h3 dX1_write_139 ?_
      obtain ⟨g33, h⟩ := xGb_of h
      refine r_iast (pc := 142) C (xkeI (xtk h0 (by decide) rfl rfl) (xin_lt g32)) g33 dX1_write_142 ?_
      refine r_letM h (fun M34 h => ?_)
      refine r_aload_n (pc := 143) C dX1_write_143 rfl rfl ?_
      refine r_getR (pc := 144) C kX1_13 h0 (by decide) dX1_write_144 ?_
      refine r_bipush (pc := 147) (v := (nI 9)) C dX1_write_147 (by decide) ?_
      obtain ⟨g35, h⟩ := xGb_of h
      refine r_aaldI (pc := 149) C (xtk h0 (by decide) rfl rfl) g35 dX1_write_149 ?_
      refine r_iload (pc := 150) C dX1_write_150 rfl ?_
      refine r_aload_n (pc := 152) C dX1_write_152 rfl rfl ?_
      refine r_getR (pc := 153) C kX1_67 h1 (by decide) dX1_write_153 ?_
      refine r_iconst (pc := 156) (v := (nI 0)) C dX1_write_156 (by decide) ?_
      obtain ⟨g36, h⟩ := xGb_of h
      refine r_aaldS (pc := 157) C (xtk h1 (by decide) rfl rfl) g36 dX1_write_157 ?_
      refine r_iconst (pc := 158) (v := (nI 0)) C dX1_write_158 (by decide) ?_
      refine r_vI1 (pc := 159) C (fun r M' e => zX7_maskOf X.1 (xrf (xrf a1 0) (Int32.toNatClampNeg (nI 0))) (xkeS (xtk h1 (by decide) rfl rfl) (xin_lt g36)) (nI 0) M34 r M' e) (xkeS (xtk h1 (by decide) rfl rfl) (xin_lt g36)) (by decide) rfl mX7_maskOf lX1_71 (by decide) (Nat.le_of_ble_eq_true rfl) dX1_write_159 h (fun r37 M38 h => ?_)
      obtain ⟨g39, h⟩ := xGb_of h
      refine r_iast (pc := 162) C (xkeI (xtk h0 (by decide) rfl rfl) (xin_lt g35)) g39 dX1_write_162 ?_
      refine r_letM h (fun M40 h => ?_)
      refine r_aload_n (pc := 163) C dX1_write_163 rfl rfl ?_
      refine r_getR (pc := 164) C kX1_13 h0 (by decide) dX1_write_164 ?_
      refine r_bipush (pc := 167) (v := (nI 10)) C dX1_write_167 (by decide) ?_
      obtain ⟨g41, h⟩ := xGb_of h
      refine r_aaldI (pc := 169) C (xtk h0 (by decide) rfl rfl) g41 dX1_write_169 ?_
      refine r_iload (pc := 170) C dX1_write_170 rfl ?_
      refine r_aload_n (pc := 172) C dX1_write_172 rfl rfl ?_
      refine r_getR (pc := 173) C kX1_67 h1 (by decide) dX1_write_173 ?_
      refine r_iconst (pc := 176) (v := (nI 1)) C dX1_write_176 (by decide) ?_
      obtain ⟨g42, h⟩ := xGb_of h
      refine r_aaldS (pc := 177) C (xtk h1 (by decide) rfl rfl) g42 dX1_write_177 ?_
      refine r_iconst (pc := 178) (v := (nI 0)) C dX1_write_178 (by decide) ?_
      refine r_vI1 (pc := 179) C (fun r M' e => zX7_maskOf X.1 (xrf (xrf a1 0) (Int32.toNatClampNeg (nI 1))) (xkeS (xtk h1 (by decide) rfl rfl) (xin_lt g42)) (nI 0) M40 r M' e) (xkeS (xtk h1 (by decide) rfl rfl) (xin_lt g42)) (by decide) rfl mX7_maskOf lX1_71 (by decide) (Nat.le_of_ble_eq_true rfl) dX1_write_179 h (fun r43 M44 h => ?_)
      obtain ⟨g45, h⟩ := xGb_of h
      refine r_iast (pc := 182) C (xkeI (xtk h0 (by decide) rfl rfl) (xin_lt g41)) g45 dX1_write_182 ?_
      refine r_letM h (fun M46 h => ?_)
      refine r_aload_n (pc := 183) C dX1_write_183 rfl rfl ?_
      refine r_getR (pc := 184) C kX1_13 h0 (by decide) dX1_write_184 ?_
      refine r_bipush (pc := 187) (v := (nI 11)) C dX1_write_187 (by decide) ?_
      obtain ⟨g47, h⟩ := xGb_of h
      refine r_aaldI (pc := 189) C (xtk h0 (by decide) rfl rfl) g47 dX1_write_189 ?_
      refine r_iload (pc := 190) C dX1_write_190 rfl ?_
      refine r_aload_n (pc := 192) C dX1_write_192 rfl rfl ?_
      refine r_getI (pc := 193) C kX1_77 h3 dX1_write_193 ?_
      obtain ⟨g48, h⟩ := xGb_of h
      refine r_iast (pc := 196) C (xkeI (xtk h0 (by decide) rfl rfl) (xin_lt g47)) g48 dX1_write_196 ?_
      refine r_letM h (fun M49 h => ?_)
      refine r_aload_n (pc := 197) C dX1_write_197 rfl rfl ?_
      refine r_getR (pc := 198) C kX1_13 h0 (by decide) dX1_write_198 ?_
      refine r_bipush (pc := 201) (v := (nI 12)) C dX1_write_201 (by decide) ?_
      obtain ⟨g50, h⟩ := xGb_of h
      refine r_aaldI (pc := 203) C (xtk h0 (by decide) rfl rfl) g50 dX1_write_203 ?_
      refine r_iload (pc := 204) C dX1_write_204 rfl ?_
      refine r_aload_n (pc := 206) C dX1_write_206 rfl rfl ?_
      refine r_getI (pc := 207) C kX1_80 h2 dX1_write_207 ?_
      obtain ⟨g51, h⟩ := xGb_of h
      refine r_iast (pc := 210) C (xkeI (xtk h0 (by decide) rfl rfl) (xin_lt g50)) g51 dX1_write_210 ?_
      refine r_letM h (fun M52 h => ?_)
      refine r_aload_n (pc := 211) C dX1_write_211 rfl rfl ?_
      refine r_getR (pc := 212) C kX1_13 h0 (by decide) dX1_write_212 ?_
      refine r_bipush (pc := 215) (v := (nI 13)) C dX1_write_215 (by decide) ?_
      obtain ⟨g53, h⟩ := xGb_of h
      refine r_aaldI (pc := 217) C (xtk h0 (by decide) rfl rfl) g53 dX1_write_217 ?_
      refine r_iload (pc := 218) C dX1_write_218 rfl ?_
      refine r_aload_n (pc := 220) C dX1_write_220 rfl rfl ?_
      refine r_getI (pc := 221) C kX1_80 h2 dX1_write_221 ?_
      refine r_aload_n (pc := 224) C dX1_write_224 rfl rfl ?_
      refine r_getI (pc := 225) C kX1_57 h2 dX1_write_225 ?_
      refine r_iadd (pc := 228) C dX1_write_228 ?_
      refine r_aload_n (pc := 229) C dX1_write_229 rfl rfl ?_
      refine r_getI (pc := 230) C kX1_44 h2 dX1_write_230 ?_
      refine r_iconst (pc := 233) (v := (nI 2)) C dX1_write_233 (by decide) ?_
      refine r_jn (fun J => ∀ (s54 : Int32) (M55 : xMem) , J s54 M55 = some M' → WW X 242 [some (vr X.1 a0), some (vr X.1 a1), some (vr X.1 a2), some (vr X.1 a3), some (.int x1)] [.int s54, .int ((M52.1 a2 4) + (M52.1 a2 3)), .int x1, vr X.1 (xrf (xrf a0 0) (Int32.toNatClampNeg (nI 13)))] M55) h (fun s54 M55  h => ?_) (fun J242 hJ242 h => ?_)
      · refine r_iadd (pc := 242) C dX1_write_242 ?_
        obtain ⟨g56, h⟩ := xGb_of h
        refine r_iast (pc := 243) C (xkeI (xtk h0 (by decide) rfl rfl) (xin_lt g53)) g56 dX1_write_243 ?_
        refine r_letM h (fun M57 h => ?_)
        refine r_aload_n (pc := 244) C dX1_write_244 rfl rfl ?_
        refine r_getR (pc := 245) C kX1_13 h0 (by decide) dX1_write_245 ?_
        refine r_bipush (pc := 248) (v := (nI 14)) C dX1_write_248 (by decide) ?_
        obtain ⟨g58, h⟩ := xGb_of h
        refine r_aaldI (pc := 250) C (xtk h0 (by decide) rfl rfl) g58 dX1_write_250 ?_
        refine r_iload (pc := 251) C dX1_write_251 rfl ?_
        refine r_aload_n (pc := 253) C dX1_write_253 rfl rfl ?_
        refine r_aload_n (pc := 254) C dX1_write_254 rfl rfl ?_
        refine r_vI1 (pc := 255) C (fun r M' e => zX8_isRaiderLost X.1 a1 h1 a2 h2 M57 r M' e) h1 (by decide) rfl mX8_isRaiderLost lX1_83 (by decide) (Nat.le_of_ble_eq_true rfl) dX1_write_255 h (fun r59 M60 h => ?_)
        refine r_jn (fun J => ∀ (s61 : Int32) (M62 : xMem) , J s61 M62 = some M' → WW X 266 [some (vr X.1 a0), some (vr X.1 a1), some (vr X.1 a2), some (vr X.1 a3), some (.int x1)] [.int s61, .int x1, vr X.1 (xrf (xrf a0 0) (Int32.toNatClampNeg (nI 14)))] M62) h (fun s61 M62  h => ?_) (fun J266 hJ266 h => ?_)
        · obtain ⟨g63, h⟩ := xGb_of h
          refine r_iast (pc := 266) C (xkeI (xtk h0 (by decide) rfl rfl) (xin_lt g58)) g63 dX1_write_266 ?_
          refine r_letM h (fun M64 h => ?_)
          refine r_aload_n (pc := 267) C dX1_write_267 rfl rfl ?_
          refine r_getR (pc := 268) C kX1_13 h0 (by decide) dX1_write_268 ?_
          refine r_bipush (pc := 271) (v := (nI 15)) C dX1_write_271 (by decide) ?_
          obtain ⟨g65, h⟩ := xGb_of h
          refine r_aaldI (pc := 273) C (xtk h0 (by decide) rfl rfl) g65 dX1_write_273 ?_
          refine r_iload (pc := 274) C dX1_write_274 rfl ?_
          refine r_aload_n (pc := 276) C dX1_write_276 rfl rfl ?_
          refine r_aload_n (pc := 277) C dX1_write_277 rfl rfl ?_
          refine r_vI1 (pc := 278) C (fun r M' e => zX8_isSuper X.1 a1 h1 a2 h2 M64 r M' e) h1 (by decide) rfl mX8_isSuper lX1_87 (by decide) (Nat.le_of_ble_eq_true rfl) dX1_write_278 h (fun r66 M67 h => ?_)
          refine r_jn (fun J => ∀ (s68 : Int32) (M69 : xMem) , J s68 M69 = some M' → WW X 289 [some (vr X.1 a0), some (vr X.1 a1), some (vr X.1 a2), some (vr X.1 a3), some (.int x1)] [.int s68, .int x1, vr X.1 (xrf (xrf a0 0) (Int32.toNatClampNeg (nI 15)))] M69) h (fun s68 M69  h => ?_) (fun J289 hJ289 h => ?_)
          · obtain ⟨g70, h⟩ := xGb_of h
            refine r_iast (pc := 289) C (xkeI (xtk h0 (by decide) rfl rfl) (xin_lt g65)) g70 dX1_write_289 ?_
            refine r_letM h (fun M71 h => ?_)
            refine r_aload_n (pc := 290) C dX1_write_290 rfl rfl ?_
            refine r_getR (pc := 291) C kX1_16 h0 (by decide) dX1_write_291 ?_
            refine r_iload (pc := 294) C dX1_write_294 rfl ?_
            refine r_aload_n (pc := 296) C dX1_write_296 rfl rfl ?_
            refine r_vL0 (pc := 297) C (fun r M' e => zX4_pack X.1 a2 h2 M71 r M' e) h2 (by decide) rfl mX4_pack lX1_90 (by decide) (Nat.le_of_ble_eq_true rfl) dX1_write_297 h (fun r72 M73 h => ?_)
            obtain ⟨g74, h⟩ := xGb_of h
            refine r_last (pc := 300) C (xtk h0 (by decide) rfl rfl) g74 dX1_write_300 ?_
            refine r_letM h (fun M75 h => ?_)
            refine r_aload_n (pc := 301) C dX1_write_301 rfl rfl ?_
            refine r_dup (pc := 302) C rfl dX1_write_302 ?_
            refine r_getI (pc := 303) C kX1_30 h0 dX1_write_303 ?_
            refine r_iconst (pc := 306) (v := (nI 1)) C dX1_write_306 (by decide) ?_
            refine r_iadd (pc := 307) C dX1_write_307 ?_
            refine r_putI (pc := 308) C kX1_30 h0 dX1_write_308 ?_
            refine r_letM h (fun M76 h => ?_)
            refine r_aload_n (pc := 311) C dX1_write_311 rfl rfl ?_
            refine r_aload_n (pc := 312) C dX1_write_312 rfl rfl ?_
            refine r_vV1 (pc := 313) C (fun M' e => zX1_setLead X.1 a0 h0 a3 h3 M76 M' e) h0 (by decide) rfl mX1_setLead lX1_94 (by decide) (Nat.le_of_ble_eq_true rfl) dX1_write_313 h (fun M77 h => ?_)
            refine r_aload_n (pc := 316) C dX1_write_316 rfl rfl ?_
            refine r_iload (pc := 317) C dX1_write_317 rfl ?_
            refine r_iconst (pc := 319) (v := (nI 1)) C dX1_write_319 (by decide) ?_
            refine r_vV2 (pc := 320) C (fun M' e => zX1_book X.1 a0 h0 x1 (nI 1) M77 M' e) h0 (by decide) rfl mX1_book lX1_98 (by decide) (Nat.le_of_ble_eq_true rfl) dX1_write_320 h (fun M78 h => ?_)
            exact r_vret (pc := 323) C R0 h dX1_write_323
          refine r_if_eq (pc := 281) (tgt := 288) C dX1_write_281 (by decide) h (fun _ h => ?_) (fun _ h => ?_)
          · refine r_iconst (pc := 288) (v := (nI 0)) C dX1_write_288 (by decide) ?_
            exact hJ289 (nI 0) M67  h
          · refine r_iconst (pc := 284) (v := (nI 1)) C dX1_write_284 (by decide) ?_
            refine r_goto (pc := 285) (tgt := 289) C dX1_write_285 (by decide) ?_
            exact hJ289 (nI 1) M67  h
        refine r_if_eq (pc := 258) (tgt := 265) C dX1_write_258 (by decide) h (fun _ h => ?_) (fun _ h => ?_)
        · refine r_iconst (pc := 265) (v := (nI 0)) C dX1_write_265 (by decide) ?_
          exact hJ266 (nI 0) M60  h
        · refine r_iconst (pc := 261) (v := (nI 1)) C dX1_write_261 (by decide) ?_
          refine r_goto (pc := 262) (tgt := 266) C dX1_write_262 (by decide) ?_
          exact hJ266 (nI 1) M60  h
      refine r_icmp_ne (pc := 234) (tgt := 241) C dX1_write_234 (by decide) h (fun _ h => ?_) (fun _ h => ?_)
      · refine r_iconst (pc := 241) (v := (nI 0)) C dX1_write_241 (by decide) ?_
        exact hJ242 (nI 0) M52  h
      · refine r_iconst (pc := 237) (v := (nI 1)) C dX1_write_237 (by decide) ?_
        refine r_goto (pc := 238) (tgt := 242) C dX1_write_238 (by decide) ?_
        exact hJ242 (nI 1) M52  h
    refine r_if_eq (pc := 120) (tgt := 127) C dX1_write_120 (by decide) h (fun _ h => ?_) (fun _ h => ?_)
    · refine r_iconst (pc := 127) (v := (nI 0)) C dX1_write_127 (by decide) ?_
      exact hJ128 (nI 0) M27  h
    · refine r_iconst (pc := 123) (v := (nI 1)) C dX1_write_123 (by decide) ?_
      refine r_goto (pc := 124) (tgt := 128) C dX1_write_124 (by decide) ?_
      exact hJ128 (nI 1) M27  h
  · exact r_vret (pc := 14) C R0 h dX1_write_14
theorem dX1_dropLatest_0 : decode cX1_dropLatest 0 = .ok (.aload_n 0, 1) := by decide +kernel
theorem dX1_dropLatest_1 : decode cX1_dropLatest 1 = .ok (.getfield 30, 3) := by decide +kernel
theorem dX1_dropLatest_4 : decode cX1_dropLatest 4 = .ok (.ifCond .le 22, 3) := by decide +kernel
theorem dX1_dropLatest_7 : decode cX1_dropLatest 7 = .ok (.aload_n 0, 1) := by decide +kernel
theorem dX1_dropLatest_8 : decode cX1_dropLatest 8 = .ok (.dup, 1) := by decide +kernel
theorem dX1_dropLatest_9 : decode cX1_dropLatest 9 = .ok (.getfield 30, 3) := by decide +kernel
theorem dX1_dropLatest_12 : decode cX1_dropLatest 12 = .ok (.iconst 1, 1) := by decide +kernel
theorem dX1_dropLatest_13 : decode cX1_dropLatest 13 = .ok (.isub, 1) := by decide +kernel
theorem dX1_dropLatest_14 : decode cX1_dropLatest 14 = .ok (.putfield 30, 3) := by decide +kernel
theorem dX1_dropLatest_17 : decode cX1_dropLatest 17 = .ok (.aload_n 0, 1) := by decide +kernel
theorem dX1_dropLatest_18 : decode cX1_dropLatest 18 = .ok (.aload_n 0, 1) := by decide +kernel
theorem dX1_dropLatest_19 : decode cX1_dropLatest 19 = .ok (.getfield 30, 3) := by decide +kernel
theorem dX1_dropLatest_22 : decode cX1_dropLatest 22 = .ok (.iconst (-1), 1) := by decide +kernel
theorem dX1_dropLatest_23 : decode cX1_dropLatest 23 = .ok (.invokevirtual 98, 3) := by decide +kernel
theorem dX1_dropLatest_26 : decode cX1_dropLatest 26 = .ok (.return_, 1) := by decide +kernel
def fX1_dropLatest (a0 : Nat) (M : xMem) : Option (xMem) :=
  if (M.1 a0 5) ≤ 0 then (some M) else (xLt (xwI M a0 5 ((M.1 a0 5) - (nI 1))) fun M1 => xBv (fX1_book a0 (M1.1 a0 5) (-1) M1) fun M2 => some M2)
set_option maxRecDepth 100000 in
set_option maxHeartbeats 4000000 in
theorem zX1_dropLatest (G : xGX) (a0 : Nat) (h0 : xkd a0 = 1) (M : xMem) (M' : xMem) (h : fX1_dropLatest a0 M = some M') : xCt G yX1_dropLatest cX1_dropLatest 1 none 4 [vr G a0] M (none, M') := by
  refine xMet (lv := [some (vr G a0)]) (by decide) (Nat.le_of_ble_eq_true rfl) rfl ?_
  intro X hG hnL C R0
  subst hG
  have C : xCk X cX1_dropLatest RX1 4 := C
  unfold fX1_dropLatest at h
  refine r_aload_n (pc := 0) C dX1_dropLatest_0 rfl rfl ?_
  refine r_getI (pc := 1) C kX1_30 h0 dX1_dropLatest_1 ?_
  refine r_if_le (pc := 4) (tgt := 26) C dX1_dropLatest_4 (by decide) h (fun _ h => ?_) (fun _ h => ?_)
  · exact r_vret (pc := 26) C R0 h dX1_dropLatest_26
  · refine r_aload_n (pc := 7) C dX1_dropLatest_7 rfl rfl ?_
    refine r_dup (pc := 8) C rfl dX1_dropLatest_8 ?_
    refine r_getI (pc := 9) C kX1_30 h0 dX1_dropLatest_9 ?_
    refine r_iconst (pc := 12) (v := (nI 1)) C dX1_dropLatest_12 (by decide) ?_
    refine r_isub (pc := 13) C dX1_dropLatest_13 ?_
    refine r_putI (pc := 14) C kX1_30 h0 dX1_dropLatest_14 ?_
    refine r_letM h (fun M1 h => ?_)
    refine r_aload_n (pc := 17) C dX1_dropLatest_17 rfl rfl ?_
    refine r_aload_n (pc := 18) C dX1_dropLatest_18 rfl rfl ?_
    refine r_getI (pc := 19) C kX1_30 h0 dX1_dropLatest_19 ?_
    refine r_iconst (pc := 22) (v := (-1)) C dX1_dropLatest_22 (by decide) ?_
    refine r_vV2 (pc := 23) C (fun M' e => zX1_book X.1 a0 h0 (M1.1 a0 5) (-1) M1 M' e) h0 (by decide) rfl mX1_book lX1_98 (by decide) (Nat.le_of_ble_eq_true rfl) dX1_dropLatest_23 h (fun M2 h => ?_)
    exact r_vret (pc := 26) C R0 h dX1_dropLatest_26
theorem dX1_noteCardAllOut_0 : decode cX1_noteCardAllOut 0 = .ok (.aload_n 0, 1) := by decide +kernel
theorem dX1_noteCardAllOut_1 : decode cX1_noteCardAllOut 1 = .ok (.iconst 1, 1) := by decide +kernel
theorem dX1_noteCardAllOut_2 : decode cX1_noteCardAllOut 2 = .ok (.iload_n 1, 1) := by decide +kernel
theorem dX1_noteCardAllOut_3 : decode cX1_noteCardAllOut 3 = .ok (.isub, 1) := by decide +kernel
theorem dX1_noteCardAllOut_4 : decode cX1_noteCardAllOut 4 = .ok (.iconst 4, 1) := by decide +kernel
theorem dX1_noteCardAllOut_5 : decode cX1_noteCardAllOut 5 = .ok (.iconst 2, 1) := by decide +kernel
theorem dX1_noteCardAllOut_6 : decode cX1_noteCardAllOut 6 = .ok (.invokevirtual 112, 3) := by decide +kernel
theorem dX1_noteCardAllOut_9 : decode cX1_noteCardAllOut 9 = .ok (.return_, 1) := by decide +kernel
def fX1_noteCardAllOut (a0 : Nat) (a1 : Int32) (M : xMem) : Option (xMem) :=
  xBv (fX1_addPart a0 ((nI 1) - a1) (nI 4) (nI 2) M) fun M1 => some M1
set_option maxRecDepth 100000 in
set_option maxHeartbeats 4000000 in
theorem zX1_noteCardAllOut (G : xGX) (a0 : Nat) (h0 : xkd a0 = 1) (a1 : Int32) (M : xMem) (M' : xMem) (h : fX1_noteCardAllOut a0 a1 M = some M') : xCt G yX1_noteCardAllOut cX1_noteCardAllOut 2 none 2 [vr G a0, .int a1] M (none, M') := by
  refine xMet (lv := [some (vr G a0), some (.int a1)]) (by decide) (Nat.le_of_ble_eq_true rfl) rfl ?_
  intro X hG hnL C R0
  subst hG
  have C : xCk X cX1_noteCardAllOut RX1 2 := C
  unfold fX1_noteCardAllOut at h
  refine r_aload_n (pc := 0) C dX1_noteCardAllOut_0 rfl rfl ?_
  refine r_iconst (pc := 1) (v := (nI 1)) C dX1_noteCardAllOut_1 (by decide) ?_
  refine r_iload_n (pc := 2) C dX1_noteCardAllOut_2 rfl rfl ?_
  refine r_isub (pc := 3) C dX1_noteCardAllOut_3 ?_
  refine r_iconst (pc := 4) (v := (nI 4)) C dX1_noteCardAllOut_4 (by decide) ?_
  refine r_iconst (pc := 5) (v := (nI 2)) C dX1_noteCardAllOut_5 (by decide) ?_
  refine r_vV3 (pc := 6) C (fun M' e => zX1_addPart X.1 a0 h0 ((nI 1) - a1) (nI 4) (nI 2) M M' e) h0 (by decide) rfl mX1_addPart lX1_112 (by decide) (Nat.le_of_ble_eq_true rfl) dX1_noteCardAllOut_6 h (fun M1 h => ?_)
  exact r_vret (pc := 9) C R0 h dX1_noteCardAllOut_9
theorem dX1_tallyAt_0 : decode cX1_tallyAt 0 = .ok (.iload_n 1, 1) := by decide +kernel
theorem dX1_tallyAt_1 : decode cX1_tallyAt 1 = .ok (.bipush 10, 2) := by decide +kernel
theorem dX1_tallyAt_3 : decode cX1_tallyAt 3 = .ok (.imul, 1) := by decide +kernel
theorem dX1_tallyAt_4 : decode cX1_tallyAt 4 = .ok (.iload_n 2, 1) := by decide +kernel
theorem dX1_tallyAt_5 : decode cX1_tallyAt 5 = .ok (.iadd, 1) := by decide +kernel
theorem dX1_tallyAt_6 : decode cX1_tallyAt 6 = .ok (.bipush 8, 2) := by decide +kernel
theorem dX1_tallyAt_8 : decode cX1_tallyAt 8 = .ok (.imul, 1) := by decide +kernel
theorem dX1_tallyAt_9 : decode cX1_tallyAt 9 = .ok (.iload_n 3, 1) := by decide +kernel
theorem dX1_tallyAt_10 : decode cX1_tallyAt 10 = .ok (.iadd, 1) := by decide +kernel
theorem dX1_tallyAt_11 : decode cX1_tallyAt 11 = .ok (.istore 4, 2) := by decide +kernel
theorem dX1_tallyAt_13 : decode cX1_tallyAt 13 = .ok (.iload 4, 2) := by decide +kernel
theorem dX1_tallyAt_15 : decode cX1_tallyAt 15 = .ok (.ifCond .lt 23, 3) := by decide +kernel
theorem dX1_tallyAt_18 : decode cX1_tallyAt 18 = .ok (.iload 4, 2) := by decide +kernel
theorem dX1_tallyAt_20 : decode cX1_tallyAt 20 = .ok (.aload_n 0, 1) := by decide +kernel
theorem dX1_tallyAt_21 : decode cX1_tallyAt 21 = .ok (.getfield 24, 3) := by decide +kernel
theorem dX1_tallyAt_24 : decode cX1_tallyAt 24 = .ok (.arraylength, 1) := by decide +kernel
theorem dX1_tallyAt_25 : decode cX1_tallyAt 25 = .ok (.if_icmp .ge 13, 3) := by decide +kernel
theorem dX1_tallyAt_28 : decode cX1_tallyAt 28 = .ok (.aload_n 0, 1) := by decide +kernel
theorem dX1_tallyAt_29 : decode cX1_tallyAt 29 = .ok (.getfield 24, 3) := by decide +kernel
theorem dX1_tallyAt_32 : decode cX1_tallyAt 32 = .ok (.iload 4, 2) := by decide +kernel
theorem dX1_tallyAt_34 : decode cX1_tallyAt 34 = .ok (.iaload, 1) := by decide +kernel
theorem dX1_tallyAt_35 : decode cX1_tallyAt 35 = .ok (.goto 4, 3) := by decide +kernel
theorem dX1_tallyAt_38 : decode cX1_tallyAt 38 = .ok (.iconst 0, 1) := by decide +kernel
theorem dX1_tallyAt_39 : decode cX1_tallyAt 39 = .ok (.ireturn, 1) := by decide +kernel
def fX1_tallyAt (a0 : Nat) (a1 : Int32) (a2 : Int32) (a3 : Int32) (M : xMem) : Option (Int32 × xMem) :=
  xLt ((((a1 * (nI 10)) + a2) * (nI 8)) + a3) fun x1 => if x1 < 0 then (some ((nI 0), M)) else (if (nI (xln (xrf a0 3))) ≤ x1 then (some ((nI 0), M)) else (xGb x1 (xln (xrf a0 3)) (some ((M.1 (xrf a0 3) (Int32.toNatClampNeg x1)), M))))
set_option maxRecDepth 100000 in
set_option maxHeartbeats 4000000 in
theorem zX1_tallyAt (G : xGX) (a0 : Nat) (h0 : xkd a0 = 1) (a1 : Int32) (a2 : Int32) (a3 : Int32) (M : xMem) (r : Int32) (M' : xMem) (h : fX1_tallyAt a0 a1 a2 a3 M = some (r, M')) : xCt G yX1_tallyAt cX1_tallyAt 5 (some .int) 1 [vr G a0, .int a1, .int a2, .int a3] M (some (.int r), M') := by
  refine xMet (lv := [some (vr G a0), some (.int a1), some (.int a2), some (.int a3), none]) (by decide) (Nat.le_of_ble_eq_true rfl) rfl ?_
  intro X hG hnL C R0
  subst hG
  have C : xCk X cX1_tallyAt RX1 1 := C
  have hn4 : 4 < X.2.2.2.2.2.2.2.2.2.2.2.2.2 := by rw [hnL]; decide
  unfold fX1_tallyAt at h
  refine r_iload_n (pc := 0) C dX1_tallyAt_0 rfl rfl ?_
  refine r_bipush (pc := 1) (v := (nI 10)) C dX1_tallyAt_1 (by decide) ?_
  refine r_imul (pc := 3) C dX1_tallyAt_3 ?_
  refine r_iload_n (pc := 4) C dX1_tallyAt_4 rfl rfl ?_
  refine r_iadd (pc := 5) C dX1_tallyAt_5 ?_
  refine r_bipush (pc := 6) (v := (nI 8)) C dX1_tallyAt_6 (by decide) ?_
  refine r_imul (pc := 8) C dX1_tallyAt_8 ?_
  refine r_iload_n (pc := 9) C dX1_tallyAt_9 rfl rfl ?_
  refine r_iadd (pc := 10) C dX1_tallyAt_10 ?_
  refine r_letI h (fun x1 h => ?_)
  refine r_istore (pc := 11) (lv' := [_, _, _, _, _]) C dX1_tallyAt_11 hn4 rfl ?_
  refine r_iload (pc := 13) C dX1_tallyAt_13 rfl ?_
  refine r_if_lt (pc := 15) (tgt := 38) C dX1_tallyAt_15 (by decide) h (fun _ h => ?_) (fun _ h => ?_)
  · refine r_iconst (pc := 38) (v := (nI 0)) C dX1_tallyAt_38 (by decide) ?_
    exact r_iret (pc := 39) C R0 h dX1_tallyAt_39
  · refine r_iload (pc := 18) C dX1_tallyAt_18 rfl ?_
    refine r_aload_n (pc := 20) C dX1_tallyAt_20 rfl rfl ?_
    refine r_getR (pc := 21) C kX1_24 h0 (by decide) dX1_tallyAt_21 ?_
    refine r_alen (pc := 24) C (xkar (xtk h0 (by decide) rfl rfl) (by decide)) dX1_tallyAt_24 ?_
    refine r_icmp_ge (pc := 25) (tgt := 38) C dX1_tallyAt_25 (by decide) h (fun _ h => ?_) (fun _ h => ?_)
    · refine r_iconst (pc := 38) (v := (nI 0)) C dX1_tallyAt_38 (by decide) ?_
      exact r_iret (pc := 39) C R0 h dX1_tallyAt_39
    · refine r_aload_n (pc := 28) C dX1_tallyAt_28 rfl rfl ?_
      refine r_getR (pc := 29) C kX1_24 h0 (by decide) dX1_tallyAt_29 ?_
      refine r_iload (pc := 32) C dX1_tallyAt_32 rfl ?_
      obtain ⟨g2, h⟩ := xGb_of h
      refine r_iald (pc := 34) C (xtk h0 (by decide) rfl rfl) g2 dX1_tallyAt_34 ?_
      refine r_goto (pc := 35) (tgt := 39) C dX1_tallyAt_35 (by decide) ?_
      exact r_iret (pc := 39) C R0 h dX1_tallyAt_39
theorem dX1_partOf_0 : decode cX1_partOf 0 = .ok (.iload_n 1, 1) := by decide +kernel
theorem dX1_partOf_1 : decode cX1_partOf 1 = .ok (.bipush 6, 2) := by decide +kernel
theorem dX1_partOf_3 : decode cX1_partOf 3 = .ok (.imul, 1) := by decide +kernel
theorem dX1_partOf_4 : decode cX1_partOf 4 = .ok (.iload_n 2, 1) := by decide +kernel
theorem dX1_partOf_5 : decode cX1_partOf 5 = .ok (.iadd, 1) := by decide +kernel
theorem dX1_partOf_6 : decode cX1_partOf 6 = .ok (.istore_n 3, 1) := by decide +kernel
theorem dX1_partOf_7 : decode cX1_partOf 7 = .ok (.iload_n 3, 1) := by decide +kernel
theorem dX1_partOf_8 : decode cX1_partOf 8 = .ok (.ifCond .lt 21, 3) := by decide +kernel
theorem dX1_partOf_11 : decode cX1_partOf 11 = .ok (.iload_n 3, 1) := by decide +kernel
theorem dX1_partOf_12 : decode cX1_partOf 12 = .ok (.aload_n 0, 1) := by decide +kernel
theorem dX1_partOf_13 : decode cX1_partOf 13 = .ok (.getfield 27, 3) := by decide +kernel
theorem dX1_partOf_16 : decode cX1_partOf 16 = .ok (.arraylength, 1) := by decide +kernel
theorem dX1_partOf_17 : decode cX1_partOf 17 = .ok (.if_icmp .ge 12, 3) := by decide +kernel
theorem dX1_partOf_20 : decode cX1_partOf 20 = .ok (.aload_n 0, 1) := by decide +kernel
theorem dX1_partOf_21 : decode cX1_partOf 21 = .ok (.getfield 27, 3) := by decide +kernel
theorem dX1_partOf_24 : decode cX1_partOf 24 = .ok (.iload_n 3, 1) := by decide +kernel
theorem dX1_partOf_25 : decode cX1_partOf 25 = .ok (.iaload, 1) := by decide +kernel
theorem dX1_partOf_26 : decode cX1_partOf 26 = .ok (.goto 4, 3) := by decide +kernel
theorem dX1_partOf_29 : decode cX1_partOf 29 = .ok (.iconst 0, 1) := by decide +kernel
theorem dX1_partOf_30 : decode cX1_partOf 30 = .ok (.ireturn, 1) := by decide +kernel
def fX1_partOf (a0 : Nat) (a1 : Int32) (a2 : Int32) (M : xMem) : Option (Int32 × xMem) :=
  xLt ((a1 * (nI 6)) + a2) fun x1 => if x1 < 0 then (some ((nI 0), M)) else (if (nI (xln (xrf a0 4))) ≤ x1 then (some ((nI 0), M)) else (xGb x1 (xln (xrf a0 4)) (some ((M.1 (xrf a0 4) (Int32.toNatClampNeg x1)), M))))
set_option maxRecDepth 100000 in
set_option maxHeartbeats 4000000 in
theorem zX1_partOf (G : xGX) (a0 : Nat) (h0 : xkd a0 = 1) (a1 : Int32) (a2 : Int32) (M : xMem) (r : Int32) (M' : xMem) (h : fX1_partOf a0 a1 a2 M = some (r, M')) : xCt G yX1_partOf cX1_partOf 4 (some .int) 1 [vr G a0, .int a1, .int a2] M (some (.int r), M') := by
  refine xMet (lv := [some (vr G a0), some (.int a1), some (.int a2), none]) (by decide) (Nat.le_of_ble_eq_true rfl) rfl ?_
  intro X hG hnL C R0
  subst hG
  have C : xCk X cX1_partOf RX1 1 := C
  have hn3 : 3 < X.2.2.2.2.2.2.2.2.2.2.2.2.2 := by rw [hnL]; decide
  unfold fX1_partOf at h
  refine r_iload_n (pc := 0) C dX1_partOf_0 rfl rfl ?_
  refine r_bipush (pc := 1) (v := (nI 6)) C dX1_partOf_1 (by decide) ?_
  refine r_imul (pc := 3) C dX1_partOf_3 ?_
  refine r_iload_n (pc := 4) C dX1_partOf_4 rfl rfl ?_
  refine r_iadd (pc := 5) C dX1_partOf_5 ?_
  refine r_letI h (fun x1 h => ?_)
  refine r_istore_n (pc := 6) (lv' := [_, _, _, _]) C dX1_partOf_6 rfl hn3 rfl ?_
  refine r_iload_n (pc := 7) C dX1_partOf_7 rfl rfl ?_
  refine r_if_lt (pc := 8) (tgt := 29) C dX1_partOf_8 (by decide) h (fun _ h => ?_) (fun _ h => ?_)
  · refine r_iconst (pc := 29) (v := (nI 0)) C dX1_partOf_29 (by decide) ?_
    exact r_iret (pc := 30) C R0 h dX1_partOf_30
  · refine r_iload_n (pc := 11) C dX1_partOf_11 rfl rfl ?_
    refine r_aload_n (pc := 12) C dX1_partOf_12 rfl rfl ?_
    refine r_getR (pc := 13) C kX1_27 h0 (by decide) dX1_partOf_13 ?_
    refine r_alen (pc := 16) C (xkar (xtk h0 (by decide) rfl rfl) (by decide)) dX1_partOf_16 ?_
    refine r_icmp_ge (pc := 17) (tgt := 29) C dX1_partOf_17 (by decide) h (fun _ h => ?_) (fun _ h => ?_)
    · refine r_iconst (pc := 29) (v := (nI 0)) C dX1_partOf_29 (by decide) ?_
      exact r_iret (pc := 30) C R0 h dX1_partOf_30
    · refine r_aload_n (pc := 20) C dX1_partOf_20 rfl rfl ?_
      refine r_getR (pc := 21) C kX1_27 h0 (by decide) dX1_partOf_21 ?_
      refine r_iload_n (pc := 24) C dX1_partOf_24 rfl rfl ?_
      obtain ⟨g2, h⟩ := xGb_of h
      refine r_iald (pc := 25) C (xtk h0 (by decide) rfl rfl) g2 dX1_partOf_25 ?_
      refine r_goto (pc := 26) (tgt := 30) C dX1_partOf_26 (by decide) ?_
      exact r_iret (pc := 30) C R0 h dX1_partOf_30
theorem dX1_onAt_0 : decode cX1_onAt 0 = .ok (.aload_n 0, 1) := by decide +kernel
theorem dX1_onAt_1 : decode cX1_onAt 1 = .ok (.getfield 13, 3) := by decide +kernel
theorem dX1_onAt_4 : decode cX1_onAt 4 = .ok (.bipush 9, 2) := by decide +kernel
theorem dX1_onAt_6 : decode cX1_onAt 6 = .ok (.iload_n 1, 1) := by decide +kernel
theorem dX1_onAt_7 : decode cX1_onAt 7 = .ok (.iadd, 1) := by decide +kernel
theorem dX1_onAt_8 : decode cX1_onAt 8 = .ok (.aaload, 1) := by decide +kernel
theorem dX1_onAt_9 : decode cX1_onAt 9 = .ok (.iload_n 2, 1) := by decide +kernel
theorem dX1_onAt_10 : decode cX1_onAt 10 = .ok (.iaload, 1) := by decide +kernel
theorem dX1_onAt_11 : decode cX1_onAt 11 = .ok (.ireturn, 1) := by decide +kernel
def fX1_onAt (a0 : Nat) (a1 : Int32) (a2 : Int32) (M : xMem) : Option (Int32 × xMem) :=
  xGb ((nI 9) + a1) (xln (xrf a0 0)) (xGb a2 (xln (xrf (xrf a0 0) (Int32.toNatClampNeg ((nI 9) + a1)))) (some ((M.1 (xrf (xrf a0 0) (Int32.toNatClampNeg ((nI 9) + a1))) (Int32.toNatClampNeg a2)), M)))
set_option maxRecDepth 100000 in
set_option maxHeartbeats 4000000 in
theorem zX1_onAt (G : xGX) (a0 : Nat) (h0 : xkd a0 = 1) (a1 : Int32) (a2 : Int32) (M : xMem) (r : Int32) (M' : xMem) (h : fX1_onAt a0 a1 a2 M = some (r, M')) : xCt G yX1_onAt cX1_onAt 3 (some .int) 1 [vr G a0, .int a1, .int a2] M (some (.int r), M') := by
  refine xMet (lv := [some (vr G a0), some (.int a1), some (.int a2)]) (by decide) (Nat.le_of_ble_eq_true rfl) rfl ?_
  intro X hG hnL C R0
  subst hG
  have C : xCk X cX1_onAt RX1 1 := C
  unfold fX1_onAt at h
  refine r_aload_n (pc := 0) C dX1_onAt_0 rfl rfl ?_
  refine r_getR (pc := 1) C kX1_13 h0 (by decide) dX1_onAt_1 ?_
  refine r_bipush (pc := 4) (v := (nI 9)) C dX1_onAt_4 (by decide) ?_
  refine r_iload_n (pc := 6) C dX1_onAt_6 rfl rfl ?_
  refine r_iadd (pc := 7) C dX1_onAt_7 ?_
  obtain ⟨g1, h⟩ := xGb_of h
  refine r_aaldI (pc := 8) C (xtk h0 (by decide) rfl rfl) g1 dX1_onAt_8 ?_
  refine r_iload_n (pc := 9) C dX1_onAt_9 rfl rfl ?_
  obtain ⟨g2, h⟩ := xGb_of h
  refine r_iald (pc := 10) C (xkeI (xtk h0 (by decide) rfl rfl) (xin_lt g1)) g2 dX1_onAt_10 ?_
  exact r_iret (pc := 11) C R0 h dX1_onAt_11
theorem dX1_pointsOf_0 : decode cX1_pointsOf 0 = .ok (.aload_n 0, 1) := by decide +kernel
theorem dX1_pointsOf_1 : decode cX1_pointsOf 1 = .ok (.getfield 13, 3) := by decide +kernel
theorem dX1_pointsOf_4 : decode cX1_pointsOf 4 = .ok (.iconst 0, 1) := by decide +kernel
theorem dX1_pointsOf_5 : decode cX1_pointsOf 5 = .ok (.aaload, 1) := by decide +kernel
theorem dX1_pointsOf_6 : decode cX1_pointsOf 6 = .ok (.iload_n 2, 1) := by decide +kernel
theorem dX1_pointsOf_7 : decode cX1_pointsOf 7 = .ok (.iaload, 1) := by decide +kernel
theorem dX1_pointsOf_8 : decode cX1_pointsOf 8 = .ok (.iload_n 1, 1) := by decide +kernel
theorem dX1_pointsOf_9 : decode cX1_pointsOf 9 = .ok (.if_icmp .ne 14, 3) := by decide +kernel
theorem dX1_pointsOf_12 : decode cX1_pointsOf 12 = .ok (.aload_n 0, 1) := by decide +kernel
theorem dX1_pointsOf_13 : decode cX1_pointsOf 13 = .ok (.getfield 13, 3) := by decide +kernel
theorem dX1_pointsOf_16 : decode cX1_pointsOf 16 = .ok (.iconst 3, 1) := by decide +kernel
theorem dX1_pointsOf_17 : decode cX1_pointsOf 17 = .ok (.aaload, 1) := by decide +kernel
theorem dX1_pointsOf_18 : decode cX1_pointsOf 18 = .ok (.iload_n 2, 1) := by decide +kernel
theorem dX1_pointsOf_19 : decode cX1_pointsOf 19 = .ok (.iaload, 1) := by decide +kernel
theorem dX1_pointsOf_20 : decode cX1_pointsOf 20 = .ok (.goto 11, 3) := by decide +kernel
theorem dX1_pointsOf_23 : decode cX1_pointsOf 23 = .ok (.aload_n 0, 1) := by decide +kernel
theorem dX1_pointsOf_24 : decode cX1_pointsOf 24 = .ok (.getfield 13, 3) := by decide +kernel
theorem dX1_pointsOf_27 : decode cX1_pointsOf 27 = .ok (.iconst 4, 1) := by decide +kernel
theorem dX1_pointsOf_28 : decode cX1_pointsOf 28 = .ok (.aaload, 1) := by decide +kernel
theorem dX1_pointsOf_29 : decode cX1_pointsOf 29 = .ok (.iload_n 2, 1) := by decide +kernel
theorem dX1_pointsOf_30 : decode cX1_pointsOf 30 = .ok (.iaload, 1) := by decide +kernel
theorem dX1_pointsOf_31 : decode cX1_pointsOf 31 = .ok (.ireturn, 1) := by decide +kernel
def fX1_pointsOf (a0 : Nat) (a1 : Int32) (a2 : Int32) (M : xMem) : Option (Int32 × xMem) :=
  xGb (nI 0) (xln (xrf a0 0)) (xGb a2 (xln (xrf (xrf a0 0) (Int32.toNatClampNeg (nI 0)))) (if (M.1 (xrf (xrf a0 0) (Int32.toNatClampNeg (nI 0))) (Int32.toNatClampNeg a2)) = a1 then (xGb (nI 3) (xln (xrf a0 0)) (xGb a2 (xln (xrf (xrf a0 0) (Int32.toNatClampNeg (nI 3)))) (some ((M.1 (xrf (xrf a0 0) (Int32.toNatClampNeg (nI 3))) (Int32.toNatClampNeg a2)), M)))) else (xGb (nI 4) (xln (xrf a0 0)) (xGb a2 (xln (xrf (xrf a0 0) (Int32.toNatClampNeg (nI 4)))) (some ((M.1 (xrf (xrf a0 0) (Int32.toNatClampNeg (nI 4))) (Int32.toNatClampNeg a2)), M))))))
set_option maxRecDepth 100000 in
set_option maxHeartbeats 4000000 in
theorem zX1_pointsOf (G : xGX) (a0 : Nat) (h0 : xkd a0 = 1) (a1 : Int32) (a2 : Int32) (M : xMem) (r : Int32) (M' : xMem) (h : fX1_pointsOf a0 a1 a2 M = some (r, M')) : xCt G yX1_pointsOf cX1_pointsOf 3 (some .int) 1 [vr G a0, .int a1, .int a2] M (some (.int r), M') := by
  refine xMet (lv := [some (vr G a0), some (.int a1), some (.int a2)]) (by decide) (Nat.le_of_ble_eq_true rfl) rfl ?_
  intro X hG hnL C R0
  subst hG
  have C : xCk X cX1_pointsOf RX1 1 := C
  unfold fX1_pointsOf at h
  refine r_aload_n (pc := 0) C dX1_pointsOf_0 rfl rfl ?_
  refine r_getR (pc := 1) C kX1_13 h0 (by decide) dX1_pointsOf_1 ?_
  refine r_iconst (pc := 4) (v := (nI 0)) C dX1_pointsOf_4 (by decide) ?_
  obtain ⟨g1, h⟩ := xGb_of h
  refine r_aaldI (pc := 5) C (xtk h0 (by decide) rfl rfl) g1 dX1_pointsOf_5 ?_
  refine r_iload_n (pc := 6) C dX1_pointsOf_6 rfl rfl ?_
  obtain ⟨g2, h⟩ := xGb_of h
  refine r_iald (pc := 7) C (xkeI (xtk h0 (by decide) rfl rfl) (xin_lt g1)) g2 dX1_pointsOf_7 ?_
  refine r_iload_n (pc := 8) C dX1_pointsOf_8 rfl rfl ?_
  refine r_icmp_ne (pc := 9) (tgt := 23) C dX1_pointsOf_9 (by decide) h (fun _ h => ?_) (fun _ h => ?_)
  · refine r_aload_n (pc := 23) C dX1_pointsOf_23 rfl rfl ?_
    refine r_getR (pc := 24) C kX1_13 h0 (by decide) dX1_pointsOf_24 ?_
    refine r_iconst (pc := 27) (v := (nI 4)) C dX1_pointsOf_27 (by decide) ?_
    obtain ⟨g3, h⟩ := xGb_of h
    refine r_aaldI (pc := 28) C (xtk h0 (by decide) rfl rfl) g3 dX1_pointsOf_28 ?_
    refine r_iload_n (pc := 29) C dX1_pointsOf_29 rfl rfl ?_
    obtain ⟨g4, h⟩ := xGb_of h
    refine r_iald (pc := 30) C (xkeI (xtk h0 (by decide) rfl rfl) (xin_lt g3)) g4 dX1_pointsOf_30 ?_
    exact r_iret (pc := 31) C R0 h dX1_pointsOf_31
  · refine r_aload_n (pc := 12) C dX1_pointsOf_12 rfl rfl ?_
    refine r_getR (pc := 13) C kX1_13 h0 (by decide) dX1_pointsOf_13 ?_
    refine r_iconst (pc := 16) (v := (nI 3)) C dX1_pointsOf_16 (by decide) ?_
    obtain ⟨g5, h⟩ := xGb_of h
    refine r_aaldI (pc := 17) C (xtk h0 (by decide) rfl rfl) g5 dX1_pointsOf_17 ?_
    refine r_iload_n (pc := 18) C dX1_pointsOf_18 rfl rfl ?_
    obtain ⟨g6, h⟩ := xGb_of h
    refine r_iald (pc := 19) C (xkeI (xtk h0 (by decide) rfl rfl) (xin_lt g5)) g6 dX1_pointsOf_19 ?_
    refine r_goto (pc := 20) (tgt := 31) C dX1_pointsOf_20 (by decide) ?_
    exact r_iret (pc := 31) C R0 h dX1_pointsOf_31
theorem dX1_isRaider_0 : decode cX1_isRaider 0 = .ok (.aload_n 0, 1) := by decide +kernel
theorem dX1_isRaider_1 : decode cX1_isRaider 1 = .ok (.getfield 13, 3) := by decide +kernel
theorem dX1_isRaider_4 : decode cX1_isRaider 4 = .ok (.iconst 0, 1) := by decide +kernel
theorem dX1_isRaider_5 : decode cX1_isRaider 5 = .ok (.aaload, 1) := by decide +kernel
theorem dX1_isRaider_6 : decode cX1_isRaider 6 = .ok (.iload_n 3, 1) := by decide +kernel
theorem dX1_isRaider_7 : decode cX1_isRaider 7 = .ok (.iaload, 1) := by decide +kernel
theorem dX1_isRaider_8 : decode cX1_isRaider 8 = .ok (.iload_n 1, 1) := by decide +kernel
theorem dX1_isRaider_9 : decode cX1_isRaider 9 = .ok (.if_icmp .ne 19, 3) := by decide +kernel
theorem dX1_isRaider_12 : decode cX1_isRaider 12 = .ok (.aload_n 0, 1) := by decide +kernel
theorem dX1_isRaider_13 : decode cX1_isRaider 13 = .ok (.getfield 13, 3) := by decide +kernel
theorem dX1_isRaider_16 : decode cX1_isRaider 16 = .ok (.iconst 1, 1) := by decide +kernel
theorem dX1_isRaider_17 : decode cX1_isRaider 17 = .ok (.aaload, 1) := by decide +kernel
theorem dX1_isRaider_18 : decode cX1_isRaider 18 = .ok (.iload_n 3, 1) := by decide +kernel
theorem dX1_isRaider_19 : decode cX1_isRaider 19 = .ok (.iaload, 1) := by decide +kernel
theorem dX1_isRaider_20 : decode cX1_isRaider 20 = .ok (.iload_n 2, 1) := by decide +kernel
theorem dX1_isRaider_21 : decode cX1_isRaider 21 = .ok (.if_icmp .ne 7, 3) := by decide +kernel
theorem dX1_isRaider_24 : decode cX1_isRaider 24 = .ok (.iconst 1, 1) := by decide +kernel
theorem dX1_isRaider_25 : decode cX1_isRaider 25 = .ok (.goto 4, 3) := by decide +kernel
theorem dX1_isRaider_28 : decode cX1_isRaider 28 = .ok (.iconst 0, 1) := by decide +kernel
theorem dX1_isRaider_29 : decode cX1_isRaider 29 = .ok (.ireturn, 1) := by decide +kernel
def fX1_isRaider (a0 : Nat) (a1 : Int32) (a2 : Int32) (a3 : Int32) (M : xMem) : Option (Int32 × xMem) :=
  xGb (nI 0) (xln (xrf a0 0)) (xGb a3 (xln (xrf (xrf a0 0) (Int32.toNatClampNeg (nI 0)))) (if (M.1 (xrf (xrf a0 0) (Int32.toNatClampNeg (nI 0))) (Int32.toNatClampNeg a3)) = a1 then (xGb (nI 1) (xln (xrf a0 0)) (xGb a3 (xln (xrf (xrf a0 0) (Int32.toNatClampNeg (nI 1)))) (if (M.1 (xrf (xrf a0 0) (Int32.toNatClampNeg (nI 1))) (Int32.toNatClampNeg a3)) = a2 then (some ((nI 1), M)) else (some ((nI 0), M))))) else (some ((nI 0), M))))
set_option maxRecDepth 100000 in
set_option maxHeartbeats 4000000 in
theorem zX1_isRaider (G : xGX) (a0 : Nat) (h0 : xkd a0 = 1) (a1 : Int32) (a2 : Int32) (a3 : Int32) (M : xMem) (r : Int32) (M' : xMem) (h : fX1_isRaider a0 a1 a2 a3 M = some (r, M')) : xCt G yX1_isRaider cX1_isRaider 4 (some .boolean) 1 [vr G a0, .int a1, .int a2, .int a3] M (some (.int r), M') := by
  refine xMet (lv := [some (vr G a0), some (.int a1), some (.int a2), some (.int a3)]) (by decide) (Nat.le_of_ble_eq_true rfl) rfl ?_
  intro X hG hnL C R0
  subst hG
  have C : xCk X cX1_isRaider RX1 1 := C
  unfold fX1_isRaider at h
  refine r_aload_n (pc := 0) C dX1_isRaider_0 rfl rfl ?_
  refine r_getR (pc := 1) C kX1_13 h0 (by decide) dX1_isRaider_1 ?_
  refine r_iconst (pc := 4) (v := (nI 0)) C dX1_isRaider_4 (by decide) ?_
  obtain ⟨g1, h⟩ := xGb_of h
  refine r_aaldI (pc := 5) C (xtk h0 (by decide) rfl rfl) g1 dX1_isRaider_5 ?_
  refine r_iload_n (pc := 6) C dX1_isRaider_6 rfl rfl ?_
  obtain ⟨g2, h⟩ := xGb_of h
  refine r_iald (pc := 7) C (xkeI (xtk h0 (by decide) rfl rfl) (xin_lt g1)) g2 dX1_isRaider_7 ?_
  refine r_iload_n (pc := 8) C dX1_isRaider_8 rfl rfl ?_
  refine r_icmp_ne (pc := 9) (tgt := 28) C dX1_isRaider_9 (by decide) h (fun _ h => ?_) (fun _ h => ?_)
  · refine r_iconst (pc := 28) (v := (nI 0)) C dX1_isRaider_28 (by decide) ?_
    exact r_zret (pc := 29) (Or.inl (by decide)) C R0 h dX1_isRaider_29
  · refine r_aload_n (pc := 12) C dX1_isRaider_12 rfl rfl ?_
    refine r_getR (pc := 13) C kX1_13 h0 (by decide) dX1_isRaider_13 ?_
    refine r_iconst (pc := 16) (v := (nI 1)) C dX1_isRaider_16 (by decide) ?_
    obtain ⟨g3, h⟩ := xGb_of h
    refine r_aaldI (pc := 17) C (xtk h0 (by decide) rfl rfl) g3 dX1_isRaider_17 ?_
    refine r_iload_n (pc := 18) C dX1_isRaider_18 rfl rfl ?_
    obtain ⟨g4, h⟩ := xGb_of h
    refine r_iald (pc := 19) C (xkeI (xtk h0 (by decide) rfl rfl) (xin_lt g3)) g4 dX1_isRaider_19 ?_
    refine r_iload_n (pc := 20) C dX1_isRaider_20 rfl rfl ?_
    refine r_icmp_ne (pc := 21) (tgt := 28) C dX1_isRaider_21 (by decide) h (fun _ h => ?_) (fun _ h => ?_)
    · refine r_iconst (pc := 28) (v := (nI 0)) C dX1_isRaider_28 (by decide) ?_
      exact r_zret (pc := 29) (Or.inl (by decide)) C R0 h dX1_isRaider_29
    · refine r_iconst (pc := 24) (v := (nI 1)) C dX1_isRaider_24 (by decide) ?_
      refine r_goto (pc := 25) (tgt := 29) C dX1_isRaider_25 (by decide) ?_
      exact r_zret (pc := 29) (Or.inr (by decide)) C R0 h dX1_isRaider_29
theorem dX1_leadChanges_0 : decode cX1_leadChanges 0 = .ok (.iconst 0, 1) := by decide +kernel
theorem dX1_leadChanges_1 : decode cX1_leadChanges 1 = .ok (.istore_n 1, 1) := by decide +kernel
theorem dX1_leadChanges_2 : decode cX1_leadChanges 2 = .ok (.iconst 0, 1) := by decide +kernel
theorem dX1_leadChanges_3 : decode cX1_leadChanges 3 = .ok (.istore_n 2, 1) := by decide +kernel
theorem dX1_leadChanges_4 : decode cX1_leadChanges 4 = .ok (.iconst 1, 1) := by decide +kernel
theorem dX1_leadChanges_5 : decode cX1_leadChanges 5 = .ok (.istore_n 3, 1) := by decide +kernel
theorem dX1_leadChanges_6 : decode cX1_leadChanges 6 = .ok (.iload_n 3, 1) := by decide +kernel
theorem dX1_leadChanges_7 : decode cX1_leadChanges 7 = .ok (.aload_n 0, 1) := by decide +kernel
theorem dX1_leadChanges_8 : decode cX1_leadChanges 8 = .ok (.getfield 30, 3) := by decide +kernel
theorem dX1_leadChanges_11 : decode cX1_leadChanges 11 = .ok (.if_icmp .gt 47, 3) := by decide +kernel
theorem dX1_leadChanges_14 : decode cX1_leadChanges 14 = .ok (.aload_n 0, 1) := by decide +kernel
theorem dX1_leadChanges_15 : decode cX1_leadChanges 15 = .ok (.getfield 20, 3) := by decide +kernel
theorem dX1_leadChanges_18 : decode cX1_leadChanges 18 = .ok (.iload_n 3, 1) := by decide +kernel
theorem dX1_leadChanges_19 : decode cX1_leadChanges 19 = .ok (.iaload, 1) := by decide +kernel
theorem dX1_leadChanges_20 : decode cX1_leadChanges 20 = .ok (.invokestatic 123, 3) := by decide +kernel
theorem dX1_leadChanges_23 : decode cX1_leadChanges 23 = .ok (.istore 4, 2) := by decide +kernel
theorem dX1_leadChanges_25 : decode cX1_leadChanges 25 = .ok (.iload 4, 2) := by decide +kernel
theorem dX1_leadChanges_27 : decode cX1_leadChanges 27 = .ok (.iload_n 2, 1) := by decide +kernel
theorem dX1_leadChanges_28 : decode cX1_leadChanges 28 = .ok (.ineg, 1) := by decide +kernel
theorem dX1_leadChanges_29 : decode cX1_leadChanges 29 = .ok (.if_icmp .ne 11, 3) := by decide +kernel
theorem dX1_leadChanges_32 : decode cX1_leadChanges 32 = .ok (.iload 4, 2) := by decide +kernel
theorem dX1_leadChanges_34 : decode cX1_leadChanges 34 = .ok (.ifCond .eq 6, 3) := by decide +kernel
theorem dX1_leadChanges_37 : decode cX1_leadChanges 37 = .ok (.iinc 1 1, 3) := by decide +kernel
theorem dX1_leadChanges_40 : decode cX1_leadChanges 40 = .ok (.iload 4, 2) := by decide +kernel
theorem dX1_leadChanges_42 : decode cX1_leadChanges 42 = .ok (.ifCond .ne 7, 3) := by decide +kernel
theorem dX1_leadChanges_45 : decode cX1_leadChanges 45 = .ok (.iload_n 2, 1) := by decide +kernel
theorem dX1_leadChanges_46 : decode cX1_leadChanges 46 = .ok (.goto 5, 3) := by decide +kernel
theorem dX1_leadChanges_49 : decode cX1_leadChanges 49 = .ok (.iload 4, 2) := by decide +kernel
theorem dX1_leadChanges_51 : decode cX1_leadChanges 51 = .ok (.istore_n 2, 1) := by decide +kernel
theorem dX1_leadChanges_52 : decode cX1_leadChanges 52 = .ok (.iinc 3 1, 3) := by decide +kernel
theorem dX1_leadChanges_55 : decode cX1_leadChanges 55 = .ok (.goto (-49), 3) := by decide +kernel
theorem dX1_leadChanges_58 : decode cX1_leadChanges 58 = .ok (.iload_n 1, 1) := by decide +kernel
theorem dX1_leadChanges_59 : decode cX1_leadChanges 59 = .ok (.ireturn, 1) := by decide +kernel
def fX1_leadChanges_l6 (p0 : Nat) (K : Int32 → Int32 → Int32 → xMem → Option (Int32 × xMem)) : Nat → Int32 → Int32 → Int32 → xMem → Option (Int32 × xMem)
  | 0, _, _, _, _ => none
  | n + 1, v1, v2, v3, M => if (M.1 p0 5) < v3 then (K v1 v2 v3 M) else (xGb v3 (xln (xrf p0 2)) (xBn (fJ6_signum_0f7a4 (M.1 (xrf p0 2) (Int32.toNatClampNeg v3)) M) fun r2 M3 => xLt (fun (v4 : Int32) (M5 : xMem) => (xLt (fun (s6 : Int32) (M7 : xMem) => (xLt (v3 + nI 1) fun x8 => fX1_leadChanges_l6 p0 K n v4 s6 x8 M7 : Option (Int32 × xMem))) fun J51 => if r2 = 0 then (J51 v2 M5) else (J51 r2 M5) : Option (Int32 × xMem))) fun J40 => if r2 = (-v2) then (if r2 = 0 then (J40 v1 M3) else (xLt (v1 + nI 1) fun x9 => J40 x9 M3)) else (J40 v1 M3)))
def fX1_leadChanges (a0 : Nat) (M : xMem) : Option (Int32 × xMem) :=
  fX1_leadChanges_l6 a0 (fun (v10 : Int32) (v11 : Int32) (v12 : Int32) (M13 : xMem) => some (v10, M13)) xFU (nI 0) (nI 0) (nI 1) M
set_option maxRecDepth 100000 in
set_option maxHeartbeats 4000000 in
theorem lX1_leadChanges_6 {X : xCX} {r : Int32} {M' : xMem} (C : xCk X cX1_leadChanges RX1 2) (R0 : xRk X (some .int) (some (.int r), M')) (hnL : X.2.2.2.2.2.2.2.2.2.2.2.2.2 = 5) (p0 : Nat) (hp0 : xkd p0 = 1) (K : Int32 → Int32 → Int32 → xMem → Option (Int32 × xMem)) (hK : ∀ (v1 : Int32) (v2 : Int32) (v3 : Int32) (M : xMem), K v1 v2 v3 M = some (r, M') → WW X 58 [some (vr X.1 p0), some (.int v1), some (.int v2), some (.int v3), none] [] M) : ∀ (n : Nat) (v1 : Int32) (v2 : Int32) (v3 : Int32) (M : xMem), fX1_leadChanges_l6 p0 K n v1 v2 v3 M = some (r, M') → WW X 6 [some (vr X.1 p0), some (.int v1), some (.int v2), some (.int v3), none] [] M := by
  have hn1 : 1 < X.2.2.2.2.2.2.2.2.2.2.2.2.2 := by rw [hnL]; decide
  have hn2 : 2 < X.2.2.2.2.2.2.2.2.2.2.2.2.2 := by rw [hnL]; decide
  have hn3 : 3 < X.2.2.2.2.2.2.2.2.2.2.2.2.2 := by rw [hnL]; decide
  have hn4 : 4 < X.2.2.2.2.2.2.2.2.2.2.2.2.2 := by rw [hnL]; decide
  intro n
  induction n with
  | zero =>
    intro v1 v2 v3 M h
    cases (show (none : Option (Int32 × xMem)) = some (r, M') from h)
  | succ n ih =>
    intro v1 v2 v3 M h
    rw [fX1_leadChanges_l6.eq_2] at h
    refine r_iload_n (pc := 6) C dX1_leadChanges_6 rfl rfl ?_
    refine r_aload_n (pc := 7) C dX1_leadChanges_7 rfl rfl ?_
    refine r_getI (pc := 8) C kX1_30 hp0 dX1_leadChanges_8 ?_
    refine r_icmp_gt (pc := 11) (tgt := 58) C dX1_leadChanges_11 (by decide) h (fun _ h => ?_) (fun _ h => ?_)
    · exact hK v1 v2 v3 M h
    · refine r_aload_n (pc := 14) C dX1_leadChanges_14 rfl rfl ?_
      refine r_getR (pc := 15) C kX1_20 hp0 (by decide) dX1_leadChanges_15 ?_
      refine r_iload_n (pc := 18) C dX1_leadChanges_18 rfl rfl ?_
      obtain ⟨g1, h⟩ := xGb_of h
      refine r_iald (pc := 19) C (xtk hp0 (by decide) rfl rfl) g1 dX1_leadChanges_19 ?_
      refine r_sI1 (pc := 20) C (fun r M' e => zJ6_signum_0f7a4 X.1 (M.1 (xrf p0 2) (Int32.toNatClampNeg v3)) M r M' e) mJ6_signum_0f7a4 lX1_123 (by decide) (Nat.le_of_ble_eq_true rfl) dX1_leadChanges_20 h (fun r2 M3 h => ?_)
      refine r_istore (pc := 23) (lv' := [_, _, _, _, _]) C dX1_leadChanges_23 hn4 rfl ?_
      refine r_iload (pc := 25) C dX1_leadChanges_25 rfl ?_
      refine r_iload_n (pc := 27) C dX1_leadChanges_27 rfl rfl ?_
      refine r_ineg (pc := 28) C dX1_leadChanges_28 ?_
      refine r_jn (fun J => ∀ (v4 : Int32) (M5 : xMem) , J v4 M5 = some (r, M') → WW X 40 [some (vr X.1 p0), some (.int v4), some (.int v2), some (.int v3), some (.int r2)] [] M5) h (fun v4 M5  h => ?_) (fun J40 hJ40 h => ?_)
      · refine r_iload (pc := 40) C dX1_leadChanges_40 rfl ?_
        refine r_jn (fun J => ∀ (s6 : Int32) (M7 : xMem) , J s6 M7 = some (r, M') → WW X 51 [some (vr X.1 p0), some (.int v4), some (.int v2), some (.int v3), some (.int r2)] [.int s6] M7) h (fun s6 M7  h => ?_) (fun J51 hJ51 h => ?_)
        · refine r_istore_n (pc := 51) (lv' := [_, _, _, _, _]) C dX1_leadChanges_51 rfl hn2 rfl ?_
          refine r_iincL (pc := 52) (c := nI 1) C dX1_leadChanges_52 rfl (by decide) hn3 h (fun x8 h => ?_)
          refine r_lvE (lv' := [_, _, _, _, _]) rfl ?_
          refine r_goto (pc := 55) (tgt := 6) C dX1_leadChanges_55 (by decide) ?_
          exact r_lv (xle_at (xle_some rfl (xle_some rfl (xle_some rfl (xle_some rfl (xle_none xle_nil)))))) (ih v4 s6 x8 M7 h)
        refine r_if_ne (pc := 42) (tgt := 49) C dX1_leadChanges_42 (by decide) h (fun _ h => ?_) (fun _ h => ?_)
        · refine r_iload (pc := 49) C dX1_leadChanges_49 rfl ?_
          exact hJ51 r2 M5  h
        · refine r_iload_n (pc := 45) C dX1_leadChanges_45 rfl rfl ?_
          refine r_goto (pc := 46) (tgt := 51) C dX1_leadChanges_46 (by decide) ?_
          exact hJ51 v2 M5  h
      refine r_icmp_ne (pc := 29) (tgt := 40) C dX1_leadChanges_29 (by decide) h (fun _ h => ?_) (fun _ h => ?_)
      · exact hJ40 v1 M3  h
      · refine r_iload (pc := 32) C dX1_leadChanges_32 rfl ?_
        refine r_if_eq (pc := 34) (tgt := 40) C dX1_leadChanges_34 (by decide) h (fun _ h => ?_) (fun _ h => ?_)
        · exact hJ40 v1 M3  h
        · refine r_iincL (pc := 37) (c := nI 1) C dX1_leadChanges_37 rfl (by decide) hn1 h (fun x9 h => ?_)
          refine r_lvE (lv' := [_, _, _, _, _]) rfl ?_
          exact hJ40 x9 M3  h
set_option maxRecDepth 100000 in
set_option maxHeartbeats 4000000 in
theorem zX1_leadChanges (G : xGX) (a0 : Nat) (h0 : xkd a0 = 1) (M : xMem) (r : Int32) (M' : xMem) (h : fX1_leadChanges a0 M = some (r, M')) : xCt G yX1_leadChanges cX1_leadChanges 5 (some .int) 2 [vr G a0] M (some (.int r), M') := by
  refine xMet (lv := [some (vr G a0), none, none, none, none]) (by decide) (Nat.le_of_ble_eq_true rfl) rfl ?_
  intro X hG hnL C R0
  subst hG
  have C : xCk X cX1_leadChanges RX1 2 := C
  have hn1 : 1 < X.2.2.2.2.2.2.2.2.2.2.2.2.2 := by rw [hnL]; decide
  have hn2 : 2 < X.2.2.2.2.2.2.2.2.2.2.2.2.2 := by rw [hnL]; decide
  have hn3 : 3 < X.2.2.2.2.2.2.2.2.2.2.2.2.2 := by rw [hnL]; decide
  have hn4 : 4 < X.2.2.2.2.2.2.2.2.2.2.2.2.2 := by rw [hnL]; decide
  unfold fX1_leadChanges at h
  refine r_iconst (pc := 0) (v := (nI 0)) C dX1_leadChanges_0 (by decide) ?_
  refine r_istore_n (pc := 1) (lv' := [_, _, _, _, _]) C dX1_leadChanges_1 rfl hn1 rfl ?_
  refine r_iconst (pc := 2) (v := (nI 0)) C dX1_leadChanges_2 (by decide) ?_
  refine r_istore_n (pc := 3) (lv' := [_, _, _, _, _]) C dX1_leadChanges_3 rfl hn2 rfl ?_
  refine r_iconst (pc := 4) (v := (nI 1)) C dX1_leadChanges_4 (by decide) ?_
  refine r_istore_n (pc := 5) (lv' := [_, _, _, _, _]) C dX1_leadChanges_5 rfl hn3 rfl ?_
  refine lX1_leadChanges_6 C R0 hnL a0 h0 _ (fun v10 v11 v12 M13 h => ?_) _ _ _ _ _ h
  refine r_iload_n (pc := 58) C dX1_leadChanges_58 rfl rfl ?_
  exact r_iret (pc := 59) C R0 h dX1_leadChanges_59
theorem dX1_drawCount_0 : decode cX1_drawCount 0 = .ok (.iconst 0, 1) := by decide +kernel
theorem dX1_drawCount_1 : decode cX1_drawCount 1 = .ok (.istore_n 1, 1) := by decide +kernel
theorem dX1_drawCount_2 : decode cX1_drawCount 2 = .ok (.iconst 1, 1) := by decide +kernel
theorem dX1_drawCount_3 : decode cX1_drawCount 3 = .ok (.istore_n 2, 1) := by decide +kernel
theorem dX1_drawCount_4 : decode cX1_drawCount 4 = .ok (.iload_n 2, 1) := by decide +kernel
theorem dX1_drawCount_5 : decode cX1_drawCount 5 = .ok (.aload_n 0, 1) := by decide +kernel
theorem dX1_drawCount_6 : decode cX1_drawCount 6 = .ok (.getfield 30, 3) := by decide +kernel
theorem dX1_drawCount_9 : decode cX1_drawCount 9 = .ok (.if_icmp .gt 26, 3) := by decide +kernel
theorem dX1_drawCount_12 : decode cX1_drawCount 12 = .ok (.iload_n 1, 1) := by decide +kernel
theorem dX1_drawCount_13 : decode cX1_drawCount 13 = .ok (.aload_n 0, 1) := by decide +kernel
theorem dX1_drawCount_14 : decode cX1_drawCount 14 = .ok (.getfield 20, 3) := by decide +kernel
theorem dX1_drawCount_17 : decode cX1_drawCount 17 = .ok (.iload_n 2, 1) := by decide +kernel
theorem dX1_drawCount_18 : decode cX1_drawCount 18 = .ok (.iaload, 1) := by decide +kernel
theorem dX1_drawCount_19 : decode cX1_drawCount 19 = .ok (.ifCond .ne 7, 3) := by decide +kernel
theorem dX1_drawCount_22 : decode cX1_drawCount 22 = .ok (.iconst 1, 1) := by decide +kernel
theorem dX1_drawCount_23 : decode cX1_drawCount 23 = .ok (.goto 4, 3) := by decide +kernel
theorem dX1_drawCount_26 : decode cX1_drawCount 26 = .ok (.iconst 0, 1) := by decide +kernel
theorem dX1_drawCount_27 : decode cX1_drawCount 27 = .ok (.iadd, 1) := by decide +kernel
theorem dX1_drawCount_28 : decode cX1_drawCount 28 = .ok (.istore_n 1, 1) := by decide +kernel
theorem dX1_drawCount_29 : decode cX1_drawCount 29 = .ok (.iinc 2 1, 3) := by decide +kernel
theorem dX1_drawCount_32 : decode cX1_drawCount 32 = .ok (.goto (-28), 3) := by decide +kernel
theorem dX1_drawCount_35 : decode cX1_drawCount 35 = .ok (.iload_n 1, 1) := by decide +kernel
theorem dX1_drawCount_36 : decode cX1_drawCount 36 = .ok (.ireturn, 1) := by decide +kernel
def fX1_drawCount_l4 (p0 : Nat) (K : Int32 → Int32 → xMem → Option (Int32 × xMem)) : Nat → Int32 → Int32 → xMem → Option (Int32 × xMem)
  | 0, _, _, _ => none
  | n + 1, v1, v2, M => if (M.1 p0 5) < v2 then (K v1 v2 M) else (xGb v2 (xln (xrf p0 2)) (xLt (fun (s2 : Int32) (M3 : xMem) => (xLt (v1 + s2) fun x4 => xLt (v2 + nI 1) fun x5 => fX1_drawCount_l4 p0 K n x4 x5 M3 : Option (Int32 × xMem))) fun J27 => if (M.1 (xrf p0 2) (Int32.toNatClampNeg v2)) = 0 then (J27 (nI 1) M) else (J27 (nI 0) M)))
def fX1_drawCount (a0 : Nat) (M : xMem) : Option (Int32 × xMem) :=
  fX1_drawCount_l4 a0 (fun (v6 : Int32) (v7 : Int32) (M8 : xMem) => some (v6, M8)) xFU (nI 0) (nI 1) M
set_option maxRecDepth 100000 in
set_option maxHeartbeats 4000000 in
theorem lX1_drawCount_4 {X : xCX} {r : Int32} {M' : xMem} (C : xCk X cX1_drawCount RX1 1) (R0 : xRk X (some .int) (some (.int r), M')) (hnL : X.2.2.2.2.2.2.2.2.2.2.2.2.2 = 3) (p0 : Nat) (hp0 : xkd p0 = 1) (K : Int32 → Int32 → xMem → Option (Int32 × xMem)) (hK : ∀ (v1 : Int32) (v2 : Int32) (M : xMem), K v1 v2 M = some (r, M') → WW X 35 [some (vr X.1 p0), some (.int v1), some (.int v2)] [] M) : ∀ (n : Nat) (v1 : Int32) (v2 : Int32) (M : xMem), fX1_drawCount_l4 p0 K n v1 v2 M = some (r, M') → WW X 4 [some (vr X.1 p0), some (.int v1), some (.int v2)] [] M := by
  have hn1 : 1 < X.2.2.2.2.2.2.2.2.2.2.2.2.2 := by rw [hnL]; decide
  have hn2 : 2 < X.2.2.2.2.2.2.2.2.2.2.2.2.2 := by rw [hnL]; decide
  intro n
  induction n with
  | zero =>
    intro v1 v2 M h
    cases (show (none : Option (Int32 × xMem)) = some (r, M') from h)
  | succ n ih =>
    intro v1 v2 M h
    rw [fX1_drawCount_l4.eq_2] at h
    refine r_iload_n (pc := 4) C dX1_drawCount_4 rfl rfl ?_
    refine r_aload_n (pc := 5) C dX1_drawCount_5 rfl rfl ?_
    refine r_getI (pc := 6) C kX1_30 hp0 dX1_drawCount_6 ?_
    refine r_icmp_gt (pc := 9) (tgt := 35) C dX1_drawCount_9 (by decide) h (fun _ h => ?_) (fun _ h => ?_)
    · exact hK v1 v2 M h
    · refine r_iload_n (pc := 12) C dX1_drawCount_12 rfl rfl ?_
      refine r_aload_n (pc := 13) C dX1_drawCount_13 rfl rfl ?_
      refine r_getR (pc := 14) C kX1_20 hp0 (by decide) dX1_drawCount_14 ?_
      refine r_iload_n (pc := 17) C dX1_drawCount_17 rfl rfl ?_
      obtain ⟨g1, h⟩ := xGb_of h
      refine r_iald (pc := 18) C (xtk hp0 (by decide) rfl rfl) g1 dX1_drawCount_18 ?_
      refine r_jn (fun J => ∀ (s2 : Int32) (M3 : xMem) , J s2 M3 = some (r, M') → WW X 27 [some (vr X.1 p0), some (.int v1), some (.int v2)] [.int s2, .int v1] M3) h (fun s2 M3  h => ?_) (fun J27 hJ27 h => ?_)
      · refine r_iadd (pc := 27) C dX1_drawCount_27 ?_
        refine r_letI h (fun x4 h => ?_)
        refine r_istore_n (pc := 28) (lv' := [_, _, _]) C dX1_drawCount_28 rfl hn1 rfl ?_
        refine r_iincL (pc := 29) (c := nI 1) C dX1_drawCount_29 rfl (by decide) hn2 h (fun x5 h => ?_)
        refine r_lvE (lv' := [_, _, _]) rfl ?_
        refine r_goto (pc := 32) (tgt := 4) C dX1_drawCount_32 (by decide) ?_
        exact ih x4 x5 M3 h
      refine r_if_ne (pc := 19) (tgt := 26) C dX1_drawCount_19 (by decide) h (fun _ h => ?_) (fun _ h => ?_)
      · refine r_iconst (pc := 26) (v := (nI 0)) C dX1_drawCount_26 (by decide) ?_
        exact hJ27 (nI 0) M  h
      · refine r_iconst (pc := 22) (v := (nI 1)) C dX1_drawCount_22 (by decide) ?_
        refine r_goto (pc := 23) (tgt := 27) C dX1_drawCount_23 (by decide) ?_
        exact hJ27 (nI 1) M  h
set_option maxRecDepth 100000 in
set_option maxHeartbeats 4000000 in
theorem zX1_drawCount (G : xGX) (a0 : Nat) (h0 : xkd a0 = 1) (M : xMem) (r : Int32) (M' : xMem) (h : fX1_drawCount a0 M = some (r, M')) : xCt G yX1_drawCount cX1_drawCount 3 (some .int) 1 [vr G a0] M (some (.int r), M') := by
  refine xMet (lv := [some (vr G a0), none, none]) (by decide) (Nat.le_of_ble_eq_true rfl) rfl ?_
  intro X hG hnL C R0
  subst hG
  have C : xCk X cX1_drawCount RX1 1 := C
  have hn1 : 1 < X.2.2.2.2.2.2.2.2.2.2.2.2.2 := by rw [hnL]; decide
  have hn2 : 2 < X.2.2.2.2.2.2.2.2.2.2.2.2.2 := by rw [hnL]; decide
  unfold fX1_drawCount at h
  refine r_iconst (pc := 0) (v := (nI 0)) C dX1_drawCount_0 (by decide) ?_
  refine r_istore_n (pc := 1) (lv' := [_, _, _]) C dX1_drawCount_1 rfl hn1 rfl ?_
  refine r_iconst (pc := 2) (v := (nI 1)) C dX1_drawCount_2 (by decide) ?_
  refine r_istore_n (pc := 3) (lv' := [_, _, _]) C dX1_drawCount_3 rfl hn2 rfl ?_
  refine lX1_drawCount_4 C R0 hnL a0 h0 _ (fun v6 v7 M8 h => ?_) _ _ _ _ h
  refine r_iload_n (pc := 35) C dX1_drawCount_35 rfl rfl ?_
  exact r_iret (pc := 36) C R0 h dX1_drawCount_36
theorem dX1_mostBehind_0 : decode cX1_mostBehind 0 = .ok (.iconst 0, 1) := by decide +kernel
theorem dX1_mostBehind_1 : decode cX1_mostBehind 1 = .ok (.istore_n 2, 1) := by decide +kernel
theorem dX1_mostBehind_2 : decode cX1_mostBehind 2 = .ok (.iconst 1, 1) := by decide +kernel
theorem dX1_mostBehind_3 : decode cX1_mostBehind 3 = .ok (.istore_n 3, 1) := by decide +kernel
theorem dX1_mostBehind_4 : decode cX1_mostBehind 4 = .ok (.iload_n 3, 1) := by decide +kernel
theorem dX1_mostBehind_5 : decode cX1_mostBehind 5 = .ok (.aload_n 0, 1) := by decide +kernel
theorem dX1_mostBehind_6 : decode cX1_mostBehind 6 = .ok (.getfield 30, 3) := by decide +kernel
theorem dX1_mostBehind_9 : decode cX1_mostBehind 9 = .ok (.if_icmp .gt 34, 3) := by decide +kernel
theorem dX1_mostBehind_12 : decode cX1_mostBehind 12 = .ok (.iload_n 2, 1) := by decide +kernel
theorem dX1_mostBehind_13 : decode cX1_mostBehind 13 = .ok (.iload_n 1, 1) := by decide +kernel
theorem dX1_mostBehind_14 : decode cX1_mostBehind 14 = .ok (.ifCond .ne 13, 3) := by decide +kernel
theorem dX1_mostBehind_17 : decode cX1_mostBehind 17 = .ok (.aload_n 0, 1) := by decide +kernel
theorem dX1_mostBehind_18 : decode cX1_mostBehind 18 = .ok (.getfield 20, 3) := by decide +kernel
theorem dX1_mostBehind_21 : decode cX1_mostBehind 21 = .ok (.iload_n 3, 1) := by decide +kernel
theorem dX1_mostBehind_22 : decode cX1_mostBehind 22 = .ok (.iaload, 1) := by decide +kernel
theorem dX1_mostBehind_23 : decode cX1_mostBehind 23 = .ok (.ineg, 1) := by decide +kernel
theorem dX1_mostBehind_24 : decode cX1_mostBehind 24 = .ok (.goto 9, 3) := by decide +kernel
theorem dX1_mostBehind_27 : decode cX1_mostBehind 27 = .ok (.aload_n 0, 1) := by decide +kernel
theorem dX1_mostBehind_28 : decode cX1_mostBehind 28 = .ok (.getfield 20, 3) := by decide +kernel
theorem dX1_mostBehind_31 : decode cX1_mostBehind 31 = .ok (.iload_n 3, 1) := by decide +kernel
theorem dX1_mostBehind_32 : decode cX1_mostBehind 32 = .ok (.iaload, 1) := by decide +kernel
theorem dX1_mostBehind_33 : decode cX1_mostBehind 33 = .ok (.invokestatic 128, 3) := by decide +kernel
theorem dX1_mostBehind_36 : decode cX1_mostBehind 36 = .ok (.istore_n 2, 1) := by decide +kernel
theorem dX1_mostBehind_37 : decode cX1_mostBehind 37 = .ok (.iinc 3 1, 3) := by decide +kernel
theorem dX1_mostBehind_40 : decode cX1_mostBehind 40 = .ok (.goto (-36), 3) := by decide +kernel
theorem dX1_mostBehind_43 : decode cX1_mostBehind 43 = .ok (.iload_n 2, 1) := by decide +kernel
theorem dX1_mostBehind_44 : decode cX1_mostBehind 44 = .ok (.ireturn, 1) := by decide +kernel
def fX1_mostBehind_l4 (p0 : Nat) (p1 : Int32) (K : Int32 → Int32 → xMem → Option (Int32 × xMem)) : Nat → Int32 → Int32 → xMem → Option (Int32 × xMem)
  | 0, _, _, _ => none
  | n + 1, v2, v3, M => if (M.1 p0 5) < v3 then (K v2 v3 M) else (xLt (fun (s1 : Int32) (M2 : xMem) => (xLt (if v2 < s1 then s1 else v2) fun x3 => xLt (v3 + nI 1) fun x4 => fX1_mostBehind_l4 p0 p1 K n x3 x4 M2 : Option (Int32 × xMem))) fun J33 => if p1 = 0 then (xGb v3 (xln (xrf p0 2)) (J33 (-(M.1 (xrf p0 2) (Int32.toNatClampNeg v3))) M)) else (xGb v3 (xln (xrf p0 2)) (J33 (M.1 (xrf p0 2) (Int32.toNatClampNeg v3)) M)))
def fX1_mostBehind (a0 : Nat) (a1 : Int32) (M : xMem) : Option (Int32 × xMem) :=
  fX1_mostBehind_l4 a0 a1 (fun (v7 : Int32) (v8 : Int32) (M9 : xMem) => some (v7, M9)) xFU (nI 0) (nI 1) M
set_option maxRecDepth 100000 in
set_option maxHeartbeats 4000000 in
theorem lX1_mostBehind_4 {X : xCX} {r : Int32} {M' : xMem} (C : xCk X cX1_mostBehind RX1 2) (R0 : xRk X (some .int) (some (.int r), M')) (hnL : X.2.2.2.2.2.2.2.2.2.2.2.2.2 = 4) (p0 : Nat) (hp0 : xkd p0 = 1) (p1 : Int32) (K : Int32 → Int32 → xMem → Option (Int32 × xMem)) (hK : ∀ (v2 : Int32) (v3 : Int32) (M : xMem), K v2 v3 M = some (r, M') → WW X 43 [some (vr X.1 p0), some (.int p1), some (.int v2), some (.int v3)] [] M) : ∀ (n : Nat) (v2 : Int32) (v3 : Int32) (M : xMem), fX1_mostBehind_l4 p0 p1 K n v2 v3 M = some (r, M') → WW X 4 [some (vr X.1 p0), some (.int p1), some (.int v2), some (.int v3)] [] M := by
  have hn2 : 2 < X.2.2.2.2.2.2.2.2.2.2.2.2.2 := by rw [hnL]; decide
  have hn3 : 3 < X.2.2.2.2.2.2.2.2.2.2.2.2.2 := by rw [hnL]; decide
  intro n
  induction n with
  | zero =>
    intro v2 v3 M h
    cases (show (none : Option (Int32 × xMem)) = some (r, M') from h)
  | succ n ih =>
    intro v2 v3 M h
    rw [fX1_mostBehind_l4.eq_2] at h
    refine r_iload_n (pc := 4) C dX1_mostBehind_4 rfl rfl ?_
    refine r_aload_n (pc := 5) C dX1_mostBehind_5 rfl rfl ?_
    refine r_getI (pc := 6) C kX1_30 hp0 dX1_mostBehind_6 ?_
    refine r_icmp_gt (pc := 9) (tgt := 43) C dX1_mostBehind_9 (by decide) h (fun _ h => ?_) (fun _ h => ?_)
    · exact hK v2 v3 M h
    · refine r_iload_n (pc := 12) C dX1_mostBehind_12 rfl rfl ?_
      refine r_iload_n (pc := 13) C dX1_mostBehind_13 rfl rfl ?_
      refine r_jn (fun J => ∀ (s1 : Int32) (M2 : xMem) , J s1 M2 = some (r, M') → WW X 33 [some (vr X.1 p0), some (.int p1), some (.int v2), some (.int v3)] [.int s1, .int v2] M2) h (fun s1 M2  h => ?_) (fun J33 hJ33 h => ?_)
      · refine r_mmax (pc := 33) C lX1_128 (fun _ => by simp [xNM]) (by decide) (Nat.le_of_ble_eq_true rfl) dX1_mostBehind_33 ?_
        refine r_letI h (fun x3 h => ?_)
        refine r_istore_n (pc := 36) (lv' := [_, _, _, _]) C dX1_mostBehind_36 rfl hn2 rfl ?_
        refine r_iincL (pc := 37) (c := nI 1) C dX1_mostBehind_37 rfl (by decide) hn3 h (fun x4 h => ?_)
        refine r_lvE (lv' := [_, _, _, _]) rfl ?_
        refine r_goto (pc := 40) (tgt := 4) C dX1_mostBehind_40 (by decide) ?_
        exact ih x3 x4 M2 h
      refine r_if_ne (pc := 14) (tgt := 27) C dX1_mostBehind_14 (by decide) h (fun _ h => ?_) (fun _ h => ?_)
      · refine r_aload_n (pc := 27) C dX1_mostBehind_27 rfl rfl ?_
        refine r_getR (pc := 28) C kX1_20 hp0 (by decide) dX1_mostBehind_28 ?_
        refine r_iload_n (pc := 31) C dX1_mostBehind_31 rfl rfl ?_
        obtain ⟨g5, h⟩ := xGb_of h
        refine r_iald (pc := 32) C (xtk hp0 (by decide) rfl rfl) g5 dX1_mostBehind_32 ?_
        exact hJ33 (M.1 (xrf p0 2) (Int32.toNatClampNeg v3)) M  h
      · refine r_aload_n (pc := 17) C dX1_mostBehind_17 rfl rfl ?_
        refine r_getR (pc := 18) C kX1_20 hp0 (by decide) dX1_mostBehind_18 ?_
        refine r_iload_n (pc := 21) C dX1_mostBehind_21 rfl rfl ?_
        obtain ⟨g6, h⟩ := xGb_of h
        refine r_iald (pc := 22) C (xtk hp0 (by decide) rfl rfl) g6 dX1_mostBehind_22 ?_
        refine r_ineg (pc := 23) C dX1_mostBehind_23 ?_
        refine r_goto (pc := 24) (tgt := 33) C dX1_mostBehind_24 (by decide) ?_
        exact hJ33 (-(M.1 (xrf p0 2) (Int32.toNatClampNeg v3))) M  h
set_option maxRecDepth 100000 in
set_option maxHeartbeats 4000000 in
theorem zX1_mostBehind (G : xGX) (a0 : Nat) (h0 : xkd a0 = 1) (a1 : Int32) (M : xMem) (r : Int32) (M' : xMem) (h : fX1_mostBehind a0 a1 M = some (r, M')) : xCt G yX1_mostBehind cX1_mostBehind 4 (some .int) 2 [vr G a0, .int a1] M (some (.int r), M') := by
  refine xMet (lv := [some (vr G a0), some (.int a1), none, none]) (by decide) (Nat.le_of_ble_eq_true rfl) rfl ?_
  intro X hG hnL C R0
  subst hG
  have C : xCk X cX1_mostBehind RX1 2 := C
  have hn2 : 2 < X.2.2.2.2.2.2.2.2.2.2.2.2.2 := by rw [hnL]; decide
  have hn3 : 3 < X.2.2.2.2.2.2.2.2.2.2.2.2.2 := by rw [hnL]; decide
  unfold fX1_mostBehind at h
  refine r_iconst (pc := 0) (v := (nI 0)) C dX1_mostBehind_0 (by decide) ?_
  refine r_istore_n (pc := 1) (lv' := [_, _, _, _]) C dX1_mostBehind_1 rfl hn2 rfl ?_
  refine r_iconst (pc := 2) (v := (nI 1)) C dX1_mostBehind_2 (by decide) ?_
  refine r_istore_n (pc := 3) (lv' := [_, _, _, _]) C dX1_mostBehind_3 rfl hn3 rfl ?_
  refine lX1_mostBehind_4 C R0 hnL a0 h0 a1 _ (fun v7 v8 M9 h => ?_) _ _ _ _ h
  refine r_iload_n (pc := 43) C dX1_mostBehind_43 rfl rfl ?_
  exact r_iret (pc := 44) C R0 h dX1_mostBehind_44
theorem dX1_longestRun_0 : decode cX1_longestRun 0 = .ok (.iconst 0, 1) := by decide +kernel
theorem dX1_longestRun_1 : decode cX1_longestRun 1 = .ok (.istore_n 2, 1) := by decide +kernel
theorem dX1_longestRun_2 : decode cX1_longestRun 2 = .ok (.iconst 0, 1) := by decide +kernel
theorem dX1_longestRun_3 : decode cX1_longestRun 3 = .ok (.istore_n 3, 1) := by decide +kernel
theorem dX1_longestRun_4 : decode cX1_longestRun 4 = .ok (.iconst 0, 1) := by decide +kernel
theorem dX1_longestRun_5 : decode cX1_longestRun 5 = .ok (.istore 4, 2) := by decide +kernel
theorem dX1_longestRun_7 : decode cX1_longestRun 7 = .ok (.iload 4, 2) := by decide +kernel
theorem dX1_longestRun_9 : decode cX1_longestRun 9 = .ok (.aload_n 0, 1) := by decide +kernel
theorem dX1_longestRun_10 : decode cX1_longestRun 10 = .ok (.getfield 30, 3) := by decide +kernel
theorem dX1_longestRun_13 : decode cX1_longestRun 13 = .ok (.if_icmp .ge 45, 3) := by decide +kernel
theorem dX1_longestRun_16 : decode cX1_longestRun 16 = .ok (.aload_n 0, 1) := by decide +kernel
theorem dX1_longestRun_17 : decode cX1_longestRun 17 = .ok (.iload_n 1, 1) := by decide +kernel
theorem dX1_longestRun_18 : decode cX1_longestRun 18 = .ok (.iload 4, 2) := by decide +kernel
theorem dX1_longestRun_20 : decode cX1_longestRun 20 = .ok (.invokevirtual 134, 3) := by decide +kernel
theorem dX1_longestRun_23 : decode cX1_longestRun 23 = .ok (.ifCond .le 21, 3) := by decide +kernel
theorem dX1_longestRun_26 : decode cX1_longestRun 26 = .ok (.aload_n 0, 1) := by decide +kernel
theorem dX1_longestRun_27 : decode cX1_longestRun 27 = .ok (.iconst 1, 1) := by decide +kernel
theorem dX1_longestRun_28 : decode cX1_longestRun 28 = .ok (.iload_n 1, 1) := by decide +kernel
theorem dX1_longestRun_29 : decode cX1_longestRun 29 = .ok (.isub, 1) := by decide +kernel
theorem dX1_longestRun_30 : decode cX1_longestRun 30 = .ok (.iload 4, 2) := by decide +kernel
theorem dX1_longestRun_32 : decode cX1_longestRun 32 = .ok (.invokevirtual 134, 3) := by decide +kernel
theorem dX1_longestRun_35 : decode cX1_longestRun 35 = .ok (.ifCond .ne 9, 3) := by decide +kernel
theorem dX1_longestRun_38 : decode cX1_longestRun 38 = .ok (.iload_n 3, 1) := by decide +kernel
theorem dX1_longestRun_39 : decode cX1_longestRun 39 = .ok (.iconst 1, 1) := by decide +kernel
theorem dX1_longestRun_40 : decode cX1_longestRun 40 = .ok (.iadd, 1) := by decide +kernel
theorem dX1_longestRun_41 : decode cX1_longestRun 41 = .ok (.goto 4, 3) := by decide +kernel
theorem dX1_longestRun_44 : decode cX1_longestRun 44 = .ok (.iconst 0, 1) := by decide +kernel
theorem dX1_longestRun_45 : decode cX1_longestRun 45 = .ok (.istore_n 3, 1) := by decide +kernel
theorem dX1_longestRun_46 : decode cX1_longestRun 46 = .ok (.iload_n 2, 1) := by decide +kernel
theorem dX1_longestRun_47 : decode cX1_longestRun 47 = .ok (.iload_n 3, 1) := by decide +kernel
theorem dX1_longestRun_48 : decode cX1_longestRun 48 = .ok (.invokestatic 128, 3) := by decide +kernel
theorem dX1_longestRun_51 : decode cX1_longestRun 51 = .ok (.istore_n 2, 1) := by decide +kernel
theorem dX1_longestRun_52 : decode cX1_longestRun 52 = .ok (.iinc 4 1, 3) := by decide +kernel
theorem dX1_longestRun_55 : decode cX1_longestRun 55 = .ok (.goto (-48), 3) := by decide +kernel
theorem dX1_longestRun_58 : decode cX1_longestRun 58 = .ok (.iload_n 2, 1) := by decide +kernel
theorem dX1_longestRun_59 : decode cX1_longestRun 59 = .ok (.ireturn, 1) := by decide +kernel
def fX1_longestRun_l7 (p0 : Nat) (p1 : Int32) (K : Int32 → Int32 → Int32 → xMem → Option (Int32 × xMem)) : Nat → Int32 → Int32 → Int32 → xMem → Option (Int32 × xMem)
  | 0, _, _, _, _ => none
  | n + 1, v2, v3, v4, M => if (M.1 p0 5) ≤ v4 then (K v2 v3 v4 M) else (xBn (fX1_pointsOf p0 p1 v4 M) fun r1 M2 => xLt (fun (s3 : Int32) (M4 : xMem) => (xLt (if v2 < s3 then s3 else v2) fun x5 => xLt (v4 + nI 1) fun x6 => fX1_longestRun_l7 p0 p1 K n x5 s3 x6 M4 : Option (Int32 × xMem))) fun J45 => if r1 ≤ 0 then (J45 (nI 0) M2) else (xBn (fX1_pointsOf p0 ((nI 1) - p1) v4 M2) fun r7 M8 => if r7 = 0 then (J45 (v3 + (nI 1)) M8) else (J45 (nI 0) M8)))
def fX1_longestRun (a0 : Nat) (a1 : Int32) (M : xMem) : Option (Int32 × xMem) :=
  fX1_longestRun_l7 a0 a1 (fun (v9 : Int32) (v10 : Int32) (v11 : Int32) (M12 : xMem) => some (v9, M12)) xFU (nI 0) (nI 0) (nI 0) M
set_option maxRecDepth 100000 in
set_option maxHeartbeats 4000000 in
theorem lX1_longestRun_7 {X : xCX} {r : Int32} {M' : xMem} (C : xCk X cX1_longestRun RX1 2) (R0 : xRk X (some .int) (some (.int r), M')) (hnL : X.2.2.2.2.2.2.2.2.2.2.2.2.2 = 5) (p0 : Nat) (hp0 : xkd p0 = 1) (p1 : Int32) (K : Int32 → Int32 → Int32 → xMem → Option (Int32 × xMem)) (hK : ∀ (v2 : Int32) (v3 : Int32) (v4 : Int32) (M : xMem), K v2 v3 v4 M = some (r, M') → WW X 58 [some (vr X.1 p0), some (.int p1), some (.int v2), some (.int v3), some (.int v4)] [] M) : ∀ (n : Nat) (v2 : Int32) (v3 : Int32) (v4 : Int32) (M : xMem), fX1_longestRun_l7 p0 p1 K n v2 v3 v4 M = some (r, M') → WW X 7 [some (vr X.1 p0), some (.int p1), some (.int v2), some (.int v3), some (.int v4)] [] M := by
  have hn2 : 2 < X.2.2.2.2.2.2.2.2.2.2.2.2.2 := by rw [hnL]; decide
  have hn3 : 3 < X.2.2.2.2.2.2.2.2.2.2.2.2.2 := by rw [hnL]; decide
  have hn4 : 4 < X.2.2.2.2.2.2.2.2.2.2.2.2.2 := by rw [hnL]; decide
  intro n
  induction n with
  | zero =>
    intro v2 v3 v4 M h
    cases (show (none : Option (Int32 × xMem)) = some (r, M') from h)
  | succ n ih =>
    intro v2 v3 v4 M h
    rw [fX1_longestRun_l7.eq_2] at h
    refine r_iload (pc := 7) C dX1_longestRun_7 rfl ?_
    refine r_aload_n (pc := 9) C dX1_longestRun_9 rfl rfl ?_
    refine r_getI (pc := 10) C kX1_30 hp0 dX1_longestRun_10 ?_
    refine r_icmp_ge (pc := 13) (tgt := 58) C dX1_longestRun_13 (by decide) h (fun _ h => ?_) (fun _ h => ?_)
    · exact hK v2 v3 v4 M h
    · refine r_aload_n (pc := 16) C dX1_longestRun_16 rfl rfl ?_
      refine r_iload_n (pc := 17) C dX1_longestRun_17 rfl rfl ?_
      refine r_iload (pc := 18) C dX1_longestRun_18 rfl ?_
      refine r_vI2 (pc := 20) C (fun r M' e => zX1_pointsOf X.1 p0 hp0 p1 v4 M r M' e) hp0 (by decide) rfl mX1_pointsOf lX1_134 (by decide) (Nat.le_of_ble_eq_true rfl) dX1_longestRun_20 h (fun r1 M2 h => ?_)
      refine r_jn (fun J => ∀ (s3 : Int32) (M4 : xMem) , J s3 M4 = some (r, M') → WW X 45 [some (vr X.1 p0), some (.int p1), some (.int v2), some (.int v3), some (.int v4)] [.int s3] M4) h (fun s3 M4  h => ?_) (fun J45 hJ45 h => ?_)
      · refine r_istore_n (pc := 45) (lv' := [_, _, _, _, _]) C dX1_longestRun_45 rfl hn3 rfl ?_
        refine r_iload_n (pc := 46) C dX1_longestRun_46 rfl rfl ?_
        refine r_iload_n (pc := 47) C dX1_longestRun_47 rfl rfl ?_
        refine r_mmax (pc := 48) C lX1_128 (fun _ => by simp [xNM]) (by decide) (Nat.le_of_ble_eq_true rfl) dX1_longestRun_48 ?_
        refine r_letI h (fun x5 h => ?_)
        refine r_istore_n (pc := 51) (lv' := [_, _, _, _, _]) C dX1_longestRun_51 rfl hn2 rfl ?_
        refine r_iincL (pc := 52) (c := nI 1) C dX1_longestRun_52 rfl (by decide) hn4 h (fun x6 h => ?_)
        refine r_lvE (lv' := [_, _, _, _, _]) rfl ?_
        refine r_goto (pc := 55) (tgt := 7) C dX1_longestRun_55 (by decide) ?_
        exact ih x5 s3 x6 M4 h
      refine r_if_le (pc := 23) (tgt := 44) C dX1_longestRun_23 (by decide) h (fun _ h => ?_) (fun _ h => ?_)
      · refine r_iconst (pc := 44) (v := (nI 0)) C dX1_longestRun_44 (by decide) ?_
        exact hJ45 (nI 0) M2  h
      · refine r_aload_n (pc := 26) C dX1_longestRun_26 rfl rfl ?_
        refine r_iconst (pc := 27) (v := (nI 1)) C dX1_longestRun_27 (by decide) ?_
        refine r_iload_n (pc := 28) C dX1_longestRun_28 rfl rfl ?_
        refine r_isub (pc := 29) C dX1_longestRun_29 ?_
        refine r_iload (pc := 30) C dX1_longestRun_30 rfl ?_
        refine r_vI2 (pc := 32) C (fun r M' e => zX1_pointsOf X.1 p0 hp0 ((nI 1) - p1) v4 M2 r M' e) hp0 (by decide) rfl mX1_pointsOf lX1_134 (by decide) (Nat.le_of_ble_eq_true rfl) dX1_longestRun_32 h (fun r7 M8 h => ?_)
        refine r_if_ne (pc := 35) (tgt := 44) C dX1_longestRun_35 (by decide) h (fun _ h => ?_) (fun _ h => ?_)
        · refine r_iconst (pc := 44) (v := (nI 0)) C dX1_longestRun_44 (by decide) ?_
          exact hJ45 (nI 0) M8  h
        · refine r_iload_n (pc := 38) C dX1_longestRun_38 rfl rfl ?_
          refine r_iconst (pc := 39) (v := (nI 1)) C dX1_longestRun_39 (by decide) ?_
          refine r_iadd (pc := 40) C dX1_longestRun_40 ?_
          refine r_goto (pc := 41) (tgt := 45) C dX1_longestRun_41 (by decide) ?_
          exact hJ45 (v3 + (nI 1)) M8  h
set_option maxRecDepth 100000 in
set_option maxHeartbeats 4000000 in
theorem zX1_longestRun (G : xGX) (a0 : Nat) (h0 : xkd a0 = 1) (a1 : Int32) (M : xMem) (r : Int32) (M' : xMem) (h : fX1_longestRun a0 a1 M = some (r, M')) : xCt G yX1_longestRun cX1_longestRun 5 (some .int) 2 [vr G a0, .int a1] M (some (.int r), M') := by
  refine xMet (lv := [some (vr G a0), some (.int a1), none, none, none]) (by decide) (Nat.le_of_ble_eq_true rfl) rfl ?_
  intro X hG hnL C R0
  subst hG
  have C : xCk X cX1_longestRun RX1 2 := C
  have hn2 : 2 < X.2.2.2.2.2.2.2.2.2.2.2.2.2 := by rw [hnL]; decide
  have hn3 : 3 < X.2.2.2.2.2.2.2.2.2.2.2.2.2 := by rw [hnL]; decide
  have hn4 : 4 < X.2.2.2.2.2.2.2.2.2.2.2.2.2 := by rw [hnL]; decide
  unfold fX1_longestRun at h
  refine r_iconst (pc := 0) (v := (nI 0)) C dX1_longestRun_0 (by decide) ?_
  refine r_istore_n (pc := 1) (lv' := [_, _, _, _, _]) C dX1_longestRun_1 rfl hn2 rfl ?_
  refine r_iconst (pc := 2) (v := (nI 0)) C dX1_longestRun_2 (by decide) ?_
  refine r_istore_n (pc := 3) (lv' := [_, _, _, _, _]) C dX1_longestRun_3 rfl hn3 rfl ?_
  refine r_iconst (pc := 4) (v := (nI 0)) C dX1_longestRun_4 (by decide) ?_
  refine r_istore (pc := 5) (lv' := [_, _, _, _, _]) C dX1_longestRun_5 hn4 rfl ?_
  refine lX1_longestRun_7 C R0 hnL a0 h0 a1 _ (fun v9 v10 v11 M12 h => ?_) _ _ _ _ _ h
  refine r_iload_n (pc := 58) C dX1_longestRun_58 rfl rfl ?_
  exact r_iret (pc := 59) C R0 h dX1_longestRun_59
theorem dX1_longestOwn_0 : decode cX1_longestOwn 0 = .ok (.iconst 0, 1) := by decide +kernel
theorem dX1_longestOwn_1 : decode cX1_longestOwn 1 = .ok (.istore_n 2, 1) := by decide +kernel
theorem dX1_longestOwn_2 : decode cX1_longestOwn 2 = .ok (.iconst 0, 1) := by decide +kernel
theorem dX1_longestOwn_3 : decode cX1_longestOwn 3 = .ok (.istore_n 3, 1) := by decide +kernel
theorem dX1_longestOwn_4 : decode cX1_longestOwn 4 = .ok (.iconst 0, 1) := by decide +kernel
theorem dX1_longestOwn_5 : decode cX1_longestOwn 5 = .ok (.istore 4, 2) := by decide +kernel
theorem dX1_longestOwn_7 : decode cX1_longestOwn 7 = .ok (.iload 4, 2) := by decide +kernel
theorem dX1_longestOwn_9 : decode cX1_longestOwn 9 = .ok (.aload_n 0, 1) := by decide +kernel
theorem dX1_longestOwn_10 : decode cX1_longestOwn 10 = .ok (.getfield 30, 3) := by decide +kernel
theorem dX1_longestOwn_13 : decode cX1_longestOwn 13 = .ok (.if_icmp .ge 48, 3) := by decide +kernel
theorem dX1_longestOwn_16 : decode cX1_longestOwn 16 = .ok (.aload_n 0, 1) := by decide +kernel
theorem dX1_longestOwn_17 : decode cX1_longestOwn 17 = .ok (.getfield 13, 3) := by decide +kernel
theorem dX1_longestOwn_20 : decode cX1_longestOwn 20 = .ok (.iconst 0, 1) := by decide +kernel
theorem dX1_longestOwn_21 : decode cX1_longestOwn 21 = .ok (.aaload, 1) := by decide +kernel
theorem dX1_longestOwn_22 : decode cX1_longestOwn 22 = .ok (.iload 4, 2) := by decide +kernel
theorem dX1_longestOwn_24 : decode cX1_longestOwn 24 = .ok (.iaload, 1) := by decide +kernel
theorem dX1_longestOwn_25 : decode cX1_longestOwn 25 = .ok (.iload_n 1, 1) := by decide +kernel
theorem dX1_longestOwn_26 : decode cX1_longestOwn 26 = .ok (.if_icmp .ne 29, 3) := by decide +kernel
theorem dX1_longestOwn_29 : decode cX1_longestOwn 29 = .ok (.aload_n 0, 1) := by decide +kernel
theorem dX1_longestOwn_30 : decode cX1_longestOwn 30 = .ok (.getfield 13, 3) := by decide +kernel
theorem dX1_longestOwn_33 : decode cX1_longestOwn 33 = .ok (.iconst 3, 1) := by decide +kernel
theorem dX1_longestOwn_34 : decode cX1_longestOwn 34 = .ok (.aaload, 1) := by decide +kernel
theorem dX1_longestOwn_35 : decode cX1_longestOwn 35 = .ok (.iload 4, 2) := by decide +kernel
theorem dX1_longestOwn_37 : decode cX1_longestOwn 37 = .ok (.iaload, 1) := by decide +kernel
theorem dX1_longestOwn_38 : decode cX1_longestOwn 38 = .ok (.ifCond .le 9, 3) := by decide +kernel
theorem dX1_longestOwn_41 : decode cX1_longestOwn 41 = .ok (.iload_n 3, 1) := by decide +kernel
theorem dX1_longestOwn_42 : decode cX1_longestOwn 42 = .ok (.iconst 1, 1) := by decide +kernel
theorem dX1_longestOwn_43 : decode cX1_longestOwn 43 = .ok (.iadd, 1) := by decide +kernel
theorem dX1_longestOwn_44 : decode cX1_longestOwn 44 = .ok (.goto 4, 3) := by decide +kernel
theorem dX1_longestOwn_47 : decode cX1_longestOwn 47 = .ok (.iconst 0, 1) := by decide +kernel
theorem dX1_longestOwn_48 : decode cX1_longestOwn 48 = .ok (.istore_n 3, 1) := by decide +kernel
theorem dX1_longestOwn_49 : decode cX1_longestOwn 49 = .ok (.iload_n 2, 1) := by decide +kernel
theorem dX1_longestOwn_50 : decode cX1_longestOwn 50 = .ok (.iload_n 3, 1) := by decide +kernel
theorem dX1_longestOwn_51 : decode cX1_longestOwn 51 = .ok (.invokestatic 128, 3) := by decide +kernel
theorem dX1_longestOwn_54 : decode cX1_longestOwn 54 = .ok (.istore_n 2, 1) := by decide +kernel
theorem dX1_longestOwn_55 : decode cX1_longestOwn 55 = .ok (.iinc 4 1, 3) := by decide +kernel
theorem dX1_longestOwn_58 : decode cX1_longestOwn 58 = .ok (.goto (-51), 3) := by decide +kernel
theorem dX1_longestOwn_61 : decode cX1_longestOwn 61 = .ok (.iload_n 2, 1) := by decide +kernel
theorem dX1_longestOwn_62 : decode cX1_longestOwn 62 = .ok (.ireturn, 1) := by decide +kernel
def fX1_longestOwn_l7 (p0 : Nat) (p1 : Int32) (K : Int32 → Int32 → Int32 → xMem → Option (Int32 × xMem)) : Nat → Int32 → Int32 → Int32 → xMem → Option (Int32 × xMem)
  | 0, _, _, _, _ => none
  | n + 1, v2, v3, v4, M => if (M.1 p0 5) ≤ v4 then (K v2 v3 v4 M) else (xGb (nI 0) (xln (xrf p0 0)) (xGb v4 (xln (xrf (xrf p0 0) (Int32.toNatClampNeg (nI 0)))) (if (M.1 (xrf (xrf p0 0) (Int32.toNatClampNeg (nI 0))) (Int32.toNatClampNeg v4)) = p1 then (xGb (nI 3) (xln (xrf p0 0)) (xGb v4 (xln (xrf (xrf p0 0) (Int32.toNatClampNeg (nI 3)))) (xLt (fun (s6 : Int32) (M7 : xMem) => (xLt (if v2 < s6 then s6 else v2) fun x8 => xLt (v4 + nI 1) fun x9 => fX1_longestOwn_l7 p0 p1 K n x8 s6 x9 M7 : Option (Int32 × xMem))) fun J48 => if (M.1 (xrf (xrf p0 0) (Int32.toNatClampNeg (nI 3))) (Int32.toNatClampNeg v4)) ≤ 0 then (J48 (nI 0) M) else (J48 (v3 + (nI 1)) M)))) else (xLt (v4 + nI 1) fun x3 => fX1_longestOwn_l7 p0 p1 K n v2 v3 x3 M))))
def fX1_longestOwn (a0 : Nat) (a1 : Int32) (M : xMem) : Option (Int32 × xMem) :=
  fX1_longestOwn_l7 a0 a1 (fun (v10 : Int32) (v11 : Int32) (v12 : Int32) (M13 : xMem) => some (v10, M13)) xFU (nI 0) (nI 0) (nI 0) M
set_option maxRecDepth 100000 in
set_option maxHeartbeats 4000000 in
theorem lX1_longestOwn_7 {X : xCX} {r : Int32} {M' : xMem} (C : xCk X cX1_longestOwn RX1 2) (R0 : xRk X (some .int) (some (.int r), M')) (hnL : X.2.2.2.2.2.2.2.2.2.2.2.2.2 = 5) (p0 : Nat) (hp0 : xkd p0 = 1) (p1 : Int32) (K : Int32 → Int32 → Int32 → xMem → Option (Int32 × xMem)) (hK : ∀ (v2 : Int32) (v3 : Int32) (v4 : Int32) (M : xMem), K v2 v3 v4 M = some (r, M') → WW X 61 [some (vr X.1 p0), some (.int p1), some (.int v2), some (.int v3), some (.int v4)] [] M) : ∀ (n : Nat) (v2 : Int32) (v3 : Int32) (v4 : Int32) (M : xMem), fX1_longestOwn_l7 p0 p1 K n v2 v3 v4 M = some (r, M') → WW X 7 [some (vr X.1 p0), some (.int p1), some (.int v2), some (.int v3), some (.int v4)] [] M := by
  have hn2 : 2 < X.2.2.2.2.2.2.2.2.2.2.2.2.2 := by rw [hnL]; decide
  have hn3 : 3 < X.2.2.2.2.2.2.2.2.2.2.2.2.2 := by rw [hnL]; decide
  have hn4 : 4 < X.2.2.2.2.2.2.2.2.2.2.2.2.2 := by rw [hnL]; decide
  intro n
  induction n with
  | zero =>
    intro v2 v3 v4 M h
    cases (show (none : Option (Int32 × xMem)) = some (r, M') from h)
  | succ n ih =>
    intro v2 v3 v4 M h
    rw [fX1_longestOwn_l7.eq_2] at h
    refine r_iload (pc := 7) C dX1_longestOwn_7 rfl ?_
    refine r_aload_n (pc := 9) C dX1_longestOwn_9 rfl rfl ?_
    refine r_getI (pc := 10) C kX1_30 hp0 dX1_longestOwn_10 ?_
    refine r_icmp_ge (pc := 13) (tgt := 61) C dX1_longestOwn_13 (by decide) h (fun _ h => ?_) (fun _ h => ?_)
    · exact hK v2 v3 v4 M h
    · refine r_aload_n (pc := 16) C dX1_longestOwn_16 rfl rfl ?_
      refine r_getR (pc := 17) C kX1_13 hp0 (by decide) dX1_longestOwn_17 ?_
      refine r_iconst (pc := 20) (v := (nI 0)) C dX1_longestOwn_20 (by decide) ?_
      obtain ⟨g1, h⟩ := xGb_of h
      refine r_aaldI (pc := 21) C (xtk hp0 (by decide) rfl rfl) g1 dX1_longestOwn_21 ?_
      refine r_iload (pc := 22) C dX1_longestOwn_22 rfl ?_
      obtain ⟨g2, h⟩ := xGb_of h
      refine r_iald (pc := 24) C (xkeI (xtk hp0 (by decide) rfl rfl) (xin_lt g1)) g2 dX1_longestOwn_24 ?_
      refine r_iload_n (pc := 25) C dX1_longestOwn_25 rfl rfl ?_
      refine r_icmp_ne (pc := 26) (tgt := 55) C dX1_longestOwn_26 (by decide) h (fun _ h => ?_) (fun _ h => ?_)
      · refine r_iincL (pc := 55) (c := nI 1) C dX1_longestOwn_55 rfl (by decide) hn4 h (fun x3 h => ?_)
        refine r_lvE (lv' := [_, _, _, _, _]) rfl ?_
        refine r_goto (pc := 58) (tgt := 7) C dX1_longestOwn_58 (by decide) ?_
        exact ih v2 v3 x3 M h
      · refine r_aload_n (pc := 29) C dX1_longestOwn_29 rfl rfl ?_
        refine r_getR (pc := 30) C kX1_13 hp0 (by decide) dX1_longestOwn_30 ?_
        refine r_iconst (pc := 33) (v := (nI 3)) C dX1_longestOwn_33 (by decide) ?_
        obtain ⟨g4, h⟩ := xGb_of h
        refine r_aaldI (pc := 34) C (xtk hp0 (by decide) rfl rfl) g4 dX1_longestOwn_34 ?_
        refine r_iload (pc := 35) C dX1_longestOwn_35 rfl ?_
        obtain ⟨g5, h⟩ := xGb_of h
        refine r_iald (pc := 37) C (xkeI (xtk hp0 (by decide) rfl rfl) (xin_lt g4)) g5 dX1_longestOwn_37 ?_
        refine r_jn (fun J => ∀ (s6 : Int32) (M7 : xMem) , J s6 M7 = some (r, M') → WW X 48 [some (vr X.1 p0), some (.int p1), some (.int v2), some (.int v3), some (.int v4)] [.int s6] M7) h (fun s6 M7  h => ?_) (fun J48 hJ48 h => ?_)
        · refine r_istore_n (pc := 48) (lv' := [_, _, _, _, _]) C dX1_longestOwn_48 rfl hn3 rfl ?_
          refine r_iload_n (pc := 49) C dX1_longestOwn_49 rfl rfl ?_
          refine r_iload_n (pc := 50) C dX1_longestOwn_50 rfl rfl ?_
          refine r_mmax (pc := 51) C lX1_128 (fun _ => by simp [xNM]) (by decide) (Nat.le_of_ble_eq_true rfl) dX1_longestOwn_51 ?_
          refine r_letI h (fun x8 h => ?_)
          refine r_istore_n (pc := 54) (lv' := [_, _, _, _, _]) C dX1_longestOwn_54 rfl hn2 rfl ?_
          refine r_iincL (pc := 55) (c := nI 1) C dX1_longestOwn_55 rfl (by decide) hn4 h (fun x9 h => ?_)
          refine r_lvE (lv' := [_, _, _, _, _]) rfl ?_
          refine r_goto (pc := 58) (tgt := 7) C dX1_longestOwn_58 (by decide) ?_
          exact ih x8 s6 x9 M7 h
        refine r_if_le (pc := 38) (tgt := 47) C dX1_longestOwn_38 (by decide) h (fun _ h => ?_) (fun _ h => ?_)
        · refine r_iconst (pc := 47) (v := (nI 0)) C dX1_longestOwn_47 (by decide) ?_
          exact hJ48 (nI 0) M  h
        · refine r_iload_n (pc := 41) C dX1_longestOwn_41 rfl rfl ?_
          refine r_iconst (pc := 42) (v := (nI 1)) C dX1_longestOwn_42 (by decide) ?_
          refine r_iadd (pc := 43) C dX1_longestOwn_43 ?_
          refine r_goto (pc := 44) (tgt := 48) C dX1_longestOwn_44 (by decide) ?_
          exact hJ48 (v3 + (nI 1)) M  h
set_option maxRecDepth 100000 in
set_option maxHeartbeats 4000000 in
theorem zX1_longestOwn (G : xGX) (a0 : Nat) (h0 : xkd a0 = 1) (a1 : Int32) (M : xMem) (r : Int32) (M' : xMem) (h : fX1_longestOwn a0 a1 M = some (r, M')) : xCt G yX1_longestOwn cX1_longestOwn 5 (some .int) 2 [vr G a0, .int a1] M (some (.int r), M') := by
  refine xMet (lv := [some (vr G a0), some (.int a1), none, none, none]) (by decide) (Nat.le_of_ble_eq_true rfl) rfl ?_
  intro X hG hnL C R0
  subst hG
  have C : xCk X cX1_longestOwn RX1 2 := C
  have hn2 : 2 < X.2.2.2.2.2.2.2.2.2.2.2.2.2 := by rw [hnL]; decide
  have hn3 : 3 < X.2.2.2.2.2.2.2.2.2.2.2.2.2 := by rw [hnL]; decide
  have hn4 : 4 < X.2.2.2.2.2.2.2.2.2.2.2.2.2 := by rw [hnL]; decide
  unfold fX1_longestOwn at h
  refine r_iconst (pc := 0) (v := (nI 0)) C dX1_longestOwn_0 (by decide) ?_
  refine r_istore_n (pc := 1) (lv' := [_, _, _, _, _]) C dX1_longestOwn_1 rfl hn2 rfl ?_
  refine r_iconst (pc := 2) (v := (nI 0)) C dX1_longestOwn_2 (by decide) ?_
  refine r_istore_n (pc := 3) (lv' := [_, _, _, _, _]) C dX1_longestOwn_3 rfl hn3 rfl ?_
  refine r_iconst (pc := 4) (v := (nI 0)) C dX1_longestOwn_4 (by decide) ?_
  refine r_istore (pc := 5) (lv' := [_, _, _, _, _]) C dX1_longestOwn_5 hn4 rfl ?_
  refine lX1_longestOwn_7 C R0 hnL a0 h0 a1 _ (fun v10 v11 v12 M13 h => ?_) _ _ _ _ _ h
  refine r_iload_n (pc := 61) C dX1_longestOwn_61 rfl rfl ?_
  exact r_iret (pc := 62) C R0 h dX1_longestOwn_62
theorem dX1_greatCount_0 : decode cX1_greatCount 0 = .ok (.iconst 0, 1) := by decide +kernel
theorem dX1_greatCount_1 : decode cX1_greatCount 1 = .ok (.istore_n 2, 1) := by decide +kernel
theorem dX1_greatCount_2 : decode cX1_greatCount 2 = .ok (.iconst 0, 1) := by decide +kernel
theorem dX1_greatCount_3 : decode cX1_greatCount 3 = .ok (.istore_n 3, 1) := by decide +kernel
theorem dX1_greatCount_4 : decode cX1_greatCount 4 = .ok (.iload_n 3, 1) := by decide +kernel
theorem dX1_greatCount_5 : decode cX1_greatCount 5 = .ok (.aload_n 0, 1) := by decide +kernel
theorem dX1_greatCount_6 : decode cX1_greatCount 6 = .ok (.getfield 30, 3) := by decide +kernel
theorem dX1_greatCount_9 : decode cX1_greatCount 9 = .ok (.if_icmp .ge 42, 3) := by decide +kernel
theorem dX1_greatCount_12 : decode cX1_greatCount 12 = .ok (.iload_n 2, 1) := by decide +kernel
theorem dX1_greatCount_13 : decode cX1_greatCount 13 = .ok (.aload_n 0, 1) := by decide +kernel
theorem dX1_greatCount_14 : decode cX1_greatCount 14 = .ok (.getfield 13, 3) := by decide +kernel
theorem dX1_greatCount_17 : decode cX1_greatCount 17 = .ok (.iconst 0, 1) := by decide +kernel
theorem dX1_greatCount_18 : decode cX1_greatCount 18 = .ok (.aaload, 1) := by decide +kernel
theorem dX1_greatCount_19 : decode cX1_greatCount 19 = .ok (.iload_n 3, 1) := by decide +kernel
theorem dX1_greatCount_20 : decode cX1_greatCount 20 = .ok (.iaload, 1) := by decide +kernel
theorem dX1_greatCount_21 : decode cX1_greatCount 21 = .ok (.iload_n 1, 1) := by decide +kernel
theorem dX1_greatCount_22 : decode cX1_greatCount 22 = .ok (.if_icmp .ne 20, 3) := by decide +kernel
theorem dX1_greatCount_25 : decode cX1_greatCount 25 = .ok (.aload_n 0, 1) := by decide +kernel
theorem dX1_greatCount_26 : decode cX1_greatCount 26 = .ok (.getfield 13, 3) := by decide +kernel
theorem dX1_greatCount_29 : decode cX1_greatCount 29 = .ok (.bipush 13, 2) := by decide +kernel
theorem dX1_greatCount_31 : decode cX1_greatCount 31 = .ok (.aaload, 1) := by decide +kernel
theorem dX1_greatCount_32 : decode cX1_greatCount 32 = .ok (.iload_n 3, 1) := by decide +kernel
theorem dX1_greatCount_33 : decode cX1_greatCount 33 = .ok (.iaload, 1) := by decide +kernel
theorem dX1_greatCount_34 : decode cX1_greatCount 34 = .ok (.iconst 3, 1) := by decide +kernel
theorem dX1_greatCount_35 : decode cX1_greatCount 35 = .ok (.if_icmp .lt 7, 3) := by decide +kernel
theorem dX1_greatCount_38 : decode cX1_greatCount 38 = .ok (.iconst 1, 1) := by decide +kernel
theorem dX1_greatCount_39 : decode cX1_greatCount 39 = .ok (.goto 4, 3) := by decide +kernel
theorem dX1_greatCount_42 : decode cX1_greatCount 42 = .ok (.iconst 0, 1) := by decide +kernel
theorem dX1_greatCount_43 : decode cX1_greatCount 43 = .ok (.iadd, 1) := by decide +kernel
theorem dX1_greatCount_44 : decode cX1_greatCount 44 = .ok (.istore_n 2, 1) := by decide +kernel
theorem dX1_greatCount_45 : decode cX1_greatCount 45 = .ok (.iinc 3 1, 3) := by decide +kernel
theorem dX1_greatCount_48 : decode cX1_greatCount 48 = .ok (.goto (-44), 3) := by decide +kernel
theorem dX1_greatCount_51 : decode cX1_greatCount 51 = .ok (.iload_n 2, 1) := by decide +kernel
theorem dX1_greatCount_52 : decode cX1_greatCount 52 = .ok (.ireturn, 1) := by decide +kernel
def fX1_greatCount_l4 (p0 : Nat) (p1 : Int32) (K : Int32 → Int32 → xMem → Option (Int32 × xMem)) : Nat → Int32 → Int32 → xMem → Option (Int32 × xMem)
  | 0, _, _, _ => none
  | n + 1, v2, v3, M => if (M.1 p0 5) ≤ v3 then (K v2 v3 M) else (xGb (nI 0) (xln (xrf p0 0)) (xGb v3 (xln (xrf (xrf p0 0) (Int32.toNatClampNeg (nI 0)))) (xLt (fun (s3 : Int32) (M4 : xMem) => (xLt (v2 + s3) fun x5 => xLt (v3 + nI 1) fun x6 => fX1_greatCount_l4 p0 p1 K n x5 x6 M4 : Option (Int32 × xMem))) fun J43 => if (M.1 (xrf (xrf p0 0) (Int32.toNatClampNeg (nI 0))) (Int32.toNatClampNeg v3)) = p1 then (xGb (nI 13) (xln (xrf p0 0)) (xGb v3 (xln (xrf (xrf p0 0) (Int32.toNatClampNeg (nI 13)))) (if (M.1 (xrf (xrf p0 0) (Int32.toNatClampNeg (nI 13))) (Int32.toNatClampNeg v3)) < (nI 3) then (J43 (nI 0) M) else (J43 (nI 1) M)))) else (J43 (nI 0) M))))
def fX1_greatCount (a0 : Nat) (a1 : Int32) (M : xMem) : Option (Int32 × xMem) :=
  fX1_greatCount_l4 a0 a1 (fun (v9 : Int32) (v10 : Int32) (M11 : xMem) => some (v9, M11)) xFU (nI 0) (nI 0) M
set_option maxRecDepth 100000 in
set_option maxHeartbeats 4000000 in
theorem lX1_greatCount_4 {X : xCX} {r : Int32} {M' : xMem} (C : xCk X cX1_greatCount RX1 1) (R0 : xRk X (some .int) (some (.int r), M')) (hnL : X.2.2.2.2.2.2.2.2.2.2.2.2.2 = 4) (p0 : Nat) (hp0 : xkd p0 = 1) (p1 : Int32) (K : Int32 → Int32 → xMem → Option (Int32 × xMem)) (hK : ∀ (v2 : Int32) (v3 : Int32) (M : xMem), K v2 v3 M = some (r, M') → WW X 51 [some (vr X.1 p0), some (.int p1), some (.int v2), some (.int v3)] [] M) : ∀ (n : Nat) (v2 : Int32) (v3 : Int32) (M : xMem), fX1_greatCount_l4 p0 p1 K n v2 v3 M = some (r, M') → WW X 4 [some (vr X.1 p0), some (.int p1), some (.int v2), some (.int v3)] [] M := by
  have hn2 : 2 < X.2.2.2.2.2.2.2.2.2.2.2.2.2 := by rw [hnL]; decide
  have hn3 : 3 < X.2.2.2.2.2.2.2.2.2.2.2.2.2 := by rw [hnL]; decide
  intro n
  induction n with
  | zero =>
    intro v2 v3 M h
    cases (show (none : Option (Int32 × xMem)) = some (r, M') from h)
  | succ n ih =>
    intro v2 v3 M h
    rw [fX1_greatCount_l4.eq_2] at h
    refine r_iload_n (pc := 4) C dX1_greatCount_4 rfl rfl ?_
    refine r_aload_n (pc := 5) C dX1_greatCount_5 rfl rfl ?_
    refine r_getI (pc := 6) C kX1_30 hp0 dX1_greatCount_6 ?_
    refine r_icmp_ge (pc := 9) (tgt := 51) C dX1_greatCount_9 (by decide) h (fun _ h => ?_) (fun _ h => ?_)
    · exact hK v2 v3 M h
    · refine r_iload_n (pc := 12) C dX1_greatCount_12 rfl rfl ?_
      refine r_aload_n (pc := 13) C dX1_greatCount_13 rfl rfl ?_
      refine r_getR (pc := 14) C kX1_13 hp0 (by decide) dX1_greatCount_14 ?_
      refine r_iconst (pc := 17) (v := (nI 0)) C dX1_greatCount_17 (by decide) ?_
      obtain ⟨g1, h⟩ := xGb_of h
      refine r_aaldI (pc := 18) C (xtk hp0 (by decide) rfl rfl) g1 dX1_greatCount_18 ?_
      refine r_iload_n (pc := 19) C dX1_greatCount_19 rfl rfl ?_
      obtain ⟨g2, h⟩ := xGb_of h
      refine r_iald (pc := 20) C (xkeI (xtk hp0 (by decide) rfl rfl) (xin_lt g1)) g2 dX1_greatCount_20 ?_
      refine r_iload_n (pc := 21) C dX1_greatCount_21 rfl rfl ?_
      refine r_jn (fun J => ∀ (s3 : Int32) (M4 : xMem) , J s3 M4 = some (r, M') → WW X 43 [some (vr X.1 p0), some (.int p1), some (.int v2), some (.int v3)] [.int s3, .int v2] M4) h (fun s3 M4  h => ?_) (fun J43 hJ43 h => ?_)
      · refine r_iadd (pc := 43) C dX1_greatCount_43 ?_
        refine r_letI h (fun x5 h => ?_)
        refine r_istore_n (pc := 44) (lv' := [_, _, _, _]) C dX1_greatCount_44 rfl hn2 rfl ?_
        refine r_iincL (pc := 45) (c := nI 1) C dX1_greatCount_45 rfl (by decide) hn3 h (fun x6 h => ?_)
        refine r_lvE (lv' := [_, _, _, _]) rfl ?_
        refine r_goto (pc := 48) (tgt := 4) C dX1_greatCount_48 (by decide) ?_
        exact ih x5 x6 M4 h
      refine r_icmp_ne (pc := 22) (tgt := 42) C dX1_greatCount_22 (by decide) h (fun _ h => ?_) (fun _ h => ?_)
      · refine r_iconst (pc := 42) (v := (nI 0)) C dX1_greatCount_42 (by decide) ?_
        exact hJ43 (nI 0) M  h
      · refine r_aload_n (pc := 25) C dX1_greatCount_25 rfl rfl ?_
        refine r_getR (pc := 26) C kX1_13 hp0 (by decide) dX1_greatCount_26 ?_
        refine r_bipush (pc := 29) (v := (nI 13)) C dX1_greatCount_29 (by decide) ?_
        obtain ⟨g7, h⟩ := xGb_of h
        refine r_aaldI (pc := 31) C (xtk hp0 (by decide) rfl rfl) g7 dX1_greatCount_31 ?_
        refine r_iload_n (pc := 32) C dX1_greatCount_32 rfl rfl ?_
        obtain ⟨g8, h⟩ := xGb_of h
        refine r_iald (pc := 33) C (xkeI (xtk hp0 (by decide) rfl rfl) (xin_lt g7)) g8 dX1_greatCount_33 ?_
        refine r_iconst (pc := 34) (v := (nI 3)) C dX1_greatCount_34 (by decide) ?_
        refine r_icmp_lt (pc := 35) (tgt := 42) C dX1_greatCount_35 (by decide) h (fun _ h => ?_) (fun _ h => ?_)
        · refine r_iconst (pc := 42) (v := (nI 0)) C dX1_greatCount_42 (by decide) ?_
          exact hJ43 (nI 0) M  h
        · refine r_iconst (pc := 38) (v := (nI 1)) C dX1_greatCount_38 (by decide) ?_
          refine r_goto (pc := 39) (tgt := 43) C dX1_greatCount_39 (by decide) ?_
          exact hJ43 (nI 1) M  h
set_option maxRecDepth 100000 in
set_option maxHeartbeats 4000000 in
theorem zX1_greatCount (G : xGX) (a0 : Nat) (h0 : xkd a0 = 1) (a1 : Int32) (M : xMem) (r : Int32) (M' : xMem) (h : fX1_greatCount a0 a1 M = some (r, M')) : xCt G yX1_greatCount cX1_greatCount 4 (some .int) 1 [vr G a0, .int a1] M (some (.int r), M') := by
  refine xMet (lv := [some (vr G a0), some (.int a1), none, none]) (by decide) (Nat.le_of_ble_eq_true rfl) rfl ?_
  intro X hG hnL C R0
  subst hG
  have C : xCk X cX1_greatCount RX1 1 := C
  have hn2 : 2 < X.2.2.2.2.2.2.2.2.2.2.2.2.2 := by rw [hnL]; decide
  have hn3 : 3 < X.2.2.2.2.2.2.2.2.2.2.2.2.2 := by rw [hnL]; decide
  unfold fX1_greatCount at h
  refine r_iconst (pc := 0) (v := (nI 0)) C dX1_greatCount_0 (by decide) ?_
  refine r_istore_n (pc := 1) (lv' := [_, _, _, _]) C dX1_greatCount_1 rfl hn2 rfl ?_
  refine r_iconst (pc := 2) (v := (nI 0)) C dX1_greatCount_2 (by decide) ?_
  refine r_istore_n (pc := 3) (lv' := [_, _, _, _]) C dX1_greatCount_3 rfl hn3 rfl ?_
  refine lX1_greatCount_4 C R0 hnL a0 h0 a1 _ (fun v9 v10 M11 h => ?_) _ _ _ _ h
  refine r_iload_n (pc := 51) C dX1_greatCount_51 rfl rfl ?_
  exact r_iret (pc := 52) C R0 h dX1_greatCount_52
theorem dX1_pressedCount_0 : decode cX1_pressedCount 0 = .ok (.iconst 0, 1) := by decide +kernel
theorem dX1_pressedCount_1 : decode cX1_pressedCount 1 = .ok (.istore_n 3, 1) := by decide +kernel
theorem dX1_pressedCount_2 : decode cX1_pressedCount 2 = .ok (.iconst 0, 1) := by decide +kernel
theorem dX1_pressedCount_3 : decode cX1_pressedCount 3 = .ok (.istore 4, 2) := by decide +kernel
theorem dX1_pressedCount_5 : decode cX1_pressedCount 5 = .ok (.iload 4, 2) := by decide +kernel
theorem dX1_pressedCount_7 : decode cX1_pressedCount 7 = .ok (.aload_n 0, 1) := by decide +kernel
theorem dX1_pressedCount_8 : decode cX1_pressedCount 8 = .ok (.getfield 30, 3) := by decide +kernel
theorem dX1_pressedCount_11 : decode cX1_pressedCount 11 = .ok (.if_icmp .ge 69, 3) := by decide +kernel
theorem dX1_pressedCount_14 : decode cX1_pressedCount 14 = .ok (.aload_n 0, 1) := by decide +kernel
theorem dX1_pressedCount_15 : decode cX1_pressedCount 15 = .ok (.getfield 13, 3) := by decide +kernel
theorem dX1_pressedCount_18 : decode cX1_pressedCount 18 = .ok (.iconst 0, 1) := by decide +kernel
theorem dX1_pressedCount_19 : decode cX1_pressedCount 19 = .ok (.aaload, 1) := by decide +kernel
theorem dX1_pressedCount_20 : decode cX1_pressedCount 20 = .ok (.iload 4, 2) := by decide +kernel
theorem dX1_pressedCount_22 : decode cX1_pressedCount 22 = .ok (.iaload, 1) := by decide +kernel
theorem dX1_pressedCount_23 : decode cX1_pressedCount 23 = .ok (.iload_n 1, 1) := by decide +kernel
theorem dX1_pressedCount_24 : decode cX1_pressedCount 24 = .ok (.if_icmp .ne 21, 3) := by decide +kernel
theorem dX1_pressedCount_27 : decode cX1_pressedCount 27 = .ok (.aload_n 0, 1) := by decide +kernel
theorem dX1_pressedCount_28 : decode cX1_pressedCount 28 = .ok (.getfield 13, 3) := by decide +kernel
theorem dX1_pressedCount_31 : decode cX1_pressedCount 31 = .ok (.bipush 7, 2) := by decide +kernel
theorem dX1_pressedCount_33 : decode cX1_pressedCount 33 = .ok (.aaload, 1) := by decide +kernel
theorem dX1_pressedCount_34 : decode cX1_pressedCount 34 = .ok (.iload 4, 2) := by decide +kernel
theorem dX1_pressedCount_36 : decode cX1_pressedCount 36 = .ok (.iaload, 1) := by decide +kernel
theorem dX1_pressedCount_37 : decode cX1_pressedCount 37 = .ok (.iconst 1, 1) := by decide +kernel
theorem dX1_pressedCount_38 : decode cX1_pressedCount 38 = .ok (.if_icmp .ne 7, 3) := by decide +kernel
theorem dX1_pressedCount_41 : decode cX1_pressedCount 41 = .ok (.iconst 1, 1) := by decide +kernel
theorem dX1_pressedCount_42 : decode cX1_pressedCount 42 = .ok (.goto 4, 3) := by decide +kernel
theorem dX1_pressedCount_45 : decode cX1_pressedCount 45 = .ok (.iconst 0, 1) := by decide +kernel
theorem dX1_pressedCount_46 : decode cX1_pressedCount 46 = .ok (.istore 5, 2) := by decide +kernel
theorem dX1_pressedCount_48 : decode cX1_pressedCount 48 = .ok (.iload_n 3, 1) := by decide +kernel
theorem dX1_pressedCount_49 : decode cX1_pressedCount 49 = .ok (.iload 5, 2) := by decide +kernel
theorem dX1_pressedCount_51 : decode cX1_pressedCount 51 = .ok (.ifCond .eq 20, 3) := by decide +kernel
theorem dX1_pressedCount_54 : decode cX1_pressedCount 54 = .ok (.aload_n 0, 1) := by decide +kernel
theorem dX1_pressedCount_55 : decode cX1_pressedCount 55 = .ok (.getfield 13, 3) := by decide +kernel
theorem dX1_pressedCount_58 : decode cX1_pressedCount 58 = .ok (.iconst 3, 1) := by decide +kernel
theorem dX1_pressedCount_59 : decode cX1_pressedCount 59 = .ok (.aaload, 1) := by decide +kernel
theorem dX1_pressedCount_60 : decode cX1_pressedCount 60 = .ok (.iload 4, 2) := by decide +kernel
theorem dX1_pressedCount_62 : decode cX1_pressedCount 62 = .ok (.iaload, 1) := by decide +kernel
theorem dX1_pressedCount_63 : decode cX1_pressedCount 63 = .ok (.iload_n 2, 1) := by decide +kernel
theorem dX1_pressedCount_64 : decode cX1_pressedCount 64 = .ok (.if_icmp .lt 7, 3) := by decide +kernel
theorem dX1_pressedCount_67 : decode cX1_pressedCount 67 = .ok (.iconst 1, 1) := by decide +kernel
theorem dX1_pressedCount_68 : decode cX1_pressedCount 68 = .ok (.goto 4, 3) := by decide +kernel
theorem dX1_pressedCount_71 : decode cX1_pressedCount 71 = .ok (.iconst 0, 1) := by decide +kernel
theorem dX1_pressedCount_72 : decode cX1_pressedCount 72 = .ok (.iadd, 1) := by decide +kernel
theorem dX1_pressedCount_73 : decode cX1_pressedCount 73 = .ok (.istore_n 3, 1) := by decide +kernel
theorem dX1_pressedCount_74 : decode cX1_pressedCount 74 = .ok (.iinc 4 1, 3) := by decide +kernel
theorem dX1_pressedCount_77 : decode cX1_pressedCount 77 = .ok (.goto (-72), 3) := by decide +kernel
theorem dX1_pressedCount_80 : decode cX1_pressedCount 80 = .ok (.iload_n 3, 1) := by decide +kernel
theorem dX1_pressedCount_81 : decode cX1_pressedCount 81 = .ok (.ireturn, 1) := by decide +kernel
def fX1_pressedCount_l5 (p0 : Nat) (p1 : Int32) (p2 : Int32) (K : Int32 → Int32 → xMem → Option (Int32 × xMem)) : Nat → Int32 → Int32 → xMem → Option (Int32 × xMem)
  | 0, _, _, _ => none
  | n + 1, v3, v4, M => if (M.1 p0 5) ≤ v4 then (K v3 v4 M) else (xGb (nI 0) (xln (xrf p0 0)) (xGb v4 (xln (xrf (xrf p0 0) (Int32.toNatClampNeg (nI 0)))) (xLt (fun (s3 : Int32) (M4 : xMem) => (xLt (fun (s5 : Int32) (M6 : xMem) => (xLt (v3 + s5) fun x7 => xLt (v4 + nI 1) fun x8 => fX1_pressedCount_l5 p0 p1 p2 K n x7 x8 M6 : Option (Int32 × xMem))) fun J72 => if s3 = 0 then (J72 (nI 0) M4) else (xGb (nI 3) (xln (xrf p0 0)) (xGb v4 (xln (xrf (xrf p0 0) (Int32.toNatClampNeg (nI 3)))) (if (M4.1 (xrf (xrf p0 0) (Int32.toNatClampNeg (nI 3))) (Int32.toNatClampNeg v4)) < p2 then (J72 (nI 0) M4) else (J72 (nI 1) M4)))) : Option (Int32 × xMem))) fun J46 => if (M.1 (xrf (xrf p0 0) (Int32.toNatClampNeg (nI 0))) (Int32.toNatClampNeg v4)) = p1 then (xGb (nI 7) (xln (xrf p0 0)) (xGb v4 (xln (xrf (xrf p0 0) (Int32.toNatClampNeg (nI 7)))) (if (M.1 (xrf (xrf p0 0) (Int32.toNatClampNeg (nI 7))) (Int32.toNatClampNeg v4)) = (nI 1) then (J46 (nI 1) M) else (J46 (nI 0) M)))) else (J46 (nI 0) M))))
def fX1_pressedCount (a0 : Nat) (a1 : Int32) (a2 : Int32) (M : xMem) : Option (Int32 × xMem) :=
  fX1_pressedCount_l5 a0 a1 a2 (fun (v13 : Int32) (v14 : Int32) (M15 : xMem) => some (v13, M15)) xFU (nI 0) (nI 0) M
set_option maxRecDepth 100000 in
set_option maxHeartbeats 4000000 in
theorem lX1_pressedCount_5 {X : xCX} {r : Int32} {M' : xMem} (C : xCk X cX1_pressedCount RX1 1) (R0 : xRk X (some .int) (some (.int r), M')) (hnL : X.2.2.2.2.2.2.2.2.2.2.2.2.2 = 6) (p0 : Nat) (hp0 : xkd p0 = 1) (p1 : Int32) (p2 : Int32) (K : Int32 → Int32 → xMem → Option (Int32 × xMem)) (hK : ∀ (v3 : Int32) (v4 : Int32) (M : xMem), K v3 v4 M = some (r, M') → WW X 80 [some (vr X.1 p0), some (.int p1), some (.int p2), some (.int v3), some (.int v4), none] [] M) : ∀ (n : Nat) (v3 : Int32) (v4 : Int32) (M : xMem), fX1_pressedCount_l5 p0 p1 p2 K n v3 v4 M = some (r, M') → WW X 5 [some (vr X.1 p0), some (.int p1), some (.int p2), some (.int v3), some (.int v4), none] [] M := by
  have hn3 : 3 < X.2.2.2.2.2.2.2.2.2.2.2.2.2 := by rw [hnL]; decide
  have hn4 : 4 < X.2.2.2.2.2.2.2.2.2.2.2.2.2 := by rw [hnL]; decide
  have hn5 : 5 < X.2.2.2.2.2.2.2.2.2.2.2.2.2 := by rw [hnL]; decide
  intro n
  induction n with
  | zero =>
    intro v3 v4 M h
    cases (show (none : Option (Int32 × xMem)) = some (r, M') from h)
  | succ n ih =>
    intro v3 v4 M h
    rw [fX1_pressedCount_l5.eq_2] at h
    refine r_iload (pc := 5) C dX1_pressedCount_5 rfl ?_
    refine r_aload_n (pc := 7) C dX1_pressedCount_7 rfl rfl ?_
    refine r_getI (pc := 8) C kX1_30 hp0 dX1_pressedCount_8 ?_
    refine r_icmp_ge (pc := 11) (tgt := 80) C dX1_pressedCount_11 (by decide) h (fun _ h => ?_) (fun _ h => ?_)
    · exact hK v3 v4 M h
    · refine r_aload_n (pc := 14) C dX1_pressedCount_14 rfl rfl ?_
      refine r_getR (pc := 15) C kX1_13 hp0 (by decide) dX1_pressedCount_15 ?_
      refine r_iconst (pc := 18) (v := (nI 0)) C dX1_pressedCount_18 (by decide) ?_
      obtain ⟨g1, h⟩ := xGb_of h
      refine r_aaldI (pc := 19) C (xtk hp0 (by decide) rfl rfl) g1 dX1_pressedCount_19 ?_
      refine r_iload (pc := 20) C dX1_pressedCount_20 rfl ?_
      obtain ⟨g2, h⟩ := xGb_of h
      refine r_iald (pc := 22) C (xkeI (xtk hp0 (by decide) rfl rfl) (xin_lt g1)) g2 dX1_pressedCount_22 ?_
      refine r_iload_n (pc := 23) C dX1_pressedCount_23 rfl rfl ?_
      refine r_jn (fun J => ∀ (s3 : Int32) (M4 : xMem) , J s3 M4 = some (r, M') → WW X 46 [some (vr X.1 p0), some (.int p1), some (.int p2), some (.int v3), some (.int v4), none] [.int s3] M4) h (fun s3 M4  h => ?_) (fun J46 hJ46 h => ?_)
      · refine r_istore (pc := 46) (lv' := [_, _, _, _, _, _]) C dX1_pressedCount_46 hn5 rfl ?_
        refine r_iload_n (pc := 48) C dX1_pressedCount_48 rfl rfl ?_
        refine r_iload (pc := 49) C dX1_pressedCount_49 rfl ?_
        refine r_jn (fun J => ∀ (s5 : Int32) (M6 : xMem) , J s5 M6 = some (r, M') → WW X 72 [some (vr X.1 p0), some (.int p1), some (.int p2), some (.int v3), some (.int v4), some (.int s3)] [.int s5, .int v3] M6) h (fun s5 M6  h => ?_) (fun J72 hJ72 h => ?_)
        · refine r_iadd (pc := 72) C dX1_pressedCount_72 ?_
          refine r_letI h (fun x7 h => ?_)
          refine r_istore_n (pc := 73) (lv' := [_, _, _, _, _, _]) C dX1_pressedCount_73 rfl hn3 rfl ?_
          refine r_iincL (pc := 74) (c := nI 1) C dX1_pressedCount_74 rfl (by decide) hn4 h (fun x8 h => ?_)
          refine r_lvE (lv' := [_, _, _, _, _, _]) rfl ?_
          refine r_goto (pc := 77) (tgt := 5) C dX1_pressedCount_77 (by decide) ?_
          exact r_lv (xle_at (xle_some rfl (xle_some rfl (xle_some rfl (xle_some rfl (xle_some rfl (xle_none xle_nil))))))) (ih x7 x8 M6 h)
        refine r_if_eq (pc := 51) (tgt := 71) C dX1_pressedCount_51 (by decide) h (fun _ h => ?_) (fun _ h => ?_)
        · refine r_iconst (pc := 71) (v := (nI 0)) C dX1_pressedCount_71 (by decide) ?_
          exact hJ72 (nI 0) M4  h
        · refine r_aload_n (pc := 54) C dX1_pressedCount_54 rfl rfl ?_
          refine r_getR (pc := 55) C kX1_13 hp0 (by decide) dX1_pressedCount_55 ?_
          refine r_iconst (pc := 58) (v := (nI 3)) C dX1_pressedCount_58 (by decide) ?_
          obtain ⟨g9, h⟩ := xGb_of h
          refine r_aaldI (pc := 59) C (xtk hp0 (by decide) rfl rfl) g9 dX1_pressedCount_59 ?_
          refine r_iload (pc := 60) C dX1_pressedCount_60 rfl ?_
          obtain ⟨g10, h⟩ := xGb_of h
          refine r_iald (pc := 62) C (xkeI (xtk hp0 (by decide) rfl rfl) (xin_lt g9)) g10 dX1_pressedCount_62 ?_
          refine r_iload_n (pc := 63) C dX1_pressedCount_63 rfl rfl ?_
          refine r_icmp_lt (pc := 64) (tgt := 71) C dX1_pressedCount_64 (by decide) h (fun _ h => ?_) (fun _ h => ?_)
          · refine r_iconst (pc := 71) (v := (nI 0)) C dX1_pressedCount_71 (by decide) ?_
            exact hJ72 (nI 0) M4  h
          · refine r_iconst (pc := 67) (v := (nI 1)) C dX1_pressedCount_67 (by decide) ?_
            refine r_goto (pc := 68) (tgt := 72) C dX1_pressedCount_68 (by decide) ?_
            exact hJ72 (nI 1) M4  h
      refine r_icmp_ne (pc := 24) (tgt := 45) C dX1_pressedCount_24 (by decide) h (fun _ h => ?_) (fun _ h => ?_)
      · refine r_iconst (pc := 45) (v := (nI 0)) C dX1_pressedCount_45 (by decide) ?_
        exact hJ46 (nI 0) M  h
      · refine r_aload_n (pc := 27) C dX1_pressedCount_27 rfl rfl ?_
        refine r_getR (pc := 28) C kX1_13 hp0 (by decide) dX1_pressedCount_28 ?_
        refine r_bipush (pc := 31) (v := (nI 7)) C dX1_pressedCount_31 (by decide) ?_
        obtain ⟨g11, h⟩ := xGb_of h
        refine r_aaldI (pc := 33) C (xtk hp0 (by decide) rfl rfl) g11 dX1_pressedCount_33 ?_
        refine r_iload (pc := 34) C dX1_pressedCount_34 rfl ?_
        obtain ⟨g12, h⟩ := xGb_of h
        refine r_iald (pc := 36) C (xkeI (xtk hp0 (by decide) rfl rfl) (xin_lt g11)) g12 dX1_pressedCount_36 ?_
        refine r_iconst (pc := 37) (v := (nI 1)) C dX1_pressedCount_37 (by decide) ?_
        refine r_icmp_ne (pc := 38) (tgt := 45) C dX1_pressedCount_38 (by decide) h (fun _ h => ?_) (fun _ h => ?_)
        · refine r_iconst (pc := 45) (v := (nI 0)) C dX1_pressedCount_45 (by decide) ?_
          exact hJ46 (nI 0) M  h
        · refine r_iconst (pc := 41) (v := (nI 1)) C dX1_pressedCount_41 (by decide) ?_
          refine r_goto (pc := 42) (tgt := 46) C dX1_pressedCount_42 (by decide) ?_
          exact hJ46 (nI 1) M  h
set_option maxRecDepth 100000 in
set_option maxHeartbeats 4000000 in
theorem zX1_pressedCount (G : xGX) (a0 : Nat) (h0 : xkd a0 = 1) (a1 : Int32) (a2 : Int32) (M : xMem) (r : Int32) (M' : xMem) (h : fX1_pressedCount a0 a1 a2 M = some (r, M')) : xCt G yX1_pressedCount cX1_pressedCount 6 (some .int) 1 [vr G a0, .int a1, .int a2] M (some (.int r), M') := by
  refine xMet (lv := [some (vr G a0), some (.int a1), some (.int a2), none, none, none]) (by decide) (Nat.le_of_ble_eq_true rfl) rfl ?_
  intro X hG hnL C R0
  subst hG
  have C : xCk X cX1_pressedCount RX1 1 := C
  have hn3 : 3 < X.2.2.2.2.2.2.2.2.2.2.2.2.2 := by rw [hnL]; decide
  have hn4 : 4 < X.2.2.2.2.2.2.2.2.2.2.2.2.2 := by rw [hnL]; decide
  have hn5 : 5 < X.2.2.2.2.2.2.2.2.2.2.2.2.2 := by rw [hnL]; decide
  unfold fX1_pressedCount at h
  refine r_iconst (pc := 0) (v := (nI 0)) C dX1_pressedCount_0 (by decide) ?_
  refine r_istore_n (pc := 1) (lv' := [_, _, _, _, _, _]) C dX1_pressedCount_1 rfl hn3 rfl ?_
  refine r_iconst (pc := 2) (v := (nI 0)) C dX1_pressedCount_2 (by decide) ?_
  refine r_istore (pc := 3) (lv' := [_, _, _, _, _, _]) C dX1_pressedCount_3 hn4 rfl ?_
  refine lX1_pressedCount_5 C R0 hnL a0 h0 a1 a2 _ (fun v13 v14 M15 h => ?_) _ _ _ _ h
  refine r_iload_n (pc := 80) C dX1_pressedCount_80 rfl rfl ?_
  exact r_iret (pc := 81) C R0 h dX1_pressedCount_81
