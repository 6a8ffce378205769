theorem dX0_makeRoom_0 : decode cX0_makeRoom 0 = .ok (.aload_n 0, 1) := by decide +kernel
theorem dX0_makeRoom_1 : decode cX0_makeRoom 1 = .ok (.getfield 21, 3) := by decide +kernel
theorem dX0_makeRoom_4 : decode cX0_makeRoom 4 = .ok (.bipush 10, 2) := by decide +kernel
theorem dX0_makeRoom_6 : decode cX0_makeRoom 6 = .ok (.if_icmp .ge 4, 3) := by decide +kernel
theorem dX0_makeRoom_9 : decode cX0_makeRoom 9 = .ok (.return_, 1) := by decide +kernel
theorem dX0_makeRoom_10 : decode cX0_makeRoom 10 = .ok (.aload_n 0, 1) := by decide +kernel
theorem dX0_makeRoom_11 : decode cX0_makeRoom 11 = .ok (.getfield 11, 3) := by decide +kernel
theorem dX0_makeRoom_14 : decode cX0_makeRoom 14 = .ok (.iconst 0, 1) := by decide +kernel
theorem dX0_makeRoom_15 : decode cX0_makeRoom 15 = .ok (.aaload, 1) := by decide +kernel
theorem dX0_makeRoom_16 : decode cX0_makeRoom 16 = .ok (.astore_n 1, 1) := by decide +kernel
theorem dX0_makeRoom_17 : decode cX0_makeRoom 17 = .ok (.iconst 1, 1) := by decide +kernel
theorem dX0_makeRoom_18 : decode cX0_makeRoom 18 = .ok (.istore_n 2, 1) := by decide +kernel
theorem dX0_makeRoom_19 : decode cX0_makeRoom 19 = .ok (.iload_n 2, 1) := by decide +kernel
theorem dX0_makeRoom_20 : decode cX0_makeRoom 20 = .ok (.bipush 10, 2) := by decide +kernel
theorem dX0_makeRoom_22 : decode cX0_makeRoom 22 = .ok (.if_icmp .ge 37, 3) := by decide +kernel
theorem dX0_makeRoom_25 : decode cX0_makeRoom 25 = .ok (.aload_n 0, 1) := by decide +kernel
theorem dX0_makeRoom_26 : decode cX0_makeRoom 26 = .ok (.getfield 11, 3) := by decide +kernel
theorem dX0_makeRoom_29 : decode cX0_makeRoom 29 = .ok (.iload_n 2, 1) := by decide +kernel
theorem dX0_makeRoom_30 : decode cX0_makeRoom 30 = .ok (.iconst 1, 1) := by decide +kernel
theorem dX0_makeRoom_31 : decode cX0_makeRoom 31 = .ok (.isub, 1) := by decide +kernel
theorem dX0_makeRoom_32 : decode cX0_makeRoom 32 = .ok (.aload_n 0, 1) := by decide +kernel
theorem dX0_makeRoom_33 : decode cX0_makeRoom 33 = .ok (.getfield 11, 3) := by decide +kernel
theorem dX0_makeRoom_36 : decode cX0_makeRoom 36 = .ok (.iload_n 2, 1) := by decide +kernel
theorem dX0_makeRoom_37 : decode cX0_makeRoom 37 = .ok (.aaload, 1) := by decide +kernel
theorem dX0_makeRoom_38 : decode cX0_makeRoom 38 = .ok (.aastore, 1) := by decide +kernel
theorem dX0_makeRoom_39 : decode cX0_makeRoom 39 = .ok (.aload_n 0, 1) := by decide +kernel
theorem dX0_makeRoom_40 : decode cX0_makeRoom 40 = .ok (.getfield 17, 3) := by decide +kernel
theorem dX0_makeRoom_43 : decode cX0_makeRoom 43 = .ok (.iload_n 2, 1) := by decide +kernel
theorem dX0_makeRoom_44 : decode cX0_makeRoom 44 = .ok (.iconst 1, 1) := by decide +kernel
theorem dX0_makeRoom_45 : decode cX0_makeRoom 45 = .ok (.isub, 1) := by decide +kernel
theorem dX0_makeRoom_46 : decode cX0_makeRoom 46 = .ok (.aload_n 0, 1) := by decide +kernel
theorem dX0_makeRoom_47 : decode cX0_makeRoom 47 = .ok (.getfield 17, 3) := by decide +kernel
theorem dX0_makeRoom_50 : decode cX0_makeRoom 50 = .ok (.iload_n 2, 1) := by decide +kernel
theorem dX0_makeRoom_51 : decode cX0_makeRoom 51 = .ok (.baload, 1) := by decide +kernel
theorem dX0_makeRoom_52 : decode cX0_makeRoom 52 = .ok (.bastore, 1) := by decide +kernel
theorem dX0_makeRoom_53 : decode cX0_makeRoom 53 = .ok (.iinc 2 1, 3) := by decide +kernel
theorem dX0_makeRoom_56 : decode cX0_makeRoom 56 = .ok (.goto (-37), 3) := by decide +kernel
theorem dX0_makeRoom_59 : decode cX0_makeRoom 59 = .ok (.aload_n 0, 1) := by decide +kernel
theorem dX0_makeRoom_60 : decode cX0_makeRoom 60 = .ok (.getfield 11, 3) := by decide +kernel
theorem dX0_makeRoom_63 : decode cX0_makeRoom 63 = .ok (.bipush 9, 2) := by decide +kernel
theorem dX0_makeRoom_65 : decode cX0_makeRoom 65 = .ok (.aload_n 1, 1) := by decide +kernel
theorem dX0_makeRoom_66 : decode cX0_makeRoom 66 = .ok (.aastore, 1) := by decide +kernel
theorem dX0_makeRoom_67 : decode cX0_makeRoom 67 = .ok (.aload_n 0, 1) := by decide +kernel
theorem dX0_makeRoom_68 : decode cX0_makeRoom 68 = .ok (.bipush 9, 2) := by decide +kernel
theorem dX0_makeRoom_70 : decode cX0_makeRoom 70 = .ok (.putfield 21, 3) := by decide +kernel
theorem dX0_makeRoom_73 : decode cX0_makeRoom 73 = .ok (.return_, 1) := by decide +kernel
def fX0_makeRoom_l19 (p0 : Nat) (p1 : Nat) (K : Int32 → xMem → Option (xMem)) : Nat → Int32 → xMem → Option (xMem)
  | 0, _, _ => none
  | n + 1, v2, M => if (nI 10) ≤ v2 then (K v2 M) else (xGb v2 (xln (xrf p0 0)) (xGb (v2 - (nI 1)) (xln (xrf p0 0)) (xGd (66 + 6 * (((xfo M (Int32.toNatClampNeg v2)) - 66) / 6 % 10) = (xfo M (Int32.toNatClampNeg v2))) (xLt (xwF M (Int32.toNatClampNeg (v2 - (nI 1))) (((xfo M (Int32.toNatClampNeg v2)) - 66) / 6)) fun M5 => xGb v2 (xln (xrf p0 1)) (xGb (v2 - (nI 1)) (xln (xrf p0 1)) (xLt (xwI M5 (xrf p0 1) (Int32.toNatClampNeg (v2 - (nI 1))) (vp_nar .boolean (M5.1 (xrf p0 1) (Int32.toNatClampNeg v2)))) fun M8 => xLt (v2 + nI 1) fun x9 => fX0_makeRoom_l19 p0 p1 K n x9 M8))))))
def fX0_makeRoom (a0 : Nat) (M : xMem) : Option (xMem) :=
  if (nI 10) ≤ (M.1 a0 2) then (xGb (nI 0) (xln (xrf a0 0)) (fX0_makeRoom_l19 a0 (xfo M (Int32.toNatClampNeg (nI 0))) (fun (v10 : Int32) (M11 : xMem) => xGb (nI 9) (xln (xrf a0 0)) (xGd (66 + 6 * (((xfo M (Int32.toNatClampNeg (nI 0))) - 66) / 6 % 10) = (xfo M (Int32.toNatClampNeg (nI 0)))) (xLt (xwF M11 (Int32.toNatClampNeg (nI 9)) (((xfo M (Int32.toNatClampNeg (nI 0))) - 66) / 6)) fun M14 => xLt (xwI M14 a0 2 (nI 9)) fun M15 => some M15))) xFU (nI 1) M)) else (some M)
set_option maxRecDepth 100000 in
set_option maxHeartbeats 4000000 in
theorem lX0_makeRoom_19 {X : xCX} {M' : xMem} (C : xCk X cX0_makeRoom RX0 1) (R0 : xRk X none (none, M')) (hnL : X.2.2.2.2.2.2.2.2.2.2.2.2.2 = 3) (p0 : Nat) (hp0 : xkd p0 = 0) (p1 : Nat) (hp1 : xkd p1 = 9) (K : Int32 → xMem → Option (xMem)) (hK : ∀ (v2 : Int32) (M : xMem), K v2 M = some M' → WW X 59 [some (vr X.1 p0), some (vr X.1 p1), some (.int v2)] [] M) : ∀ (n : Nat) (v2 : Int32) (M : xMem), fX0_makeRoom_l19 p0 p1 K n v2 M = some M' → WW X 19 [some (vr X.1 p0), some (vr X.1 p1), some (.int v2)] [] M := by
  have hn1 : 1 < X.2.2.2.2.2.2.2.2.2.2.2.2.2 := by rw [hnL]; decide
  have hn2 : 2 < X.2.2.2.2.2.2.2.2.2.2.2.2.2 := by rw [hnL]; decide
  intro n
  induction n with
  | zero =>
    intro v2 M h
    cases (show (none : Option (xMem)) = some M' from h)
  | succ n ih =>
    intro v2 M h
    rw [fX0_makeRoom_l19.eq_2] at h
    refine r_iload_n (pc := 19) C dX0_makeRoom_19 rfl rfl ?_
    refine r_bipush (pc := 20) (v := (nI 10)) C dX0_makeRoom_20 (by decide) ?_
    refine r_icmp_ge (pc := 22) (tgt := 59) C dX0_makeRoom_22 (by decide) h (fun _ h => ?_) (fun _ h => ?_)
    · exact hK v2 M h
    · refine r_aload_n (pc := 25) C dX0_makeRoom_25 rfl rfl ?_
      refine r_getR (pc := 26) C kX0_11 hp0 (by decide) dX0_makeRoom_26 ?_
      refine r_iload_n (pc := 29) C dX0_makeRoom_29 rfl rfl ?_
      refine r_iconst (pc := 30) (v := (nI 1)) C dX0_makeRoom_30 (by decide) ?_
      refine r_isub (pc := 31) C dX0_makeRoom_31 ?_
      refine r_aload_n (pc := 32) C dX0_makeRoom_32 rfl rfl ?_
      refine r_getR (pc := 33) C kX0_11 hp0 (by decide) dX0_makeRoom_33 ?_
      refine r_iload_n (pc := 36) C dX0_makeRoom_36 rfl rfl ?_
      obtain ⟨g2, h⟩ := xGb_of h
      refine r_aaldT (pc := 37) C (xtk hp0 (by decide) rfl rfl) g2 dX0_makeRoom_37 ?_
      obtain ⟨g3, h⟩ := xGb_of h
      obtain ⟨g4, h⟩ := xGd_of h
      refine r_aast (pc := 38) C (xtk hp0 (by decide) rfl rfl) g4 g3 dX0_makeRoom_38 ?_
      refine r_letM h (fun M5 h => ?_)
      refine r_aload_n (pc := 39) C dX0_makeRoom_39 rfl rfl ?_
      refine r_getR (pc := 40) C kX0_17 hp0 (by decide) dX0_makeRoom_40 ?_
      refine r_iload_n (pc := 43) C dX0_makeRoom_43 rfl rfl ?_
      refine r_iconst (pc := 44) (v := (nI 1)) C dX0_makeRoom_44 (by decide) ?_
      refine r_isub (pc := 45) C dX0_makeRoom_45 ?_
      refine r_aload_n (pc := 46) C dX0_makeRoom_46 rfl rfl ?_
      refine r_getR (pc := 47) C kX0_17 hp0 (by decide) dX0_makeRoom_47 ?_
      refine r_iload_n (pc := 50) C dX0_makeRoom_50 rfl rfl ?_
      obtain ⟨g6, h⟩ := xGb_of h
      refine r_zald (pc := 51) C (xtk hp0 (by decide) rfl rfl) g6 dX0_makeRoom_51 ?_
      obtain ⟨g7, h⟩ := xGb_of h
      refine r_zast (pc := 52) C (xtk hp0 (by decide) rfl rfl) g7 dX0_makeRoom_52 ?_
      refine r_letM h (fun M8 h => ?_)
      refine r_iincL (pc := 53) (c := nI 1) C dX0_makeRoom_53 rfl (by decide) hn2 h (fun x9 h => ?_)
      refine r_lvE (lv' := [_, _, _]) rfl ?_
      refine r_goto (pc := 56) (tgt := 19) C dX0_makeRoom_56 (by decide) ?_
      exact ih x9 M8 h
set_option maxRecDepth 100000 in
set_option maxHeartbeats 4000000 in
theorem zX0_makeRoom (G : xGX) (a0 : Nat) (h0 : xkd a0 = 0) (M : xMem) (M' : xMem) (h : fX0_makeRoom a0 M = some M') : xCt G yX0_makeRoom cX0_makeRoom 3 none 1 [vr G a0] M (none, M') := by
  refine xMet (lv := [some (vr G a0), none, none]) (by decide) (Nat.le_of_ble_eq_true rfl) rfl ?_
  intro X hG hnL C R0
  subst hG
  have C : xCk X cX0_makeRoom RX0 1 := C
  have hn1 : 1 < X.2.2.2.2.2.2.2.2.2.2.2.2.2 := by rw [hnL]; decide
  have hn2 : 2 < X.2.2.2.2.2.2.2.2.2.2.2.2.2 := by rw [hnL]; decide
  unfold fX0_makeRoom at h
  refine r_aload_n (pc := 0) C dX0_makeRoom_0 rfl rfl ?_
  refine r_getI (pc := 1) C kX0_21 h0 dX0_makeRoom_1 ?_
  refine r_bipush (pc := 4) (v := (nI 10)) C dX0_makeRoom_4 (by decide) ?_
  refine r_icmp_ge (pc := 6) (tgt := 10) C dX0_makeRoom_6 (by decide) h (fun _ h => ?_) (fun _ h => ?_)
  · refine r_aload_n (pc := 10) C dX0_makeRoom_10 rfl rfl ?_
    refine r_getR (pc := 11) C kX0_11 h0 (by decide) dX0_makeRoom_11 ?_
    refine r_iconst (pc := 14) (v := (nI 0)) C dX0_makeRoom_14 (by decide) ?_
    obtain ⟨g1, h⟩ := xGb_of h
    refine r_aaldT (pc := 15) C (xtk h0 (by decide) rfl rfl) g1 dX0_makeRoom_15 ?_
    refine r_astore_n (pc := 16) (lv' := [_, _, _]) C dX0_makeRoom_16 rfl hn1 rfl ?_
    refine r_iconst (pc := 17) (v := (nI 1)) C dX0_makeRoom_17 (by decide) ?_
    refine r_istore_n (pc := 18) (lv' := [_, _, _]) C dX0_makeRoom_18 rfl hn2 rfl ?_
    refine lX0_makeRoom_19 C R0 hnL a0 h0 (xfo M (Int32.toNatClampNeg (nI 0))) (xkfo M (Int32.toNatClampNeg (nI 0))) _ (fun v10 M11 h => ?_) _ _ _ h
    refine r_aload_n (pc := 59) C dX0_makeRoom_59 rfl rfl ?_
    refine r_getR (pc := 60) C kX0_11 h0 (by decide) dX0_makeRoom_60 ?_
    refine r_bipush (pc := 63) (v := (nI 9)) C dX0_makeRoom_63 (by decide) ?_
    refine r_aload_n (pc := 65) C dX0_makeRoom_65 rfl rfl ?_
    obtain ⟨g12, h⟩ := xGb_of h
    obtain ⟨g13, h⟩ := xGd_of h
    refine r_aast (pc := 66) C (xtk h0 (by decide) rfl rfl) g13 g12 dX0_makeRoom_66 ?_
    refine r_letM h (fun M14 h => ?_)
    refine r_aload_n (pc := 67) C dX0_makeRoom_67 rfl rfl ?_
    refine r_bipush (pc := 68) (v := (nI 9)) C dX0_makeRoom_68 (by decide) ?_
    refine r_putI (pc := 70) C kX0_21 h0 dX0_makeRoom_70 ?_
    refine r_letM h (fun M15 h => ?_)
    exact r_vret (pc := 73) C R0 h dX0_makeRoom_73
  · exact r_vret (pc := 9) C R0 h dX0_makeRoom_9
theorem dX0_noteText_0 : decode cX0_noteText 0 = .ok (.aload_n 0, 1) := by decide +kernel
theorem dX0_noteText_1 : decode cX0_noteText 1 = .ok (.invokevirtual 26, 3) := by decide +kernel
theorem dX0_noteText_4 : decode cX0_noteText 4 = .ok (.aload_n 0, 1) := by decide +kernel
theorem dX0_noteText_5 : decode cX0_noteText 5 = .ok (.getfield 11, 3) := by decide +kernel
theorem dX0_noteText_8 : decode cX0_noteText 8 = .ok (.aload_n 0, 1) := by decide +kernel
theorem dX0_noteText_9 : decode cX0_noteText 9 = .ok (.getfield 21, 3) := by decide +kernel
theorem dX0_noteText_12 : decode cX0_noteText 12 = .ok (.aaload, 1) := by decide +kernel
theorem dX0_noteText_13 : decode cX0_noteText 13 = .ok (.aload_n 1, 1) := by decide +kernel
theorem dX0_noteText_14 : decode cX0_noteText 14 = .ok (.invokevirtual 29, 3) := by decide +kernel
theorem dX0_noteText_17 : decode cX0_noteText 17 = .ok (.aload_n 0, 1) := by decide +kernel
theorem dX0_noteText_18 : decode cX0_noteText 18 = .ok (.getfield 17, 3) := by decide +kernel
theorem dX0_noteText_21 : decode cX0_noteText 21 = .ok (.aload_n 0, 1) := by decide +kernel
theorem dX0_noteText_22 : decode cX0_noteText 22 = .ok (.getfield 21, 3) := by decide +kernel
theorem dX0_noteText_25 : decode cX0_noteText 25 = .ok (.iconst 1, 1) := by decide +kernel
theorem dX0_noteText_26 : decode cX0_noteText 26 = .ok (.bastore, 1) := by decide +kernel
theorem dX0_noteText_27 : decode cX0_noteText 27 = .ok (.aload_n 0, 1) := by decide +kernel
theorem dX0_noteText_28 : decode cX0_noteText 28 = .ok (.dup, 1) := by decide +kernel
theorem dX0_noteText_29 : decode cX0_noteText 29 = .ok (.getfield 21, 3) := by decide +kernel
theorem dX0_noteText_32 : decode cX0_noteText 32 = .ok (.iconst 1, 1) := by decide +kernel
theorem dX0_noteText_33 : decode cX0_noteText 33 = .ok (.iadd, 1) := by decide +kernel
theorem dX0_noteText_34 : decode cX0_noteText 34 = .ok (.putfield 21, 3) := by decide +kernel
theorem dX0_noteText_37 : decode cX0_noteText 37 = .ok (.return_, 1) := by decide +kernel
def fX0_noteText (a0 : Nat) (a1 : Nat) (M : xMem) : Option (xMem) :=
  xBv (fX0_makeRoom a0 M) fun M1 => xGb (M1.1 a0 2) (xln (xrf a0 0)) (xBv (fX9_copyFrom (xfo M1 (Int32.toNatClampNeg (M1.1 a0 2))) a1 M1) fun M3 => xGb (M3.1 a0 2) (xln (xrf a0 1)) (xLt (xwI M3 (xrf a0 1) (Int32.toNatClampNeg (M3.1 a0 2)) (vp_nar .boolean (nI 1))) fun M5 => xLt (xwI M5 a0 2 ((M5.1 a0 2) + (nI 1))) fun M6 => some M6))
set_option maxRecDepth 100000 in
set_option maxHeartbeats 4000000 in
theorem zX0_noteText (G : xGX) (a0 : Nat) (h0 : xkd a0 = 0) (a1 : Nat) (h1 : xkd a1 = 9) (M : xMem) (M' : xMem) (h : fX0_noteText a0 a1 M = some M') : xCt G yX0_noteText cX0_noteText 2 none 3 [vr G a0, vr G a1] M (none, M') := by
  refine xMet (lv := [some (vr G a0), some (vr G a1)]) (by decide) (Nat.le_of_ble_eq_true rfl) rfl ?_
  intro X hG hnL C R0
  subst hG
  have C : xCk X cX0_noteText RX0 3 := C
  unfold fX0_noteText at h
  refine r_aload_n (pc := 0) C dX0_noteText_0 rfl rfl ?_
  refine r_vV0 (pc := 1) C (fun M' e => zX0_makeRoom X.1 a0 h0 M M' e) h0 (by decide) rfl mX0_makeRoom lX0_26 (by decide) (Nat.le_of_ble_eq_true rfl) dX0_noteText_1 h (fun M1 h => ?_)
  refine r_aload_n (pc := 4) C dX0_noteText_4 rfl rfl ?_
  refine r_getR (pc := 5) C kX0_11 h0 (by decide) dX0_noteText_5 ?_
  refine r_aload_n (pc := 8) C dX0_noteText_8 rfl rfl ?_
  refine r_getI (pc := 9) C kX0_21 h0 dX0_noteText_9 ?_
  obtain ⟨g2, h⟩ := xGb_of h
  refine r_aaldT (pc := 12) C (xtk h0 (by decide) rfl rfl) g2 dX0_noteText_12 ?_
  refine r_aload_n (pc := 13) C dX0_noteText_13 rfl rfl ?_
  refine r_vV1 (pc := 14) C (fun M' e => zX9_copyFrom X.1 (xfo M1 (Int32.toNatClampNeg (M1.1 a0 2))) (xkfo M1 (Int32.toNatClampNeg (M1.1 a0 2))) a1 h1 M1 M' e) (xkfo M1 (Int32.toNatClampNeg (M1.1 a0 2))) (by decide) rfl mX9_copyFrom lX0_29 (by decide) (Nat.le_of_ble_eq_true rfl) dX0_noteText_14 h (fun M3 h => ?_)
  refine r_aload_n (pc := 17) C dX0_noteText_17 rfl rfl ?_
  refine r_getR (pc := 18) C kX0_17 h0 (by decide) dX0_noteText_18 ?_
  refine r_aload_n (pc := 21) C dX0_noteText_21 rfl rfl ?_
  refine r_getI (pc := 22) C kX0_21 h0 dX0_noteText_22 ?_
  refine r_iconst (pc := 25) (v := (nI 1)) C dX0_noteText_25 (by decide) ?_
  obtain ⟨g4, h⟩ := xGb_of h
  refine r_zast (pc := 26) C (xtk h0 (by decide) rfl rfl) g4 dX0_noteText_26 ?_
  refine r_letM h (fun M5 h => ?_)
  refine r_aload_n (pc := 27) C dX0_noteText_27 rfl rfl ?_
  refine r_dup (pc := 28) C rfl dX0_noteText_28 ?_
  refine r_getI (pc := 29) C kX0_21 h0 dX0_noteText_29 ?_
  refine r_iconst (pc := 32) (v := (nI 1)) C dX0_noteText_32 (by decide) ?_
  refine r_iadd (pc := 33) C dX0_noteText_33 ?_
  refine r_putI (pc := 34) C kX0_21 h0 dX0_noteText_34 ?_
  refine r_letM h (fun M6 h => ?_)
  exact r_vret (pc := 37) C R0 h dX0_noteText_37
theorem dX0_noteLine_0 : decode cX0_noteLine 0 = .ok (.aload_n 0, 1) := by decide +kernel
theorem dX0_noteLine_1 : decode cX0_noteLine 1 = .ok (.invokevirtual 26, 3) := by decide +kernel
theorem dX0_noteLine_4 : decode cX0_noteLine 4 = .ok (.aload_n 0, 1) := by decide +kernel
theorem dX0_noteLine_5 : decode cX0_noteLine 5 = .ok (.getfield 17, 3) := by decide +kernel
theorem dX0_noteLine_8 : decode cX0_noteLine 8 = .ok (.aload_n 0, 1) := by decide +kernel
theorem dX0_noteLine_9 : decode cX0_noteLine 9 = .ok (.getfield 21, 3) := by decide +kernel
theorem dX0_noteLine_12 : decode cX0_noteLine 12 = .ok (.iconst 0, 1) := by decide +kernel
theorem dX0_noteLine_13 : decode cX0_noteLine 13 = .ok (.bastore, 1) := by decide +kernel
theorem dX0_noteLine_14 : decode cX0_noteLine 14 = .ok (.aload_n 0, 1) := by decide +kernel
theorem dX0_noteLine_15 : decode cX0_noteLine 15 = .ok (.dup, 1) := by decide +kernel
theorem dX0_noteLine_16 : decode cX0_noteLine 16 = .ok (.getfield 21, 3) := by decide +kernel
theorem dX0_noteLine_19 : decode cX0_noteLine 19 = .ok (.iconst 1, 1) := by decide +kernel
theorem dX0_noteLine_20 : decode cX0_noteLine 20 = .ok (.iadd, 1) := by decide +kernel
theorem dX0_noteLine_21 : decode cX0_noteLine 21 = .ok (.putfield 21, 3) := by decide +kernel
theorem dX0_noteLine_24 : decode cX0_noteLine 24 = .ok (.return_, 1) := by decide +kernel
def fX0_noteLine (a0 : Nat) (M : xMem) : Option (xMem) :=
  xBv (fX0_makeRoom a0 M) fun M1 => xGb (M1.1 a0 2) (xln (xrf a0 1)) (xLt (xwI M1 (xrf a0 1) (Int32.toNatClampNeg (M1.1 a0 2)) (vp_nar .boolean (nI 0))) fun M3 => xLt (xwI M3 a0 2 ((M3.1 a0 2) + (nI 1))) fun M4 => some M4)
set_option maxRecDepth 100000 in
set_option maxHeartbeats 4000000 in
theorem zX0_noteLine (G : xGX) (a0 : Nat) (h0 : xkd a0 = 0) (M : xMem) (M' : xMem) (h : fX0_noteLine a0 M = some M') : xCt G yX0_noteLine cX0_noteLine 1 none 2 [vr G a0] M (none, M') := by
  refine xMet (lv := [some (vr G a0)]) (by decide) (Nat.le_of_ble_eq_true rfl) rfl ?_
  intro X hG hnL C R0
  subst hG
  have C : xCk X cX0_noteLine RX0 2 := C
  unfold fX0_noteLine at h
  refine r_aload_n (pc := 0) C dX0_noteLine_0 rfl rfl ?_
  refine r_vV0 (pc := 1) C (fun M' e => zX0_makeRoom X.1 a0 h0 M M' e) h0 (by decide) rfl mX0_makeRoom lX0_26 (by decide) (Nat.le_of_ble_eq_true rfl) dX0_noteLine_1 h (fun M1 h => ?_)
  refine r_aload_n (pc := 4) C dX0_noteLine_4 rfl rfl ?_
  refine r_getR (pc := 5) C kX0_17 h0 (by decide) dX0_noteLine_5 ?_
  refine r_aload_n (pc := 8) C dX0_noteLine_8 rfl rfl ?_
  refine r_getI (pc := 9) C kX0_21 h0 dX0_noteLine_9 ?_
  refine r_iconst (pc := 12) (v := (nI 0)) C dX0_noteLine_12 (by decide) ?_
  obtain ⟨g2, h⟩ := xGb_of h
  refine r_zast (pc := 13) C (xtk h0 (by decide) rfl rfl) g2 dX0_noteLine_13 ?_
  refine r_letM h (fun M3 h => ?_)
  refine r_aload_n (pc := 14) C dX0_noteLine_14 rfl rfl ?_
  refine r_dup (pc := 15) C rfl dX0_noteLine_15 ?_
  refine r_getI (pc := 16) C kX0_21 h0 dX0_noteLine_16 ?_
  refine r_iconst (pc := 19) (v := (nI 1)) C dX0_noteLine_19 (by decide) ?_
  refine r_iadd (pc := 20) C dX0_noteLine_20 ?_
  refine r_putI (pc := 21) C kX0_21 h0 dX0_noteLine_21 ?_
  refine r_letM h (fun M4 h => ?_)
  exact r_vret (pc := 24) C R0 h dX0_noteLine_24
theorem dX0_takeBack_0 : decode cX0_takeBack 0 = .ok (.aload_n 0, 1) := by decide +kernel
theorem dX0_takeBack_1 : decode cX0_takeBack 1 = .ok (.getfield 21, 3) := by decide +kernel
theorem dX0_takeBack_4 : decode cX0_takeBack 4 = .ok (.ifCond .ne 5, 3) := by decide +kernel
theorem dX0_takeBack_7 : decode cX0_takeBack 7 = .ok (.iconst 0, 1) := by decide +kernel
theorem dX0_takeBack_8 : decode cX0_takeBack 8 = .ok (.ireturn, 1) := by decide +kernel
theorem dX0_takeBack_9 : decode cX0_takeBack 9 = .ok (.aload_n 0, 1) := by decide +kernel
theorem dX0_takeBack_10 : decode cX0_takeBack 10 = .ok (.dup, 1) := by decide +kernel
theorem dX0_takeBack_11 : decode cX0_takeBack 11 = .ok (.getfield 21, 3) := by decide +kernel
theorem dX0_takeBack_14 : decode cX0_takeBack 14 = .ok (.iconst 1, 1) := by decide +kernel
theorem dX0_takeBack_15 : decode cX0_takeBack 15 = .ok (.isub, 1) := by decide +kernel
theorem dX0_takeBack_16 : decode cX0_takeBack 16 = .ok (.putfield 21, 3) := by decide +kernel
theorem dX0_takeBack_19 : decode cX0_takeBack 19 = .ok (.aload_n 0, 1) := by decide +kernel
theorem dX0_takeBack_20 : decode cX0_takeBack 20 = .ok (.getfield 17, 3) := by decide +kernel
theorem dX0_takeBack_23 : decode cX0_takeBack 23 = .ok (.aload_n 0, 1) := by decide +kernel
theorem dX0_takeBack_24 : decode cX0_takeBack 24 = .ok (.getfield 21, 3) := by decide +kernel
theorem dX0_takeBack_27 : decode cX0_takeBack 27 = .ok (.baload, 1) := by decide +kernel
theorem dX0_takeBack_28 : decode cX0_takeBack 28 = .ok (.ireturn, 1) := by decide +kernel
def fX0_takeBack (a0 : Nat) (M : xMem) : Option (Int32 × xMem) :=
  if (M.1 a0 2) = 0 then (some ((nI 0), M)) else (xLt (xwI M a0 2 ((M.1 a0 2) - (nI 1))) fun M1 => xGb (M1.1 a0 2) (xln (xrf a0 1)) (xGd ((M1.1 (xrf a0 1) (Int32.toNatClampNeg (M1.1 a0 2))) = 0 ∨ (M1.1 (xrf a0 1) (Int32.toNatClampNeg (M1.1 a0 2))) = 1) (some ((M1.1 (xrf a0 1) (Int32.toNatClampNeg (M1.1 a0 2))), M1))))
set_option maxRecDepth 100000 in
set_option maxHeartbeats 4000000 in
theorem zX0_takeBack (G : xGX) (a0 : Nat) (h0 : xkd a0 = 0) (M : xMem) (r : Int32) (M' : xMem) (h : fX0_takeBack a0 M = some (r, M')) : xCt G yX0_takeBack cX0_takeBack 1 (some .boolean) 1 [vr G a0] M (some (.int r), M') := by
  refine xMet (lv := [some (vr G a0)]) (by decide) (Nat.le_of_ble_eq_true rfl) rfl ?_
  intro X hG hnL C R0
  subst hG
  have C : xCk X cX0_takeBack RX0 1 := C
  unfold fX0_takeBack at h
  refine r_aload_n (pc := 0) C dX0_takeBack_0 rfl rfl ?_
  refine r_getI (pc := 1) C kX0_21 h0 dX0_takeBack_1 ?_
  refine r_if_ne (pc := 4) (tgt := 9) C dX0_takeBack_4 (by decide) h (fun _ h => ?_) (fun _ h => ?_)
  · refine r_aload_n (pc := 9) C dX0_takeBack_9 rfl rfl ?_
    refine r_dup (pc := 10) C rfl dX0_takeBack_10 ?_
    refine r_getI (pc := 11) C kX0_21 h0 dX0_takeBack_11 ?_
    refine r_iconst (pc := 14) (v := (nI 1)) C dX0_takeBack_14 (by decide) ?_
    refine r_isub (pc := 15) C dX0_takeBack_15 ?_
    refine r_putI (pc := 16) C kX0_21 h0 dX0_takeBack_16 ?_
    refine r_letM h (fun M1 h => ?_)
    refine r_aload_n (pc := 19) C dX0_takeBack_19 rfl rfl ?_
    refine r_getR (pc := 20) C kX0_17 h0 (by decide) dX0_takeBack_20 ?_
    refine r_aload_n (pc := 23) C dX0_takeBack_23 rfl rfl ?_
    refine r_getI (pc := 24) C kX0_21 h0 dX0_takeBack_24 ?_
    obtain ⟨g2, h⟩ := xGb_of h
    refine r_zald (pc := 27) C (xtk h0 (by decide) rfl rfl) g2 dX0_takeBack_27 ?_
    obtain ⟨g3, h⟩ := xGd_of h
    exact r_zret (pc := 28) g3 C R0 h dX0_takeBack_28
  · refine r_iconst (pc := 7) (v := (nI 0)) C dX0_takeBack_7 (by decide) ?_
    exact r_zret (pc := 8) (Or.inl (by decide)) C R0 h dX0_takeBack_8
theorem dX0_former_0 : decode cX0_former 0 = .ok (.aload_n 0, 1) := by decide +kernel
theorem dX0_former_1 : decode cX0_former 1 = .ok (.getfield 11, 3) := by decide +kernel
theorem dX0_former_4 : decode cX0_former 4 = .ok (.aload_n 0, 1) := by decide +kernel
theorem dX0_former_5 : decode cX0_former 5 = .ok (.getfield 21, 3) := by decide +kernel
theorem dX0_former_8 : decode cX0_former 8 = .ok (.bipush 10, 2) := by decide +kernel
theorem dX0_former_10 : decode cX0_former 10 = .ok (.if_icmp .ge 10, 3) := by decide +kernel
theorem dX0_former_13 : decode cX0_former 13 = .ok (.aload_n 0, 1) := by decide +kernel
theorem dX0_former_14 : decode cX0_former 14 = .ok (.getfield 21, 3) := by decide +kernel
theorem dX0_former_17 : decode cX0_former 17 = .ok (.goto 5, 3) := by decide +kernel
theorem dX0_former_20 : decode cX0_former 20 = .ok (.bipush 9, 2) := by decide +kernel
theorem dX0_former_22 : decode cX0_former 22 = .ok (.aaload, 1) := by decide +kernel
theorem dX0_former_23 : decode cX0_former 23 = .ok (.areturn, 1) := by decide +kernel
def fX0_former (a0 : Nat) (M : xMem) : Option (Nat × xMem) :=
  xLt (fun (s1 : Int32) (M2 : xMem) => (xGb s1 (xln (xrf a0 0)) (some ((xfo M2 (Int32.toNatClampNeg s1)), M2)) : Option (Nat × xMem))) fun J22 => if (nI 10) ≤ (M.1 a0 2) then (J22 (nI 9) M) else (J22 (M.1 a0 2) M)
set_option maxRecDepth 100000 in
set_option maxHeartbeats 4000000 in
theorem zX0_former (G : xGX) (a0 : Nat) (h0 : xkd a0 = 0) (M : xMem) (r : Nat) (M' : xMem) (h : fX0_former a0 M = some (r, M')) : xCt G yX0_former cX0_former 1 (some (.object "RaidMat$Tale")) 1 [vr G a0] M (some (vr G r), M') := by
  refine xMet (lv := [some (vr G a0)]) (by decide) (Nat.le_of_ble_eq_true rfl) rfl ?_
  intro X hG hnL C R0
  subst hG
  have C : xCk X cX0_former RX0 1 := C
  unfold fX0_former at h
  refine r_aload_n (pc := 0) C dX0_former_0 rfl rfl ?_
  refine r_getR (pc := 1) C kX0_11 h0 (by decide) dX0_former_1 ?_
  refine r_aload_n (pc := 4) C dX0_former_4 rfl rfl ?_
  refine r_getI (pc := 5) C kX0_21 h0 dX0_former_5 ?_
  refine r_bipush (pc := 8) (v := (nI 10)) C dX0_former_8 (by decide) ?_
  refine r_jn (fun J => ∀ (s1 : Int32) (M2 : xMem) , J s1 M2 = some (r, M') → WW X 22 [some (vr X.1 a0)] [.int s1, vr X.1 (xrf a0 0)] M2) h (fun s1 M2  h => ?_) (fun J22 hJ22 h => ?_)
  · obtain ⟨g3, h⟩ := xGb_of h
    refine r_aaldT (pc := 22) C (xtk h0 (by decide) rfl rfl) g3 dX0_former_22 ?_
    exact r_aret (pc := 23) C R0 h dX0_former_23
  refine r_icmp_ge (pc := 10) (tgt := 20) C dX0_former_10 (by decide) h (fun _ h => ?_) (fun _ h => ?_)
  · refine r_bipush (pc := 20) (v := (nI 9)) C dX0_former_20 (by decide) ?_
    exact hJ22 (nI 9) M  h
  · refine r_aload_n (pc := 13) C dX0_former_13 rfl rfl ?_
    refine r_getI (pc := 14) C kX0_21 h0 dX0_former_14 ?_
    refine r_goto (pc := 17) (tgt := 22) C dX0_former_17 (by decide) ?_
    exact hJ22 (M.1 a0 2) M  h
theorem tX0_former {a0 r : Nat} {M M' : xMem} (h0 : xkd a0 = 0) (e : fX0_former a0 M = some (r, M')) : xkd r = 9 := by
  unfold fX0_former xLt at e
  split at e <;> (obtain ⟨g, e⟩ := xGb_of e; cases e; exact xkfo _ _)
theorem dX2_isTold_0 : decode cX2_isTold 0 = .ok (.aload_n 0, 1) := by decide +kernel
theorem dX2_isTold_1 : decode cX2_isTold 1 = .ok (.getfield 12, 3) := by decide +kernel
theorem dX2_isTold_4 : decode cX2_isTold 4 = .ok (.getfield 42, 3) := by decide +kernel
theorem dX2_isTold_7 : decode cX2_isTold 7 = .ok (.iconst 1, 1) := by decide +kernel
theorem dX2_isTold_8 : decode cX2_isTold 8 = .ok (.invokevirtual 46, 3) := by decide +kernel
theorem dX2_isTold_11 : decode cX2_isTold 11 = .ok (.ifCond .le 7, 3) := by decide +kernel
theorem dX2_isTold_14 : decode cX2_isTold 14 = .ok (.iconst 1, 1) := by decide +kernel
theorem dX2_isTold_15 : decode cX2_isTold 15 = .ok (.goto 4, 3) := by decide +kernel
theorem dX2_isTold_18 : decode cX2_isTold 18 = .ok (.iconst 0, 1) := by decide +kernel
theorem dX2_isTold_19 : decode cX2_isTold 19 = .ok (.ireturn, 1) := by decide +kernel
def fX2_isTold (a0 : Nat) (M : xMem) : Option (Int32 × xMem) :=
  xBn (fX5_sizeOf (xrf (xrf a0 0) 0) (nI 1) M) fun r1 M2 => if r1 ≤ 0 then (some ((nI 0), M2)) else (some ((nI 1), M2))
set_option maxRecDepth 100000 in
set_option maxHeartbeats 4000000 in
theorem zX2_isTold (G : xGX) (a0 : Nat) (h0 : xkd a0 = 2) (M : xMem) (r : Int32) (M' : xMem) (h : fX2_isTold a0 M = some (r, M')) : xCt G yX2_isTold cX2_isTold 1 (some .boolean) 2 [vr G a0] M (some (.int r), M') := by
  refine xMet (lv := [some (vr G a0)]) (by decide) (Nat.le_of_ble_eq_true rfl) rfl ?_
  intro X hG hnL C R0
  subst hG
  have C : xCk X cX2_isTold RX2 2 := C
  unfold fX2_isTold at h
  refine r_aload_n (pc := 0) C dX2_isTold_0 rfl rfl ?_
  refine r_getR (pc := 1) C kX2_12 h0 (by decide) dX2_isTold_1 ?_
  refine r_getR (pc := 4) C kX2_42 (xtk h0 (by decide) rfl rfl) (by decide) dX2_isTold_4 ?_
  refine r_iconst (pc := 7) (v := (nI 1)) C dX2_isTold_7 (by decide) ?_
  refine r_vI1 (pc := 8) C (fun r M' e => zX5_sizeOf X.1 (xrf (xrf a0 0) 0) (xtk (xtk h0 (by decide) rfl rfl) (by decide) rfl rfl) (nI 1) M r M' e) (xtk (xtk h0 (by decide) rfl rfl) (by decide) rfl rfl) (by decide) rfl mX5_sizeOf lX2_46 (by decide) (Nat.le_of_ble_eq_true rfl) dX2_isTold_8 h (fun r1 M2 h => ?_)
  refine r_if_le (pc := 11) (tgt := 18) C dX2_isTold_11 (by decide) h (fun _ h => ?_) (fun _ h => ?_)
  · refine r_iconst (pc := 18) (v := (nI 0)) C dX2_isTold_18 (by decide) ?_
    exact r_zret (pc := 19) (Or.inl (by decide)) C R0 h dX2_isTold_19
  · refine r_iconst (pc := 14) (v := (nI 1)) C dX2_isTold_14 (by decide) ?_
    refine r_goto (pc := 15) (tgt := 19) C dX2_isTold_15 (by decide) ?_
    exact r_zret (pc := 19) (Or.inr (by decide)) C R0 h dX2_isTold_19
theorem dX2_begin_0 : decode cX2_begin 0 = .ok (.aload_n 0, 1) := by decide +kernel
theorem dX2_begin_1 : decode cX2_begin 1 = .ok (.getfield 21, 3) := by decide +kernel
theorem dX2_begin_4 : decode cX2_begin 4 = .ok (.aload_n 0, 1) := by decide +kernel
theorem dX2_begin_5 : decode cX2_begin 5 = .ok (.getfield 12, 3) := by decide +kernel
theorem dX2_begin_8 : decode cX2_begin 8 = .ok (.getfield 42, 3) := by decide +kernel
theorem dX2_begin_11 : decode cX2_begin 11 = .ok (.invokevirtual 52, 3) := by decide +kernel
theorem dX2_begin_14 : decode cX2_begin 14 = .ok (.aload_n 0, 1) := by decide +kernel
theorem dX2_begin_15 : decode cX2_begin 15 = .ok (.getfield 28, 3) := by decide +kernel
theorem dX2_begin_18 : decode cX2_begin 18 = .ok (.invokevirtual 56, 3) := by decide +kernel
theorem dX2_begin_21 : decode cX2_begin 21 = .ok (.return_, 1) := by decide +kernel
def fX2_begin (a0 : Nat) (M : xMem) : Option (xMem) :=
  xBv (fX8_begin (xrf a0 1) (xrf (xrf a0 0) 0) M) fun M1 => xBv (fX1_clear (xrf a0 2) M1) fun M2 => some M2
set_option maxRecDepth 100000 in
set_option maxHeartbeats 4000000 in
theorem zX2_begin (G : xGX) (a0 : Nat) (h0 : xkd a0 = 2) (M : xMem) (M' : xMem) (h : fX2_begin a0 M = some M') : xCt G yX2_begin cX2_begin 1 none 3 [vr G a0] M (none, M') := by
  refine xMet (lv := [some (vr G a0)]) (by decide) (Nat.le_of_ble_eq_true rfl) rfl ?_
  intro X hG hnL C R0
  subst hG
  have C : xCk X cX2_begin RX2 3 := C
  unfold fX2_begin at h
  refine r_aload_n (pc := 0) C dX2_begin_0 rfl rfl ?_
  refine r_getR (pc := 1) C kX2_21 h0 (by decide) dX2_begin_1 ?_
  refine r_aload_n (pc := 4) C dX2_begin_4 rfl rfl ?_
  refine r_getR (pc := 5) C kX2_12 h0 (by decide) dX2_begin_5 ?_
  refine r_getR (pc := 8) C kX2_42 (xtk h0 (by decide) rfl rfl) (by decide) dX2_begin_8 ?_
  refine r_vV1 (pc := 11) C (fun M' e => zX8_begin X.1 (xrf a0 1) (xtk h0 (by decide) rfl rfl) (xrf (xrf a0 0) 0) (xtk (xtk h0 (by decide) rfl rfl) (by decide) rfl rfl) M M' e) (xtk h0 (by decide) rfl rfl) (by decide) rfl mX8_begin lX2_52 (by decide) (Nat.le_of_ble_eq_true rfl) dX2_begin_11 h (fun M1 h => ?_)
  refine r_aload_n (pc := 14) C dX2_begin_14 rfl rfl ?_
  refine r_getR (pc := 15) C kX2_28 h0 (by decide) dX2_begin_15 ?_
  refine r_vV0 (pc := 18) C (fun M' e => zX1_clear X.1 (xrf a0 2) (xtk h0 (by decide) rfl rfl) M1 M' e) (xtk h0 (by decide) rfl rfl) (by decide) rfl mX1_clear lX2_56 (by decide) (Nat.le_of_ble_eq_true rfl) dX2_begin_18 h (fun M2 h => ?_)
  exact r_vret (pc := 21) C R0 h dX2_begin_21
theorem dX2_makeRaid_0 : decode cX2_makeRaid 0 = .ok (.aload_n 0, 1) := by decide +kernel
theorem dX2_makeRaid_1 : decode cX2_makeRaid 1 = .ok (.getfield 38, 3) := by decide +kernel
theorem dX2_makeRaid_4 : decode cX2_makeRaid 4 = .ok (.lload_n 1, 1) := by decide +kernel
theorem dX2_makeRaid_5 : decode cX2_makeRaid 5 = .ok (.invokevirtual 100, 3) := by decide +kernel
theorem dX2_makeRaid_8 : decode cX2_makeRaid 8 = .ok (.aload_n 0, 1) := by decide +kernel
theorem dX2_makeRaid_9 : decode cX2_makeRaid 9 = .ok (.getfield 32, 3) := by decide +kernel
theorem dX2_makeRaid_12 : decode cX2_makeRaid 12 = .ok (.aload_n 0, 1) := by decide +kernel
theorem dX2_makeRaid_13 : decode cX2_makeRaid 13 = .ok (.getfield 21, 3) := by decide +kernel
theorem dX2_makeRaid_16 : decode cX2_makeRaid 16 = .ok (.invokevirtual 103, 3) := by decide +kernel
theorem dX2_makeRaid_19 : decode cX2_makeRaid 19 = .ok (.aload_n 0, 1) := by decide +kernel
theorem dX2_makeRaid_20 : decode cX2_makeRaid 20 = .ok (.getfield 21, 3) := by decide +kernel
theorem dX2_makeRaid_23 : decode cX2_makeRaid 23 = .ok (.aload_n 0, 1) := by decide +kernel
theorem dX2_makeRaid_24 : decode cX2_makeRaid 24 = .ok (.getfield 38, 3) := by decide +kernel
theorem dX2_makeRaid_27 : decode cX2_makeRaid 27 = .ok (.invokevirtual 107, 3) := by decide +kernel
theorem dX2_makeRaid_30 : decode cX2_makeRaid 30 = .ok (.aload_n 0, 1) := by decide +kernel
theorem dX2_makeRaid_31 : decode cX2_makeRaid 31 = .ok (.getfield 28, 3) := by decide +kernel
theorem dX2_makeRaid_34 : decode cX2_makeRaid 34 = .ok (.aload_n 0, 1) := by decide +kernel
theorem dX2_makeRaid_35 : decode cX2_makeRaid 35 = .ok (.getfield 32, 3) := by decide +kernel
theorem dX2_makeRaid_38 : decode cX2_makeRaid 38 = .ok (.aload_n 0, 1) := by decide +kernel
theorem dX2_makeRaid_39 : decode cX2_makeRaid 39 = .ok (.getfield 38, 3) := by decide +kernel
theorem dX2_makeRaid_42 : decode cX2_makeRaid 42 = .ok (.aload_n 0, 1) := by decide +kernel
theorem dX2_makeRaid_43 : decode cX2_makeRaid 43 = .ok (.getfield 21, 3) := by decide +kernel
theorem dX2_makeRaid_46 : decode cX2_makeRaid 46 = .ok (.invokevirtual 111, 3) := by decide +kernel
theorem dX2_makeRaid_49 : decode cX2_makeRaid 49 = .ok (.return_, 1) := by decide +kernel
def fX2_makeRaid (a0 : Nat) (a1 : Int64) (M : xMem) : Option (xMem) :=
  xBv (fX4_unpack (xrf a0 4) a1 M) fun M1 => xBv (fX8_copyFrom (xrf a0 3) (xrf a0 1) M1) fun M2 => xBv (fX8_play (xrf a0 1) (xrf a0 4) M2) fun M3 => xBv (fX1_write (xrf a0 2) (xrf a0 3) (xrf a0 4) (xrf a0 1) M3) fun M4 => some M4
set_option maxRecDepth 100000 in
set_option maxHeartbeats 4000000 in
theorem zX2_makeRaid (G : xGX) (a0 : Nat) (h0 : xkd a0 = 2) (a1 : Int64) (M : xMem) (M' : xMem) (h : fX2_makeRaid a0 a1 M = some M') : xCt G yX2_makeRaid cX2_makeRaid 3 none 5 [vr G a0, .long a1] M (none, M') := by
  refine xMet (lv := [some (vr G a0), some (.long a1), none]) (by decide) (Nat.le_of_ble_eq_true rfl) rfl ?_
  intro X hG hnL C R0
  subst hG
  have C : xCk X cX2_makeRaid RX2 5 := C
  unfold fX2_makeRaid at h
  refine r_aload_n (pc := 0) C dX2_makeRaid_0 rfl rfl ?_
  refine r_getR (pc := 1) C kX2_38 h0 (by decide) dX2_makeRaid_1 ?_
  refine r_lload_n (pc := 4) C dX2_makeRaid_4 rfl rfl ?_
  refine r_vV1 (pc := 5) C (fun M' e => zX4_unpack X.1 (xrf a0 4) (xtk h0 (by decide) rfl rfl) a1 M M' e) (xtk h0 (by decide) rfl rfl) (by decide) rfl mX4_unpack lX2_100 (by decide) (Nat.le_of_ble_eq_true rfl) dX2_makeRaid_5 h (fun M1 h => ?_)
  refine r_aload_n (pc := 8) C dX2_makeRaid_8 rfl rfl ?_
  refine r_getR (pc := 9) C kX2_32 h0 (by decide) dX2_makeRaid_9 ?_
  refine r_aload_n (pc := 12) C dX2_makeRaid_12 rfl rfl ?_
  refine r_getR (pc := 13) C kX2_21 h0 (by decide) dX2_makeRaid_13 ?_
  refine r_vV1 (pc := 16) C (fun M' e => zX8_copyFrom X.1 (xrf a0 3) (xtk h0 (by decide) rfl rfl) (xrf a0 1) (xtk h0 (by decide) rfl rfl) M1 M' e) (xtk h0 (by decide) rfl rfl) (by decide) rfl mX8_copyFrom lX2_103 (by decide) (Nat.le_of_ble_eq_true rfl) dX2_makeRaid_16 h (fun M2 h => ?_)
  refine r_aload_n (pc := 19) C dX2_makeRaid_19 rfl rfl ?_
  refine r_getR (pc := 20) C kX2_21 h0 (by decide) dX2_makeRaid_20 ?_
  refine r_aload_n (pc := 23) C dX2_makeRaid_23 rfl rfl ?_
  refine r_getR (pc := 24) C kX2_38 h0 (by decide) dX2_makeRaid_24 ?_
  refine r_vV1 (pc := 27) C (fun M' e => zX8_play X.1 (xrf a0 1) (xtk h0 (by decide) rfl rfl) (xrf a0 4) (xtk h0 (by decide) rfl rfl) M2 M' e) (xtk h0 (by decide) rfl rfl) (by decide) rfl mX8_play lX2_107 (by decide) (Nat.le_of_ble_eq_true rfl) dX2_makeRaid_27 h (fun M3 h => ?_)
  refine r_aload_n (pc := 30) C dX2_makeRaid_30 rfl rfl ?_
  refine r_getR (pc := 31) C kX2_28 h0 (by decide) dX2_makeRaid_31 ?_
  refine r_aload_n (pc := 34) C dX2_makeRaid_34 rfl rfl ?_
  refine r_getR (pc := 35) C kX2_32 h0 (by decide) dX2_makeRaid_35 ?_
  refine r_aload_n (pc := 38) C dX2_makeRaid_38 rfl rfl ?_
  refine r_getR (pc := 39) C kX2_38 h0 (by decide) dX2_makeRaid_39 ?_
  refine r_aload_n (pc := 42) C dX2_makeRaid_42 rfl rfl ?_
  refine r_getR (pc := 43) C kX2_21 h0 (by decide) dX2_makeRaid_43 ?_
  refine r_vV3 (pc := 46) C (fun M' e => zX1_write X.1 (xrf a0 2) (xtk h0 (by decide) rfl rfl) (xrf a0 3) (xtk h0 (by decide) rfl rfl) (xrf a0 4) (xtk h0 (by decide) rfl rfl) (xrf a0 1) (xtk h0 (by decide) rfl rfl) M3 M' e) (xtk h0 (by decide) rfl rfl) (by decide) rfl mX1_write lX2_111 (by decide) (Nat.le_of_ble_eq_true rfl) dX2_makeRaid_46 h (fun M4 h => ?_)
  exact r_vret (pc := 49) C R0 h dX2_makeRaid_49
theorem dX2_makeCard_0 : decode cX2_makeCard 0 = .ok (.aload_n 0, 1) := by decide +kernel
theorem dX2_makeCard_1 : decode cX2_makeCard 1 = .ok (.getfield 21, 3) := by decide +kernel
theorem dX2_makeCard_4 : decode cX2_makeCard 4 = .ok (.iload_n 1, 1) := by decide +kernel
theorem dX2_makeCard_5 : decode cX2_makeCard 5 = .ok (.iload_n 2, 1) := by decide +kernel
theorem dX2_makeCard_6 : decode cX2_makeCard 6 = .ok (.iload_n 3, 1) := by decide +kernel
theorem dX2_makeCard_7 : decode cX2_makeCard 7 = .ok (.invokevirtual 115, 3) := by decide +kernel
theorem dX2_makeCard_10 : decode cX2_makeCard 10 = .ok (.ifCond .eq 22, 3) := by decide +kernel
theorem dX2_makeCard_13 : decode cX2_makeCard 13 = .ok (.aload_n 0, 1) := by decide +kernel
theorem dX2_makeCard_14 : decode cX2_makeCard 14 = .ok (.getfield 28, 3) := by decide +kernel
theorem dX2_makeCard_17 : decode cX2_makeCard 17 = .ok (.iload_n 1, 1) := by decide +kernel
theorem dX2_makeCard_18 : decode cX2_makeCard 18 = .ok (.invokevirtual 119, 3) := by decide +kernel
theorem dX2_makeCard_21 : decode cX2_makeCard 21 = .ok (.aload_n 0, 1) := by decide +kernel
theorem dX2_makeCard_22 : decode cX2_makeCard 22 = .ok (.getfield 28, 3) := by decide +kernel
theorem dX2_makeCard_25 : decode cX2_makeCard 25 = .ok (.aload_n 0, 1) := by decide +kernel
theorem dX2_makeCard_26 : decode cX2_makeCard 26 = .ok (.getfield 21, 3) := by decide +kernel
theorem dX2_makeCard_29 : decode cX2_makeCard 29 = .ok (.invokevirtual 123, 3) := by decide +kernel
theorem dX2_makeCard_32 : decode cX2_makeCard 32 = .ok (.return_, 1) := by decide +kernel
def fX2_makeCard (a0 : Nat) (a1 : Int32) (a2 : Int32) (a3 : Int32) (M : xMem) : Option (xMem) :=
  xBn (fX8_showCard (xrf a0 1) a1 a2 a3 M) fun r1 M2 => if r1 = 0 then (some M2) else (xBv (fX1_noteCardAllOut (xrf a0 2) a1 M2) fun M3 => xBv (fX1_setLead (xrf a0 2) (xrf a0 1) M3) fun M4 => some M4)
set_option maxRecDepth 100000 in
set_option maxHeartbeats 4000000 in
theorem zX2_makeCard (G : xGX) (a0 : Nat) (h0 : xkd a0 = 2) (a1 : Int32) (a2 : Int32) (a3 : Int32) (M : xMem) (M' : xMem) (h : fX2_makeCard a0 a1 a2 a3 M = some M') : xCt G yX2_makeCard cX2_makeCard 4 none 4 [vr G a0, .int a1, .int a2, .int a3] M (none, M') := by
  refine xMet (lv := [some (vr G a0), some (.int a1), some (.int a2), some (.int a3)]) (by decide) (Nat.le_of_ble_eq_true rfl) rfl ?_
  intro X hG hnL C R0
  subst hG
  have C : xCk X cX2_makeCard RX2 4 := C
  unfold fX2_makeCard at h
  refine r_aload_n (pc := 0) C dX2_makeCard_0 rfl rfl ?_
  refine r_getR (pc := 1) C kX2_21 h0 (by decide) dX2_makeCard_1 ?_
  refine r_iload_n (pc := 4) C dX2_makeCard_4 rfl rfl ?_
  refine r_iload_n (pc := 5) C dX2_makeCard_5 rfl rfl ?_
  refine r_iload_n (pc := 6) C dX2_makeCard_6 rfl rfl ?_
  refine r_vI3 (pc := 7) C (fun r M' e => zX8_showCard X.1 (xrf a0 1) (xtk h0 (by decide) rfl rfl) a1 a2 a3 M r M' e) (xtk h0 (by decide) rfl rfl) (by decide) rfl mX8_showCard lX2_115 (by decide) (Nat.le_of_ble_eq_true rfl) dX2_makeCard_7 h (fun r1 M2 h => ?_)
  refine r_if_eq (pc := 10) (tgt := 32) C dX2_makeCard_10 (by decide) h (fun _ h => ?_) (fun _ h => ?_)
  · exact r_vret (pc := 32) C R0 h dX2_makeCard_32
  · refine r_aload_n (pc := 13) C dX2_makeCard_13 rfl rfl ?_
    refine r_getR (pc := 14) C kX2_28 h0 (by decide) dX2_makeCard_14 ?_
    refine r_iload_n (pc := 17) C dX2_makeCard_17 rfl rfl ?_
    refine r_vV1 (pc := 18) C (fun M' e => zX1_noteCardAllOut X.1 (xrf a0 2) (xtk h0 (by decide) rfl rfl) a1 M2 M' e) (xtk h0 (by decide) rfl rfl) (by decide) rfl mX1_noteCardAllOut lX2_119 (by decide) (Nat.le_of_ble_eq_true rfl) dX2_makeCard_18 h (fun M3 h => ?_)
    refine r_aload_n (pc := 21) C dX2_makeCard_21 rfl rfl ?_
    refine r_getR (pc := 22) C kX2_28 h0 (by decide) dX2_makeCard_22 ?_
    refine r_aload_n (pc := 25) C dX2_makeCard_25 rfl rfl ?_
    refine r_getR (pc := 26) C kX2_21 h0 (by decide) dX2_makeCard_26 ?_
    refine r_vV1 (pc := 29) C (fun M' e => zX1_setLead X.1 (xrf a0 2) (xtk h0 (by decide) rfl rfl) (xrf a0 1) (xtk h0 (by decide) rfl rfl) M3 M' e) (xtk h0 (by decide) rfl rfl) (by decide) rfl mX1_setLead lX2_123 (by decide) (Nat.le_of_ble_eq_true rfl) dX2_makeCard_29 h (fun M4 h => ?_)
    exact r_vret (pc := 32) C R0 h dX2_makeCard_32
theorem dX2_makeReview_0 : decode cX2_makeReview 0 = .ok (.iload_n 2, 1) := by decide +kernel
theorem dX2_makeReview_1 : decode cX2_makeReview 1 = .ok (.ifCond .eq 24, 3) := by decide +kernel
theorem dX2_makeReview_4 : decode cX2_makeReview 4 = .ok (.aload_n 0, 1) := by decide +kernel
theorem dX2_makeReview_5 : decode cX2_makeReview 5 = .ok (.getfield 21, 3) := by decide +kernel
theorem dX2_makeReview_8 : decode cX2_makeReview 8 = .ok (.aload_n 0, 1) := by decide +kernel
theorem dX2_makeReview_9 : decode cX2_makeReview 9 = .ok (.getfield 32, 3) := by decide +kernel
theorem dX2_makeReview_12 : decode cX2_makeReview 12 = .ok (.invokevirtual 103, 3) := by decide +kernel
theorem dX2_makeReview_15 : decode cX2_makeReview 15 = .ok (.aload_n 0, 1) := by decide +kernel
theorem dX2_makeReview_16 : decode cX2_makeReview 16 = .ok (.getfield 28, 3) := by decide +kernel
theorem dX2_makeReview_19 : decode cX2_makeReview 19 = .ok (.invokevirtual 126, 3) := by decide +kernel
theorem dX2_makeReview_22 : decode cX2_makeReview 22 = .ok (.goto 16, 3) := by decide +kernel
theorem dX2_makeReview_25 : decode cX2_makeReview 25 = .ok (.aload_n 0, 1) := by decide +kernel
theorem dX2_makeReview_26 : decode cX2_makeReview 26 = .ok (.getfield 21, 3) := by decide +kernel
theorem dX2_makeReview_29 : decode cX2_makeReview 29 = .ok (.getfield 129, 3) := by decide +kernel
theorem dX2_makeReview_32 : decode cX2_makeReview 32 = .ok (.iload_n 1, 1) := by decide +kernel
theorem dX2_makeReview_33 : decode cX2_makeReview 33 = .ok (.aaload, 1) := by decide +kernel
theorem dX2_makeReview_34 : decode cX2_makeReview 34 = .ok (.iconst 1, 1) := by decide +kernel
theorem dX2_makeReview_35 : decode cX2_makeReview 35 = .ok (.putfield 133, 3) := by decide +kernel
theorem dX2_makeReview_38 : decode cX2_makeReview 38 = .ok (.aload_n 0, 1) := by decide +kernel
theorem dX2_makeReview_39 : decode cX2_makeReview 39 = .ok (.getfield 21, 3) := by decide +kernel
theorem dX2_makeReview_42 : decode cX2_makeReview 42 = .ok (.invokevirtual 139, 3) := by decide +kernel
theorem dX2_makeReview_45 : decode cX2_makeReview 45 = .ok (.return_, 1) := by decide +kernel
def fX2_makeReview (a0 : Nat) (a1 : Int32) (a2 : Int32) (M : xMem) : Option (xMem) :=
  xLt (fun  (M1 : xMem) => (xBv (fX8_noteOther (xrf a0 1) M1) fun M2 => some M2 : Option (xMem))) fun J38 => if a2 = 0 then (xGb a1 (xln (xrf (xrf a0 1) 0)) (xLt (xwI M (xrf (xrf (xrf a0 1) 0) (Int32.toNatClampNeg a1)) 9 (nI 1)) fun M4 => J38  M4)) else (xBv (fX8_copyFrom (xrf a0 1) (xrf a0 3) M) fun M5 => xBv (fX1_dropLatest (xrf a0 2) M5) fun M6 => J38  M6)
set_option maxRecDepth 100000 in
set_option maxHeartbeats 4000000 in
theorem zX2_makeReview (G : xGX) (a0 : Nat) (h0 : xkd a0 = 2) (a1 : Int32) (a2 : Int32) (M : xMem) (M' : xMem) (h : fX2_makeReview a0 a1 a2 M = some M') : xCt G yX2_makeReview cX2_makeReview 3 none 5 [vr G a0, .int a1, .int a2] M (none, M') := by
  refine xMet (lv := [some (vr G a0), some (.int a1), some (.int a2)]) (by decide) (Nat.le_of_ble_eq_true rfl) rfl ?_
  intro X hG hnL C R0
  subst hG
  have C : xCk X cX2_makeReview RX2 5 := C
  unfold fX2_makeReview at h
  refine r_iload_n (pc := 0) C dX2_makeReview_0 rfl rfl ?_
  refine r_jn (fun J => ∀  (M1 : xMem) , J  M1 = some M' → WW X 38 [some (vr X.1 a0), some (.int a1), some (.int a2)] [] M1) h (fun  M1  h => ?_) (fun J38 hJ38 h => ?_)
  · refine r_aload_n (pc := 38) C dX2_makeReview_38 rfl rfl ?_
    refine r_getR (pc := 39) C kX2_21 h0 (by decide) dX2_makeReview_39 ?_
    refine r_vV0 (pc := 42) C (fun M' e => zX8_noteOther X.1 (xrf a0 1) (xtk h0 (by decide) rfl rfl) M1 M' e) (xtk h0 (by decide) rfl rfl) (by decide) rfl mX8_noteOther lX2_139 (by decide) (Nat.le_of_ble_eq_true rfl) dX2_makeReview_42 h (fun M2 h => ?_)
    exact r_vret (pc := 45) C R0 h dX2_makeReview_45
  refine r_if_eq (pc := 1) (tgt := 25) C dX2_makeReview_1 (by decide) h (fun _ h => ?_) (fun _ h => ?_)
  · refine r_aload_n (pc := 25) C dX2_makeReview_25 rfl rfl ?_
    refine r_getR (pc := 26) C kX2_21 h0 (by decide) dX2_makeReview_26 ?_
    refine r_getR (pc := 29) C kX2_129 (xtk h0 (by decide) rfl rfl) (by decide) dX2_makeReview_29 ?_
    refine r_iload_n (pc := 32) C dX2_makeReview_32 rfl rfl ?_
    obtain ⟨g3, h⟩ := xGb_of h
    refine r_aaldS (pc := 33) C (xtk (xtk h0 (by decide) rfl rfl) (by decide) rfl rfl) g3 dX2_makeReview_33 ?_
    refine r_iconst (pc := 34) (v := (nI 1)) C dX2_makeReview_34 (by decide) ?_
    refine r_putZ (pc := 35) C kX2_133 (xkeS (xtk (xtk h0 (by decide) rfl rfl) (by decide) rfl rfl) (xin_lt g3)) (Or.inr (by decide)) dX2_makeReview_35 ?_
    refine r_letM h (fun M4 h => ?_)
    exact hJ38  M4  h
  · refine r_aload_n (pc := 4) C dX2_makeReview_4 rfl rfl ?_
    refine r_getR (pc := 5) C kX2_21 h0 (by decide) dX2_makeReview_5 ?_
    refine r_aload_n (pc := 8) C dX2_makeReview_8 rfl rfl ?_
    refine r_getR (pc := 9) C kX2_32 h0 (by decide) dX2_makeReview_9 ?_
    refine r_vV1 (pc := 12) C (fun M' e => zX8_copyFrom X.1 (xrf a0 1) (xtk h0 (by decide) rfl rfl) (xrf a0 3) (xtk h0 (by decide) rfl rfl) M M' e) (xtk h0 (by decide) rfl rfl) (by decide) rfl mX8_copyFrom lX2_103 (by decide) (Nat.le_of_ble_eq_true rfl) dX2_makeReview_12 h (fun M5 h => ?_)
    refine r_aload_n (pc := 15) C dX2_makeReview_15 rfl rfl ?_
    refine r_getR (pc := 16) C kX2_28 h0 (by decide) dX2_makeReview_16 ?_
    refine r_vV0 (pc := 19) C (fun M' e => zX1_dropLatest X.1 (xrf a0 2) (xtk h0 (by decide) rfl rfl) M5 M' e) (xtk h0 (by decide) rfl rfl) (by decide) rfl mX1_dropLatest lX2_126 (by decide) (Nat.le_of_ble_eq_true rfl) dX2_makeReview_19 h (fun M6 h => ?_)
    refine r_goto (pc := 22) (tgt := 38) C dX2_makeReview_22 (by decide) ?_
    exact hJ38  M6  h
theorem dX2_apply_0 : decode cX2_apply 0 = .ok (.lload_n 1, 1) := by decide +kernel
theorem dX2_apply_1 : decode cX2_apply 1 = .ok (.iconst 1, 1) := by decide +kernel
theorem dX2_apply_2 : decode cX2_apply 2 = .ok (.invokestatic 79, 3) := by decide +kernel
theorem dX2_apply_5 : decode cX2_apply 5 = .ok (.istore_n 3, 1) := by decide +kernel
theorem dX2_apply_6 : decode cX2_apply 6 = .ok (.lload_n 1, 1) := by decide +kernel
theorem dX2_apply_7 : decode cX2_apply 7 = .ok (.iconst 2, 1) := by decide +kernel
theorem dX2_apply_8 : decode cX2_apply 8 = .ok (.invokestatic 79, 3) := by decide +kernel
theorem dX2_apply_11 : decode cX2_apply 11 = .ok (.istore 4, 2) := by decide +kernel
theorem dX2_apply_13 : decode cX2_apply 13 = .ok (.lload_n 1, 1) := by decide +kernel
theorem dX2_apply_14 : decode cX2_apply 14 = .ok (.iconst 3, 1) := by decide +kernel
theorem dX2_apply_15 : decode cX2_apply 15 = .ok (.invokestatic 79, 3) := by decide +kernel
theorem dX2_apply_18 : decode cX2_apply 18 = .ok (.istore 5, 2) := by decide +kernel
theorem dX2_apply_20 : decode cX2_apply 20 = .ok (.lload_n 1, 1) := by decide +kernel
theorem dX2_apply_21 : decode cX2_apply 21 = .ok (.iconst 0, 1) := by decide +kernel
theorem dX2_apply_22 : decode cX2_apply 22 = .ok (.invokestatic 79, 3) := by decide +kernel
theorem dX2_apply_25 : decode cX2_apply 25 = .ok (.tableswitch 76 0 3 #[31, 39, 51, 66], 31) := by decide +kernel
theorem dX2_apply_56 : decode cX2_apply 56 = .ok (.aload_n 0, 1) := by decide +kernel
theorem dX2_apply_57 : decode cX2_apply 57 = .ok (.lload_n 1, 1) := by decide +kernel
theorem dX2_apply_58 : decode cX2_apply 58 = .ok (.invokevirtual 83, 3) := by decide +kernel
theorem dX2_apply_61 : decode cX2_apply 61 = .ok (.goto 56, 3) := by decide +kernel
theorem dX2_apply_64 : decode cX2_apply 64 = .ok (.aload_n 0, 1) := by decide +kernel
theorem dX2_apply_65 : decode cX2_apply 65 = .ok (.iload_n 3, 1) := by decide +kernel
theorem dX2_apply_66 : decode cX2_apply 66 = .ok (.iload 4, 2) := by decide +kernel
theorem dX2_apply_68 : decode cX2_apply 68 = .ok (.iload 5, 2) := by decide +kernel
theorem dX2_apply_70 : decode cX2_apply 70 = .ok (.invokevirtual 86, 3) := by decide +kernel
theorem dX2_apply_73 : decode cX2_apply 73 = .ok (.goto 44, 3) := by decide +kernel
theorem dX2_apply_76 : decode cX2_apply 76 = .ok (.aload_n 0, 1) := by decide +kernel
theorem dX2_apply_77 : decode cX2_apply 77 = .ok (.getfield 21, 3) := by decide +kernel
theorem dX2_apply_80 : decode cX2_apply 80 = .ok (.iload_n 3, 1) := by decide +kernel
theorem dX2_apply_81 : decode cX2_apply 81 = .ok (.iload 4, 2) := by decide +kernel
theorem dX2_apply_83 : decode cX2_apply 83 = .ok (.iload 5, 2) := by decide +kernel
theorem dX2_apply_85 : decode cX2_apply 85 = .ok (.invokevirtual 90, 3) := by decide +kernel
theorem dX2_apply_88 : decode cX2_apply 88 = .ok (.goto 29, 3) := by decide +kernel
theorem dX2_apply_91 : decode cX2_apply 91 = .ok (.aload_n 0, 1) := by decide +kernel
theorem dX2_apply_92 : decode cX2_apply 92 = .ok (.getfield 21, 3) := by decide +kernel
theorem dX2_apply_95 : decode cX2_apply 95 = .ok (.invokevirtual 93, 3) := by decide +kernel
theorem dX2_apply_98 : decode cX2_apply 98 = .ok (.goto 19, 3) := by decide +kernel
theorem dX2_apply_101 : decode cX2_apply 101 = .ok (.aload_n 0, 1) := by decide +kernel
theorem dX2_apply_102 : decode cX2_apply 102 = .ok (.iload_n 3, 1) := by decide +kernel
theorem dX2_apply_103 : decode cX2_apply 103 = .ok (.iload 4, 2) := by decide +kernel
theorem dX2_apply_105 : decode cX2_apply 105 = .ok (.iconst 1, 1) := by decide +kernel
theorem dX2_apply_106 : decode cX2_apply 106 = .ok (.if_icmp .ne 7, 3) := by decide +kernel
theorem dX2_apply_109 : decode cX2_apply 109 = .ok (.iconst 1, 1) := by decide +kernel
theorem dX2_apply_110 : decode cX2_apply 110 = .ok (.goto 4, 3) := by decide +kernel
theorem dX2_apply_113 : decode cX2_apply 113 = .ok (.iconst 0, 1) := by decide +kernel
theorem dX2_apply_114 : decode cX2_apply 114 = .ok (.invokevirtual 96, 3) := by decide +kernel
theorem dX2_apply_117 : decode cX2_apply 117 = .ok (.return_, 1) := by decide +kernel
def fX2_apply (a0 : Nat) (a1 : Int64) (M : xMem) : Option (xMem) :=
  xBn (fX4_part a1 (nI 1) M) fun r1 M2 => xBn (fX4_part a1 (nI 2) M2) fun r3 M4 => xBn (fX4_part a1 (nI 3) M4) fun r5 M6 => xBn (fX4_part a1 (nI 0) M6) fun r7 M8 => if r7 = nI 0 then (xBv (fX2_makeRaid a0 a1 M8) fun M10 => some M10) else (if r7 = nI 1 then (xBv (fX2_makeCard a0 r1 r3 r5 M8) fun M12 => some M12) else (if r7 = nI 2 then (xBv (fX8_exchange (xrf a0 1) r1 r3 r5 M8) fun M14 => some M14) else (if r7 = nI 3 then (xBv (fX8_endHalf (xrf a0 1) M8) fun M16 => some M16) else (xLt (fun (s17 : Int32) (M18 : xMem) => (xBv (fX2_makeReview a0 r1 s17 M18) fun M19 => some M19 : Option (xMem))) fun J114 => if r3 = (nI 1) then (J114 (nI 1) M8) else (J114 (nI 0) M8)))))
set_option maxRecDepth 100000 in
set_option maxHeartbeats 4000000 in
theorem zX2_apply (G : xGX) (a0 : Nat) (h0 : xkd a0 = 2) (a1 : Int64) (M : xMem) (M' : xMem) (h : fX2_apply a0 a1 M = some M') : xCt G yX2_apply cX2_apply 6 none 6 [vr G a0, .long a1] M (none, M') := by
  refine xMet (lv := [some (vr G a0), some (.long a1), none, none, none, none]) (by decide) (Nat.le_of_ble_eq_true rfl) rfl ?_
  intro X hG hnL C R0
  subst hG
  have C : xCk X cX2_apply RX2 6 := C
  have hn3 : 3 < X.2.2.2.2.2.2.2.2.2.2.2.2.2 := by rw [hnL]; decide
  have hn4 : 4 < X.2.2.2.2.2.2.2.2.2.2.2.2.2 := by rw [hnL]; decide
  have hn5 : 5 < X.2.2.2.2.2.2.2.2.2.2.2.2.2 := by rw [hnL]; decide
  unfold fX2_apply at h
  refine r_lload_n (pc := 0) C dX2_apply_0 rfl rfl ?_
  refine r_iconst (pc := 1) (v := (nI 1)) C dX2_apply_1 (by decide) ?_
  refine r_sI2 (pc := 2) C (fun r M' e => zX4_part X.1 a1 (nI 1) M r M' e) mX4_part lX2_79 (by decide) (Nat.le_of_ble_eq_true rfl) dX2_apply_2 h (fun r1 M2 h => ?_)
  refine r_istore_n (pc := 5) (lv' := [_, _, _, _, _, _]) C dX2_apply_5 rfl hn3 rfl ?_
  refine r_lload_n (pc := 6) C dX2_apply_6 rfl rfl ?_
  refine r_iconst (pc := 7) (v := (nI 2)) C dX2_apply_7 (by decide) ?_
  refine r_sI2 (pc := 8) C (fun r M' e => zX4_part X.1 a1 (nI 2) M2 r M' e) mX4_part lX2_79 (by decide) (Nat.le_of_ble_eq_true rfl) dX2_apply_8 h (fun r3 M4 h => ?_)
  refine r_istore (pc := 11) (lv' := [_, _, _, _, _, _]) C dX2_apply_11 hn4 rfl ?_
  refine r_lload_n (pc := 13) C dX2_apply_13 rfl rfl ?_
  refine r_iconst (pc := 14) (v := (nI 3)) C dX2_apply_14 (by decide) ?_
  refine r_sI2 (pc := 15) C (fun r M' e => zX4_part X.1 a1 (nI 3) M4 r M' e) mX4_part lX2_79 (by decide) (Nat.le_of_ble_eq_true rfl) dX2_apply_15 h (fun r5 M6 h => ?_)
  refine r_istore (pc := 18) (lv' := [_, _, _, _, _, _]) C dX2_apply_18 hn5 rfl ?_
  refine r_lload_n (pc := 20) C dX2_apply_20 rfl rfl ?_
  refine r_iconst (pc := 21) (v := (nI 0)) C dX2_apply_21 (by decide) ?_
  refine r_sI2 (pc := 22) C (fun r M' e => zX4_part X.1 a1 (nI 0) M6 r M' e) mX4_part lX2_79 (by decide) (Nat.le_of_ble_eq_true rfl) dX2_apply_22 h (fun r7 M8 h => ?_)
  refine r_tb h (fun e9 h => ?_) (fun e9 h => ?_)
  · refine r_tabInE (pc := 25) (tgt := 56) e9 C dX2_apply_25 (by decide) (by decide) rfl (by decide) ?_
    refine r_aload_n (pc := 56) C dX2_apply_56 rfl rfl ?_
    refine r_lload_n (pc := 57) C dX2_apply_57 rfl rfl ?_
    refine r_vV1 (pc := 58) C (fun M' e => zX2_makeRaid X.1 a0 h0 a1 M8 M' e) h0 (by decide) rfl mX2_makeRaid lX2_83 (by decide) (Nat.le_of_ble_eq_true rfl) dX2_apply_58 h (fun M10 h => ?_)
    refine r_goto (pc := 61) (tgt := 117) C dX2_apply_61 (by decide) ?_
    exact r_vret (pc := 117) C R0 h dX2_apply_117
  refine r_tb h (fun e11 h => ?_) (fun e11 h => ?_)
  · refine r_tabInE (pc := 25) (tgt := 64) e11 C dX2_apply_25 (by decide) (by decide) rfl (by decide) ?_
    refine r_aload_n (pc := 64) C dX2_apply_64 rfl rfl ?_
    refine r_iload_n (pc := 65) C dX2_apply_65 rfl rfl ?_
    refine r_iload (pc := 66) C dX2_apply_66 rfl ?_
    refine r_iload (pc := 68) C dX2_apply_68 rfl ?_
    refine r_vV3 (pc := 70) C (fun M' e => zX2_makeCard X.1 a0 h0 r1 r3 r5 M8 M' e) h0 (by decide) rfl mX2_makeCard lX2_86 (by decide) (Nat.le_of_ble_eq_true rfl) dX2_apply_70 h (fun M12 h => ?_)
    refine r_goto (pc := 73) (tgt := 117) C dX2_apply_73 (by decide) ?_
    exact r_vret (pc := 117) C R0 h dX2_apply_117
  refine r_tb h (fun e13 h => ?_) (fun e13 h => ?_)
  · refine r_tabInE (pc := 25) (tgt := 76) e13 C dX2_apply_25 (by decide) (by decide) rfl (by decide) ?_
    refine r_aload_n (pc := 76) C dX2_apply_76 rfl rfl ?_
    refine r_getR (pc := 77) C kX2_21 h0 (by decide) dX2_apply_77 ?_
    refine r_iload_n (pc := 80) C dX2_apply_80 rfl rfl ?_
    refine r_iload (pc := 81) C dX2_apply_81 rfl ?_
    refine r_iload (pc := 83) C dX2_apply_83 rfl ?_
    refine r_vV3 (pc := 85) C (fun M' e => zX8_exchange X.1 (xrf a0 1) (xtk h0 (by decide) rfl rfl) r1 r3 r5 M8 M' e) (xtk h0 (by decide) rfl rfl) (by decide) rfl mX8_exchange lX2_90 (by decide) (Nat.le_of_ble_eq_true rfl) dX2_apply_85 h (fun M14 h => ?_)
    refine r_goto (pc := 88) (tgt := 117) C dX2_apply_88 (by decide) ?_
    exact r_vret (pc := 117) C R0 h dX2_apply_117
  refine r_tb h (fun e15 h => ?_) (fun e15 h => ?_)
  · refine r_tabInE (pc := 25) (tgt := 91) e15 C dX2_apply_25 (by decide) (by decide) rfl (by decide) ?_
    refine r_aload_n (pc := 91) C dX2_apply_91 rfl rfl ?_
    refine r_getR (pc := 92) C kX2_21 h0 (by decide) dX2_apply_92 ?_
    refine r_vV0 (pc := 95) C (fun M' e => zX8_endHalf X.1 (xrf a0 1) (xtk h0 (by decide) rfl rfl) M8 M' e) (xtk h0 (by decide) rfl rfl) (by decide) rfl mX8_endHalf lX2_93 (by decide) (Nat.le_of_ble_eq_true rfl) dX2_apply_95 h (fun M16 h => ?_)
    refine r_goto (pc := 98) (tgt := 117) C dX2_apply_98 (by decide) ?_
    exact r_vret (pc := 117) C R0 h dX2_apply_117
  refine r_tabOut (pc := 25) (tgt := 101) C dX2_apply_25 (xtabout 0 3 (fun k hk hk2 => by rcases (show k = 0 ∨ k = 1 ∨ k = 2 ∨ k = 3 by omega) with rfl | rfl | rfl | rfl <;> assumption)) (by decide) ?_
  refine r_aload_n (pc := 101) C dX2_apply_101 rfl rfl ?_
  refine r_iload_n (pc := 102) C dX2_apply_102 rfl rfl ?_
  refine r_iload (pc := 103) C dX2_apply_103 rfl ?_
  refine r_iconst (pc := 105) (v := (nI 1)) C dX2_apply_105 (by decide) ?_
  refine r_jn (fun J => ∀ (s17 : Int32) (M18 : xMem) , J s17 M18 = some M' → WW X 114 [some (vr X.1 a0), some (.long a1), none, some (.int r1), some (.int r3), some (.int r5)] [.int s17, .int r1, vr X.1 a0] M18) h (fun s17 M18  h => ?_) (fun J114 hJ114 h => ?_)
  · refine r_vV2 (pc := 114) C (fun M' e => zX2_makeReview X.1 a0 h0 r1 s17 M18 M' e) h0 (by decide) rfl mX2_makeReview lX2_96 (by decide) (Nat.le_of_ble_eq_true rfl) dX2_apply_114 h (fun M19 h => ?_)
    exact r_vret (pc := 117) C R0 h dX2_apply_117
  refine r_icmp_ne (pc := 106) (tgt := 113) C dX2_apply_106 (by decide) h (fun _ h => ?_) (fun _ h => ?_)
  · refine r_iconst (pc := 113) (v := (nI 0)) C dX2_apply_113 (by decide) ?_
    exact hJ114 (nI 0) M8  h
  · refine r_iconst (pc := 109) (v := (nI 1)) C dX2_apply_109 (by decide) ?_
    refine r_goto (pc := 110) (tgt := 114) C dX2_apply_110 (by decide) ?_
    exact hJ114 (nI 1) M8  h
theorem dX2_replay_0 : decode cX2_replay 0 = .ok (.aload_n 0, 1) := by decide +kernel
theorem dX2_replay_1 : decode cX2_replay 1 = .ok (.invokevirtual 59, 3) := by decide +kernel
theorem dX2_replay_4 : decode cX2_replay 4 = .ok (.iconst 0, 1) := by decide +kernel
theorem dX2_replay_5 : decode cX2_replay 5 = .ok (.istore_n 1, 1) := by decide +kernel
theorem dX2_replay_6 : decode cX2_replay 6 = .ok (.iload_n 1, 1) := by decide +kernel
theorem dX2_replay_7 : decode cX2_replay 7 = .ok (.aload_n 0, 1) := by decide +kernel
theorem dX2_replay_8 : decode cX2_replay 8 = .ok (.getfield 12, 3) := by decide +kernel
theorem dX2_replay_11 : decode cX2_replay 11 = .ok (.getfield 61, 3) := by decide +kernel
theorem dX2_replay_14 : decode cX2_replay 14 = .ok (.if_icmp .ge 21, 3) := by decide +kernel
theorem dX2_replay_17 : decode cX2_replay 17 = .ok (.aload_n 0, 1) := by decide +kernel
theorem dX2_replay_18 : decode cX2_replay 18 = .ok (.aload_n 0, 1) := by decide +kernel
theorem dX2_replay_19 : decode cX2_replay 19 = .ok (.getfield 12, 3) := by decide +kernel
theorem dX2_replay_22 : decode cX2_replay 22 = .ok (.iload_n 1, 1) := by decide +kernel
theorem dX2_replay_23 : decode cX2_replay 23 = .ok (.invokevirtual 65, 3) := by decide +kernel
theorem dX2_replay_26 : decode cX2_replay 26 = .ok (.invokevirtual 69, 3) := by decide +kernel
theorem dX2_replay_29 : decode cX2_replay 29 = .ok (.iinc 1 1, 3) := by decide +kernel
theorem dX2_replay_32 : decode cX2_replay 32 = .ok (.goto (-26), 3) := by decide +kernel
theorem dX2_replay_35 : decode cX2_replay 35 = .ok (.return_, 1) := by decide +kernel
def fX2_replay_l6 (p0 : Nat) (K : Int32 → xMem → Option (xMem)) : Nat → Int32 → xMem → Option (xMem)
  | 0, _, _ => none
  | n + 1, v1, M => if (M.1 (xrf p0 0) 2) ≤ v1 then (K v1 M) else (xBn (fX9_lineAt (xrf p0 0) v1 M) fun r2 M3 => xBv (fX2_apply p0 r2 M3) fun M4 => xLt (v1 + nI 1) fun x5 => fX2_replay_l6 p0 K n x5 M4)
def fX2_replay (a0 : Nat) (M : xMem) : Option (xMem) :=
  xBv (fX2_begin a0 M) fun M1 => fX2_replay_l6 a0 (fun (v6 : Int32) (M7 : xMem) => some M7) xFU (nI 0) M1
set_option maxRecDepth 100000 in
set_option maxHeartbeats 4000000 in
theorem lX2_replay_6 {X : xCX} {M' : xMem} (C : xCk X cX2_replay RX2 7) (R0 : xRk X none (none, M')) (hnL : X.2.2.2.2.2.2.2.2.2.2.2.2.2 = 2) (p0 : Nat) (hp0 : xkd p0 = 2) (K : Int32 → xMem → Option (xMem)) (hK : ∀ (v1 : Int32) (M : xMem), K v1 M = some M' → WW X 35 [some (vr X.1 p0), some (.int v1)] [] M) : ∀ (n : Nat) (v1 : Int32) (M : xMem), fX2_replay_l6 p0 K n v1 M = some M' → WW X 6 [some (vr X.1 p0), some (.int v1)] [] M := by
  have hn1 : 1 < X.2.2.2.2.2.2.2.2.2.2.2.2.2 := by rw [hnL]; decide
  intro n
  induction n with
  | zero =>
    intro v1 M h
    cases (show (none : Option (xMem)) = some M' from h)
  | succ n ih =>
    intro v1 M h
    rw [fX2_replay_l6.eq_2] at h
    refine r_iload_n (pc := 6) C dX2_replay_6 rfl rfl ?_
    refine r_aload_n (pc := 7) C dX2_replay_7 rfl rfl ?_
    refine r_getR (pc := 8) C kX2_12 hp0 (by decide) dX2_replay_8 ?_
    refine r_getI (pc := 11) C kX2_61 (xtk hp0 (by decide) rfl rfl) dX2_replay_11 ?_
    refine r_icmp_ge (pc := 14) (tgt := 35) C dX2_replay_14 (by decide) h (fun _ h => ?_) (fun _ h => ?_)
    · exact hK v1 M h
    · refine r_aload_n (pc := 17) C dX2_replay_17 rfl rfl ?_
      refine r_aload_n (pc := 18) C dX2_replay_18 rfl rfl ?_
      refine r_getR (pc := 19) C kX2_12 hp0 (by decide) dX2_replay_19 ?_
      refine r_iload_n (pc := 22) C dX2_replay_22 rfl rfl ?_
      refine r_vL1 (pc := 23) C (fun r M' e => zX9_lineAt X.1 (xrf p0 0) (xtk hp0 (by decide) rfl rfl) v1 M r M' e) (xtk hp0 (by decide) rfl rfl) (by decide) rfl mX9_lineAt lX2_65 (by decide) (Nat.le_of_ble_eq_true rfl) dX2_replay_23 h (fun r2 M3 h => ?_)
      refine r_vV1 (pc := 26) C (fun M' e => zX2_apply X.1 p0 hp0 r2 M3 M' e) hp0 (by decide) rfl mX2_apply lX2_69 (by decide) (Nat.le_of_ble_eq_true rfl) dX2_replay_26 h (fun M4 h => ?_)
      refine r_iincL (pc := 29) (c := nI 1) C dX2_replay_29 rfl (by decide) hn1 h (fun x5 h => ?_)
      refine r_lvE (lv' := [_, _]) rfl ?_
      refine r_goto (pc := 32) (tgt := 6) C dX2_replay_32 (by decide) ?_
      exact ih x5 M4 h
set_option maxRecDepth 100000 in
set_option maxHeartbeats 4000000 in
theorem zX2_replay (G : xGX) (a0 : Nat) (h0 : xkd a0 = 2) (M : xMem) (M' : xMem) (h : fX2_replay a0 M = some M') : xCt G yX2_replay cX2_replay 2 none 7 [vr G a0] M (none, M') := by
  refine xMet (lv := [some (vr G a0), none]) (by decide) (Nat.le_of_ble_eq_true rfl) rfl ?_
  intro X hG hnL C R0
  subst hG
  have C : xCk X cX2_replay RX2 7 := C
  have hn1 : 1 < X.2.2.2.2.2.2.2.2.2.2.2.2.2 := by rw [hnL]; decide
  unfold fX2_replay at h
  refine r_aload_n (pc := 0) C dX2_replay_0 rfl rfl ?_
  refine r_vV0 (pc := 1) C (fun M' e => zX2_begin X.1 a0 h0 M M' e) h0 (by decide) rfl mX2_begin lX2_59 (by decide) (Nat.le_of_ble_eq_true rfl) dX2_replay_1 h (fun M1 h => ?_)
  refine r_iconst (pc := 4) (v := (nI 0)) C dX2_replay_4 (by decide) ?_
  refine r_istore_n (pc := 5) (lv' := [_, _]) C dX2_replay_5 rfl hn1 rfl ?_
  refine lX2_replay_6 C R0 hnL a0 h0 _ (fun v6 M7 h => ?_) _ _ _ h
  exact r_vret (pc := 35) C R0 h dX2_replay_35
theorem dX2_hasRoomForRaid_0 : decode cX2_hasRoomForRaid 0 = .ok (.aload_n 0, 1) := by decide +kernel
theorem dX2_hasRoomForRaid_1 : decode cX2_hasRoomForRaid 1 = .ok (.getfield 28, 3) := by decide +kernel
theorem dX2_hasRoomForRaid_4 : decode cX2_hasRoomForRaid 4 = .ok (.getfield 73, 3) := by decide +kernel
theorem dX2_hasRoomForRaid_7 : decode cX2_hasRoomForRaid 7 = .ok (.sipush 200, 3) := by decide +kernel
theorem dX2_hasRoomForRaid_10 : decode cX2_hasRoomForRaid 10 = .ok (.if_icmp .ge 7, 3) := by decide +kernel
theorem dX2_hasRoomForRaid_13 : decode cX2_hasRoomForRaid 13 = .ok (.iconst 1, 1) := by decide +kernel
theorem dX2_hasRoomForRaid_14 : decode cX2_hasRoomForRaid 14 = .ok (.goto 4, 3) := by decide +kernel
theorem dX2_hasRoomForRaid_17 : decode cX2_hasRoomForRaid 17 = .ok (.iconst 0, 1) := by decide +kernel
theorem dX2_hasRoomForRaid_18 : decode cX2_hasRoomForRaid 18 = .ok (.ireturn, 1) := by decide +kernel
def fX2_hasRoomForRaid (a0 : Nat) (M : xMem) : Option (Int32 × xMem) :=
  if (nI 200) ≤ (M.1 (xrf a0 2) 5) then (some ((nI 0), M)) else (some ((nI 1), M))
set_option maxRecDepth 100000 in
set_option maxHeartbeats 4000000 in
theorem zX2_hasRoomForRaid (G : xGX) (a0 : Nat) (h0 : xkd a0 = 2) (M : xMem) (r : Int32) (M' : xMem) (h : fX2_hasRoomForRaid a0 M = some (r, M')) : xCt G yX2_hasRoomForRaid cX2_hasRoomForRaid 1 (some .boolean) 1 [vr G a0] M (some (.int r), M') := by
  refine xMet (lv := [some (vr G a0)]) (by decide) (Nat.le_of_ble_eq_true rfl) rfl ?_
  intro X hG hnL C R0
  subst hG
  have C : xCk X cX2_hasRoomForRaid RX2 1 := C
  unfold fX2_hasRoomForRaid at h
  refine r_aload_n (pc := 0) C dX2_hasRoomForRaid_0 rfl rfl ?_
  refine r_getR (pc := 1) C kX2_28 h0 (by decide) dX2_hasRoomForRaid_1 ?_
  refine r_getI (pc := 4) C kX2_73 (xtk h0 (by decide) rfl rfl) dX2_hasRoomForRaid_4 ?_
  refine r_sipush (pc := 7) (v := (nI 200)) C dX2_hasRoomForRaid_7 (by decide) ?_
  refine r_icmp_ge (pc := 10) (tgt := 17) C dX2_hasRoomForRaid_10 (by decide) h (fun _ h => ?_) (fun _ h => ?_)
  · refine r_iconst (pc := 17) (v := (nI 0)) C dX2_hasRoomForRaid_17 (by decide) ?_
    exact r_zret (pc := 18) (Or.inl (by decide)) C R0 h dX2_hasRoomForRaid_18
  · refine r_iconst (pc := 13) (v := (nI 1)) C dX2_hasRoomForRaid_13 (by decide) ?_
    refine r_goto (pc := 14) (tgt := 18) C dX2_hasRoomForRaid_14 (by decide) ?_
    exact r_zret (pc := 18) (Or.inr (by decide)) C R0 h dX2_hasRoomForRaid_18
theorem dX2_hasRoomForOther_0 : decode cX2_hasRoomForOther 0 = .ok (.aload_n 0, 1) := by decide +kernel
theorem dX2_hasRoomForOther_1 : decode cX2_hasRoomForOther 1 = .ok (.getfield 21, 3) := by decide +kernel
theorem dX2_hasRoomForOther_4 : decode cX2_hasRoomForOther 4 = .ok (.getfield 76, 3) := by decide +kernel
theorem dX2_hasRoomForOther_7 : decode cX2_hasRoomForOther 7 = .ok (.bipush 40, 2) := by decide +kernel
theorem dX2_hasRoomForOther_9 : decode cX2_hasRoomForOther 9 = .ok (.if_icmp .ge 7, 3) := by decide +kernel
theorem dX2_hasRoomForOther_12 : decode cX2_hasRoomForOther 12 = .ok (.iconst 1, 1) := by decide +kernel
theorem dX2_hasRoomForOther_13 : decode cX2_hasRoomForOther 13 = .ok (.goto 4, 3) := by decide +kernel
theorem dX2_hasRoomForOther_16 : decode cX2_hasRoomForOther 16 = .ok (.iconst 0, 1) := by decide +kernel
theorem dX2_hasRoomForOther_17 : decode cX2_hasRoomForOther 17 = .ok (.ireturn, 1) := by decide +kernel
def fX2_hasRoomForOther (a0 : Nat) (M : xMem) : Option (Int32 × xMem) :=
  if (nI 40) ≤ (M.1 (xrf a0 1) 3) then (some ((nI 0), M)) else (some ((nI 1), M))
set_option maxRecDepth 100000 in
set_option maxHeartbeats 4000000 in
theorem zX2_hasRoomForOther (G : xGX) (a0 : Nat) (h0 : xkd a0 = 2) (M : xMem) (r : Int32) (M' : xMem) (h : fX2_hasRoomForOther a0 M = some (r, M')) : xCt G yX2_hasRoomForOther cX2_hasRoomForOther 1 (some .boolean) 1 [vr G a0] M (some (.int r), M') := by
  refine xMet (lv := [some (vr G a0)]) (by decide) (Nat.le_of_ble_eq_true rfl) rfl ?_
  intro X hG hnL C R0
  subst hG
  have C : xCk X cX2_hasRoomForOther RX2 1 := C
  unfold fX2_hasRoomForOther at h
  refine r_aload_n (pc := 0) C dX2_hasRoomForOther_0 rfl rfl ?_
  refine r_getR (pc := 1) C kX2_21 h0 (by decide) dX2_hasRoomForOther_1 ?_
  refine r_getI (pc := 4) C kX2_76 (xtk h0 (by decide) rfl rfl) dX2_hasRoomForOther_4 ?_
  refine r_bipush (pc := 7) (v := (nI 40)) C dX2_hasRoomForOther_7 (by decide) ?_
  refine r_icmp_ge (pc := 9) (tgt := 16) C dX2_hasRoomForOther_9 (by decide) h (fun _ h => ?_) (fun _ h => ?_)
  · refine r_iconst (pc := 16) (v := (nI 0)) C dX2_hasRoomForOther_16 (by decide) ?_
    exact r_zret (pc := 17) (Or.inl (by decide)) C R0 h dX2_hasRoomForOther_17
  · refine r_iconst (pc := 12) (v := (nI 1)) C dX2_hasRoomForOther_12 (by decide) ?_
    refine r_goto (pc := 13) (tgt := 17) C dX2_hasRoomForOther_13 (by decide) ?_
    exact r_zret (pc := 17) (Or.inr (by decide)) C R0 h dX2_hasRoomForOther_17
theorem dX2_tallyOf_0 : decode cX2_tallyOf 0 = .ok (.iload_n 3, 1) := by decide +kernel
theorem dX2_tallyOf_1 : decode cX2_tallyOf 1 = .ok (.bipush 7, 2) := by decide +kernel
theorem dX2_tallyOf_3 : decode cX2_tallyOf 3 = .ok (.if_icmp .ne 18, 3) := by decide +kernel
theorem dX2_tallyOf_6 : decode cX2_tallyOf 6 = .ok (.aload_n 0, 1) := by decide +kernel
theorem dX2_tallyOf_7 : decode cX2_tallyOf 7 = .ok (.getfield 21, 3) := by decide +kernel
theorem dX2_tallyOf_10 : decode cX2_tallyOf 10 = .ok (.getfield 129, 3) := by decide +kernel
theorem dX2_tallyOf_13 : decode cX2_tallyOf 13 = .ok (.iload_n 1, 1) := by decide +kernel
theorem dX2_tallyOf_14 : decode cX2_tallyOf 14 = .ok (.aaload, 1) := by decide +kernel
theorem dX2_tallyOf_15 : decode cX2_tallyOf 15 = .ok (.getfield 142, 3) := by decide +kernel
theorem dX2_tallyOf_18 : decode cX2_tallyOf 18 = .ok (.iload_n 2, 1) := by decide +kernel
theorem dX2_tallyOf_19 : decode cX2_tallyOf 19 = .ok (.iaload, 1) := by decide +kernel
theorem dX2_tallyOf_20 : decode cX2_tallyOf 20 = .ok (.ireturn, 1) := by decide +kernel
theorem dX2_tallyOf_21 : decode cX2_tallyOf 21 = .ok (.aload_n 0, 1) := by decide +kernel
theorem dX2_tallyOf_22 : decode cX2_tallyOf 22 = .ok (.getfield 28, 3) := by decide +kernel
theorem dX2_tallyOf_25 : decode cX2_tallyOf 25 = .ok (.iload_n 1, 1) := by decide +kernel
theorem dX2_tallyOf_26 : decode cX2_tallyOf 26 = .ok (.iload_n 2, 1) := by decide +kernel
theorem dX2_tallyOf_27 : decode cX2_tallyOf 27 = .ok (.iload_n 3, 1) := by decide +kernel
theorem dX2_tallyOf_28 : decode cX2_tallyOf 28 = .ok (.invokevirtual 146, 3) := by decide +kernel
theorem dX2_tallyOf_31 : decode cX2_tallyOf 31 = .ok (.ireturn, 1) := by decide +kernel
def fX2_tallyOf (a0 : Nat) (a1 : Int32) (a2 : Int32) (a3 : Int32) (M : xMem) : Option (Int32 × xMem) :=
  if a3 = (nI 7) then (xGb a1 (xln (xrf (xrf a0 1) 0)) (xGb a2 (xln (xrf (xrf (xrf (xrf a0 1) 0) (Int32.toNatClampNeg a1)) 2)) (some ((M.1 (xrf (xrf (xrf (xrf a0 1) 0) (Int32.toNatClampNeg a1)) 2) (Int32.toNatClampNeg a2)), M)))) else (xBn (fX1_tallyAt (xrf a0 2) a1 a2 a3 M) fun r1 M2 => some (r1, M2))
set_option maxRecDepth 100000 in
set_option maxHeartbeats 4000000 in
theorem zX2_tallyOf (G : xGX) (a0 : Nat) (h0 : xkd a0 = 2) (a1 : Int32) (a2 : Int32) (a3 : Int32) (M : xMem) (r : Int32) (M' : xMem) (h : fX2_tallyOf a0 a1 a2 a3 M = some (r, M')) : xCt G yX2_tallyOf cX2_tallyOf 4 (some .int) 2 [vr G a0, .int a1, .int a2, .int a3] M (some (.int r), M') := by
  refine xMet (lv := [some (vr G a0), some (.int a1), some (.int a2), some (.int a3)]) (by decide) (Nat.le_of_ble_eq_true rfl) rfl ?_
  intro X hG hnL C R0
  subst hG
  have C : xCk X cX2_tallyOf RX2 2 := C
  unfold fX2_tallyOf at h
  refine r_iload_n (pc := 0) C dX2_tallyOf_0 rfl rfl ?_
  refine r_bipush (pc := 1) (v := (nI 7)) C dX2_tallyOf_1 (by decide) ?_
  refine r_icmp_ne (pc := 3) (tgt := 21) C dX2_tallyOf_3 (by decide) h (fun _ h => ?_) (fun _ h => ?_)
  · refine r_aload_n (pc := 21) C dX2_tallyOf_21 rfl rfl ?_
    refine r_getR (pc := 22) C kX2_28 h0 (by decide) dX2_tallyOf_22 ?_
    refine r_iload_n (pc := 25) C dX2_tallyOf_25 rfl rfl ?_
    refine r_iload_n (pc := 26) C dX2_tallyOf_26 rfl rfl ?_
    refine r_iload_n (pc := 27) C dX2_tallyOf_27 rfl rfl ?_
    refine r_vI3 (pc := 28) C (fun r M' e => zX1_tallyAt X.1 (xrf a0 2) (xtk h0 (by decide) rfl rfl) a1 a2 a3 M r M' e) (xtk h0 (by decide) rfl rfl) (by decide) rfl mX1_tallyAt lX2_146 (by decide) (Nat.le_of_ble_eq_true rfl) dX2_tallyOf_28 h (fun r1 M2 h => ?_)
    exact r_iret (pc := 31) C R0 h dX2_tallyOf_31
  · refine r_aload_n (pc := 6) C dX2_tallyOf_6 rfl rfl ?_
    refine r_getR (pc := 7) C kX2_21 h0 (by decide) dX2_tallyOf_7 ?_
    refine r_getR (pc := 10) C kX2_129 (xtk h0 (by decide) rfl rfl) (by decide) dX2_tallyOf_10 ?_
    refine r_iload_n (pc := 13) C dX2_tallyOf_13 rfl rfl ?_
    obtain ⟨g3, h⟩ := xGb_of h
    refine r_aaldS (pc := 14) C (xtk (xtk h0 (by decide) rfl rfl) (by decide) rfl rfl) g3 dX2_tallyOf_14 ?_
    refine r_getR (pc := 15) C kX2_142 (xkeS (xtk (xtk h0 (by decide) rfl rfl) (by decide) rfl rfl) (xin_lt g3)) (by decide) dX2_tallyOf_15 ?_
    refine r_iload_n (pc := 18) C dX2_tallyOf_18 rfl rfl ?_
    obtain ⟨g4, h⟩ := xGb_of h
    refine r_iald (pc := 19) C (xtk (xkeS (xtk (xtk h0 (by decide) rfl rfl) (by decide) rfl rfl) (xin_lt g3)) (by decide) rfl rfl) g4 dX2_tallyOf_19 ?_
    exact r_iret (pc := 20) C R0 h dX2_tallyOf_20
theorem dX2_hasNumber_0 : decode cX2_hasNumber 0 = .ok (.iload_n 1, 1) := by decide +kernel
theorem dX2_hasNumber_1 : decode cX2_hasNumber 1 = .ok (.bipush 10, 2) := by decide +kernel
theorem dX2_hasNumber_3 : decode cX2_hasNumber 3 = .ok (.irem, 1) := by decide +kernel
theorem dX2_hasNumber_4 : decode cX2_hasNumber 4 = .ok (.aload_n 0, 1) := by decide +kernel
theorem dX2_hasNumber_5 : decode cX2_hasNumber 5 = .ok (.getfield 12, 3) := by decide +kernel
theorem dX2_hasNumber_8 : decode cX2_hasNumber 8 = .ok (.getfield 42, 3) := by decide +kernel
theorem dX2_hasNumber_11 : decode cX2_hasNumber 11 = .ok (.iload_n 1, 1) := by decide +kernel
theorem dX2_hasNumber_12 : decode cX2_hasNumber 12 = .ok (.bipush 10, 2) := by decide +kernel
theorem dX2_hasNumber_14 : decode cX2_hasNumber 14 = .ok (.idiv, 1) := by decide +kernel
theorem dX2_hasNumber_15 : decode cX2_hasNumber 15 = .ok (.invokevirtual 46, 3) := by decide +kernel
theorem dX2_hasNumber_18 : decode cX2_hasNumber 18 = .ok (.if_icmp .ge 7, 3) := by decide +kernel
theorem dX2_hasNumber_21 : decode cX2_hasNumber 21 = .ok (.iconst 1, 1) := by decide +kernel
theorem dX2_hasNumber_22 : decode cX2_hasNumber 22 = .ok (.goto 4, 3) := by decide +kernel
theorem dX2_hasNumber_25 : decode cX2_hasNumber 25 = .ok (.iconst 0, 1) := by decide +kernel
theorem dX2_hasNumber_26 : decode cX2_hasNumber 26 = .ok (.ireturn, 1) := by decide +kernel
def fX2_hasNumber (a0 : Nat) (a1 : Int32) (M : xMem) : Option (Int32 × xMem) :=
  xBn (fX5_sizeOf (xrf (xrf a0 0) 0) (a1 / (nI 10)) M) fun r1 M2 => if r1 ≤ (a1 - a1 / (nI 10) * (nI 10)) then (some ((nI 0), M2)) else (some ((nI 1), M2))
set_option maxRecDepth 100000 in
set_option maxHeartbeats 4000000 in
theorem zX2_hasNumber (G : xGX) (a0 : Nat) (h0 : xkd a0 = 2) (a1 : Int32) (M : xMem) (r : Int32) (M' : xMem) (h : fX2_hasNumber a0 a1 M = some (r, M')) : xCt G yX2_hasNumber cX2_hasNumber 2 (some .boolean) 2 [vr G a0, .int a1] M (some (.int r), M') := by
  refine xMet (lv := [some (vr G a0), some (.int a1)]) (by decide) (Nat.le_of_ble_eq_true rfl) rfl ?_
  intro X hG hnL C R0
  subst hG
  have C : xCk X cX2_hasNumber RX2 2 := C
  unfold fX2_hasNumber at h
  refine r_iload_n (pc := 0) C dX2_hasNumber_0 rfl rfl ?_
  refine r_bipush (pc := 1) (v := (nI 10)) C dX2_hasNumber_1 (by decide) ?_
  refine r_irem (pc := 3) C (by decide) dX2_hasNumber_3 ?_
  refine r_aload_n (pc := 4) C dX2_hasNumber_4 rfl rfl ?_
  refine r_getR (pc := 5) C kX2_12 h0 (by decide) dX2_hasNumber_5 ?_
  refine r_getR (pc := 8) C kX2_42 (xtk h0 (by decide) rfl rfl) (by decide) dX2_hasNumber_8 ?_
  refine r_iload_n (pc := 11) C dX2_hasNumber_11 rfl rfl ?_
  refine r_bipush (pc := 12) (v := (nI 10)) C dX2_hasNumber_12 (by decide) ?_
  refine r_idiv (pc := 14) C (by decide) dX2_hasNumber_14 ?_
  refine r_vI1 (pc := 15) C (fun r M' e => zX5_sizeOf X.1 (xrf (xrf a0 0) 0) (xtk (xtk h0 (by decide) rfl rfl) (by decide) rfl rfl) (a1 / (nI 10)) M r M' e) (xtk (xtk h0 (by decide) rfl rfl) (by decide) rfl rfl) (by decide) rfl mX5_sizeOf lX2_46 (by decide) (Nat.le_of_ble_eq_true rfl) dX2_hasNumber_15 h (fun r1 M2 h => ?_)
  refine r_icmp_ge (pc := 18) (tgt := 25) C dX2_hasNumber_18 (by decide) h (fun _ h => ?_) (fun _ h => ?_)
  · refine r_iconst (pc := 25) (v := (nI 0)) C dX2_hasNumber_25 (by decide) ?_
    exact r_zret (pc := 26) (Or.inl (by decide)) C R0 h dX2_hasNumber_26
  · refine r_iconst (pc := 21) (v := (nI 1)) C dX2_hasNumber_21 (by decide) ?_
    refine r_goto (pc := 22) (tgt := 26) C dX2_hasNumber_22 (by decide) ?_
    exact r_zret (pc := 26) (Or.inr (by decide)) C R0 h dX2_hasNumber_26
theorem dX2_aheadOf_0 : decode cX2_aheadOf 0 = .ok (.iconst 0, 1) := by decide +kernel
theorem dX2_aheadOf_1 : decode cX2_aheadOf 1 = .ok (.istore_n 3, 1) := by decide +kernel
theorem dX2_aheadOf_2 : decode cX2_aheadOf 2 = .ok (.aload_n 0, 1) := by decide +kernel
theorem dX2_aheadOf_3 : decode cX2_aheadOf 3 = .ok (.getfield 28, 3) := by decide +kernel
theorem dX2_aheadOf_6 : decode cX2_aheadOf 6 = .ok (.iload_n 1, 1) := by decide +kernel
theorem dX2_aheadOf_7 : decode cX2_aheadOf 7 = .ok (.bipush 10, 2) := by decide +kernel
theorem dX2_aheadOf_9 : decode cX2_aheadOf 9 = .ok (.idiv, 1) := by decide +kernel
theorem dX2_aheadOf_10 : decode cX2_aheadOf 10 = .ok (.iload_n 1, 1) := by decide +kernel
theorem dX2_aheadOf_11 : decode cX2_aheadOf 11 = .ok (.bipush 10, 2) := by decide +kernel
theorem dX2_aheadOf_13 : decode cX2_aheadOf 13 = .ok (.irem, 1) := by decide +kernel
theorem dX2_aheadOf_14 : decode cX2_aheadOf 14 = .ok (.iload_n 2, 1) := by decide +kernel
theorem dX2_aheadOf_15 : decode cX2_aheadOf 15 = .ok (.invokevirtual 146, 3) := by decide +kernel
theorem dX2_aheadOf_18 : decode cX2_aheadOf 18 = .ok (.istore 4, 2) := by decide +kernel
theorem dX2_aheadOf_20 : decode cX2_aheadOf 20 = .ok (.iconst 0, 1) := by decide +kernel
theorem dX2_aheadOf_21 : decode cX2_aheadOf 21 = .ok (.istore 5, 2) := by decide +kernel
theorem dX2_aheadOf_23 : decode cX2_aheadOf 23 = .ok (.iload 5, 2) := by decide +kernel
theorem dX2_aheadOf_25 : decode cX2_aheadOf 25 = .ok (.bipush 20, 2) := by decide +kernel
theorem dX2_aheadOf_27 : decode cX2_aheadOf 27 = .ok (.if_icmp .ge 78, 3) := by decide +kernel
theorem dX2_aheadOf_30 : decode cX2_aheadOf 30 = .ok (.aload_n 0, 1) := by decide +kernel
theorem dX2_aheadOf_31 : decode cX2_aheadOf 31 = .ok (.getfield 28, 3) := by decide +kernel
theorem dX2_aheadOf_34 : decode cX2_aheadOf 34 = .ok (.iload 5, 2) := by decide +kernel
theorem dX2_aheadOf_36 : decode cX2_aheadOf 36 = .ok (.bipush 10, 2) := by decide +kernel
theorem dX2_aheadOf_38 : decode cX2_aheadOf 38 = .ok (.idiv, 1) := by decide +kernel
theorem dX2_aheadOf_39 : decode cX2_aheadOf 39 = .ok (.iload 5, 2) := by decide +kernel
theorem dX2_aheadOf_41 : decode cX2_aheadOf 41 = .ok (.bipush 10, 2) := by decide +kernel
theorem dX2_aheadOf_43 : decode cX2_aheadOf 43 = .ok (.irem, 1) := by decide +kernel
theorem dX2_aheadOf_44 : decode cX2_aheadOf 44 = .ok (.iload_n 2, 1) := by decide +kernel
theorem dX2_aheadOf_45 : decode cX2_aheadOf 45 = .ok (.invokevirtual 146, 3) := by decide +kernel
theorem dX2_aheadOf_48 : decode cX2_aheadOf 48 = .ok (.istore 6, 2) := by decide +kernel
theorem dX2_aheadOf_50 : decode cX2_aheadOf 50 = .ok (.iload 6, 2) := by decide +kernel
theorem dX2_aheadOf_52 : decode cX2_aheadOf 52 = .ok (.iload 4, 2) := by decide +kernel
theorem dX2_aheadOf_54 : decode cX2_aheadOf 54 = .ok (.if_icmp .gt 16, 3) := by decide +kernel
theorem dX2_aheadOf_57 : decode cX2_aheadOf 57 = .ok (.iload 6, 2) := by decide +kernel
theorem dX2_aheadOf_59 : decode cX2_aheadOf 59 = .ok (.iload 4, 2) := by decide +kernel
theorem dX2_aheadOf_61 : decode cX2_aheadOf 61 = .ok (.if_icmp .ne 13, 3) := by decide +kernel
theorem dX2_aheadOf_64 : decode cX2_aheadOf 64 = .ok (.iload 5, 2) := by decide +kernel
theorem dX2_aheadOf_66 : decode cX2_aheadOf 66 = .ok (.iload_n 1, 1) := by decide +kernel
theorem dX2_aheadOf_67 : decode cX2_aheadOf 67 = .ok (.if_icmp .ge 7, 3) := by decide +kernel
theorem dX2_aheadOf_70 : decode cX2_aheadOf 70 = .ok (.iconst 1, 1) := by decide +kernel
theorem dX2_aheadOf_71 : decode cX2_aheadOf 71 = .ok (.goto 4, 3) := by decide +kernel
theorem dX2_aheadOf_74 : decode cX2_aheadOf 74 = .ok (.iconst 0, 1) := by decide +kernel
theorem dX2_aheadOf_75 : decode cX2_aheadOf 75 = .ok (.istore 7, 2) := by decide +kernel
theorem dX2_aheadOf_77 : decode cX2_aheadOf 77 = .ok (.iload_n 3, 1) := by decide +kernel
theorem dX2_aheadOf_78 : decode cX2_aheadOf 78 = .ok (.aload_n 0, 1) := by decide +kernel
theorem dX2_aheadOf_79 : decode cX2_aheadOf 79 = .ok (.iload 5, 2) := by decide +kernel
theorem dX2_aheadOf_81 : decode cX2_aheadOf 81 = .ok (.invokevirtual 150, 3) := by decide +kernel
theorem dX2_aheadOf_84 : decode cX2_aheadOf 84 = .ok (.ifCond .eq 12, 3) := by decide +kernel
theorem dX2_aheadOf_87 : decode cX2_aheadOf 87 = .ok (.iload 7, 2) := by decide +kernel
theorem dX2_aheadOf_89 : decode cX2_aheadOf 89 = .ok (.ifCond .eq 7, 3) := by decide +kernel
theorem dX2_aheadOf_92 : decode cX2_aheadOf 92 = .ok (.iconst 1, 1) := by decide +kernel
theorem dX2_aheadOf_93 : decode cX2_aheadOf 93 = .ok (.goto 4, 3) := by decide +kernel
theorem dX2_aheadOf_96 : decode cX2_aheadOf 96 = .ok (.iconst 0, 1) := by decide +kernel
theorem dX2_aheadOf_97 : decode cX2_aheadOf 97 = .ok (.iadd, 1) := by decide +kernel
theorem dX2_aheadOf_98 : decode cX2_aheadOf 98 = .ok (.istore_n 3, 1) := by decide +kernel
theorem dX2_aheadOf_99 : decode cX2_aheadOf 99 = .ok (.iinc 5 1, 3) := by decide +kernel
theorem dX2_aheadOf_102 : decode cX2_aheadOf 102 = .ok (.goto (-79), 3) := by decide +kernel
theorem dX2_aheadOf_105 : decode cX2_aheadOf 105 = .ok (.iload_n 3, 1) := by decide +kernel
theorem dX2_aheadOf_106 : decode cX2_aheadOf 106 = .ok (.ireturn, 1) := by decide +kernel
def fX2_aheadOf_l23 (p0 : Nat) (p1 : Int32) (p2 : Int32) (p4 : Int32) (K : Int32 → Int32 → xMem → Option (Int32 × xMem)) : Nat → Int32 → Int32 → xMem → Option (Int32 × xMem)
  | 0, _, _, _ => none
  | n + 1, v3, v5, M => if (nI 20) ≤ v5 then (K v3 v5 M) else (xBn (fX1_tallyAt (xrf p0 2) (v5 / (nI 10)) (v5 - v5 / (nI 10) * (nI 10)) p2 M) fun r3 M4 => xLt (fun (s5 : Int32) (M6 : xMem) => (xBn (fX2_hasNumber p0 v5 M6) fun r7 M8 => xLt (fun (s9 : Int32) (M10 : xMem) => (xLt (v3 + s9) fun x11 => xLt (v5 + nI 1) fun x12 => fX2_aheadOf_l23 p0 p1 p2 p4 K n x11 x12 M10 : Option (Int32 × xMem))) fun J97 => if r7 = 0 then (J97 (nI 0) M8) else (if s5 = 0 then (J97 (nI 0) M8) else (J97 (nI 1) M8)) : Option (Int32 × xMem))) fun J75 => if p4 < r3 then (J75 (nI 1) M4) else (if r3 = p4 then (if p1 ≤ v5 then (J75 (nI 0) M4) else (J75 (nI 1) M4)) else (J75 (nI 0) M4)))
def fX2_aheadOf (a0 : Nat) (a1 : Int32) (a2 : Int32) (M : xMem) : Option (Int32 × xMem) :=
  xBn (fX1_tallyAt (xrf a0 2) (a1 / (nI 10)) (a1 - a1 / (nI 10) * (nI 10)) a2 M) fun r1 M2 => fX2_aheadOf_l23 a0 a1 a2 r1 (fun (v13 : Int32) (v14 : Int32) (M15 : xMem) => some (v13, M15)) xFU (nI 0) (nI 0) M2
set_option maxRecDepth 100000 in
set_option maxHeartbeats 4000000 in
theorem lX2_aheadOf_23 {X : xCX} {r : Int32} {M' : xMem} (C : xCk X cX2_aheadOf RX2 3) (R0 : xRk X (some .int) (some (.int r), M')) (hnL : X.2.2.2.2.2.2.2.2.2.2.2.2.2 = 8) (p0 : Nat) (hp0 : xkd p0 = 2) (p1 : Int32) (p2 : Int32) (p4 : Int32) (K : Int32 → Int32 → xMem → Option (Int32 × xMem)) (hK : ∀ (v3 : Int32) (v5 : Int32) (M : xMem), K v3 v5 M = some (r, M') → WW X 105 [some (vr X.1 p0), some (.int p1), some (.int p2), some (.int v3), some (.int p4), some (.int v5), none, none] [] M) : ∀ (n : Nat) (v3 : Int32) (v5 : Int32) (M : xMem), fX2_aheadOf_l23 p0 p1 p2 p4 K n v3 v5 M = some (r, M') → WW X 23 [some (vr X.1 p0), some (.int p1), some (.int p2), some (.int v3), some (.int p4), some (.int v5), none, none] [] M := by
  have hn3 : 3 < X.2.2.2.2.2.2.2.2.2.2.2.2.2 := by rw [hnL]; decide
  have hn4 : 4 < X.2.2.2.2.2.2.2.2.2.2.2.2.2 := by rw [hnL]; decide
  have hn5 : 5 < X.2.2.2.2.2.2.2.2.2.2.2.2.2 := by rw [hnL]; decide
  have hn6 : 6 < X.2.2.2.2.2.2.2.2.2.2.2.2.2 := by rw [hnL]; decide
  have hn7 : 7 < X.2.2.2.2.2.2.2.2.2.2.2.2.2 := by rw [hnL]; decide
  intro n
  induction n with
  | zero =>
    intro v3 v5 M h
    cases (show (none : Option (Int32 × xMem)) = some (r, M') from h)
  | succ n ih =>
    intro v3 v5 M h
    rw [fX2_aheadOf_l23.eq_2] at h
    refine r_iload (pc := 23) C dX2_aheadOf_23 rfl ?_
    refine r_bipush (pc := 25) (v := (nI 20)) C dX2_aheadOf_25 (by decide) ?_
    refine r_icmp_ge (pc := 27) (tgt := 105) C dX2_aheadOf_27 (by decide) h (fun _ h => ?_) (fun _ h => ?_)
    · exact hK v3 v5 M h
    · refine r_aload_n (pc := 30) C dX2_aheadOf_30 rfl rfl ?_
      refine r_getR (pc := 31) C kX2_28 hp0 (by decide) dX2_aheadOf_31 ?_
      refine r_iload (pc := 34) C dX2_aheadOf_34 rfl ?_
      refine r_bipush (pc := 36) (v := (nI 10)) C dX2_aheadOf_36 (by decide) ?_
      refine r_idiv (pc := 38) C (by decide) dX2_aheadOf_38 ?_
      refine r_iload (pc := 39) C dX2_aheadOf_39 rfl ?_
      refine r_bipush (pc := 41) (v := (nI 10)) C dX2_aheadOf_41 (by decide) ?_
      refine r_irem (pc := 43) C (by decide) dX2_aheadOf_43 ?_
      refine r_iload_n (pc := 44) C dX2_aheadOf_44 rfl rfl ?_
      refine r_vI3 (pc := 45) C (fun r M' e => zX1_tallyAt X.1 (xrf p0 2) (xtk hp0 (by decide) rfl rfl) (v5 / (nI 10)) (v5 - v5 / (nI 10) * (nI 10)) p2 M r M' e) (xtk hp0 (by decide) rfl rfl) (by decide) rfl mX1_tallyAt lX2_146 (by decide) (Nat.le_of_ble_eq_true rfl) dX2_aheadOf_45 h (fun r3 M4 h => ?_)
      refine r_istore (pc := 48) (lv' := [_, _, _, _, _, _, _, _]) C dX2_aheadOf_48 hn6 rfl ?_
      refine r_iload (pc := 50) C dX2_aheadOf_50 rfl ?_
      refine r_iload (pc := 52) C dX2_aheadOf_52 rfl ?_
      refine r_jn (fun J => ∀ (s5 : Int32) (M6 : xMem) , J s5 M6 = some (r, M') → WW X 75 [some (vr X.1 p0), some (.int p1), some (.int p2), some (.int v3), some (.int p4), some (.int v5), some (.int r3), none] [.int s5] M6) h (fun s5 M6  h => ?_) (fun J75 hJ75 h => ?_)
      · refine r_istore (pc := 75) (lv' := [_, _, _, _, _, _, _, _]) C dX2_aheadOf_75 hn7 rfl ?_
        refine r_iload_n (pc := 77) C dX2_aheadOf_77 rfl rfl ?_
        refine r_aload_n (pc := 78) C dX2_aheadOf_78 rfl rfl ?_
        refine r_iload (pc := 79) C dX2_aheadOf_79 rfl ?_
        refine r_vI1 (pc := 81) C (fun r M' e => zX2_hasNumber X.1 p0 hp0 v5 M6 r M' e) hp0 (by decide) rfl mX2_hasNumber lX2_150 (by decide) (Nat.le_of_ble_eq_true rfl) dX2_aheadOf_81 h (fun r7 M8 h => ?_)
        refine r_jn (fun J => ∀ (s9 : Int32) (M10 : xMem) , J s9 M10 = some (r, M') → WW X 97 [some (vr X.1 p0), some (.int p1), some (.int p2), some (.int v3), some (.int p4), some (.int v5), some (.int r3), some (.int s5)] [.int s9, .int v3] M10) h (fun s9 M10  h => ?_) (fun J97 hJ97 h => ?_)
        · refine r_iadd (pc := 97) C dX2_aheadOf_97 ?_
          refine r_letI h (fun x11 h => ?_)
          refine r_istore_n (pc := 98) (lv' := [_, _, _, _, _, _, _, _]) C dX2_aheadOf_98 rfl hn3 rfl ?_
          refine r_iincL (pc := 99) (c := nI 1) C dX2_aheadOf_99 rfl (by decide) hn5 h (fun x12 h => ?_)
          refine r_lvE (lv' := [_, _, _, _, _, _, _, _]) rfl ?_
          refine r_goto (pc := 102) (tgt := 23) C dX2_aheadOf_102 (by decide) ?_
          exact r_lv (xle_at (xle_some rfl (xle_some rfl (xle_some rfl (xle_some rfl (xle_some rfl (xle_some rfl (xle_none (xle_none xle_nil))))))))) (ih x11 x12 M10 h)
        refine r_if_eq (pc := 84) (tgt := 96) C dX2_aheadOf_84 (by decide) h (fun _ h => ?_) (fun _ h => ?_)
        · refine r_iconst (pc := 96) (v := (nI 0)) C dX2_aheadOf_96 (by decide) ?_
          exact hJ97 (nI 0) M8  h
        · refine r_iload (pc := 87) C dX2_aheadOf_87 rfl ?_
          refine r_if_eq (pc := 89) (tgt := 96) C dX2_aheadOf_89 (by decide) h (fun _ h => ?_) (fun _ h => ?_)
          · refine r_iconst (pc := 96) (v := (nI 0)) C dX2_aheadOf_96 (by decide) ?_
            exact hJ97 (nI 0) M8  h
          · refine r_iconst (pc := 92) (v := (nI 1)) C dX2_aheadOf_92 (by decide) ?_
            refine r_goto (pc := 93) (tgt := 97) C dX2_aheadOf_93 (by decide) ?_
            exact hJ97 (nI 1) M8  h
      refine r_icmp_gt (pc := 54) (tgt := 70) C dX2_aheadOf_54 (by decide) h (fun _ h => ?_) (fun _ h => ?_)
      · refine r_iconst (pc := 70) (v := (nI 1)) C dX2_aheadOf_70 (by decide) ?_
        refine r_goto (pc := 71) (tgt := 75) C dX2_aheadOf_71 (by decide) ?_
        exact hJ75 (nI 1) M4  h
      · refine r_iload (pc := 57) C dX2_aheadOf_57 rfl ?_
        refine r_iload (pc := 59) C dX2_aheadOf_59 rfl ?_
        refine r_icmp_ne (pc := 61) (tgt := 74) C dX2_aheadOf_61 (by decide) h (fun _ h => ?_) (fun _ h => ?_)
        · refine r_iconst (pc := 74) (v := (nI 0)) C dX2_aheadOf_74 (by decide) ?_
          exact hJ75 (nI 0) M4  h
        · refine r_iload (pc := 64) C dX2_aheadOf_64 rfl ?_
          refine r_iload_n (pc := 66) C dX2_aheadOf_66 rfl rfl ?_
          refine r_icmp_ge (pc := 67) (tgt := 74) C dX2_aheadOf_67 (by decide) h (fun _ h => ?_) (fun _ h => ?_)
          · refine r_iconst (pc := 74) (v := (nI 0)) C dX2_aheadOf_74 (by decide) ?_
            exact hJ75 (nI 0) M4  h
          · refine r_iconst (pc := 70) (v := (nI 1)) C dX2_aheadOf_70 (by decide) ?_
            refine r_goto (pc := 71) (tgt := 75) C dX2_aheadOf_71 (by decide) ?_
            exact hJ75 (nI 1) M4  h
set_option maxRecDepth 100000 in
set_option maxHeartbeats 4000000 in
theorem zX2_aheadOf (G : xGX) (a0 : Nat) (h0 : xkd a0 = 2) (a1 : Int32) (a2 : Int32) (M : xMem) (r : Int32) (M' : xMem) (h : fX2_aheadOf a0 a1 a2 M = some (r, M')) : xCt G yX2_aheadOf cX2_aheadOf 8 (some .int) 3 [vr G a0, .int a1, .int a2] M (some (.int r), M') := by
  refine xMet (lv := [some (vr G a0), some (.int a1), some (.int a2), none, none, none, none, none]) (by decide) (Nat.le_of_ble_eq_true rfl) rfl ?_
  intro X hG hnL C R0
  subst hG
  have C : xCk X cX2_aheadOf RX2 3 := C
  have hn3 : 3 < X.2.2.2.2.2.2.2.2.2.2.2.2.2 := by rw [hnL]; decide
  have hn4 : 4 < X.2.2.2.2.2.2.2.2.2.2.2.2.2 := by rw [hnL]; decide
  have hn5 : 5 < X.2.2.2.2.2.2.2.2.2.2.2.2.2 := by rw [hnL]; decide
  have hn6 : 6 < X.2.2.2.2.2.2.2.2.2.2.2.2.2 := by rw [hnL]; decide
  have hn7 : 7 < X.2.2.2.2.2.2.2.2.2.2.2.2.2 := by rw [hnL]; decide
  unfold fX2_aheadOf at h
  refine r_iconst (pc := 0) (v := (nI 0)) C dX2_aheadOf_0 (by decide) ?_
  refine r_istore_n (pc := 1) (lv' := [_, _, _, _, _, _, _, _]) C dX2_aheadOf_1 rfl hn3 rfl ?_
  refine r_aload_n (pc := 2) C dX2_aheadOf_2 rfl rfl ?_
  refine r_getR (pc := 3) C kX2_28 h0 (by decide) dX2_aheadOf_3 ?_
  refine r_iload_n (pc := 6) C dX2_aheadOf_6 rfl rfl ?_
  refine r_bipush (pc := 7) (v := (nI 10)) C dX2_aheadOf_7 (by decide) ?_
  refine r_idiv (pc := 9) C (by decide) dX2_aheadOf_9 ?_
  refine r_iload_n (pc := 10) C dX2_aheadOf_10 rfl rfl ?_
  refine r_bipush (pc := 11) (v := (nI 10)) C dX2_aheadOf_11 (by decide) ?_
  refine r_irem (pc := 13) C (by decide) dX2_aheadOf_13 ?_
  refine r_iload_n (pc := 14) C dX2_aheadOf_14 rfl rfl ?_
  refine r_vI3 (pc := 15) C (fun r M' e => zX1_tallyAt X.1 (xrf a0 2) (xtk h0 (by decide) rfl rfl) (a1 / (nI 10)) (a1 - a1 / (nI 10) * (nI 10)) a2 M r M' e) (xtk h0 (by decide) rfl rfl) (by decide) rfl mX1_tallyAt lX2_146 (by decide) (Nat.le_of_ble_eq_true rfl) dX2_aheadOf_15 h (fun r1 M2 h => ?_)
  refine r_istore (pc := 18) (lv' := [_, _, _, _, _, _, _, _]) C dX2_aheadOf_18 hn4 rfl ?_
  refine r_iconst (pc := 20) (v := (nI 0)) C dX2_aheadOf_20 (by decide) ?_
  refine r_istore (pc := 21) (lv' := [_, _, _, _, _, _, _, _]) C dX2_aheadOf_21 hn5 rfl ?_
  refine lX2_aheadOf_23 C R0 hnL a0 h0 a1 a2 r1 _ (fun v13 v14 M15 h => ?_) _ _ _ _ h
  refine r_iload_n (pc := 105) C dX2_aheadOf_105 rfl rfl ?_
  exact r_iret (pc := 106) C R0 h dX2_aheadOf_106
theorem dX2_resultWord_0 : decode cX2_resultWord 0 = .ok (.iload_n 0, 1) := by decide +kernel
theorem dX2_resultWord_1 : decode cX2_resultWord 1 = .ok (.tableswitch 43 0 3 #[31, 34, 37, 40], 31) := by decide +kernel
theorem dX2_resultWord_32 : decode cX2_resultWord 32 = .ok (.ldc 204, 2) := by decide +kernel
theorem dX2_resultWord_34 : decode cX2_resultWord 34 = .ok (.areturn, 1) := by decide +kernel
theorem dX2_resultWord_35 : decode cX2_resultWord 35 = .ok (.ldc 206, 2) := by decide +kernel
theorem dX2_resultWord_37 : decode cX2_resultWord 37 = .ok (.areturn, 1) := by decide +kernel
theorem dX2_resultWord_38 : decode cX2_resultWord 38 = .ok (.ldc 202, 2) := by decide +kernel
theorem dX2_resultWord_40 : decode cX2_resultWord 40 = .ok (.areturn, 1) := by decide +kernel
theorem dX2_resultWord_41 : decode cX2_resultWord 41 = .ok (.ldc 208, 2) := by decide +kernel
theorem dX2_resultWord_43 : decode cX2_resultWord 43 = .ok (.areturn, 1) := by decide +kernel
theorem dX2_resultWord_44 : decode cX2_resultWord 44 = .ok (.ldc 210, 2) := by decide +kernel
theorem dX2_resultWord_46 : decode cX2_resultWord 46 = .ok (.areturn, 1) := by decide +kernel
def fX2_resultWord (a0 : Int32) (M : xMem) : Option (Nat × xMem) :=
  if a0 = nI 0 then (some (2, M)) else (if a0 = nI 1 then (some (3, M)) else (if a0 = nI 2 then (some (4, M)) else (if a0 = nI 3 then (some (5, M)) else (some (6, M)))))
set_option maxRecDepth 100000 in
set_option maxHeartbeats 4000000 in
theorem zX2_resultWord (G : xGX) (a0 : Int32) (M : xMem) (r : Nat) (M' : xMem) (h : fX2_resultWord a0 M = some (r, M')) : xCt G yX2_resultWord cX2_resultWord 1 (some (.object "java/lang/String")) 1 [.int a0] M (some (vs G r), M') := by
  refine xMet (lv := [some (.int a0)]) (by decide) (Nat.le_of_ble_eq_true rfl) rfl ?_
  intro X hG hnL C R0
  subst hG
  have C : xCk X cX2_resultWord RX2 1 := C
  unfold fX2_resultWord at h
  refine r_iload_n (pc := 0) C dX2_resultWord_0 rfl rfl ?_
  refine r_tb h (fun e1 h => ?_) (fun e1 h => ?_)
  · refine r_tabInE (pc := 1) (tgt := 32) e1 C dX2_resultWord_1 (by decide) (by decide) rfl (by decide) ?_
    refine r_ldcS (pc := 32) (i := 2) C (by decide) rfl dX2_resultWord_32 ?_
    exact r_sret (pc := 34) C R0 h dX2_resultWord_34
  refine r_tb h (fun e2 h => ?_) (fun e2 h => ?_)
  · refine r_tabInE (pc := 1) (tgt := 35) e2 C dX2_resultWord_1 (by decide) (by decide) rfl (by decide) ?_
    refine r_ldcS (pc := 35) (i := 3) C (by decide) rfl dX2_resultWord_35 ?_
    exact r_sret (pc := 37) C R0 h dX2_resultWord_37
  refine r_tb h (fun e3 h => ?_) (fun e3 h => ?_)
  · refine r_tabInE (pc := 1) (tgt := 38) e3 C dX2_resultWord_1 (by decide) (by decide) rfl (by decide) ?_
    refine r_ldcS (pc := 38) (i := 4) C (by decide) rfl dX2_resultWord_38 ?_
    exact r_sret (pc := 40) C R0 h dX2_resultWord_40
  refine r_tb h (fun e4 h => ?_) (fun e4 h => ?_)
  · refine r_tabInE (pc := 1) (tgt := 41) e4 C dX2_resultWord_1 (by decide) (by decide) rfl (by decide) ?_
    refine r_ldcS (pc := 41) (i := 5) C (by decide) rfl dX2_resultWord_41 ?_
    exact r_sret (pc := 43) C R0 h dX2_resultWord_43
  refine r_tabOut (pc := 1) (tgt := 44) C dX2_resultWord_1 (xtabout 0 3 (fun k hk hk2 => by rcases (show k = 0 ∨ k = 1 ∨ k = 2 ∨ k = 3 by omega) with rfl | rfl | rfl | rfl <;> assumption)) (by decide) ?_
  refine r_ldcS (pc := 44) (i := 6) C (by decide) rfl dX2_resultWord_44 ?_
  exact r_sret (pc := 46) C R0 h dX2_resultWord_46
theorem tX2_resultWord {a0 : Int32} {r : Nat} {M M' : xMem} (e : fX2_resultWord a0 M = some (r, M')) : r < 30 := by
  unfold fX2_resultWord at e
  repeat' (split at e)
  all_goals (cases e; decide)
theorem dX2_writeRaid_0 : decode cX2_writeRaid 0 = .ok (.aload_n 0, 1) := by decide +kernel
theorem dX2_writeRaid_1 : decode cX2_writeRaid 1 = .ok (.getfield 28, 3) := by decide +kernel
theorem dX2_writeRaid_4 : decode cX2_writeRaid 4 = .ok (.getfield 154, 3) := by decide +kernel
theorem dX2_writeRaid_7 : decode cX2_writeRaid 7 = .ok (.iconst 0, 1) := by decide +kernel
theorem dX2_writeRaid_8 : decode cX2_writeRaid 8 = .ok (.aaload, 1) := by decide +kernel
theorem dX2_writeRaid_9 : decode cX2_writeRaid 9 = .ok (.iload_n 1, 1) := by decide +kernel
theorem dX2_writeRaid_10 : decode cX2_writeRaid 10 = .ok (.iaload, 1) := by decide +kernel
theorem dX2_writeRaid_11 : decode cX2_writeRaid 11 = .ok (.istore_n 3, 1) := by decide +kernel
theorem dX2_writeRaid_12 : decode cX2_writeRaid 12 = .ok (.aload_n 0, 1) := by decide +kernel
theorem dX2_writeRaid_13 : decode cX2_writeRaid 13 = .ok (.getfield 38, 3) := by decide +kernel
theorem dX2_writeRaid_16 : decode cX2_writeRaid 16 = .ok (.aload_n 0, 1) := by decide +kernel
theorem dX2_writeRaid_17 : decode cX2_writeRaid 17 = .ok (.getfield 28, 3) := by decide +kernel
theorem dX2_writeRaid_20 : decode cX2_writeRaid 20 = .ok (.getfield 158, 3) := by decide +kernel
theorem dX2_writeRaid_23 : decode cX2_writeRaid 23 = .ok (.iload_n 1, 1) := by decide +kernel
theorem dX2_writeRaid_24 : decode cX2_writeRaid 24 = .ok (.laload, 1) := by decide +kernel
theorem dX2_writeRaid_25 : decode cX2_writeRaid 25 = .ok (.invokevirtual 100, 3) := by decide +kernel
theorem dX2_writeRaid_28 : decode cX2_writeRaid 28 = .ok (.aload_n 2, 1) := by decide +kernel
theorem dX2_writeRaid_29 : decode cX2_writeRaid 29 = .ok (.ldc 162, 2) := by decide +kernel
theorem dX2_writeRaid_31 : decode cX2_writeRaid 31 = .ok (.invokevirtual 164, 3) := by decide +kernel
theorem dX2_writeRaid_34 : decode cX2_writeRaid 34 = .ok (.aload_n 2, 1) := by decide +kernel
theorem dX2_writeRaid_35 : decode cX2_writeRaid 35 = .ok (.aload_n 0, 1) := by decide +kernel
theorem dX2_writeRaid_36 : decode cX2_writeRaid 36 = .ok (.getfield 12, 3) := by decide +kernel
theorem dX2_writeRaid_39 : decode cX2_writeRaid 39 = .ok (.getfield 42, 3) := by decide +kernel
theorem dX2_writeRaid_42 : decode cX2_writeRaid 42 = .ok (.iload_n 3, 1) := by decide +kernel
theorem dX2_writeRaid_43 : decode cX2_writeRaid 43 = .ok (.aload_n 0, 1) := by decide +kernel
theorem dX2_writeRaid_44 : decode cX2_writeRaid 44 = .ok (.getfield 38, 3) := by decide +kernel
theorem dX2_writeRaid_47 : decode cX2_writeRaid 47 = .ok (.getfield 170, 3) := by decide +kernel
theorem dX2_writeRaid_50 : decode cX2_writeRaid 50 = .ok (.invokevirtual 173, 3) := by decide +kernel
theorem dX2_writeRaid_53 : decode cX2_writeRaid 53 = .ok (.invokevirtual 177, 3) := by decide +kernel
theorem dX2_writeRaid_56 : decode cX2_writeRaid 56 = .ok (.aload_n 2, 1) := by decide +kernel
theorem dX2_writeRaid_57 : decode cX2_writeRaid 57 = .ok (.aload_n 0, 1) := by decide +kernel
theorem dX2_writeRaid_58 : decode cX2_writeRaid 58 = .ok (.getfield 38, 3) := by decide +kernel
theorem dX2_writeRaid_61 : decode cX2_writeRaid 61 = .ok (.getfield 180, 3) := by decide +kernel
theorem dX2_writeRaid_64 : decode cX2_writeRaid 64 = .ok (.invokestatic 183, 3) := by decide +kernel
theorem dX2_writeRaid_67 : decode cX2_writeRaid 67 = .ok (.invokevirtual 164, 3) := by decide +kernel
theorem dX2_writeRaid_70 : decode cX2_writeRaid 70 = .ok (.iconst 0, 1) := by decide +kernel
theorem dX2_writeRaid_71 : decode cX2_writeRaid 71 = .ok (.istore 4, 2) := by decide +kernel
theorem dX2_writeRaid_73 : decode cX2_writeRaid 73 = .ok (.iload 4, 2) := by decide +kernel
theorem dX2_writeRaid_75 : decode cX2_writeRaid 75 = .ok (.aload_n 0, 1) := by decide +kernel
theorem dX2_writeRaid_76 : decode cX2_writeRaid 76 = .ok (.getfield 38, 3) := by decide +kernel
theorem dX2_writeRaid_79 : decode cX2_writeRaid 79 = .ok (.getfield 187, 3) := by decide +kernel
theorem dX2_writeRaid_82 : decode cX2_writeRaid 82 = .ok (.if_icmp .ge 65, 3) := by decide +kernel
theorem dX2_writeRaid_85 : decode cX2_writeRaid 85 = .ok (.iload 4, 2) := by decide +kernel
theorem dX2_writeRaid_87 : decode cX2_writeRaid 87 = .ok (.aload_n 0, 1) := by decide +kernel
theorem dX2_writeRaid_88 : decode cX2_writeRaid 88 = .ok (.getfield 38, 3) := by decide +kernel
theorem dX2_writeRaid_91 : decode cX2_writeRaid 91 = .ok (.getfield 190, 3) := by decide +kernel
theorem dX2_writeRaid_94 : decode cX2_writeRaid 94 = .ok (.arraylength, 1) := by decide +kernel
theorem dX2_writeRaid_95 : decode cX2_writeRaid 95 = .ok (.if_icmp .ge 52, 3) := by decide +kernel
theorem dX2_writeRaid_98 : decode cX2_writeRaid 98 = .ok (.aload_n 2, 1) := by decide +kernel
theorem dX2_writeRaid_99 : decode cX2_writeRaid 99 = .ok (.iload 4, 2) := by decide +kernel
theorem dX2_writeRaid_101 : decode cX2_writeRaid 101 = .ok (.ifCond .ne 8, 3) := by decide +kernel
theorem dX2_writeRaid_104 : decode cX2_writeRaid 104 = .ok (.bipush 32, 2) := by decide +kernel
theorem dX2_writeRaid_106 : decode cX2_writeRaid 106 = .ok (.goto 5, 3) := by decide +kernel
theorem dX2_writeRaid_109 : decode cX2_writeRaid 109 = .ok (.bipush 44, 2) := by decide +kernel
theorem dX2_writeRaid_111 : decode cX2_writeRaid 111 = .ok (.invokevirtual 193, 3) := by decide +kernel
theorem dX2_writeRaid_114 : decode cX2_writeRaid 114 = .ok (.aload_n 2, 1) := by decide +kernel
theorem dX2_writeRaid_115 : decode cX2_writeRaid 115 = .ok (.aload_n 0, 1) := by decide +kernel
theorem dX2_writeRaid_116 : decode cX2_writeRaid 116 = .ok (.getfield 12, 3) := by decide +kernel
theorem dX2_writeRaid_119 : decode cX2_writeRaid 119 = .ok (.getfield 42, 3) := by decide +kernel
theorem dX2_writeRaid_122 : decode cX2_writeRaid 122 = .ok (.iconst 1, 1) := by decide +kernel
theorem dX2_writeRaid_123 : decode cX2_writeRaid 123 = .ok (.iload_n 3, 1) := by decide +kernel
theorem dX2_writeRaid_124 : decode cX2_writeRaid 124 = .ok (.isub, 1) := by decide +kernel
theorem dX2_writeRaid_125 : decode cX2_writeRaid 125 = .ok (.aload_n 0, 1) := by decide +kernel
theorem dX2_writeRaid_126 : decode cX2_writeRaid 126 = .ok (.getfield 38, 3) := by decide +kernel
theorem dX2_writeRaid_129 : decode cX2_writeRaid 129 = .ok (.getfield 190, 3) := by decide +kernel
theorem dX2_writeRaid_132 : decode cX2_writeRaid 132 = .ok (.iload 4, 2) := by decide +kernel
theorem dX2_writeRaid_134 : decode cX2_writeRaid 134 = .ok (.iaload, 1) := by decide +kernel
theorem dX2_writeRaid_135 : decode cX2_writeRaid 135 = .ok (.invokevirtual 173, 3) := by decide +kernel
theorem dX2_writeRaid_138 : decode cX2_writeRaid 138 = .ok (.invokevirtual 177, 3) := by decide +kernel
theorem dX2_writeRaid_141 : decode cX2_writeRaid 141 = .ok (.iinc 4 1, 3) := by decide +kernel
theorem dX2_writeRaid_144 : decode cX2_writeRaid 144 = .ok (.goto (-71), 3) := by decide +kernel
theorem dX2_writeRaid_147 : decode cX2_writeRaid 147 = .ok (.aload_n 0, 1) := by decide +kernel
theorem dX2_writeRaid_148 : decode cX2_writeRaid 148 = .ok (.getfield 38, 3) := by decide +kernel
theorem dX2_writeRaid_151 : decode cX2_writeRaid 151 = .ok (.getfield 180, 3) := by decide +kernel
theorem dX2_writeRaid_154 : decode cX2_writeRaid 154 = .ok (.iconst 3, 1) := by decide +kernel
theorem dX2_writeRaid_155 : decode cX2_writeRaid 155 = .ok (.if_icmp .ne 33, 3) := by decide +kernel
theorem dX2_writeRaid_158 : decode cX2_writeRaid 158 = .ok (.aload_n 2, 1) := by decide +kernel
theorem dX2_writeRaid_159 : decode cX2_writeRaid 159 = .ok (.bipush 32, 2) := by decide +kernel
theorem dX2_writeRaid_161 : decode cX2_writeRaid 161 = .ok (.invokevirtual 193, 3) := by decide +kernel
theorem dX2_writeRaid_164 : decode cX2_writeRaid 164 = .ok (.aload_n 2, 1) := by decide +kernel
theorem dX2_writeRaid_165 : decode cX2_writeRaid 165 = .ok (.aload_n 0, 1) := by decide +kernel
theorem dX2_writeRaid_166 : decode cX2_writeRaid 166 = .ok (.getfield 12, 3) := by decide +kernel
theorem dX2_writeRaid_169 : decode cX2_writeRaid 169 = .ok (.getfield 42, 3) := by decide +kernel
theorem dX2_writeRaid_172 : decode cX2_writeRaid 172 = .ok (.iconst 1, 1) := by decide +kernel
theorem dX2_writeRaid_173 : decode cX2_writeRaid 173 = .ok (.iload_n 3, 1) := by decide +kernel
theorem dX2_writeRaid_174 : decode cX2_writeRaid 174 = .ok (.isub, 1) := by decide +kernel
theorem dX2_writeRaid_175 : decode cX2_writeRaid 175 = .ok (.aload_n 0, 1) := by decide +kernel
theorem dX2_writeRaid_176 : decode cX2_writeRaid 176 = .ok (.getfield 38, 3) := by decide +kernel
theorem dX2_writeRaid_179 : decode cX2_writeRaid 179 = .ok (.getfield 196, 3) := by decide +kernel
theorem dX2_writeRaid_182 : decode cX2_writeRaid 182 = .ok (.invokevirtual 173, 3) := by decide +kernel
theorem dX2_writeRaid_185 : decode cX2_writeRaid 185 = .ok (.invokevirtual 177, 3) := by decide +kernel
theorem dX2_writeRaid_188 : decode cX2_writeRaid 188 = .ok (.aload_n 0, 1) := by decide +kernel
theorem dX2_writeRaid_189 : decode cX2_writeRaid 189 = .ok (.getfield 38, 3) := by decide +kernel
theorem dX2_writeRaid_192 : decode cX2_writeRaid 192 = .ok (.getfield 199, 3) := by decide +kernel
theorem dX2_writeRaid_195 : decode cX2_writeRaid 195 = .ok (.iconst 1, 1) := by decide +kernel
theorem dX2_writeRaid_196 : decode cX2_writeRaid 196 = .ok (.if_icmp .ne 9, 3) := by decide +kernel
theorem dX2_writeRaid_199 : decode cX2_writeRaid 199 = .ok (.aload_n 2, 1) := by decide +kernel
theorem dX2_writeRaid_200 : decode cX2_writeRaid 200 = .ok (.ldc 202, 2) := by decide +kernel
theorem dX2_writeRaid_202 : decode cX2_writeRaid 202 = .ok (.invokevirtual 164, 3) := by decide +kernel
theorem dX2_writeRaid_205 : decode cX2_writeRaid 205 = .ok (.aload_n 2, 1) := by decide +kernel
theorem dX2_writeRaid_206 : decode cX2_writeRaid 206 = .ok (.bipush 59, 2) := by decide +kernel
theorem dX2_writeRaid_208 : decode cX2_writeRaid 208 = .ok (.invokevirtual 193, 3) := by decide +kernel
theorem dX2_writeRaid_211 : decode cX2_writeRaid 211 = .ok (.return_, 1) := by decide +kernel
def fX2_writeRaid_l73 (p0 : Nat) (p1 : Int32) (p2 : Nat) (p3 : Int32) (K : Int32 → xMem → Option (xMem)) : Nat → Int32 → xMem → Option (xMem)
  | 0, _, _ => none
  | n + 1, v4, M => if (M.1 (xrf p0 4) 4) ≤ v4 then (K v4 M) else (if (nI (xln (xrf (xrf p0 4) 5))) ≤ v4 then (K v4 M) else (xLt (fun (s15 : Int32) (M16 : xMem) => (xBv (fX6_put p2 s15 M16) fun M17 => xGb v4 (xln (xrf (xrf p0 4) 5)) (xBn (fX5_shirtOf (xrf (xrf p0 0) 0) ((nI 1) - p3) (M17.1 (xrf (xrf p0 4) 5) (Int32.toNatClampNeg v4)) M17) fun r19 M20 => xBv (fX6_putShirt p2 r19 M20) fun M21 => xLt (v4 + nI 1) fun x22 => fX2_writeRaid_l73 p0 p1 p2 p3 K n x22 M21) : Option (xMem))) fun J111 => if v4 = 0 then (J111 (nI 32) M) else (J111 (nI 44) M)))
def fX2_writeRaid (a0 : Nat) (a1 : Int32) (a2 : Nat) (M : xMem) : Option (xMem) :=
  xGb (nI 0) (xln (xrf (xrf a0 2) 0)) (xGb a1 (xln (xrf (xrf (xrf a0 2) 0) (Int32.toNatClampNeg (nI 0)))) (xLt (M.1 (xrf (xrf (xrf a0 2) 0) (Int32.toNatClampNeg (nI 0))) (Int32.toNatClampNeg a1)) fun x3 => xGb a1 (xln (xrf (xrf a0 2) 1)) (xBv (fX4_unpack (xrf a0 4) (M.2.1 (xrf (xrf a0 2) 1) (Int32.toNatClampNeg a1)) M) fun M5 => xBv (fX6_putWords a2 1 M5) fun M6 => xBn (fX5_shirtOf (xrf (xrf a0 0) 0) x3 (M6.1 (xrf a0 4) 0) M6) fun r7 M8 => xBv (fX6_putShirt a2 r7 M8) fun M9 => xBn (fX2_resultWord (M9.1 (xrf a0 4) 1) M9) fun r10 M11 => xBv (fX6_putWords a2 r10 M11) fun M14 => fX2_writeRaid_l73 a0 a1 a2 x3 (fun (v23 : Int32) (M24 : xMem) => xLt (fun  (M25 : xMem) => (xLt (fun  (M26 : xMem) => (xBv (fX6_put a2 (nI 59) M26) fun M27 => some M27 : Option (xMem))) fun J205 => if (M25.1 (xrf a0 4) 3) = (nI 1) then (xBv (fX6_putWords a2 4 M25) fun M28 => J205  M28) else (J205  M25) : Option (xMem))) fun J188 => if (M24.1 (xrf a0 4) 1) = (nI 3) then (xBv (fX6_put a2 (nI 32) M24) fun M29 => xBn (fX5_shirtOf (xrf (xrf a0 0) 0) ((nI 1) - x3) (M29.1 (xrf a0 4) 2) M29) fun r30 M31 => xBv (fX6_putShirt a2 r30 M31) fun M32 => J188  M32) else (J188  M24)) xFU (nI 0) M14)))
set_option maxRecDepth 100000 in
set_option maxHeartbeats 4000000 in
theorem lX2_writeRaid_73 {X : xCX} {M' : xMem} (C : xCk X cX2_writeRaid RX2 6) (R0 : xRk X none (none, M')) (hnL : X.2.2.2.2.2.2.2.2.2.2.2.2.2 = 5) (p0 : Nat) (hp0 : xkd p0 = 2) (p1 : Int32) (p2 : Nat) (hp2 : xkd p2 = 6) (p3 : Int32) (K : Int32 → xMem → Option (xMem)) (hK : ∀ (v4 : Int32) (M : xMem), K v4 M = some M' → WW X 147 [some (vr X.1 p0), some (.int p1), some (vr X.1 p2), some (.int p3), some (.int v4)] [] M) : ∀ (n : Nat) (v4 : Int32) (M : xMem), fX2_writeRaid_l73 p0 p1 p2 p3 K n v4 M = some M' → WW X 73 [some (vr X.1 p0), some (.int p1), some (vr X.1 p2), some (.int p3), some (.int v4)] [] M := by
  have hn3 : 3 < X.2.2.2.2.2.2.2.2.2.2.2.2.2 := by rw [hnL]; decide
  have hn4 : 4 < X.2.2.2.2.2.2.2.2.2.2.2.2.2 := by rw [hnL]; decide
  intro n
  induction n with
  | zero =>
    intro v4 M h
    cases (show (none : Option (xMem)) = some M' from h)
  | succ n ih =>
    intro v4 M h
    rw [fX2_writeRaid_l73.eq_2] at h
    refine r_iload (pc := 73) C dX2_writeRaid_73 rfl ?_
    refine r_aload_n (pc := 75) C dX2_writeRaid_75 rfl rfl ?_
    refine r_getR (pc := 76) C kX2_38 hp0 (by decide) dX2_writeRaid_76 ?_
    refine r_getI (pc := 79) C kX2_187 (xtk hp0 (by decide) rfl rfl) dX2_writeRaid_79 ?_
    refine r_icmp_ge (pc := 82) (tgt := 147) C dX2_writeRaid_82 (by decide) h (fun _ h => ?_) (fun _ h => ?_)
    · exact hK v4 M h
    · refine r_iload (pc := 85) C dX2_writeRaid_85 rfl ?_
      refine r_aload_n (pc := 87) C dX2_writeRaid_87 rfl rfl ?_
      refine r_getR (pc := 88) C kX2_38 hp0 (by decide) dX2_writeRaid_88 ?_
      refine r_getR (pc := 91) C kX2_190 (xtk hp0 (by decide) rfl rfl) (by decide) dX2_writeRaid_91 ?_
      refine r_alen (pc := 94) C (xkar (xtk (xtk hp0 (by decide) rfl rfl) (by decide) rfl rfl) (by decide)) dX2_writeRaid_94 ?_
      refine r_icmp_ge (pc := 95) (tgt := 147) C dX2_writeRaid_95 (by decide) h (fun _ h => ?_) (fun _ h => ?_)
      · exact hK v4 M h
      · refine r_aload_n (pc := 98) C dX2_writeRaid_98 rfl rfl ?_
        refine r_iload (pc := 99) C dX2_writeRaid_99 rfl ?_
        refine r_jn (fun J => ∀ (s15 : Int32) (M16 : xMem) , J s15 M16 = some M' → WW X 111 [some (vr X.1 p0), some (.int p1), some (vr X.1 p2), some (.int p3), some (.int v4)] [.int s15, vr X.1 p2] M16) h (fun s15 M16  h => ?_) (fun J111 hJ111 h => ?_)
        · refine r_vV1 (pc := 111) C (fun M' e => zX6_put X.1 p2 hp2 s15 M16 M' e) hp2 (by decide) rfl mX6_put lX2_193 (by decide) (Nat.le_of_ble_eq_true rfl) dX2_writeRaid_111 h (fun M17 h => ?_)
          refine r_aload_n (pc := 114) C dX2_writeRaid_114 rfl rfl ?_
          refine r_aload_n (pc := 115) C dX2_writeRaid_115 rfl rfl ?_
          refine r_getR (pc := 116) C kX2_12 hp0 (by decide) dX2_writeRaid_116 ?_
          refine r_getR (pc := 119) C kX2_42 (xtk hp0 (by decide) rfl rfl) (by decide) dX2_writeRaid_119 ?_
          refine r_iconst (pc := 122) (v := (nI 1)) C dX2_writeRaid_122 (by decide) ?_
          refine r_iload_n (pc := 123) C dX2_writeRaid_123 rfl rfl ?_
          refine r_isub (pc := 124) C dX2_writeRaid_124 ?_
          refine r_aload_n (pc := 125) C dX2_writeRaid_125 rfl rfl ?_
          refine r_getR (pc := 126) C kX2_38 hp0 (by decide) dX2_writeRaid_126 ?_
          refine r_getR (pc := 129) C kX2_190 (xtk hp0 (by decide) rfl rfl) (by decide) dX2_writeRaid_129 ?_
          refine r_iload (pc := 132) C dX2_writeRaid_132 rfl ?_
          obtain ⟨g18, h⟩ := xGb_of h
          refine r_iald (pc := 134) C (xtk (xtk hp0 (by decide) rfl rfl) (by decide) rfl rfl) g18 dX2_writeRaid_134 ?_
          refine r_vI2 (pc := 135) C (fun r M' e => zX5_shirtOf X.1 (xrf (xrf p0 0) 0) (xtk (xtk hp0 (by decide) rfl rfl) (by decide) rfl rfl) ((nI 1) - p3) (M17.1 (xrf (xrf p0 4) 5) (Int32.toNatClampNeg v4)) M17 r M' e) (xtk (xtk hp0 (by decide) rfl rfl) (by decide) rfl rfl) (by decide) rfl mX5_shirtOf lX2_173 (by decide) (Nat.le_of_ble_eq_true rfl) dX2_writeRaid_135 h (fun r19 M20 h => ?_)
          refine r_vV1 (pc := 138) C (fun M' e => zX6_putShirt X.1 p2 hp2 r19 M20 M' e) hp2 (by decide) rfl mX6_putShirt lX2_177 (by decide) (Nat.le_of_ble_eq_true rfl) dX2_writeRaid_138 h (fun M21 h => ?_)
          refine r_iincL (pc := 141) (c := nI 1) C dX2_writeRaid_141 rfl (by decide) hn4 h (fun x22 h => ?_)
          refine r_lvE (lv' := [_, _, _, _, _]) rfl ?_
          refine r_goto (pc := 144) (tgt := 73) C dX2_writeRaid_144 (by decide) ?_
          exact ih x22 M21 h
        refine r_if_ne (pc := 101) (tgt := 109) C dX2_writeRaid_101 (by decide) h (fun _ h => ?_) (fun _ h => ?_)
        · refine r_bipush (pc := 109) (v := (nI 44)) C dX2_writeRaid_109 (by decide) ?_
          exact hJ111 (nI 44) M  h
        · refine r_bipush (pc := 104) (v := (nI 32)) C dX2_writeRaid_104 (by decide) ?_
          refine r_goto (pc := 106) (tgt := 111) C dX2_writeRaid_106 (by decide) ?_
          exact hJ111 (nI 32) M  h
set_option maxRecDepth 100000 in
set_option maxHeartbeats 4000000 in
theorem zX2_writeRaid (G : xGX) (a0 : Nat) (h0 : xkd a0 = 2) (a1 : Int32) (a2 : Nat) (h2 : xkd a2 = 6) (M : xMem) (M' : xMem) (h : fX2_writeRaid a0 a1 a2 M = some M') : xCt G yX2_writeRaid cX2_writeRaid 5 none 6 [vr G a0, .int a1, vr G a2] M (none, M') := by
  refine xMet (lv := [some (vr G a0), some (.int a1), some (vr G a2), none, none]) (by decide) (Nat.le_of_ble_eq_true rfl) rfl ?_
  intro X hG hnL C R0
  subst hG
  have C : xCk X cX2_writeRaid RX2 6 := C
  have hn3 : 3 < X.2.2.2.2.2.2.2.2.2.2.2.2.2 := by rw [hnL]; decide
  have hn4 : 4 < X.2.2.2.2.2.2.2.2.2.2.2.2.2 := by rw [hnL]; decide
  unfold fX2_writeRaid at h
  refine r_aload_n (pc := 0) C dX2_writeRaid_0 rfl rfl ?_
  refine r_getR (pc := 1) C kX2_28 h0 (by decide) dX2_writeRaid_1 ?_
  refine r_getR (pc := 4) C kX2_154 (xtk h0 (by decide) rfl rfl) (by decide) dX2_writeRaid_4 ?_
  refine r_iconst (pc := 7) (v := (nI 0)) C dX2_writeRaid_7 (by decide) ?_
  obtain ⟨g1, h⟩ := xGb_of h
  refine r_aaldI (pc := 8) C (xtk (xtk h0 (by decide) rfl rfl) (by decide) rfl rfl) g1 dX2_writeRaid_8 ?_
  refine r_iload_n (pc := 9) C dX2_writeRaid_9 rfl rfl ?_
  obtain ⟨g2, h⟩ := xGb_of h
  refine r_iald (pc := 10) C (xkeI (xtk (xtk h0 (by decide) rfl rfl) (by decide) rfl rfl) (xin_lt g1)) g2 dX2_writeRaid_10 ?_
  refine r_letI h (fun x3 h => ?_)
  refine r_istore_n (pc := 11) (lv' := [_, _, _, _, _]) C dX2_writeRaid_11 rfl hn3 rfl ?_
  refine r_aload_n (pc := 12) C dX2_writeRaid_12 rfl rfl ?_
  refine r_getR (pc := 13) C kX2_38 h0 (by decide) dX2_writeRaid_13 ?_
  refine r_aload_n (pc := 16) C dX2_writeRaid_16 rfl rfl ?_
  refine r_getR (pc := 17) C kX2_28 h0 (by decide) dX2_writeRaid_17 ?_
  refine r_getR (pc := 20) C kX2_158 (xtk h0 (by decide) rfl rfl) (by decide) dX2_writeRaid_20 ?_
  refine r_iload_n (pc := 23) C dX2_writeRaid_23 rfl rfl ?_
  obtain ⟨g4, h⟩ := xGb_of h
  refine r_lald (pc := 24) C (xtk (xtk h0 (by decide) rfl rfl) (by decide) rfl rfl) g4 dX2_writeRaid_24 ?_
  refine r_vV1 (pc := 25) C (fun M' e => zX4_unpack X.1 (xrf a0 4) (xtk h0 (by decide) rfl rfl) (M.2.1 (xrf (xrf a0 2) 1) (Int32.toNatClampNeg a1)) M M' e) (xtk h0 (by decide) rfl rfl) (by decide) rfl mX4_unpack lX2_100 (by decide) (Nat.le_of_ble_eq_true rfl) dX2_writeRaid_25 h (fun M5 h => ?_)
  refine r_aload_n (pc := 28) C dX2_writeRaid_28 rfl rfl ?_
  refine r_ldcS (pc := 29) (i := 1) C (by decide) rfl dX2_writeRaid_29 ?_
  refine r_vV1 (pc := 31) C (fun M' e => zX6_putWords X.1 a2 h2 1 (by decide) M5 M' e) h2 (by decide) rfl mX6_putWords lX2_164 (by decide) (Nat.le_of_ble_eq_true rfl) dX2_writeRaid_31 h (fun M6 h => ?_)
  refine r_aload_n (pc := 34) C dX2_writeRaid_34 rfl rfl ?_
  refine r_aload_n (pc := 35) C dX2_writeRaid_35 rfl rfl ?_
  refine r_getR (pc := 36) C kX2_12 h0 (by decide) dX2_writeRaid_36 ?_
  refine r_getR (pc := 39) C kX2_42 (xtk h0 (by decide) rfl rfl) (by decide) dX2_writeRaid_39 ?_
  refine r_iload_n (pc := 42) C dX2_writeRaid_42 rfl rfl ?_
  refine r_aload_n (pc := 43) C dX2_writeRaid_43 rfl rfl ?_
  refine r_getR (pc := 44) C kX2_38 h0 (by decide) dX2_writeRaid_44 ?_
  refine r_getI (pc := 47) C kX2_170 (xtk h0 (by decide) rfl rfl) dX2_writeRaid_47 ?_
  refine r_vI2 (pc := 50) C (fun r M' e => zX5_shirtOf X.1 (xrf (xrf a0 0) 0) (xtk (xtk h0 (by decide) rfl rfl) (by decide) rfl rfl) x3 (M6.1 (xrf a0 4) 0) M6 r M' e) (xtk (xtk h0 (by decide) rfl rfl) (by decide) rfl rfl) (by decide) rfl mX5_shirtOf lX2_173 (by decide) (Nat.le_of_ble_eq_true rfl) dX2_writeRaid_50 h (fun r7 M8 h => ?_)
  refine r_vV1 (pc := 53) C (fun M' e => zX6_putShirt X.1 a2 h2 r7 M8 M' e) h2 (by decide) rfl mX6_putShirt lX2_177 (by decide) (Nat.le_of_ble_eq_true rfl) dX2_writeRaid_53 h (fun M9 h => ?_)
  refine r_aload_n (pc := 56) C dX2_writeRaid_56 rfl rfl ?_
  refine r_aload_n (pc := 57) C dX2_writeRaid_57 rfl rfl ?_
  refine r_getR (pc := 58) C kX2_38 h0 (by decide) dX2_writeRaid_58 ?_
  refine r_getI (pc := 61) C kX2_180 (xtk h0 (by decide) rfl rfl) dX2_writeRaid_61 ?_
  refine r_sS1 (pc := 64) C (fun r M' e => zX2_resultWord X.1 (M9.1 (xrf a0 4) 1) M9 r M' e) mX2_resultWord lX2_183 (by decide) (Nat.le_of_ble_eq_true rfl) dX2_writeRaid_64 h (fun r10 M11 e12 h => ?_)
  have k13 := tX2_resultWord  e12
  refine r_vV1 (pc := 67) C (fun M' e => zX6_putWords X.1 a2 h2 r10 k13 M11 M' e) h2 (by decide) rfl mX6_putWords lX2_164 (by decide) (Nat.le_of_ble_eq_true rfl) dX2_writeRaid_67 h (fun M14 h => ?_)
  refine r_iconst (pc := 70) (v := (nI 0)) C dX2_writeRaid_70 (by decide) ?_
  refine r_istore (pc := 71) (lv' := [_, _, _, _, _]) C dX2_writeRaid_71 hn4 rfl ?_
  refine lX2_writeRaid_73 C R0 hnL a0 h0 a1 a2 h2 x3 _ (fun v23 M24 h => ?_) _ _ _ h
  refine r_aload_n (pc := 147) C dX2_writeRaid_147 rfl rfl ?_
  refine r_getR (pc := 148) C kX2_38 h0 (by decide) dX2_writeRaid_148 ?_
  refine r_getI (pc := 151) C kX2_180 (xtk h0 (by decide) rfl rfl) dX2_writeRaid_151 ?_
  refine r_iconst (pc := 154) (v := (nI 3)) C dX2_writeRaid_154 (by decide) ?_
  refine r_jn (fun J => ∀  (M25 : xMem) , J  M25 = some M' → WW X 188 [some (vr X.1 a0), some (.int a1), some (vr X.1 a2), some (.int x3), some (.int v23)] [] M25) h (fun  M25  h => ?_) (fun J188 hJ188 h => ?_)
  · refine r_aload_n (pc := 188) C dX2_writeRaid_188 rfl rfl ?_
    refine r_getR (pc := 189) C kX2_38 h0 (by decide) dX2_writeRaid_189 ?_
    refine r_getI (pc := 192) C kX2_199 (xtk h0 (by decide) rfl rfl) dX2_writeRaid_192 ?_
    refine r_iconst (pc := 195) (v := (nI 1)) C dX2_writeRaid_195 (by decide) ?_
    refine r_jn (fun J => ∀  (M26 : xMem) , J  M26 = some M' → WW X 205 [some (vr X.1 a0), some (.int a1), some (vr X.1 a2), some (.int x3), some (.int v23)] [] M26) h (fun  M26  h => ?_) (fun J205 hJ205 h => ?_)
    · refine r_aload_n (pc := 205) C dX2_writeRaid_205 rfl rfl ?_
      refine r_bipush (pc := 206) (v := (nI 59)) C dX2_writeRaid_206 (by decide) ?_
      refine r_vV1 (pc := 208) C (fun M' e => zX6_put X.1 a2 h2 (nI 59) M26 M' e) h2 (by decide) rfl mX6_put lX2_193 (by decide) (Nat.le_of_ble_eq_true rfl) dX2_writeRaid_208 h (fun M27 h => ?_)
      exact r_vret (pc := 211) C R0 h dX2_writeRaid_211
    refine r_icmp_ne (pc := 196) (tgt := 205) C dX2_writeRaid_196 (by decide) h (fun _ h => ?_) (fun _ h => ?_)
    · exact hJ205  M25  h
    · refine r_aload_n (pc := 199) C dX2_writeRaid_199 rfl rfl ?_
      refine r_ldcS (pc := 200) (i := 4) C (by decide) rfl dX2_writeRaid_200 ?_
      refine r_vV1 (pc := 202) C (fun M' e => zX6_putWords X.1 a2 h2 4 (by decide) M25 M' e) h2 (by decide) rfl mX6_putWords lX2_164 (by decide) (Nat.le_of_ble_eq_true rfl) dX2_writeRaid_202 h (fun M28 h => ?_)
      exact hJ205  M28  h
  refine r_icmp_ne (pc := 155) (tgt := 188) C dX2_writeRaid_155 (by decide) h (fun _ h => ?_) (fun _ h => ?_)
  · exact hJ188  M24  h
  · refine r_aload_n (pc := 158) C dX2_writeRaid_158 rfl rfl ?_
    refine r_bipush (pc := 159) (v := (nI 32)) C dX2_writeRaid_159 (by decide) ?_
    refine r_vV1 (pc := 161) C (fun M' e => zX6_put X.1 a2 h2 (nI 32) M24 M' e) h2 (by decide) rfl mX6_put lX2_193 (by decide) (Nat.le_of_ble_eq_true rfl) dX2_writeRaid_161 h (fun M29 h => ?_)
    refine r_aload_n (pc := 164) C dX2_writeRaid_164 rfl rfl ?_
    refine r_aload_n (pc := 165) C dX2_writeRaid_165 rfl rfl ?_
    refine r_getR (pc := 166) C kX2_12 h0 (by decide) dX2_writeRaid_166 ?_
    refine r_getR (pc := 169) C kX2_42 (xtk h0 (by decide) rfl rfl) (by decide) dX2_writeRaid_169 ?_
    refine r_iconst (pc := 172) (v := (nI 1)) C dX2_writeRaid_172 (by decide) ?_
    refine r_iload_n (pc := 173) C dX2_writeRaid_173 rfl rfl ?_
    refine r_isub (pc := 174) C dX2_writeRaid_174 ?_
    refine r_aload_n (pc := 175) C dX2_writeRaid_175 rfl rfl ?_
    refine r_getR (pc := 176) C kX2_38 h0 (by decide) dX2_writeRaid_176 ?_
    refine r_getI (pc := 179) C kX2_196 (xtk h0 (by decide) rfl rfl) dX2_writeRaid_179 ?_
    refine r_vI2 (pc := 182) C (fun r M' e => zX5_shirtOf X.1 (xrf (xrf a0 0) 0) (xtk (xtk h0 (by decide) rfl rfl) (by decide) rfl rfl) ((nI 1) - x3) (M29.1 (xrf a0 4) 2) M29 r M' e) (xtk (xtk h0 (by decide) rfl rfl) (by decide) rfl rfl) (by decide) rfl mX5_shirtOf lX2_173 (by decide) (Nat.le_of_ble_eq_true rfl) dX2_writeRaid_182 h (fun r30 M31 h => ?_)
    refine r_vV1 (pc := 185) C (fun M' e => zX6_putShirt X.1 a2 h2 r30 M31 M' e) h2 (by decide) rfl mX6_putShirt lX2_177 (by decide) (Nat.le_of_ble_eq_true rfl) dX2_writeRaid_185 h (fun M32 h => ?_)
    exact hJ188  M32  h
