theorem dX4_begin_0 : decode cX4_begin 0 = .ok (.aload_n 0, 1) := by decide +kernel
theorem dX4_begin_1 : decode cX4_begin 1 = .ok (.iload_n 1, 1) := by decide +kernel
theorem dX4_begin_2 : decode cX4_begin 2 = .ok (.putfield 9, 3) := by decide +kernel
theorem dX4_begin_5 : decode cX4_begin 5 = .ok (.aload_n 0, 1) := by decide +kernel
theorem dX4_begin_6 : decode cX4_begin 6 = .ok (.iload_n 2, 1) := by decide +kernel
theorem dX4_begin_7 : decode cX4_begin 7 = .ok (.putfield 15, 3) := by decide +kernel
theorem dX4_begin_10 : decode cX4_begin 10 = .ok (.aload_n 0, 1) := by decide +kernel
theorem dX4_begin_11 : decode cX4_begin 11 = .ok (.iconst 0, 1) := by decide +kernel
theorem dX4_begin_12 : decode cX4_begin 12 = .ok (.putfield 18, 3) := by decide +kernel
theorem dX4_begin_15 : decode cX4_begin 15 = .ok (.aload_n 0, 1) := by decide +kernel
theorem dX4_begin_16 : decode cX4_begin 16 = .ok (.iconst 0, 1) := by decide +kernel
theorem dX4_begin_17 : decode cX4_begin 17 = .ok (.putfield 21, 3) := by decide +kernel
theorem dX4_begin_20 : decode cX4_begin 20 = .ok (.aload_n 0, 1) := by decide +kernel
theorem dX4_begin_21 : decode cX4_begin 21 = .ok (.iconst 0, 1) := by decide +kernel
theorem dX4_begin_22 : decode cX4_begin 22 = .ok (.putfield 24, 3) := by decide +kernel
theorem dX4_begin_25 : decode cX4_begin 25 = .ok (.return_, 1) := by decide +kernel
def fX4_begin (a0 : Nat) (a1 : Int32) (a2 : Int32) (M : xMem) : Option (xMem) :=
  xLt (xwI M a0 0 a1) fun M1 => xLt (xwI M1 a0 1 a2) fun M2 => xLt (xwI M2 a0 2 (nI 0)) fun M3 => xLt (xwI M3 a0 3 (nI 0)) fun M4 => xLt (xwI M4 a0 4 (nI 0)) fun M5 => some M5
set_option maxRecDepth 100000 in
set_option maxHeartbeats 4000000 in
theorem zX4_begin (G : xGX) (a0 : Nat) (h0 : xkd a0 = 4) (a1 : Int32) (a2 : Int32) (M : xMem) (M' : xMem) (h : fX4_begin a0 a1 a2 M = some M') : xCt G yX4_begin cX4_begin 3 none 1 [vr G a0, .int a1, .int a2] M (none, M') := by
  refine xMet (lv := [some (vr G a0), some (.int a1), some (.int a2)]) (by decide) (Nat.le_of_ble_eq_true rfl) rfl ?_
  intro X hG hnL C R0
  subst hG
  have C : xCk X cX4_begin RX4 1 := C
  unfold fX4_begin at h
  refine r_aload_n (pc := 0) C dX4_begin_0 rfl rfl ?_
  refine r_iload_n (pc := 1) C dX4_begin_1 rfl rfl ?_
  refine r_putI (pc := 2) C kX4_9 h0 dX4_begin_2 ?_
  refine r_letM h (fun M1 h => ?_)
  refine r_aload_n (pc := 5) C dX4_begin_5 rfl rfl ?_
  refine r_iload_n (pc := 6) C dX4_begin_6 rfl rfl ?_
  refine r_putI (pc := 7) C kX4_15 h0 dX4_begin_7 ?_
  refine r_letM h (fun M2 h => ?_)
  refine r_aload_n (pc := 10) C dX4_begin_10 rfl rfl ?_
  refine r_iconst (pc := 11) (v := (nI 0)) C dX4_begin_11 (by decide) ?_
  refine r_putI (pc := 12) C kX4_18 h0 dX4_begin_12 ?_
  refine r_letM h (fun M3 h => ?_)
  refine r_aload_n (pc := 15) C dX4_begin_15 rfl rfl ?_
  refine r_iconst (pc := 16) (v := (nI 0)) C dX4_begin_16 (by decide) ?_
  refine r_putI (pc := 17) C kX4_21 h0 dX4_begin_17 ?_
  refine r_letM h (fun M4 h => ?_)
  refine r_aload_n (pc := 20) C dX4_begin_20 rfl rfl ?_
  refine r_iconst (pc := 21) (v := (nI 0)) C dX4_begin_21 (by decide) ?_
  refine r_putI (pc := 22) C kX4_24 h0 dX4_begin_22 ?_
  refine r_letM h (fun M5 h => ?_)
  exact r_vret (pc := 25) C R0 h dX4_begin_25
theorem dX4_addTouched_0 : decode cX4_addTouched 0 = .ok (.aload_n 0, 1) := by decide +kernel
theorem dX4_addTouched_1 : decode cX4_addTouched 1 = .ok (.getfield 24, 3) := by decide +kernel
theorem dX4_addTouched_4 : decode cX4_addTouched 4 = .ok (.aload_n 0, 1) := by decide +kernel
theorem dX4_addTouched_5 : decode cX4_addTouched 5 = .ok (.getfield 27, 3) := by decide +kernel
theorem dX4_addTouched_8 : decode cX4_addTouched 8 = .ok (.arraylength, 1) := by decide +kernel
theorem dX4_addTouched_9 : decode cX4_addTouched 9 = .ok (.if_icmp .ge 23, 3) := by decide +kernel
theorem dX4_addTouched_12 : decode cX4_addTouched 12 = .ok (.aload_n 0, 1) := by decide +kernel
theorem dX4_addTouched_13 : decode cX4_addTouched 13 = .ok (.getfield 27, 3) := by decide +kernel
theorem dX4_addTouched_16 : decode cX4_addTouched 16 = .ok (.aload_n 0, 1) := by decide +kernel
theorem dX4_addTouched_17 : decode cX4_addTouched 17 = .ok (.getfield 24, 3) := by decide +kernel
theorem dX4_addTouched_20 : decode cX4_addTouched 20 = .ok (.iload_n 1, 1) := by decide +kernel
theorem dX4_addTouched_21 : decode cX4_addTouched 21 = .ok (.iastore, 1) := by decide +kernel
theorem dX4_addTouched_22 : decode cX4_addTouched 22 = .ok (.aload_n 0, 1) := by decide +kernel
theorem dX4_addTouched_23 : decode cX4_addTouched 23 = .ok (.dup, 1) := by decide +kernel
theorem dX4_addTouched_24 : decode cX4_addTouched 24 = .ok (.getfield 24, 3) := by decide +kernel
theorem dX4_addTouched_27 : decode cX4_addTouched 27 = .ok (.iconst 1, 1) := by decide +kernel
theorem dX4_addTouched_28 : decode cX4_addTouched 28 = .ok (.iadd, 1) := by decide +kernel
theorem dX4_addTouched_29 : decode cX4_addTouched 29 = .ok (.putfield 24, 3) := by decide +kernel
theorem dX4_addTouched_32 : decode cX4_addTouched 32 = .ok (.return_, 1) := by decide +kernel
def fX4_addTouched (a0 : Nat) (a1 : Int32) (M : xMem) : Option (xMem) :=
  if (nI (xln (xrf a0 5))) ≤ (M.1 a0 4) then (some M) else (xGb (M.1 a0 4) (xln (xrf a0 5)) (xLt (xwI M (xrf a0 5) (Int32.toNatClampNeg (M.1 a0 4)) a1) fun M2 => xLt (xwI M2 a0 4 ((M2.1 a0 4) + (nI 1))) fun M3 => some M3))
set_option maxRecDepth 100000 in
set_option maxHeartbeats 4000000 in
theorem zX4_addTouched (G : xGX) (a0 : Nat) (h0 : xkd a0 = 4) (a1 : Int32) (M : xMem) (M' : xMem) (h : fX4_addTouched a0 a1 M = some M') : xCt G yX4_addTouched cX4_addTouched 2 none 1 [vr G a0, .int a1] M (none, M') := by
  refine xMet (lv := [some (vr G a0), some (.int a1)]) (by decide) (Nat.le_of_ble_eq_true rfl) rfl ?_
  intro X hG hnL C R0
  subst hG
  have C : xCk X cX4_addTouched RX4 1 := C
  unfold fX4_addTouched at h
  refine r_aload_n (pc := 0) C dX4_addTouched_0 rfl rfl ?_
  refine r_getI (pc := 1) C kX4_24 h0 dX4_addTouched_1 ?_
  refine r_aload_n (pc := 4) C dX4_addTouched_4 rfl rfl ?_
  refine r_getR (pc := 5) C kX4_27 h0 (by decide) dX4_addTouched_5 ?_
  refine r_alen (pc := 8) C (xkar (xtk h0 (by decide) rfl rfl) (by decide)) dX4_addTouched_8 ?_
  refine r_icmp_ge (pc := 9) (tgt := 32) C dX4_addTouched_9 (by decide) h (fun _ h => ?_) (fun _ h => ?_)
  · exact r_vret (pc := 32) C R0 h dX4_addTouched_32
  · refine r_aload_n (pc := 12) C dX4_addTouched_12 rfl rfl ?_
    refine r_getR (pc := 13) C kX4_27 h0 (by decide) dX4_addTouched_13 ?_
    refine r_aload_n (pc := 16) C dX4_addTouched_16 rfl rfl ?_
    refine r_getI (pc := 17) C kX4_24 h0 dX4_addTouched_17 ?_
    refine r_iload_n (pc := 20) C dX4_addTouched_20 rfl rfl ?_
    obtain ⟨g1, h⟩ := xGb_of h
    refine r_iast (pc := 21) C (xtk h0 (by decide) rfl rfl) g1 dX4_addTouched_21 ?_
    refine r_letM h (fun M2 h => ?_)
    refine r_aload_n (pc := 22) C dX4_addTouched_22 rfl rfl ?_
    refine r_dup (pc := 23) C rfl dX4_addTouched_23 ?_
    refine r_getI (pc := 24) C kX4_24 h0 dX4_addTouched_24 ?_
    refine r_iconst (pc := 27) (v := (nI 1)) C dX4_addTouched_27 (by decide) ?_
    refine r_iadd (pc := 28) C dX4_addTouched_28 ?_
    refine r_putI (pc := 29) C kX4_24 h0 dX4_addTouched_29 ?_
    refine r_letM h (fun M3 h => ?_)
    exact r_vret (pc := 32) C R0 h dX4_addTouched_32
theorem dX4_touchAll_0 : decode cX4_touchAll 0 = .ok (.iconst 0, 1) := by decide +kernel
theorem dX4_touchAll_1 : decode cX4_touchAll 1 = .ok (.istore_n 2, 1) := by decide +kernel
theorem dX4_touchAll_2 : decode cX4_touchAll 2 = .ok (.iload_n 2, 1) := by decide +kernel
theorem dX4_touchAll_3 : decode cX4_touchAll 3 = .ok (.bipush 10, 2) := by decide +kernel
theorem dX4_touchAll_5 : decode cX4_touchAll 5 = .ok (.if_icmp .ge 23, 3) := by decide +kernel
theorem dX4_touchAll_8 : decode cX4_touchAll 8 = .ok (.iload_n 1, 1) := by decide +kernel
theorem dX4_touchAll_9 : decode cX4_touchAll 9 = .ok (.iload_n 2, 1) := by decide +kernel
theorem dX4_touchAll_10 : decode cX4_touchAll 10 = .ok (.ishr, 1) := by decide +kernel
theorem dX4_touchAll_11 : decode cX4_touchAll 11 = .ok (.iconst 1, 1) := by decide +kernel
theorem dX4_touchAll_12 : decode cX4_touchAll 12 = .ok (.iand, 1) := by decide +kernel
theorem dX4_touchAll_13 : decode cX4_touchAll 13 = .ok (.iconst 1, 1) := by decide +kernel
theorem dX4_touchAll_14 : decode cX4_touchAll 14 = .ok (.if_icmp .ne 8, 3) := by decide +kernel
theorem dX4_touchAll_17 : decode cX4_touchAll 17 = .ok (.aload_n 0, 1) := by decide +kernel
theorem dX4_touchAll_18 : decode cX4_touchAll 18 = .ok (.iload_n 2, 1) := by decide +kernel
theorem dX4_touchAll_19 : decode cX4_touchAll 19 = .ok (.invokevirtual 31, 3) := by decide +kernel
theorem dX4_touchAll_22 : decode cX4_touchAll 22 = .ok (.iinc 2 1, 3) := by decide +kernel
theorem dX4_touchAll_25 : decode cX4_touchAll 25 = .ok (.goto (-23), 3) := by decide +kernel
theorem dX4_touchAll_28 : decode cX4_touchAll 28 = .ok (.return_, 1) := by decide +kernel
def fX4_touchAll_l2 (p0 : Nat) (p1 : Int32) (K : Int32 → xMem → Option (xMem)) : Nat → Int32 → xMem → Option (xMem)
  | 0, _, _ => none
  | n + 1, v2, M => if (nI 10) ≤ v2 then (K v2 M) else (if ((p1 >>> (v2 &&& 31)) &&& (nI 1)) = (nI 1) then (xBv (fX4_addTouched p0 v2 M) fun M2 => xLt (v2 + nI 1) fun x3 => fX4_touchAll_l2 p0 p1 K n x3 M2) else (xLt (v2 + nI 1) fun x1 => fX4_touchAll_l2 p0 p1 K n x1 M))
def fX4_touchAll (a0 : Nat) (a1 : Int32) (M : xMem) : Option (xMem) :=
  fX4_touchAll_l2 a0 a1 (fun (v4 : Int32) (M5 : xMem) => some M5) xFU (nI 0) M
set_option maxRecDepth 100000 in
set_option maxHeartbeats 4000000 in
theorem lX4_touchAll_2 {X : xCX} {M' : xMem} (C : xCk X cX4_touchAll RX4 2) (R0 : xRk X none (none, M')) (hnL : X.2.2.2.2.2.2.2.2.2.2.2.2.2 = 3) (p0 : Nat) (hp0 : xkd p0 = 4) (p1 : Int32) (K : Int32 → xMem → Option (xMem)) (hK : ∀ (v2 : Int32) (M : xMem), K v2 M = some M' → WW X 28 [some (vr X.1 p0), some (.int p1), some (.int v2)] [] M) : ∀ (n : Nat) (v2 : Int32) (M : xMem), fX4_touchAll_l2 p0 p1 K n v2 M = some M' → WW X 2 [some (vr X.1 p0), some (.int p1), some (.int v2)] [] M := by
  have hn2 : 2 < X.2.2.2.2.2.2.2.2.2.2.2.2.2 := by rw [hnL]; decide
  intro n
  induction n with
  | zero =>
    intro v2 M h
    cases (show (none : Option (xMem)) = some M' from h)
  | succ n ih =>
    intro v2 M h
    rw [fX4_touchAll_l2.eq_2] at h
    refine r_iload_n (pc := 2) C dX4_touchAll_2 rfl rfl ?_
    refine r_bipush (pc := 3) (v := (nI 10)) C dX4_touchAll_3 (by decide) ?_
    refine r_icmp_ge (pc := 5) (tgt := 28) C dX4_touchAll_5 (by decide) h (fun _ h => ?_) (fun _ h => ?_)
    · exact hK v2 M h
    · refine r_iload_n (pc := 8) C dX4_touchAll_8 rfl rfl ?_
      refine r_iload_n (pc := 9) C dX4_touchAll_9 rfl rfl ?_
      refine r_ishr (pc := 10) C dX4_touchAll_10 ?_
      refine r_iconst (pc := 11) (v := (nI 1)) C dX4_touchAll_11 (by decide) ?_
      refine r_iand (pc := 12) C dX4_touchAll_12 ?_
      refine r_iconst (pc := 13) (v := (nI 1)) C dX4_touchAll_13 (by decide) ?_
      refine r_icmp_ne (pc := 14) (tgt := 22) C dX4_touchAll_14 (by decide) h (fun _ h => ?_) (fun _ h => ?_)
      · refine r_iincL (pc := 22) (c := nI 1) C dX4_touchAll_22 rfl (by decide) hn2 h (fun x1 h => ?_)
        refine r_lvE (lv' := [_, _, _]) rfl ?_
        refine r_goto (pc := 25) (tgt := 2) C dX4_touchAll_25 (by decide) ?_
        exact ih x1 M h
      · refine r_aload_n (pc := 17) C dX4_touchAll_17 rfl rfl ?_
        refine r_iload_n (pc := 18) C dX4_touchAll_18 rfl rfl ?_
        refine r_vV1 (pc := 19) C (fun M' e => zX4_addTouched X.1 p0 hp0 v2 M M' e) hp0 (by decide) rfl mX4_addTouched lX4_31 (by decide) (Nat.le_of_ble_eq_true rfl) dX4_touchAll_19 h (fun M2 h => ?_)
        refine r_iincL (pc := 22) (c := nI 1) C dX4_touchAll_22 rfl (by decide) hn2 h (fun x3 h => ?_)
        refine r_lvE (lv' := [_, _, _]) rfl ?_
        refine r_goto (pc := 25) (tgt := 2) C dX4_touchAll_25 (by decide) ?_
        exact ih x3 M2 h
set_option maxRecDepth 100000 in
set_option maxHeartbeats 4000000 in
theorem zX4_touchAll (G : xGX) (a0 : Nat) (h0 : xkd a0 = 4) (a1 : Int32) (M : xMem) (M' : xMem) (h : fX4_touchAll a0 a1 M = some M') : xCt G yX4_touchAll cX4_touchAll 3 none 2 [vr G a0, .int a1] M (none, M') := by
  refine xMet (lv := [some (vr G a0), some (.int a1), none]) (by decide) (Nat.le_of_ble_eq_true rfl) rfl ?_
  intro X hG hnL C R0
  subst hG
  have C : xCk X cX4_touchAll RX4 2 := C
  have hn2 : 2 < X.2.2.2.2.2.2.2.2.2.2.2.2.2 := by rw [hnL]; decide
  unfold fX4_touchAll at h
  refine r_iconst (pc := 0) (v := (nI 0)) C dX4_touchAll_0 (by decide) ?_
  refine r_istore_n (pc := 1) (lv' := [_, _, _]) C dX4_touchAll_1 rfl hn2 rfl ?_
  refine lX4_touchAll_2 C R0 hnL a0 h0 a1 _ (fun v4 M5 h => ?_) _ _ _ h
  exact r_vret (pc := 28) C R0 h dX4_touchAll_28
theorem dX4_touchedMask_0 : decode cX4_touchedMask 0 = .ok (.iconst 0, 1) := by decide +kernel
theorem dX4_touchedMask_1 : decode cX4_touchedMask 1 = .ok (.istore_n 1, 1) := by decide +kernel
theorem dX4_touchedMask_2 : decode cX4_touchedMask 2 = .ok (.iconst 0, 1) := by decide +kernel
theorem dX4_touchedMask_3 : decode cX4_touchedMask 3 = .ok (.istore_n 2, 1) := by decide +kernel
theorem dX4_touchedMask_4 : decode cX4_touchedMask 4 = .ok (.iload_n 2, 1) := by decide +kernel
theorem dX4_touchedMask_5 : decode cX4_touchedMask 5 = .ok (.aload_n 0, 1) := by decide +kernel
theorem dX4_touchedMask_6 : decode cX4_touchedMask 6 = .ok (.getfield 24, 3) := by decide +kernel
theorem dX4_touchedMask_9 : decode cX4_touchedMask 9 = .ok (.if_icmp .ge 29, 3) := by decide +kernel
theorem dX4_touchedMask_12 : decode cX4_touchedMask 12 = .ok (.iload_n 2, 1) := by decide +kernel
theorem dX4_touchedMask_13 : decode cX4_touchedMask 13 = .ok (.aload_n 0, 1) := by decide +kernel
theorem dX4_touchedMask_14 : decode cX4_touchedMask 14 = .ok (.getfield 27, 3) := by decide +kernel
theorem dX4_touchedMask_17 : decode cX4_touchedMask 17 = .ok (.arraylength, 1) := by decide +kernel
theorem dX4_touchedMask_18 : decode cX4_touchedMask 18 = .ok (.if_icmp .ge 20, 3) := by decide +kernel
theorem dX4_touchedMask_21 : decode cX4_touchedMask 21 = .ok (.iload_n 1, 1) := by decide +kernel
theorem dX4_touchedMask_22 : decode cX4_touchedMask 22 = .ok (.iconst 1, 1) := by decide +kernel
theorem dX4_touchedMask_23 : decode cX4_touchedMask 23 = .ok (.aload_n 0, 1) := by decide +kernel
theorem dX4_touchedMask_24 : decode cX4_touchedMask 24 = .ok (.getfield 27, 3) := by decide +kernel
theorem dX4_touchedMask_27 : decode cX4_touchedMask 27 = .ok (.iload_n 2, 1) := by decide +kernel
theorem dX4_touchedMask_28 : decode cX4_touchedMask 28 = .ok (.iaload, 1) := by decide +kernel
theorem dX4_touchedMask_29 : decode cX4_touchedMask 29 = .ok (.ishl, 1) := by decide +kernel
theorem dX4_touchedMask_30 : decode cX4_touchedMask 30 = .ok (.ior, 1) := by decide +kernel
theorem dX4_touchedMask_31 : decode cX4_touchedMask 31 = .ok (.istore_n 1, 1) := by decide +kernel
theorem dX4_touchedMask_32 : decode cX4_touchedMask 32 = .ok (.iinc 2 1, 3) := by decide +kernel
theorem dX4_touchedMask_35 : decode cX4_touchedMask 35 = .ok (.goto (-31), 3) := by decide +kernel
theorem dX4_touchedMask_38 : decode cX4_touchedMask 38 = .ok (.iload_n 1, 1) := by decide +kernel
theorem dX4_touchedMask_39 : decode cX4_touchedMask 39 = .ok (.ireturn, 1) := by decide +kernel
def fX4_touchedMask_l4 (p0 : Nat) (K : Int32 → Int32 → xMem → Option (Int32 × xMem)) : Nat → Int32 → Int32 → xMem → Option (Int32 × xMem)
  | 0, _, _, _ => none
  | n + 1, v1, v2, M => if (M.1 p0 4) ≤ v2 then (K v1 v2 M) else (if (nI (xln (xrf p0 5))) ≤ v2 then (K v1 v2 M) else (xGb v2 (xln (xrf p0 5)) (xLt (v1 ||| ((nI 1) <<< ((M.1 (xrf p0 5) (Int32.toNatClampNeg v2)) &&& 31))) fun x2 => xLt (v2 + nI 1) fun x3 => fX4_touchedMask_l4 p0 K n x2 x3 M)))
def fX4_touchedMask (a0 : Nat) (M : xMem) : Option (Int32 × xMem) :=
  fX4_touchedMask_l4 a0 (fun (v4 : Int32) (v5 : Int32) (M6 : xMem) => some (v4, M6)) xFU (nI 0) (nI 0) M
set_option maxRecDepth 100000 in
set_option maxHeartbeats 4000000 in
theorem lX4_touchedMask_4 {X : xCX} {r : Int32} {M' : xMem} (C : xCk X cX4_touchedMask RX4 1) (R0 : xRk X (some .int) (some (.int r), M')) (hnL : X.2.2.2.2.2.2.2.2.2.2.2.2.2 = 3) (p0 : Nat) (hp0 : xkd p0 = 4) (K : Int32 → Int32 → xMem → Option (Int32 × xMem)) (hK : ∀ (v1 : Int32) (v2 : Int32) (M : xMem), K v1 v2 M = some (r, M') → WW X 38 [some (vr X.1 p0), some (.int v1), some (.int v2)] [] M) : ∀ (n : Nat) (v1 : Int32) (v2 : Int32) (M : xMem), fX4_touchedMask_l4 p0 K n v1 v2 M = some (r, M') → WW X 4 [some (vr X.1 p0), some (.int v1), some (.int v2)] [] M := by
  have hn1 : 1 < X.2.2.2.2.2.2.2.2.2.2.2.2.2 := by rw [hnL]; decide
  have hn2 : 2 < X.2.2.2.2.2.2.2.2.2.2.2.2.2 := by rw [hnL]; decide
  intro n
  induction n with
  | zero =>
    intro v1 v2 M h
    cases (show (none : Option (Int32 × xMem)) = some (r, M') from h)
  | succ n ih =>
    intro v1 v2 M h
    rw [fX4_touchedMask_l4.eq_2] at h
    refine r_iload_n (pc := 4) C dX4_touchedMask_4 rfl rfl ?_
    refine r_aload_n (pc := 5) C dX4_touchedMask_5 rfl rfl ?_
    refine r_getI (pc := 6) C kX4_24 hp0 dX4_touchedMask_6 ?_
    refine r_icmp_ge (pc := 9) (tgt := 38) C dX4_touchedMask_9 (by decide) h (fun _ h => ?_) (fun _ h => ?_)
    · exact hK v1 v2 M h
    · refine r_iload_n (pc := 12) C dX4_touchedMask_12 rfl rfl ?_
      refine r_aload_n (pc := 13) C dX4_touchedMask_13 rfl rfl ?_
      refine r_getR (pc := 14) C kX4_27 hp0 (by decide) dX4_touchedMask_14 ?_
      refine r_alen (pc := 17) C (xkar (xtk hp0 (by decide) rfl rfl) (by decide)) dX4_touchedMask_17 ?_
      refine r_icmp_ge (pc := 18) (tgt := 38) C dX4_touchedMask_18 (by decide) h (fun _ h => ?_) (fun _ h => ?_)
      · exact hK v1 v2 M h
      · refine r_iload_n (pc := 21) C dX4_touchedMask_21 rfl rfl ?_
        refine r_iconst (pc := 22) (v := (nI 1)) C dX4_touchedMask_22 (by decide) ?_
        refine r_aload_n (pc := 23) C dX4_touchedMask_23 rfl rfl ?_
        refine r_getR (pc := 24) C kX4_27 hp0 (by decide) dX4_touchedMask_24 ?_
        refine r_iload_n (pc := 27) C dX4_touchedMask_27 rfl rfl ?_
        obtain ⟨g1, h⟩ := xGb_of h
        refine r_iald (pc := 28) C (xtk hp0 (by decide) rfl rfl) g1 dX4_touchedMask_28 ?_
        refine r_ishl (pc := 29) C dX4_touchedMask_29 ?_
        refine r_ior (pc := 30) C dX4_touchedMask_30 ?_
        refine r_letI h (fun x2 h => ?_)
        refine r_istore_n (pc := 31) (lv' := [_, _, _]) C dX4_touchedMask_31 rfl hn1 rfl ?_
        refine r_iincL (pc := 32) (c := nI 1) C dX4_touchedMask_32 rfl (by decide) hn2 h (fun x3 h => ?_)
        refine r_lvE (lv' := [_, _, _]) rfl ?_
        refine r_goto (pc := 35) (tgt := 4) C dX4_touchedMask_35 (by decide) ?_
        exact ih x2 x3 M h
set_option maxRecDepth 100000 in
set_option maxHeartbeats 4000000 in
theorem zX4_touchedMask (G : xGX) (a0 : Nat) (h0 : xkd a0 = 4) (M : xMem) (r : Int32) (M' : xMem) (h : fX4_touchedMask a0 M = some (r, M')) : xCt G yX4_touchedMask cX4_touchedMask 3 (some .int) 1 [vr G a0] M (some (.int r), M') := by
  refine xMet (lv := [some (vr G a0), none, none]) (by decide) (Nat.le_of_ble_eq_true rfl) rfl ?_
  intro X hG hnL C R0
  subst hG
  have C : xCk X cX4_touchedMask RX4 1 := C
  have hn1 : 1 < X.2.2.2.2.2.2.2.2.2.2.2.2.2 := by rw [hnL]; decide
  have hn2 : 2 < X.2.2.2.2.2.2.2.2.2.2.2.2.2 := by rw [hnL]; decide
  unfold fX4_touchedMask at h
  refine r_iconst (pc := 0) (v := (nI 0)) C dX4_touchedMask_0 (by decide) ?_
  refine r_istore_n (pc := 1) (lv' := [_, _, _]) C dX4_touchedMask_1 rfl hn1 rfl ?_
  refine r_iconst (pc := 2) (v := (nI 0)) C dX4_touchedMask_2 (by decide) ?_
  refine r_istore_n (pc := 3) (lv' := [_, _, _]) C dX4_touchedMask_3 rfl hn2 rfl ?_
  refine lX4_touchedMask_4 C R0 hnL a0 h0 _ (fun v4 v5 M6 h => ?_) _ _ _ _ h
  refine r_iload_n (pc := 38) C dX4_touchedMask_38 rfl rfl ?_
  exact r_iret (pc := 39) C R0 h dX4_touchedMask_39
theorem dX4_packOther_0 : decode cX4_packOther 0 = .ok (.iload_n 0, 1) := by decide +kernel
theorem dX4_packOther_1 : decode cX4_packOther 1 = .ok (.iload_n 1, 1) := by decide +kernel
theorem dX4_packOther_2 : decode cX4_packOther 2 = .ok (.iconst 4, 1) := by decide +kernel
theorem dX4_packOther_3 : decode cX4_packOther 3 = .ok (.ishl, 1) := by decide +kernel
theorem dX4_packOther_4 : decode cX4_packOther 4 = .ok (.ior, 1) := by decide +kernel
theorem dX4_packOther_5 : decode cX4_packOther 5 = .ok (.iload_n 2, 1) := by decide +kernel
theorem dX4_packOther_6 : decode cX4_packOther 6 = .ok (.bipush 8, 2) := by decide +kernel
theorem dX4_packOther_8 : decode cX4_packOther 8 = .ok (.ishl, 1) := by decide +kernel
theorem dX4_packOther_9 : decode cX4_packOther 9 = .ok (.ior, 1) := by decide +kernel
theorem dX4_packOther_10 : decode cX4_packOther 10 = .ok (.iload_n 3, 1) := by decide +kernel
theorem dX4_packOther_11 : decode cX4_packOther 11 = .ok (.bipush 12, 2) := by decide +kernel
theorem dX4_packOther_13 : decode cX4_packOther 13 = .ok (.ishl, 1) := by decide +kernel
theorem dX4_packOther_14 : decode cX4_packOther 14 = .ok (.ior, 1) := by decide +kernel
theorem dX4_packOther_15 : decode cX4_packOther 15 = .ok (.i2l, 1) := by decide +kernel
theorem dX4_packOther_16 : decode cX4_packOther 16 = .ok (.lreturn, 1) := by decide +kernel
def fX4_packOther (a0 : Int32) (a1 : Int32) (a2 : Int32) (a3 : Int32) (M : xMem) : Option (Int64 × xMem) :=
  some ((Int32.toInt64 (((a0 ||| (a1 <<< ((nI 4) &&& 31))) ||| (a2 <<< ((nI 8) &&& 31))) ||| (a3 <<< ((nI 12) &&& 31)))), M)
set_option maxRecDepth 100000 in
set_option maxHeartbeats 4000000 in
theorem zX4_packOther (G : xGX) (a0 : Int32) (a1 : Int32) (a2 : Int32) (a3 : Int32) (M : xMem) (r : Int64) (M' : xMem) (h : fX4_packOther a0 a1 a2 a3 M = some (r, M')) : xCt G yX4_packOther cX4_packOther 4 (some .long) 1 [.int a0, .int a1, .int a2, .int a3] M (some (.long r), M') := by
  refine xMet (lv := [some (.int a0), some (.int a1), some (.int a2), some (.int a3)]) (by decide) (Nat.le_of_ble_eq_true rfl) rfl ?_
  intro X hG hnL C R0
  subst hG
  have C : xCk X cX4_packOther RX4 1 := C
  unfold fX4_packOther at h
  refine r_iload_n (pc := 0) C dX4_packOther_0 rfl rfl ?_
  refine r_iload_n (pc := 1) C dX4_packOther_1 rfl rfl ?_
  refine r_iconst (pc := 2) (v := (nI 4)) C dX4_packOther_2 (by decide) ?_
  refine r_ishl (pc := 3) C dX4_packOther_3 ?_
  refine r_ior (pc := 4) C dX4_packOther_4 ?_
  refine r_iload_n (pc := 5) C dX4_packOther_5 rfl rfl ?_
  refine r_bipush (pc := 6) (v := (nI 8)) C dX4_packOther_6 (by decide) ?_
  refine r_ishl (pc := 8) C dX4_packOther_8 ?_
  refine r_ior (pc := 9) C dX4_packOther_9 ?_
  refine r_iload_n (pc := 10) C dX4_packOther_10 rfl rfl ?_
  refine r_bipush (pc := 11) (v := (nI 12)) C dX4_packOther_11 (by decide) ?_
  refine r_ishl (pc := 13) C dX4_packOther_13 ?_
  refine r_ior (pc := 14) C dX4_packOther_14 ?_
  refine r_i2l (pc := 15) C dX4_packOther_15 ?_
  exact r_lret (pc := 16) C R0 h dX4_packOther_16
theorem dX4_pack_0 : decode cX4_pack 0 = .ok (.iconst 0, 1) := by decide +kernel
theorem dX4_pack_1 : decode cX4_pack 1 = .ok (.aload_n 0, 1) := by decide +kernel
theorem dX4_pack_2 : decode cX4_pack 2 = .ok (.getfield 9, 3) := by decide +kernel
theorem dX4_pack_5 : decode cX4_pack 5 = .ok (.aload_n 0, 1) := by decide +kernel
theorem dX4_pack_6 : decode cX4_pack 6 = .ok (.getfield 15, 3) := by decide +kernel
theorem dX4_pack_9 : decode cX4_pack 9 = .ok (.aload_n 0, 1) := by decide +kernel
theorem dX4_pack_10 : decode cX4_pack 10 = .ok (.getfield 18, 3) := by decide +kernel
theorem dX4_pack_13 : decode cX4_pack 13 = .ok (.invokestatic 35, 3) := by decide +kernel
theorem dX4_pack_16 : decode cX4_pack 16 = .ok (.lstore_n 1, 1) := by decide +kernel
theorem dX4_pack_17 : decode cX4_pack 17 = .ok (.lload_n 1, 1) := by decide +kernel
theorem dX4_pack_18 : decode cX4_pack 18 = .ok (.aload_n 0, 1) := by decide +kernel
theorem dX4_pack_19 : decode cX4_pack 19 = .ok (.getfield 21, 3) := by decide +kernel
theorem dX4_pack_22 : decode cX4_pack 22 = .ok (.i2l, 1) := by decide +kernel
theorem dX4_pack_23 : decode cX4_pack 23 = .ok (.bipush 16, 2) := by decide +kernel
theorem dX4_pack_25 : decode cX4_pack 25 = .ok (.lshl, 1) := by decide +kernel
theorem dX4_pack_26 : decode cX4_pack 26 = .ok (.aload_n 0, 1) := by decide +kernel
theorem dX4_pack_27 : decode cX4_pack 27 = .ok (.getfield 24, 3) := by decide +kernel
theorem dX4_pack_30 : decode cX4_pack 30 = .ok (.i2l, 1) := by decide +kernel
theorem dX4_pack_31 : decode cX4_pack 31 = .ok (.bipush 20, 2) := by decide +kernel
theorem dX4_pack_33 : decode cX4_pack 33 = .ok (.lshl, 1) := by decide +kernel
theorem dX4_pack_34 : decode cX4_pack 34 = .ok (.lor, 1) := by decide +kernel
theorem dX4_pack_35 : decode cX4_pack 35 = .ok (.lor, 1) := by decide +kernel
theorem dX4_pack_36 : decode cX4_pack 36 = .ok (.lstore_n 1, 1) := by decide +kernel
theorem dX4_pack_37 : decode cX4_pack 37 = .ok (.iconst 0, 1) := by decide +kernel
theorem dX4_pack_38 : decode cX4_pack 38 = .ok (.istore_n 3, 1) := by decide +kernel
theorem dX4_pack_39 : decode cX4_pack 39 = .ok (.iload_n 3, 1) := by decide +kernel
theorem dX4_pack_40 : decode cX4_pack 40 = .ok (.aload_n 0, 1) := by decide +kernel
theorem dX4_pack_41 : decode cX4_pack 41 = .ok (.getfield 24, 3) := by decide +kernel
theorem dX4_pack_44 : decode cX4_pack 44 = .ok (.if_icmp .ge 35, 3) := by decide +kernel
theorem dX4_pack_47 : decode cX4_pack 47 = .ok (.iload_n 3, 1) := by decide +kernel
theorem dX4_pack_48 : decode cX4_pack 48 = .ok (.aload_n 0, 1) := by decide +kernel
theorem dX4_pack_49 : decode cX4_pack 49 = .ok (.getfield 27, 3) := by decide +kernel
theorem dX4_pack_52 : decode cX4_pack 52 = .ok (.arraylength, 1) := by decide +kernel
theorem dX4_pack_53 : decode cX4_pack 53 = .ok (.if_icmp .ge 26, 3) := by decide +kernel
theorem dX4_pack_56 : decode cX4_pack 56 = .ok (.lload_n 1, 1) := by decide +kernel
theorem dX4_pack_57 : decode cX4_pack 57 = .ok (.aload_n 0, 1) := by decide +kernel
theorem dX4_pack_58 : decode cX4_pack 58 = .ok (.getfield 27, 3) := by decide +kernel
theorem dX4_pack_61 : decode cX4_pack 61 = .ok (.iload_n 3, 1) := by decide +kernel
theorem dX4_pack_62 : decode cX4_pack 62 = .ok (.iaload, 1) := by decide +kernel
theorem dX4_pack_63 : decode cX4_pack 63 = .ok (.i2l, 1) := by decide +kernel
theorem dX4_pack_64 : decode cX4_pack 64 = .ok (.iconst 4, 1) := by decide +kernel
theorem dX4_pack_65 : decode cX4_pack 65 = .ok (.bipush 6, 2) := by decide +kernel
theorem dX4_pack_67 : decode cX4_pack 67 = .ok (.iload_n 3, 1) := by decide +kernel
theorem dX4_pack_68 : decode cX4_pack 68 = .ok (.iadd, 1) := by decide +kernel
theorem dX4_pack_69 : decode cX4_pack 69 = .ok (.imul, 1) := by decide +kernel
theorem dX4_pack_70 : decode cX4_pack 70 = .ok (.lshl, 1) := by decide +kernel
theorem dX4_pack_71 : decode cX4_pack 71 = .ok (.lor, 1) := by decide +kernel
theorem dX4_pack_72 : decode cX4_pack 72 = .ok (.lstore_n 1, 1) := by decide +kernel
theorem dX4_pack_73 : decode cX4_pack 73 = .ok (.iinc 3 1, 3) := by decide +kernel
theorem dX4_pack_76 : decode cX4_pack 76 = .ok (.goto (-37), 3) := by decide +kernel
theorem dX4_pack_79 : decode cX4_pack 79 = .ok (.lload_n 1, 1) := by decide +kernel
theorem dX4_pack_80 : decode cX4_pack 80 = .ok (.lreturn, 1) := by decide +kernel
def fX4_pack_l39 (p0 : Nat) (K : Int64 → Int32 → xMem → Option (Int64 × xMem)) : Nat → Int64 → Int32 → xMem → Option (Int64 × xMem)
  | 0, _, _, _ => none
  | n + 1, v1, v3, M => if (M.1 p0 4) ≤ v3 then (K v1 v3 M) else (if (nI (xln (xrf p0 5))) ≤ v3 then (K v1 v3 M) else (xGb v3 (xln (xrf p0 5)) (xLt (v1 ||| ((Int32.toInt64 (M.1 (xrf p0 5) (Int32.toNatClampNeg v3))) <<< (Int32.toInt64 ((nI 4) * ((nI 6) + v3)) &&& 63))) fun x5 => xLt (v3 + nI 1) fun x6 => fX4_pack_l39 p0 K n x5 x6 M)))
def fX4_pack (a0 : Nat) (M : xMem) : Option (Int64 × xMem) :=
  xBn (fX4_packOther (nI 0) (M.1 a0 0) (M.1 a0 1) (M.1 a0 2) M) fun r1 M2 => xLt (r1 ||| (((Int32.toInt64 (M2.1 a0 3)) <<< (Int32.toInt64 (nI 16) &&& 63)) ||| ((Int32.toInt64 (M2.1 a0 4)) <<< (Int32.toInt64 (nI 20) &&& 63)))) fun x3 => fX4_pack_l39 a0 (fun (v7 : Int64) (v8 : Int32) (M9 : xMem) => some (v7, M9)) xFU x3 (nI 0) M2
set_option maxRecDepth 100000 in
set_option maxHeartbeats 4000000 in
theorem lX4_pack_39 {X : xCX} {r : Int64} {M' : xMem} (C : xCk X cX4_pack RX4 2) (R0 : xRk X (some .long) (some (.long r), M')) (hnL : X.2.2.2.2.2.2.2.2.2.2.2.2.2 = 4) (p0 : Nat) (hp0 : xkd p0 = 4) (K : Int64 → Int32 → xMem → Option (Int64 × xMem)) (hK : ∀ (v1 : Int64) (v3 : Int32) (M : xMem), K v1 v3 M = some (r, M') → WW X 79 [some (vr X.1 p0), some (.long v1), none, some (.int v3)] [] M) : ∀ (n : Nat) (v1 : Int64) (v3 : Int32) (M : xMem), fX4_pack_l39 p0 K n v1 v3 M = some (r, M') → WW X 39 [some (vr X.1 p0), some (.long v1), none, some (.int v3)] [] M := by
  have hn1 : 1 + 1 < X.2.2.2.2.2.2.2.2.2.2.2.2.2 := by rw [hnL]; decide
  have hn3 : 3 < X.2.2.2.2.2.2.2.2.2.2.2.2.2 := by rw [hnL]; decide
  intro n
  induction n with
  | zero =>
    intro v1 v3 M h
    cases (show (none : Option (Int64 × xMem)) = some (r, M') from h)
  | succ n ih =>
    intro v1 v3 M h
    rw [fX4_pack_l39.eq_2] at h
    refine r_iload_n (pc := 39) C dX4_pack_39 rfl rfl ?_
    refine r_aload_n (pc := 40) C dX4_pack_40 rfl rfl ?_
    refine r_getI (pc := 41) C kX4_24 hp0 dX4_pack_41 ?_
    refine r_icmp_ge (pc := 44) (tgt := 79) C dX4_pack_44 (by decide) h (fun _ h => ?_) (fun _ h => ?_)
    · exact hK v1 v3 M h
    · refine r_iload_n (pc := 47) C dX4_pack_47 rfl rfl ?_
      refine r_aload_n (pc := 48) C dX4_pack_48 rfl rfl ?_
      refine r_getR (pc := 49) C kX4_27 hp0 (by decide) dX4_pack_49 ?_
      refine r_alen (pc := 52) C (xkar (xtk hp0 (by decide) rfl rfl) (by decide)) dX4_pack_52 ?_
      refine r_icmp_ge (pc := 53) (tgt := 79) C dX4_pack_53 (by decide) h (fun _ h => ?_) (fun _ h => ?_)
      · exact hK v1 v3 M h
      · refine r_lload_n (pc := 56) C dX4_pack_56 rfl rfl ?_
        refine r_aload_n (pc := 57) C dX4_pack_57 rfl rfl ?_
        refine r_getR (pc := 58) C kX4_27 hp0 (by decide) dX4_pack_58 ?_
        refine r_iload_n (pc := 61) C dX4_pack_61 rfl rfl ?_
        obtain ⟨g4, h⟩ := xGb_of h
        refine r_iald (pc := 62) C (xtk hp0 (by decide) rfl rfl) g4 dX4_pack_62 ?_
        refine r_i2l (pc := 63) C dX4_pack_63 ?_
        refine r_iconst (pc := 64) (v := (nI 4)) C dX4_pack_64 (by decide) ?_
        refine r_bipush (pc := 65) (v := (nI 6)) C dX4_pack_65 (by decide) ?_
        refine r_iload_n (pc := 67) C dX4_pack_67 rfl rfl ?_
        refine r_iadd (pc := 68) C dX4_pack_68 ?_
        refine r_imul (pc := 69) C dX4_pack_69 ?_
        refine r_lshl (pc := 70) C dX4_pack_70 ?_
        refine r_lor (pc := 71) C dX4_pack_71 ?_
        refine r_letL h (fun x5 h => ?_)
        refine r_lstore_n (pc := 72) (lv' := [_, _, _, _]) C dX4_pack_72 rfl hn1 rfl ?_
        refine r_iincL (pc := 73) (c := nI 1) C dX4_pack_73 rfl (by decide) hn3 h (fun x6 h => ?_)
        refine r_lvE (lv' := [_, _, _, _]) rfl ?_
        refine r_goto (pc := 76) (tgt := 39) C dX4_pack_76 (by decide) ?_
        exact ih x5 x6 M h
set_option maxRecDepth 100000 in
set_option maxHeartbeats 4000000 in
theorem zX4_pack (G : xGX) (a0 : Nat) (h0 : xkd a0 = 4) (M : xMem) (r : Int64) (M' : xMem) (h : fX4_pack a0 M = some (r, M')) : xCt G yX4_pack cX4_pack 4 (some .long) 2 [vr G a0] M (some (.long r), M') := by
  refine xMet (lv := [some (vr G a0), none, none, none]) (by decide) (Nat.le_of_ble_eq_true rfl) rfl ?_
  intro X hG hnL C R0
  subst hG
  have C : xCk X cX4_pack RX4 2 := C
  have hn1 : 1 + 1 < X.2.2.2.2.2.2.2.2.2.2.2.2.2 := by rw [hnL]; decide
  have hn3 : 3 < X.2.2.2.2.2.2.2.2.2.2.2.2.2 := by rw [hnL]; decide
  unfold fX4_pack at h
  refine r_iconst (pc := 0) (v := (nI 0)) C dX4_pack_0 (by decide) ?_
  refine r_aload_n (pc := 1) C dX4_pack_1 rfl rfl ?_
  refine r_getI (pc := 2) C kX4_9 h0 dX4_pack_2 ?_
  refine r_aload_n (pc := 5) C dX4_pack_5 rfl rfl ?_
  refine r_getI (pc := 6) C kX4_15 h0 dX4_pack_6 ?_
  refine r_aload_n (pc := 9) C dX4_pack_9 rfl rfl ?_
  refine r_getI (pc := 10) C kX4_18 h0 dX4_pack_10 ?_
  refine r_sL4 (pc := 13) C (fun r M' e => zX4_packOther X.1 (nI 0) (M.1 a0 0) (M.1 a0 1) (M.1 a0 2) M r M' e) mX4_packOther lX4_35 (by decide) (Nat.le_of_ble_eq_true rfl) dX4_pack_13 h (fun r1 M2 h => ?_)
  refine r_lstore_n (pc := 16) (lv' := [_, _, _, _]) C dX4_pack_16 rfl hn1 rfl ?_
  refine r_lload_n (pc := 17) C dX4_pack_17 rfl rfl ?_
  refine r_aload_n (pc := 18) C dX4_pack_18 rfl rfl ?_
  refine r_getI (pc := 19) C kX4_21 h0 dX4_pack_19 ?_
  refine r_i2l (pc := 22) C dX4_pack_22 ?_
  refine r_bipush (pc := 23) (v := (nI 16)) C dX4_pack_23 (by decide) ?_
  refine r_lshl (pc := 25) C dX4_pack_25 ?_
  refine r_aload_n (pc := 26) C dX4_pack_26 rfl rfl ?_
  refine r_getI (pc := 27) C kX4_24 h0 dX4_pack_27 ?_
  refine r_i2l (pc := 30) C dX4_pack_30 ?_
  refine r_bipush (pc := 31) (v := (nI 20)) C dX4_pack_31 (by decide) ?_
  refine r_lshl (pc := 33) C dX4_pack_33 ?_
  refine r_lor (pc := 34) C dX4_pack_34 ?_
  refine r_lor (pc := 35) C dX4_pack_35 ?_
  refine r_letL h (fun x3 h => ?_)
  refine r_lstore_n (pc := 36) (lv' := [_, _, _, _]) C dX4_pack_36 rfl hn1 rfl ?_
  refine r_iconst (pc := 37) (v := (nI 0)) C dX4_pack_37 (by decide) ?_
  refine r_istore_n (pc := 38) (lv' := [_, _, _, _]) C dX4_pack_38 rfl hn3 rfl ?_
  refine lX4_pack_39 C R0 hnL a0 h0 _ (fun v7 v8 M9 h => ?_) _ _ _ _ h
  refine r_lload_n (pc := 79) C dX4_pack_79 rfl rfl ?_
  exact r_lret (pc := 80) C R0 h dX4_pack_80
theorem dX4_part_0 : decode cX4_part 0 = .ok (.lload_n 0, 1) := by decide +kernel
theorem dX4_part_1 : decode cX4_part 1 = .ok (.iconst 4, 1) := by decide +kernel
theorem dX4_part_2 : decode cX4_part 2 = .ok (.iload_n 2, 1) := by decide +kernel
theorem dX4_part_3 : decode cX4_part 3 = .ok (.imul, 1) := by decide +kernel
theorem dX4_part_4 : decode cX4_part 4 = .ok (.lushr, 1) := by decide +kernel
theorem dX4_part_5 : decode cX4_part 5 = .ok (.l2i, 1) := by decide +kernel
theorem dX4_part_6 : decode cX4_part 6 = .ok (.bipush 15, 2) := by decide +kernel
theorem dX4_part_8 : decode cX4_part 8 = .ok (.iand, 1) := by decide +kernel
theorem dX4_part_9 : decode cX4_part 9 = .ok (.ireturn, 1) := by decide +kernel
def fX4_part (a0 : Int64) (a2 : Int32) (M : xMem) : Option (Int32 × xMem) :=
  some (((Int64.toInt32 ((Int64.toUInt64 a0 >>> ((Int32.toInt64 ((nI 4) * a2)).toUInt64 &&& Int64.toUInt64 63)).toInt64)) &&& (nI 15)), M)
set_option maxRecDepth 100000 in
set_option maxHeartbeats 4000000 in
theorem zX4_part (G : xGX) (a0 : Int64) (a2 : Int32) (M : xMem) (r : Int32) (M' : xMem) (h : fX4_part a0 a2 M = some (r, M')) : xCt G yX4_part cX4_part 3 (some .int) 1 [.long a0, .int a2] M (some (.int r), M') := by
  refine xMet (lv := [some (.long a0), none, some (.int a2)]) (by decide) (Nat.le_of_ble_eq_true rfl) rfl ?_
  intro X hG hnL C R0
  subst hG
  have C : xCk X cX4_part RX4 1 := C
  unfold fX4_part at h
  refine r_lload_n (pc := 0) C dX4_part_0 rfl rfl ?_
  refine r_iconst (pc := 1) (v := (nI 4)) C dX4_part_1 (by decide) ?_
  refine r_iload_n (pc := 2) C dX4_part_2 rfl rfl ?_
  refine r_imul (pc := 3) C dX4_part_3 ?_
  refine r_lushr (pc := 4) C dX4_part_4 ?_
  refine r_l2i (pc := 5) C dX4_part_5 ?_
  refine r_bipush (pc := 6) (v := (nI 15)) C dX4_part_6 (by decide) ?_
  refine r_iand (pc := 8) C dX4_part_8 ?_
  exact r_iret (pc := 9) C R0 h dX4_part_9
theorem dX4_unpack_0 : decode cX4_unpack 0 = .ok (.aload_n 0, 1) := by decide +kernel
theorem dX4_unpack_1 : decode cX4_unpack 1 = .ok (.lload_n 1, 1) := by decide +kernel
theorem dX4_unpack_2 : decode cX4_unpack 2 = .ok (.iconst 1, 1) := by decide +kernel
theorem dX4_unpack_3 : decode cX4_unpack 3 = .ok (.invokestatic 39, 3) := by decide +kernel
theorem dX4_unpack_6 : decode cX4_unpack 6 = .ok (.lload_n 1, 1) := by decide +kernel
theorem dX4_unpack_7 : decode cX4_unpack 7 = .ok (.iconst 2, 1) := by decide +kernel
theorem dX4_unpack_8 : decode cX4_unpack 8 = .ok (.invokestatic 39, 3) := by decide +kernel
theorem dX4_unpack_11 : decode cX4_unpack 11 = .ok (.invokevirtual 43, 3) := by decide +kernel
theorem dX4_unpack_14 : decode cX4_unpack 14 = .ok (.aload_n 0, 1) := by decide +kernel
theorem dX4_unpack_15 : decode cX4_unpack 15 = .ok (.lload_n 1, 1) := by decide +kernel
theorem dX4_unpack_16 : decode cX4_unpack 16 = .ok (.iconst 3, 1) := by decide +kernel
theorem dX4_unpack_17 : decode cX4_unpack 17 = .ok (.invokestatic 39, 3) := by decide +kernel
theorem dX4_unpack_20 : decode cX4_unpack 20 = .ok (.putfield 18, 3) := by decide +kernel
theorem dX4_unpack_23 : decode cX4_unpack 23 = .ok (.aload_n 0, 1) := by decide +kernel
theorem dX4_unpack_24 : decode cX4_unpack 24 = .ok (.lload_n 1, 1) := by decide +kernel
theorem dX4_unpack_25 : decode cX4_unpack 25 = .ok (.iconst 4, 1) := by decide +kernel
theorem dX4_unpack_26 : decode cX4_unpack 26 = .ok (.invokestatic 39, 3) := by decide +kernel
theorem dX4_unpack_29 : decode cX4_unpack 29 = .ok (.putfield 21, 3) := by decide +kernel
theorem dX4_unpack_32 : decode cX4_unpack 32 = .ok (.lload_n 1, 1) := by decide +kernel
theorem dX4_unpack_33 : decode cX4_unpack 33 = .ok (.iconst 5, 1) := by decide +kernel
theorem dX4_unpack_34 : decode cX4_unpack 34 = .ok (.invokestatic 39, 3) := by decide +kernel
theorem dX4_unpack_37 : decode cX4_unpack 37 = .ok (.istore_n 3, 1) := by decide +kernel
theorem dX4_unpack_38 : decode cX4_unpack 38 = .ok (.iconst 0, 1) := by decide +kernel
theorem dX4_unpack_39 : decode cX4_unpack 39 = .ok (.istore 4, 2) := by decide +kernel
theorem dX4_unpack_41 : decode cX4_unpack 41 = .ok (.iload 4, 2) := by decide +kernel
theorem dX4_unpack_43 : decode cX4_unpack 43 = .ok (.iload_n 3, 1) := by decide +kernel
theorem dX4_unpack_44 : decode cX4_unpack 44 = .ok (.if_icmp .ge 22, 3) := by decide +kernel
theorem dX4_unpack_47 : decode cX4_unpack 47 = .ok (.aload_n 0, 1) := by decide +kernel
theorem dX4_unpack_48 : decode cX4_unpack 48 = .ok (.lload_n 1, 1) := by decide +kernel
theorem dX4_unpack_49 : decode cX4_unpack 49 = .ok (.bipush 6, 2) := by decide +kernel
theorem dX4_unpack_51 : decode cX4_unpack 51 = .ok (.iload 4, 2) := by decide +kernel
theorem dX4_unpack_53 : decode cX4_unpack 53 = .ok (.iadd, 1) := by decide +kernel
theorem dX4_unpack_54 : decode cX4_unpack 54 = .ok (.invokestatic 39, 3) := by decide +kernel
theorem dX4_unpack_57 : decode cX4_unpack 57 = .ok (.invokevirtual 31, 3) := by decide +kernel
theorem dX4_unpack_60 : decode cX4_unpack 60 = .ok (.iinc 4 1, 3) := by decide +kernel
theorem dX4_unpack_63 : decode cX4_unpack 63 = .ok (.goto (-22), 3) := by decide +kernel
theorem dX4_unpack_66 : decode cX4_unpack 66 = .ok (.return_, 1) := by decide +kernel
def fX4_unpack_l41 (p0 : Nat) (p1 : Int64) (p3 : Int32) (K : Int32 → xMem → Option (xMem)) : Nat → Int32 → xMem → Option (xMem)
  | 0, _, _ => none
  | n + 1, v4, M => if p3 ≤ v4 then (K v4 M) else (xBn (fX4_part p1 ((nI 6) + v4) M) fun r14 M15 => xBv (fX4_addTouched p0 r14 M15) fun M16 => xLt (v4 + nI 1) fun x17 => fX4_unpack_l41 p0 p1 p3 K n x17 M16)
def fX4_unpack (a0 : Nat) (a1 : Int64) (M : xMem) : Option (xMem) :=
  xBn (fX4_part a1 (nI 1) M) fun r1 M2 => xBn (fX4_part a1 (nI 2) M2) fun r3 M4 => xBv (fX4_begin a0 r1 r3 M4) fun M5 => xBn (fX4_part a1 (nI 3) M5) fun r6 M7 => xLt (xwI M7 a0 2 r6) fun M8 => xBn (fX4_part a1 (nI 4) M8) fun r9 M10 => xLt (xwI M10 a0 3 r9) fun M11 => xBn (fX4_part a1 (nI 5) M11) fun r12 M13 => fX4_unpack_l41 a0 a1 r12 (fun (v18 : Int32) (M19 : xMem) => some M19) xFU (nI 0) M13
set_option maxRecDepth 100000 in
set_option maxHeartbeats 4000000 in
theorem lX4_unpack_41 {X : xCX} {M' : xMem} (C : xCk X cX4_unpack RX4 2) (R0 : xRk X none (none, M')) (hnL : X.2.2.2.2.2.2.2.2.2.2.2.2.2 = 5) (p0 : Nat) (hp0 : xkd p0 = 4) (p1 : Int64) (p3 : Int32) (K : Int32 → xMem → Option (xMem)) (hK : ∀ (v4 : Int32) (M : xMem), K v4 M = some M' → WW X 66 [some (vr X.1 p0), some (.long p1), none, some (.int p3), some (.int v4)] [] M) : ∀ (n : Nat) (v4 : Int32) (M : xMem), fX4_unpack_l41 p0 p1 p3 K n v4 M = some M' → WW X 41 [some (vr X.1 p0), some (.long p1), none, some (.int p3), some (.int v4)] [] M := by
  have hn3 : 3 < X.2.2.2.2.2.2.2.2.2.2.2.2.2 := by rw [hnL]; decide
  have hn4 : 4 < X.2.2.2.2.2.2.2.2.2.2.2.2.2 := by rw [hnL]; decide
  intro n
  induction n with
  | zero =>
    intro v4 M h
    cases (show (none : Option (xMem)) = some M' from h)
  | succ n ih =>
    intro v4 M h
    rw [fX4_unpack_l41.eq_2] at h
    refine r_iload (pc := 41) C dX4_unpack_41 rfl ?_
    refine r_iload_n (pc := 43) C dX4_unpack_43 rfl rfl ?_
    refine r_icmp_ge (pc := 44) (tgt := 66) C dX4_unpack_44 (by decide) h (fun _ h => ?_) (fun _ h => ?_)
    · exact hK v4 M h
    · refine r_aload_n (pc := 47) C dX4_unpack_47 rfl rfl ?_
      refine r_lload_n (pc := 48) C dX4_unpack_48 rfl rfl ?_
      refine r_bipush (pc := 49) (v := (nI 6)) C dX4_unpack_49 (by decide) ?_
      refine r_iload (pc := 51) C dX4_unpack_51 rfl ?_
      refine r_iadd (pc := 53) C dX4_unpack_53 ?_
      refine r_sI2 (pc := 54) C (fun r M' e => zX4_part X.1 p1 ((nI 6) + v4) M r M' e) mX4_part lX4_39 (by decide) (Nat.le_of_ble_eq_true rfl) dX4_unpack_54 h (fun r14 M15 h => ?_)
      refine r_vV1 (pc := 57) C (fun M' e => zX4_addTouched X.1 p0 hp0 r14 M15 M' e) hp0 (by decide) rfl mX4_addTouched lX4_31 (by decide) (Nat.le_of_ble_eq_true rfl) dX4_unpack_57 h (fun M16 h => ?_)
      refine r_iincL (pc := 60) (c := nI 1) C dX4_unpack_60 rfl (by decide) hn4 h (fun x17 h => ?_)
      refine r_lvE (lv' := [_, _, _, _, _]) rfl ?_
      refine r_goto (pc := 63) (tgt := 41) C dX4_unpack_63 (by decide) ?_
      exact ih x17 M16 h
set_option maxRecDepth 100000 in
set_option maxHeartbeats 4000000 in
theorem zX4_unpack (G : xGX) (a0 : Nat) (h0 : xkd a0 = 4) (a1 : Int64) (M : xMem) (M' : xMem) (h : fX4_unpack a0 a1 M = some M') : xCt G yX4_unpack cX4_unpack 5 none 2 [vr G a0, .long a1] M (none, M') := by
  refine xMet (lv := [some (vr G a0), some (.long a1), none, none, none]) (by decide) (Nat.le_of_ble_eq_true rfl) rfl ?_
  intro X hG hnL C R0
  subst hG
  have C : xCk X cX4_unpack RX4 2 := C
  have hn3 : 3 < X.2.2.2.2.2.2.2.2.2.2.2.2.2 := by rw [hnL]; decide
  have hn4 : 4 < X.2.2.2.2.2.2.2.2.2.2.2.2.2 := by rw [hnL]; decide
  unfold fX4_unpack at h
  refine r_aload_n (pc := 0) C dX4_unpack_0 rfl rfl ?_
  refine r_lload_n (pc := 1) C dX4_unpack_1 rfl rfl ?_
  refine r_iconst (pc := 2) (v := (nI 1)) C dX4_unpack_2 (by decide) ?_
  refine r_sI2 (pc := 3) C (fun r M' e => zX4_part X.1 a1 (nI 1) M r M' e) mX4_part lX4_39 (by decide) (Nat.le_of_ble_eq_true rfl) dX4_unpack_3 h (fun r1 M2 h => ?_)
  refine r_lload_n (pc := 6) C dX4_unpack_6 rfl rfl ?_
  refine r_iconst (pc := 7) (v := (nI 2)) C dX4_unpack_7 (by decide) ?_
  refine r_sI2 (pc := 8) C (fun r M' e => zX4_part X.1 a1 (nI 2) M2 r M' e) mX4_part lX4_39 (by decide) (Nat.le_of_ble_eq_true rfl) dX4_unpack_8 h (fun r3 M4 h => ?_)
  refine r_vV2 (pc := 11) C (fun M' e => zX4_begin X.1 a0 h0 r1 r3 M4 M' e) h0 (by decide) rfl mX4_begin lX4_43 (by decide) (Nat.le_of_ble_eq_true rfl) dX4_unpack_11 h (fun M5 h => ?_)
  refine r_aload_n (pc := 14) C dX4_unpack_14 rfl rfl ?_
  refine r_lload_n (pc := 15) C dX4_unpack_15 rfl rfl ?_
  refine r_iconst (pc := 16) (v := (nI 3)) C dX4_unpack_16 (by decide) ?_
  refine r_sI2 (pc := 17) C (fun r M' e => zX4_part X.1 a1 (nI 3) M5 r M' e) mX4_part lX4_39 (by decide) (Nat.le_of_ble_eq_true rfl) dX4_unpack_17 h (fun r6 M7 h => ?_)
  refine r_putI (pc := 20) C kX4_18 h0 dX4_unpack_20 ?_
  refine r_letM h (fun M8 h => ?_)
  refine r_aload_n (pc := 23) C dX4_unpack_23 rfl rfl ?_
  refine r_lload_n (pc := 24) C dX4_unpack_24 rfl rfl ?_
  refine r_iconst (pc := 25) (v := (nI 4)) C dX4_unpack_25 (by decide) ?_
  refine r_sI2 (pc := 26) C (fun r M' e => zX4_part X.1 a1 (nI 4) M8 r M' e) mX4_part lX4_39 (by decide) (Nat.le_of_ble_eq_true rfl) dX4_unpack_26 h (fun r9 M10 h => ?_)
  refine r_putI (pc := 29) C kX4_21 h0 dX4_unpack_29 ?_
  refine r_letM h (fun M11 h => ?_)
  refine r_lload_n (pc := 32) C dX4_unpack_32 rfl rfl ?_
  refine r_iconst (pc := 33) (v := (nI 5)) C dX4_unpack_33 (by decide) ?_
  refine r_sI2 (pc := 34) C (fun r M' e => zX4_part X.1 a1 (nI 5) M11 r M' e) mX4_part lX4_39 (by decide) (Nat.le_of_ble_eq_true rfl) dX4_unpack_34 h (fun r12 M13 h => ?_)
  refine r_istore_n (pc := 37) (lv' := [_, _, _, _, _]) C dX4_unpack_37 rfl hn3 rfl ?_
  refine r_iconst (pc := 38) (v := (nI 0)) C dX4_unpack_38 (by decide) ?_
  refine r_istore (pc := 39) (lv' := [_, _, _, _, _]) C dX4_unpack_39 hn4 rfl ?_
  refine lX4_unpack_41 C R0 hnL a0 h0 a1 r12 _ (fun v18 M19 h => ?_) _ _ _ h
  exact r_vret (pc := 66) C R0 h dX4_unpack_66
theorem dX5_clear_0 : decode cX5_clear 0 = .ok (.iconst 0, 1) := by decide +kernel
theorem dX5_clear_1 : decode cX5_clear 1 = .ok (.istore_n 1, 1) := by decide +kernel
theorem dX5_clear_2 : decode cX5_clear 2 = .ok (.iload_n 1, 1) := by decide +kernel
theorem dX5_clear_3 : decode cX5_clear 3 = .ok (.iconst 2, 1) := by decide +kernel
theorem dX5_clear_4 : decode cX5_clear 4 = .ok (.if_icmp .ge 23, 3) := by decide +kernel
theorem dX5_clear_7 : decode cX5_clear 7 = .ok (.aload_n 0, 1) := by decide +kernel
theorem dX5_clear_8 : decode cX5_clear 8 = .ok (.getfield 9, 3) := by decide +kernel
theorem dX5_clear_11 : decode cX5_clear 11 = .ok (.iload_n 1, 1) := by decide +kernel
theorem dX5_clear_12 : decode cX5_clear 12 = .ok (.iconst 0, 1) := by decide +kernel
theorem dX5_clear_13 : decode cX5_clear 13 = .ok (.iastore, 1) := by decide +kernel
theorem dX5_clear_14 : decode cX5_clear 14 = .ok (.aload_n 0, 1) := by decide +kernel
theorem dX5_clear_15 : decode cX5_clear 15 = .ok (.getfield 18, 3) := by decide +kernel
theorem dX5_clear_18 : decode cX5_clear 18 = .ok (.iload_n 1, 1) := by decide +kernel
theorem dX5_clear_19 : decode cX5_clear 19 = .ok (.iconst 0, 1) := by decide +kernel
theorem dX5_clear_20 : decode cX5_clear 20 = .ok (.iastore, 1) := by decide +kernel
theorem dX5_clear_21 : decode cX5_clear 21 = .ok (.iinc 1 1, 3) := by decide +kernel
theorem dX5_clear_24 : decode cX5_clear 24 = .ok (.goto (-22), 3) := by decide +kernel
theorem dX5_clear_27 : decode cX5_clear 27 = .ok (.return_, 1) := by decide +kernel
def fX5_clear_l2 (p0 : Nat) (K : Int32 → xMem → Option (xMem)) : Nat → Int32 → xMem → Option (xMem)
  | 0, _, _ => none
  | n + 1, v1, M => if (nI 2) ≤ v1 then (K v1 M) else (xGb v1 (xln (xrf p0 0)) (xLt (xwI M (xrf p0 0) (Int32.toNatClampNeg v1) (nI 0)) fun M2 => xGb v1 (xln (xrf p0 2)) (xLt (xwI M2 (xrf p0 2) (Int32.toNatClampNeg v1) (nI 0)) fun M4 => xLt (v1 + nI 1) fun x5 => fX5_clear_l2 p0 K n x5 M4)))
def fX5_clear (a0 : Nat) (M : xMem) : Option (xMem) :=
  fX5_clear_l2 a0 (fun (v6 : Int32) (M7 : xMem) => some M7) xFU (nI 0) M
set_option maxRecDepth 100000 in
set_option maxHeartbeats 4000000 in
theorem lX5_clear_2 {X : xCX} {M' : xMem} (C : xCk X cX5_clear RX5 1) (R0 : xRk X none (none, M')) (hnL : X.2.2.2.2.2.2.2.2.2.2.2.2.2 = 2) (p0 : Nat) (hp0 : xkd p0 = 5) (K : Int32 → xMem → Option (xMem)) (hK : ∀ (v1 : Int32) (M : xMem), K v1 M = some M' → WW X 27 [some (vr X.1 p0), some (.int v1)] [] M) : ∀ (n : Nat) (v1 : Int32) (M : xMem), fX5_clear_l2 p0 K n v1 M = some M' → WW X 2 [some (vr X.1 p0), some (.int v1)] [] M := by
  have hn1 : 1 < X.2.2.2.2.2.2.2.2.2.2.2.2.2 := by rw [hnL]; decide
  intro n
  induction n with
  | zero =>
    intro v1 M h
    cases (show (none : Option (xMem)) = some M' from h)
  | succ n ih =>
    intro v1 M h
    rw [fX5_clear_l2.eq_2] at h
    refine r_iload_n (pc := 2) C dX5_clear_2 rfl rfl ?_
    refine r_iconst (pc := 3) (v := (nI 2)) C dX5_clear_3 (by decide) ?_
    refine r_icmp_ge (pc := 4) (tgt := 27) C dX5_clear_4 (by decide) h (fun _ h => ?_) (fun _ h => ?_)
    · exact hK v1 M h
    · refine r_aload_n (pc := 7) C dX5_clear_7 rfl rfl ?_
      refine r_getR (pc := 8) C kX5_9 hp0 (by decide) dX5_clear_8 ?_
      refine r_iload_n (pc := 11) C dX5_clear_11 rfl rfl ?_
      refine r_iconst (pc := 12) (v := (nI 0)) C dX5_clear_12 (by decide) ?_
      obtain ⟨g1, h⟩ := xGb_of h
      refine r_iast (pc := 13) C (xtk hp0 (by decide) rfl rfl) g1 dX5_clear_13 ?_
      refine r_letM h (fun M2 h => ?_)
      refine r_aload_n (pc := 14) C dX5_clear_14 rfl rfl ?_
      refine r_getR (pc := 15) C kX5_18 hp0 (by decide) dX5_clear_15 ?_
      refine r_iload_n (pc := 18) C dX5_clear_18 rfl rfl ?_
      refine r_iconst (pc := 19) (v := (nI 0)) C dX5_clear_19 (by decide) ?_
      obtain ⟨g3, h⟩ := xGb_of h
      refine r_iast (pc := 20) C (xtk hp0 (by decide) rfl rfl) g3 dX5_clear_20 ?_
      refine r_letM h (fun M4 h => ?_)
      refine r_iincL (pc := 21) (c := nI 1) C dX5_clear_21 rfl (by decide) hn1 h (fun x5 h => ?_)
      refine r_lvE (lv' := [_, _]) rfl ?_
      refine r_goto (pc := 24) (tgt := 2) C dX5_clear_24 (by decide) ?_
      exact ih x5 M4 h
set_option maxRecDepth 100000 in
set_option maxHeartbeats 4000000 in
theorem zX5_clear (G : xGX) (a0 : Nat) (h0 : xkd a0 = 5) (M : xMem) (M' : xMem) (h : fX5_clear a0 M = some M') : xCt G yX5_clear cX5_clear 2 none 1 [vr G a0] M (none, M') := by
  refine xMet (lv := [some (vr G a0), none]) (by decide) (Nat.le_of_ble_eq_true rfl) rfl ?_
  intro X hG hnL C R0
  subst hG
  have C : xCk X cX5_clear RX5 1 := C
  have hn1 : 1 < X.2.2.2.2.2.2.2.2.2.2.2.2.2 := by rw [hnL]; decide
  unfold fX5_clear at h
  refine r_iconst (pc := 0) (v := (nI 0)) C dX5_clear_0 (by decide) ?_
  refine r_istore_n (pc := 1) (lv' := [_, _]) C dX5_clear_1 rfl hn1 rfl ?_
  refine lX5_clear_2 C R0 hnL a0 h0 _ (fun v6 M7 h => ?_) _ _ _ h
  exact r_vret (pc := 27) C R0 h dX5_clear_27
theorem dX5_copyFrom_0 : decode cX5_copyFrom 0 = .ok (.aload_n 1, 1) := by decide +kernel
theorem dX5_copyFrom_1 : decode cX5_copyFrom 1 = .ok (.getfield 9, 3) := by decide +kernel
theorem dX5_copyFrom_4 : decode cX5_copyFrom 4 = .ok (.iconst 0, 1) := by decide +kernel
theorem dX5_copyFrom_5 : decode cX5_copyFrom 5 = .ok (.aload_n 0, 1) := by decide +kernel
theorem dX5_copyFrom_6 : decode cX5_copyFrom 6 = .ok (.getfield 9, 3) := by decide +kernel
theorem dX5_copyFrom_9 : decode cX5_copyFrom 9 = .ok (.iconst 0, 1) := by decide +kernel
theorem dX5_copyFrom_10 : decode cX5_copyFrom 10 = .ok (.aload_n 0, 1) := by decide +kernel
theorem dX5_copyFrom_11 : decode cX5_copyFrom 11 = .ok (.getfield 9, 3) := by decide +kernel
theorem dX5_copyFrom_14 : decode cX5_copyFrom 14 = .ok (.arraylength, 1) := by decide +kernel
theorem dX5_copyFrom_15 : decode cX5_copyFrom 15 = .ok (.invokestatic 21, 3) := by decide +kernel
theorem dX5_copyFrom_18 : decode cX5_copyFrom 18 = .ok (.aload_n 1, 1) := by decide +kernel
theorem dX5_copyFrom_19 : decode cX5_copyFrom 19 = .ok (.getfield 15, 3) := by decide +kernel
theorem dX5_copyFrom_22 : decode cX5_copyFrom 22 = .ok (.iconst 0, 1) := by decide +kernel
theorem dX5_copyFrom_23 : decode cX5_copyFrom 23 = .ok (.aload_n 0, 1) := by decide +kernel
theorem dX5_copyFrom_24 : decode cX5_copyFrom 24 = .ok (.getfield 15, 3) := by decide +kernel
theorem dX5_copyFrom_27 : decode cX5_copyFrom 27 = .ok (.iconst 0, 1) := by decide +kernel
theorem dX5_copyFrom_28 : decode cX5_copyFrom 28 = .ok (.aload_n 0, 1) := by decide +kernel
theorem dX5_copyFrom_29 : decode cX5_copyFrom 29 = .ok (.getfield 15, 3) := by decide +kernel
theorem dX5_copyFrom_32 : decode cX5_copyFrom 32 = .ok (.arraylength, 1) := by decide +kernel
theorem dX5_copyFrom_33 : decode cX5_copyFrom 33 = .ok (.invokestatic 21, 3) := by decide +kernel
theorem dX5_copyFrom_36 : decode cX5_copyFrom 36 = .ok (.aload_n 1, 1) := by decide +kernel
theorem dX5_copyFrom_37 : decode cX5_copyFrom 37 = .ok (.getfield 18, 3) := by decide +kernel
theorem dX5_copyFrom_40 : decode cX5_copyFrom 40 = .ok (.iconst 0, 1) := by decide +kernel
theorem dX5_copyFrom_41 : decode cX5_copyFrom 41 = .ok (.aload_n 0, 1) := by decide +kernel
theorem dX5_copyFrom_42 : decode cX5_copyFrom 42 = .ok (.getfield 18, 3) := by decide +kernel
theorem dX5_copyFrom_45 : decode cX5_copyFrom 45 = .ok (.iconst 0, 1) := by decide +kernel
theorem dX5_copyFrom_46 : decode cX5_copyFrom 46 = .ok (.aload_n 0, 1) := by decide +kernel
theorem dX5_copyFrom_47 : decode cX5_copyFrom 47 = .ok (.getfield 18, 3) := by decide +kernel
theorem dX5_copyFrom_50 : decode cX5_copyFrom 50 = .ok (.arraylength, 1) := by decide +kernel
theorem dX5_copyFrom_51 : decode cX5_copyFrom 51 = .ok (.invokestatic 21, 3) := by decide +kernel
theorem dX5_copyFrom_54 : decode cX5_copyFrom 54 = .ok (.return_, 1) := by decide +kernel
def fX5_copyFrom (a0 : Nat) (a1 : Nat) (M : xMem) : Option (xMem) :=
  xGc (nI 0) (nI 0) (nI (xln (xrf a0 0))) (xln (xrf a1 0)) (xln (xrf a0 0)) (xLt (xwR M (xrf a0 0) (va_cpy (M.1 (xrf a1 0)) (M.1 (xrf a0 0)) (Int32.toNatClampNeg (nI 0)) (Int32.toNatClampNeg (nI 0)) (Int32.toNatClampNeg (nI (xln (xrf a0 0)))))) fun M2 => xGc (nI 0) (nI 0) (nI (xln (xrf a0 1))) (xln (xrf a1 1)) (xln (xrf a0 1)) (xLt (xwR M2 (xrf a0 1) (va_cpy (M2.1 (xrf a1 1)) (M2.1 (xrf a0 1)) (Int32.toNatClampNeg (nI 0)) (Int32.toNatClampNeg (nI 0)) (Int32.toNatClampNeg (nI (xln (xrf a0 1)))))) fun M4 => xGc (nI 0) (nI 0) (nI (xln (xrf a0 2))) (xln (xrf a1 2)) (xln (xrf a0 2)) (xLt (xwR M4 (xrf a0 2) (va_cpy (M4.1 (xrf a1 2)) (M4.1 (xrf a0 2)) (Int32.toNatClampNeg (nI 0)) (Int32.toNatClampNeg (nI 0)) (Int32.toNatClampNeg (nI (xln (xrf a0 2)))))) fun M6 => some M6)))
set_option maxRecDepth 100000 in
set_option maxHeartbeats 4000000 in
theorem zX5_copyFrom (G : xGX) (a0 : Nat) (h0 : xkd a0 = 5) (a1 : Nat) (h1 : xkd a1 = 5) (M : xMem) (M' : xMem) (h : fX5_copyFrom a0 a1 M = some M') : xCt G yX5_copyFrom cX5_copyFrom 2 none 1 [vr G a0, vr G a1] M (none, M') := by
  refine xMet (lv := [some (vr G a0), some (vr G a1)]) (by decide) (Nat.le_of_ble_eq_true rfl) rfl ?_
  intro X hG hnL C R0
  subst hG
  have C : xCk X cX5_copyFrom RX5 1 := C
  unfold fX5_copyFrom at h
  refine r_aload_n (pc := 0) C dX5_copyFrom_0 rfl rfl ?_
  refine r_getR (pc := 1) C kX5_9 h1 (by decide) dX5_copyFrom_1 ?_
  refine r_iconst (pc := 4) (v := (nI 0)) C dX5_copyFrom_4 (by decide) ?_
  refine r_aload_n (pc := 5) C dX5_copyFrom_5 rfl rfl ?_
  refine r_getR (pc := 6) C kX5_9 h0 (by decide) dX5_copyFrom_6 ?_
  refine r_iconst (pc := 9) (v := (nI 0)) C dX5_copyFrom_9 (by decide) ?_
  refine r_aload_n (pc := 10) C dX5_copyFrom_10 rfl rfl ?_
  refine r_getR (pc := 11) C kX5_9 h0 (by decide) dX5_copyFrom_11 ?_
  refine r_alen (pc := 14) C (xkar (xtk h0 (by decide) rfl rfl) (by decide)) dX5_copyFrom_14 ?_
  obtain ⟨g1, h⟩ := xGc_of h
  refine r_acpI (pc := 15) C (xTb_c2 184 rfl rfl) (xtk h1 (by decide) rfl rfl) (xtk h0 (by decide) rfl rfl) g1 (by decide) (Nat.le_of_ble_eq_true rfl) dX5_copyFrom_15 ?_
  refine r_letM h (fun M2 h => ?_)
  refine r_aload_n (pc := 18) C dX5_copyFrom_18 rfl rfl ?_
  refine r_getR (pc := 19) C kX5_15 h1 (by decide) dX5_copyFrom_19 ?_
  refine r_iconst (pc := 22) (v := (nI 0)) C dX5_copyFrom_22 (by decide) ?_
  refine r_aload_n (pc := 23) C dX5_copyFrom_23 rfl rfl ?_
  refine r_getR (pc := 24) C kX5_15 h0 (by decide) dX5_copyFrom_24 ?_
  refine r_iconst (pc := 27) (v := (nI 0)) C dX5_copyFrom_27 (by decide) ?_
  refine r_aload_n (pc := 28) C dX5_copyFrom_28 rfl rfl ?_
  refine r_getR (pc := 29) C kX5_15 h0 (by decide) dX5_copyFrom_29 ?_
  refine r_alen (pc := 32) C (xkar (xtk h0 (by decide) rfl rfl) (by decide)) dX5_copyFrom_32 ?_
  obtain ⟨g3, h⟩ := xGc_of h
  refine r_acpI (pc := 33) C (xTb_c2 184 rfl rfl) (xtk h1 (by decide) rfl rfl) (xtk h0 (by decide) rfl rfl) g3 (by decide) (Nat.le_of_ble_eq_true rfl) dX5_copyFrom_33 ?_
  refine r_letM h (fun M4 h => ?_)
  refine r_aload_n (pc := 36) C dX5_copyFrom_36 rfl rfl ?_
  refine r_getR (pc := 37) C kX5_18 h1 (by decide) dX5_copyFrom_37 ?_
  refine r_iconst (pc := 40) (v := (nI 0)) C dX5_copyFrom_40 (by decide) ?_
  refine r_aload_n (pc := 41) C dX5_copyFrom_41 rfl rfl ?_
  refine r_getR (pc := 42) C kX5_18 h0 (by decide) dX5_copyFrom_42 ?_
  refine r_iconst (pc := 45) (v := (nI 0)) C dX5_copyFrom_45 (by decide) ?_
  refine r_aload_n (pc := 46) C dX5_copyFrom_46 rfl rfl ?_
  refine r_getR (pc := 47) C kX5_18 h0 (by decide) dX5_copyFrom_47 ?_
  refine r_alen (pc := 50) C (xkar (xtk h0 (by decide) rfl rfl) (by decide)) dX5_copyFrom_50 ?_
  obtain ⟨g5, h⟩ := xGc_of h
  refine r_acpI (pc := 51) C (xTb_c2 184 rfl rfl) (xtk h1 (by decide) rfl rfl) (xtk h0 (by decide) rfl rfl) g5 (by decide) (Nat.le_of_ble_eq_true rfl) dX5_copyFrom_51 ?_
  refine r_letM h (fun M6 h => ?_)
  exact r_vret (pc := 54) C R0 h dX5_copyFrom_54
theorem dX5_sizeOf_0 : decode cX5_sizeOf 0 = .ok (.iload_n 1, 1) := by decide +kernel
theorem dX5_sizeOf_1 : decode cX5_sizeOf 1 = .ok (.ifCond .eq 8, 3) := by decide +kernel
theorem dX5_sizeOf_4 : decode cX5_sizeOf 4 = .ok (.iload_n 1, 1) := by decide +kernel
theorem dX5_sizeOf_5 : decode cX5_sizeOf 5 = .ok (.iconst 1, 1) := by decide +kernel
theorem dX5_sizeOf_6 : decode cX5_sizeOf 6 = .ok (.if_icmp .ne 12, 3) := by decide +kernel
theorem dX5_sizeOf_9 : decode cX5_sizeOf 9 = .ok (.aload_n 0, 1) := by decide +kernel
theorem dX5_sizeOf_10 : decode cX5_sizeOf 10 = .ok (.getfield 18, 3) := by decide +kernel
theorem dX5_sizeOf_13 : decode cX5_sizeOf 13 = .ok (.iload_n 1, 1) := by decide +kernel
theorem dX5_sizeOf_14 : decode cX5_sizeOf 14 = .ok (.iaload, 1) := by decide +kernel
theorem dX5_sizeOf_15 : decode cX5_sizeOf 15 = .ok (.goto 4, 3) := by decide +kernel
theorem dX5_sizeOf_18 : decode cX5_sizeOf 18 = .ok (.iconst 0, 1) := by decide +kernel
theorem dX5_sizeOf_19 : decode cX5_sizeOf 19 = .ok (.ireturn, 1) := by decide +kernel
def fX5_sizeOf (a0 : Nat) (a1 : Int32) (M : xMem) : Option (Int32 × xMem) :=
  xLt (fun  (M1 : xMem) => (xGb a1 (xln (xrf a0 2)) (some ((M1.1 (xrf a0 2) (Int32.toNatClampNeg a1)), M1)) : Option (Int32 × xMem))) fun J9 => if a1 = 0 then (J9  M) else (if a1 = (nI 1) then (J9  M) else (some ((nI 0), M)))
set_option maxRecDepth 100000 in
set_option maxHeartbeats 4000000 in
theorem zX5_sizeOf (G : xGX) (a0 : Nat) (h0 : xkd a0 = 5) (a1 : Int32) (M : xMem) (r : Int32) (M' : xMem) (h : fX5_sizeOf a0 a1 M = some (r, M')) : xCt G yX5_sizeOf cX5_sizeOf 2 (some .int) 1 [vr G a0, .int a1] M (some (.int r), M') := by
  refine xMet (lv := [some (vr G a0), some (.int a1)]) (by decide) (Nat.le_of_ble_eq_true rfl) rfl ?_
  intro X hG hnL C R0
  subst hG
  have C : xCk X cX5_sizeOf RX5 1 := C
  unfold fX5_sizeOf at h
  refine r_iload_n (pc := 0) C dX5_sizeOf_0 rfl rfl ?_
  refine r_jn (fun J => ∀  (M1 : xMem) , J  M1 = some (r, M') → WW X 9 [some (vr X.1 a0), some (.int a1)] [] M1) h (fun  M1  h => ?_) (fun J9 hJ9 h => ?_)
  · refine r_aload_n (pc := 9) C dX5_sizeOf_9 rfl rfl ?_
    refine r_getR (pc := 10) C kX5_18 h0 (by decide) dX5_sizeOf_10 ?_
    refine r_iload_n (pc := 13) C dX5_sizeOf_13 rfl rfl ?_
    obtain ⟨g2, h⟩ := xGb_of h
    refine r_iald (pc := 14) C (xtk h0 (by decide) rfl rfl) g2 dX5_sizeOf_14 ?_
    refine r_goto (pc := 15) (tgt := 19) C dX5_sizeOf_15 (by decide) ?_
    exact r_iret (pc := 19) C R0 h dX5_sizeOf_19
  refine r_if_eq (pc := 1) (tgt := 9) C dX5_sizeOf_1 (by decide) h (fun _ h => ?_) (fun _ h => ?_)
  · exact hJ9  M  h
  · refine r_iload_n (pc := 4) C dX5_sizeOf_4 rfl rfl ?_
    refine r_iconst (pc := 5) (v := (nI 1)) C dX5_sizeOf_5 (by decide) ?_
    refine r_icmp_ne (pc := 6) (tgt := 18) C dX5_sizeOf_6 (by decide) h (fun _ h => ?_) (fun _ h => ?_)
    · refine r_iconst (pc := 18) (v := (nI 0)) C dX5_sizeOf_18 (by decide) ?_
      exact r_iret (pc := 19) C R0 h dX5_sizeOf_19
    · exact hJ9  M  h
theorem dX5_letterAt_0 : decode cX5_letterAt 0 = .ok (.iconst 0, 1) := by decide +kernel
theorem dX5_letterAt_1 : decode cX5_letterAt 1 = .ok (.istore_n 3, 1) := by decide +kernel
theorem dX5_letterAt_2 : decode cX5_letterAt 2 = .ok (.iload_n 3, 1) := by decide +kernel
theorem dX5_letterAt_3 : decode cX5_letterAt 3 = .ok (.bipush 6, 2) := by decide +kernel
theorem dX5_letterAt_5 : decode cX5_letterAt 5 = .ok (.if_icmp .ge 22, 3) := by decide +kernel
theorem dX5_letterAt_8 : decode cX5_letterAt 8 = .ok (.aload_n 0, 1) := by decide +kernel
theorem dX5_letterAt_9 : decode cX5_letterAt 9 = .ok (.getfield 9, 3) := by decide +kernel
theorem dX5_letterAt_12 : decode cX5_letterAt 12 = .ok (.iload_n 1, 1) := by decide +kernel
theorem dX5_letterAt_13 : decode cX5_letterAt 13 = .ok (.iaload, 1) := by decide +kernel
theorem dX5_letterAt_14 : decode cX5_letterAt 14 = .ok (.iconst 5, 1) := by decide +kernel
theorem dX5_letterAt_15 : decode cX5_letterAt 15 = .ok (.iload_n 3, 1) := by decide +kernel
theorem dX5_letterAt_16 : decode cX5_letterAt 16 = .ok (.imul, 1) := by decide +kernel
theorem dX5_letterAt_17 : decode cX5_letterAt 17 = .ok (.ishr, 1) := by decide +kernel
theorem dX5_letterAt_18 : decode cX5_letterAt 18 = .ok (.ifCond .eq 9, 3) := by decide +kernel
theorem dX5_letterAt_21 : decode cX5_letterAt 21 = .ok (.iinc 3 1, 3) := by decide +kernel
theorem dX5_letterAt_24 : decode cX5_letterAt 24 = .ok (.goto (-22), 3) := by decide +kernel
theorem dX5_letterAt_27 : decode cX5_letterAt 27 = .ok (.iload_n 2, 1) := by decide +kernel
theorem dX5_letterAt_28 : decode cX5_letterAt 28 = .ok (.iload_n 3, 1) := by decide +kernel
theorem dX5_letterAt_29 : decode cX5_letterAt 29 = .ok (.if_icmp .ge 23, 3) := by decide +kernel
theorem dX5_letterAt_32 : decode cX5_letterAt 32 = .ok (.aload_n 0, 1) := by decide +kernel
theorem dX5_letterAt_33 : decode cX5_letterAt 33 = .ok (.getfield 9, 3) := by decide +kernel
theorem dX5_letterAt_36 : decode cX5_letterAt 36 = .ok (.iload_n 1, 1) := by decide +kernel
theorem dX5_letterAt_37 : decode cX5_letterAt 37 = .ok (.iaload, 1) := by decide +kernel
theorem dX5_letterAt_38 : decode cX5_letterAt 38 = .ok (.iconst 5, 1) := by decide +kernel
theorem dX5_letterAt_39 : decode cX5_letterAt 39 = .ok (.iload_n 3, 1) := by decide +kernel
theorem dX5_letterAt_40 : decode cX5_letterAt 40 = .ok (.iconst 1, 1) := by decide +kernel
theorem dX5_letterAt_41 : decode cX5_letterAt 41 = .ok (.isub, 1) := by decide +kernel
theorem dX5_letterAt_42 : decode cX5_letterAt 42 = .ok (.iload_n 2, 1) := by decide +kernel
theorem dX5_letterAt_43 : decode cX5_letterAt 43 = .ok (.isub, 1) := by decide +kernel
theorem dX5_letterAt_44 : decode cX5_letterAt 44 = .ok (.imul, 1) := by decide +kernel
theorem dX5_letterAt_45 : decode cX5_letterAt 45 = .ok (.ishr, 1) := by decide +kernel
theorem dX5_letterAt_46 : decode cX5_letterAt 46 = .ok (.bipush 31, 2) := by decide +kernel
theorem dX5_letterAt_48 : decode cX5_letterAt 48 = .ok (.iand, 1) := by decide +kernel
theorem dX5_letterAt_49 : decode cX5_letterAt 49 = .ok (.goto 4, 3) := by decide +kernel
theorem dX5_letterAt_52 : decode cX5_letterAt 52 = .ok (.iconst 0, 1) := by decide +kernel
theorem dX5_letterAt_53 : decode cX5_letterAt 53 = .ok (.ireturn, 1) := by decide +kernel
def fX5_letterAt_l2 (p0 : Nat) (p1 : Int32) (p2 : Int32) (K : Int32 → xMem → Option (Int32 × xMem)) : Nat → Int32 → xMem → Option (Int32 × xMem)
  | 0, _, _ => none
  | n + 1, v3, M => if (nI 6) ≤ v3 then (K v3 M) else (xGb p1 (xln (xrf p0 0)) (if ((M.1 (xrf p0 0) (Int32.toNatClampNeg p1)) >>> (((nI 5) * v3) &&& 31)) = 0 then (K v3 M) else (xLt (v3 + nI 1) fun x2 => fX5_letterAt_l2 p0 p1 p2 K n x2 M)))
def fX5_letterAt (a0 : Nat) (a1 : Int32) (a2 : Int32) (M : xMem) : Option (Int32 × xMem) :=
  fX5_letterAt_l2 a0 a1 a2 (fun (v3 : Int32) (M4 : xMem) => if v3 ≤ a2 then (some ((nI 0), M4)) else (xGb a1 (xln (xrf a0 0)) (some ((((M4.1 (xrf a0 0) (Int32.toNatClampNeg a1)) >>> (((nI 5) * ((v3 - (nI 1)) - a2)) &&& 31)) &&& (nI 31)), M4)))) xFU (nI 0) M
set_option maxRecDepth 100000 in
set_option maxHeartbeats 4000000 in
theorem lX5_letterAt_2 {X : xCX} {r : Int32} {M' : xMem} (C : xCk X cX5_letterAt RX5 1) (R0 : xRk X (some .int) (some (.int r), M')) (hnL : X.2.2.2.2.2.2.2.2.2.2.2.2.2 = 4) (p0 : Nat) (hp0 : xkd p0 = 5) (p1 : Int32) (p2 : Int32) (K : Int32 → xMem → Option (Int32 × xMem)) (hK : ∀ (v3 : Int32) (M : xMem), K v3 M = some (r, M') → WW X 27 [some (vr X.1 p0), some (.int p1), some (.int p2), some (.int v3)] [] M) : ∀ (n : Nat) (v3 : Int32) (M : xMem), fX5_letterAt_l2 p0 p1 p2 K n v3 M = some (r, M') → WW X 2 [some (vr X.1 p0), some (.int p1), some (.int p2), some (.int v3)] [] M := by
  have hn3 : 3 < X.2.2.2.2.2.2.2.2.2.2.2.2.2 := by rw [hnL]; decide
  intro n
  induction n with
  | zero =>
    intro v3 M h
    cases (show (none : Option (Int32 × xMem)) = some (r, M') from h)
  | succ n ih =>
    intro v3 M h
    rw [fX5_letterAt_l2.eq_2] at h
    refine r_iload_n (pc := 2) C dX5_letterAt_2 rfl rfl ?_
    refine r_bipush (pc := 3) (v := (nI 6)) C dX5_letterAt_3 (by decide) ?_
    refine r_icmp_ge (pc := 5) (tgt := 27) C dX5_letterAt_5 (by decide) h (fun _ h => ?_) (fun _ h => ?_)
    · exact hK v3 M h
    · refine r_aload_n (pc := 8) C dX5_letterAt_8 rfl rfl ?_
      refine r_getR (pc := 9) C kX5_9 hp0 (by decide) dX5_letterAt_9 ?_
      refine r_iload_n (pc := 12) C dX5_letterAt_12 rfl rfl ?_
      obtain ⟨g1, h⟩ := xGb_of h
      refine r_iald (pc := 13) C (xtk hp0 (by decide) rfl rfl) g1 dX5_letterAt_13 ?_
      refine r_iconst (pc := 14) (v := (nI 5)) C dX5_letterAt_14 (by decide) ?_
      refine r_iload_n (pc := 15) C dX5_letterAt_15 rfl rfl ?_
      refine r_imul (pc := 16) C dX5_letterAt_16 ?_
      refine r_ishr (pc := 17) C dX5_letterAt_17 ?_
      refine r_if_eq (pc := 18) (tgt := 27) C dX5_letterAt_18 (by decide) h (fun _ h => ?_) (fun _ h => ?_)
      · exact hK v3 M h
      · refine r_iincL (pc := 21) (c := nI 1) C dX5_letterAt_21 rfl (by decide) hn3 h (fun x2 h => ?_)
        refine r_lvE (lv' := [_, _, _, _]) rfl ?_
        refine r_goto (pc := 24) (tgt := 2) C dX5_letterAt_24 (by decide) ?_
        exact ih x2 M h
set_option maxRecDepth 100000 in
set_option maxHeartbeats 4000000 in
theorem zX5_letterAt (G : xGX) (a0 : Nat) (h0 : xkd a0 = 5) (a1 : Int32) (a2 : Int32) (M : xMem) (r : Int32) (M' : xMem) (h : fX5_letterAt a0 a1 a2 M = some (r, M')) : xCt G yX5_letterAt cX5_letterAt 4 (some .int) 1 [vr G a0, .int a1, .int a2] M (some (.int r), M') := by
  refine xMet (lv := [some (vr G a0), some (.int a1), some (.int a2), none]) (by decide) (Nat.le_of_ble_eq_true rfl) rfl ?_
  intro X hG hnL C R0
  subst hG
  have C : xCk X cX5_letterAt RX5 1 := C
  have hn3 : 3 < X.2.2.2.2.2.2.2.2.2.2.2.2.2 := by rw [hnL]; decide
  unfold fX5_letterAt at h
  refine r_iconst (pc := 0) (v := (nI 0)) C dX5_letterAt_0 (by decide) ?_
  refine r_istore_n (pc := 1) (lv' := [_, _, _, _]) C dX5_letterAt_1 rfl hn3 rfl ?_
  refine lX5_letterAt_2 C R0 hnL a0 h0 a1 a2 _ (fun v3 M4 h => ?_) _ _ _ h
  refine r_iload_n (pc := 27) C dX5_letterAt_27 rfl rfl ?_
  refine r_iload_n (pc := 28) C dX5_letterAt_28 rfl rfl ?_
  refine r_icmp_ge (pc := 29) (tgt := 52) C dX5_letterAt_29 (by decide) h (fun _ h => ?_) (fun _ h => ?_)
  · refine r_iconst (pc := 52) (v := (nI 0)) C dX5_letterAt_52 (by decide) ?_
    exact r_iret (pc := 53) C R0 h dX5_letterAt_53
  · refine r_aload_n (pc := 32) C dX5_letterAt_32 rfl rfl ?_
    refine r_getR (pc := 33) C kX5_9 h0 (by decide) dX5_letterAt_33 ?_
    refine r_iload_n (pc := 36) C dX5_letterAt_36 rfl rfl ?_
    obtain ⟨g5, h⟩ := xGb_of h
    refine r_iald (pc := 37) C (xtk h0 (by decide) rfl rfl) g5 dX5_letterAt_37 ?_
    refine r_iconst (pc := 38) (v := (nI 5)) C dX5_letterAt_38 (by decide) ?_
    refine r_iload_n (pc := 39) C dX5_letterAt_39 rfl rfl ?_
    refine r_iconst (pc := 40) (v := (nI 1)) C dX5_letterAt_40 (by decide) ?_
    refine r_isub (pc := 41) C dX5_letterAt_41 ?_
    refine r_iload_n (pc := 42) C dX5_letterAt_42 rfl rfl ?_
    refine r_isub (pc := 43) C dX5_letterAt_43 ?_
    refine r_imul (pc := 44) C dX5_letterAt_44 ?_
    refine r_ishr (pc := 45) C dX5_letterAt_45 ?_
    refine r_bipush (pc := 46) (v := (nI 31)) C dX5_letterAt_46 (by decide) ?_
    refine r_iand (pc := 48) C dX5_letterAt_48 ?_
    refine r_goto (pc := 49) (tgt := 53) C dX5_letterAt_49 (by decide) ?_
    exact r_iret (pc := 53) C R0 h dX5_letterAt_53
theorem dX5_shirtOf_0 : decode cX5_shirtOf 0 = .ok (.aload_n 0, 1) := by decide +kernel
theorem dX5_shirtOf_1 : decode cX5_shirtOf 1 = .ok (.getfield 15, 3) := by decide +kernel
theorem dX5_shirtOf_4 : decode cX5_shirtOf 4 = .ok (.iload_n 1, 1) := by decide +kernel
theorem dX5_shirtOf_5 : decode cX5_shirtOf 5 = .ok (.bipush 10, 2) := by decide +kernel
theorem dX5_shirtOf_7 : decode cX5_shirtOf 7 = .ok (.imul, 1) := by decide +kernel
theorem dX5_shirtOf_8 : decode cX5_shirtOf 8 = .ok (.iload_n 2, 1) := by decide +kernel
theorem dX5_shirtOf_9 : decode cX5_shirtOf 9 = .ok (.iadd, 1) := by decide +kernel
theorem dX5_shirtOf_10 : decode cX5_shirtOf 10 = .ok (.iaload, 1) := by decide +kernel
theorem dX5_shirtOf_11 : decode cX5_shirtOf 11 = .ok (.ireturn, 1) := by decide +kernel
def fX5_shirtOf (a0 : Nat) (a1 : Int32) (a2 : Int32) (M : xMem) : Option (Int32 × xMem) :=
  xGb ((a1 * (nI 10)) + a2) (xln (xrf a0 1)) (some ((M.1 (xrf a0 1) (Int32.toNatClampNeg ((a1 * (nI 10)) + a2))), M))
set_option maxRecDepth 100000 in
set_option maxHeartbeats 4000000 in
theorem zX5_shirtOf (G : xGX) (a0 : Nat) (h0 : xkd a0 = 5) (a1 : Int32) (a2 : Int32) (M : xMem) (r : Int32) (M' : xMem) (h : fX5_shirtOf a0 a1 a2 M = some (r, M')) : xCt G yX5_shirtOf cX5_shirtOf 3 (some .int) 1 [vr G a0, .int a1, .int a2] M (some (.int r), M') := by
  refine xMet (lv := [some (vr G a0), some (.int a1), some (.int a2)]) (by decide) (Nat.le_of_ble_eq_true rfl) rfl ?_
  intro X hG hnL C R0
  subst hG
  have C : xCk X cX5_shirtOf RX5 1 := C
  unfold fX5_shirtOf at h
  refine r_aload_n (pc := 0) C dX5_shirtOf_0 rfl rfl ?_
  refine r_getR (pc := 1) C kX5_15 h0 (by decide) dX5_shirtOf_1 ?_
  refine r_iload_n (pc := 4) C dX5_shirtOf_4 rfl rfl ?_
  refine r_bipush (pc := 5) (v := (nI 10)) C dX5_shirtOf_5 (by decide) ?_
  refine r_imul (pc := 7) C dX5_shirtOf_7 ?_
  refine r_iload_n (pc := 8) C dX5_shirtOf_8 rfl rfl ?_
  refine r_iadd (pc := 9) C dX5_shirtOf_9 ?_
  obtain ⟨g1, h⟩ := xGb_of h
  refine r_iald (pc := 10) C (xtk h0 (by decide) rfl rfl) g1 dX5_shirtOf_10 ?_
  exact r_iret (pc := 11) C R0 h dX5_shirtOf_11
theorem dX5_playerWith_0 : decode cX5_playerWith 0 = .ok (.iconst 0, 1) := by decide +kernel
theorem dX5_playerWith_1 : decode cX5_playerWith 1 = .ok (.istore_n 3, 1) := by decide +kernel
theorem dX5_playerWith_2 : decode cX5_playerWith 2 = .ok (.iload_n 3, 1) := by decide +kernel
theorem dX5_playerWith_3 : decode cX5_playerWith 3 = .ok (.aload_n 0, 1) := by decide +kernel
theorem dX5_playerWith_4 : decode cX5_playerWith 4 = .ok (.getfield 18, 3) := by decide +kernel
theorem dX5_playerWith_7 : decode cX5_playerWith 7 = .ok (.iload_n 1, 1) := by decide +kernel
theorem dX5_playerWith_8 : decode cX5_playerWith 8 = .ok (.iaload, 1) := by decide +kernel
theorem dX5_playerWith_9 : decode cX5_playerWith 9 = .ok (.if_icmp .ge 26, 3) := by decide +kernel
theorem dX5_playerWith_12 : decode cX5_playerWith 12 = .ok (.aload_n 0, 1) := by decide +kernel
theorem dX5_playerWith_13 : decode cX5_playerWith 13 = .ok (.getfield 15, 3) := by decide +kernel
theorem dX5_playerWith_16 : decode cX5_playerWith 16 = .ok (.iload_n 1, 1) := by decide +kernel
theorem dX5_playerWith_17 : decode cX5_playerWith 17 = .ok (.bipush 10, 2) := by decide +kernel
theorem dX5_playerWith_19 : decode cX5_playerWith 19 = .ok (.imul, 1) := by decide +kernel
theorem dX5_playerWith_20 : decode cX5_playerWith 20 = .ok (.iload_n 3, 1) := by decide +kernel
theorem dX5_playerWith_21 : decode cX5_playerWith 21 = .ok (.iadd, 1) := by decide +kernel
theorem dX5_playerWith_22 : decode cX5_playerWith 22 = .ok (.iaload, 1) := by decide +kernel
theorem dX5_playerWith_23 : decode cX5_playerWith 23 = .ok (.iload_n 2, 1) := by decide +kernel
theorem dX5_playerWith_24 : decode cX5_playerWith 24 = .ok (.if_icmp .ne 5, 3) := by decide +kernel
theorem dX5_playerWith_27 : decode cX5_playerWith 27 = .ok (.iload_n 3, 1) := by decide +kernel
theorem dX5_playerWith_28 : decode cX5_playerWith 28 = .ok (.ireturn, 1) := by decide +kernel
theorem dX5_playerWith_29 : decode cX5_playerWith 29 = .ok (.iinc 3 1, 3) := by decide +kernel
theorem dX5_playerWith_32 : decode cX5_playerWith 32 = .ok (.goto (-30), 3) := by decide +kernel
theorem dX5_playerWith_35 : decode cX5_playerWith 35 = .ok (.iconst (-1), 1) := by decide +kernel
theorem dX5_playerWith_36 : decode cX5_playerWith 36 = .ok (.ireturn, 1) := by decide +kernel
def fX5_playerWith_l2 (p0 : Nat) (p1 : Int32) (p2 : Int32) (K : Int32 → xMem → Option (Int32 × xMem)) : Nat → Int32 → xMem → Option (Int32 × xMem)
  | 0, _, _ => none
  | n + 1, v3, M => xGb p1 (xln (xrf p0 2)) (if (M.1 (xrf p0 2) (Int32.toNatClampNeg p1)) ≤ v3 then (K v3 M) else (xGb ((p1 * (nI 10)) + v3) (xln (xrf p0 1)) (if (M.1 (xrf p0 1) (Int32.toNatClampNeg ((p1 * (nI 10)) + v3))) = p2 then (some (v3, M)) else (xLt (v3 + nI 1) fun x3 => fX5_playerWith_l2 p0 p1 p2 K n x3 M))))
def fX5_playerWith (a0 : Nat) (a1 : Int32) (a2 : Int32) (M : xMem) : Option (Int32 × xMem) :=
  fX5_playerWith_l2 a0 a1 a2 (fun (v4 : Int32) (M5 : xMem) => some ((-1), M5)) xFU (nI 0) M
set_option maxRecDepth 100000 in
set_option maxHeartbeats 4000000 in
theorem lX5_playerWith_2 {X : xCX} {r : Int32} {M' : xMem} (C : xCk X cX5_playerWith RX5 1) (R0 : xRk X (some .int) (some (.int r), M')) (hnL : X.2.2.2.2.2.2.2.2.2.2.2.2.2 = 4) (p0 : Nat) (hp0 : xkd p0 = 5) (p1 : Int32) (p2 : Int32) (K : Int32 → xMem → Option (Int32 × xMem)) (hK : ∀ (v3 : Int32) (M : xMem), K v3 M = some (r, M') → WW X 35 [some (vr X.1 p0), some (.int p1), some (.int p2), some (.int v3)] [] M) : ∀ (n : Nat) (v3 : Int32) (M : xMem), fX5_playerWith_l2 p0 p1 p2 K n v3 M = some (r, M') → WW X 2 [some (vr X.1 p0), some (.int p1), some (.int p2), some (.int v3)] [] M := by
  have hn3 : 3 < X.2.2.2.2.2.2.2.2.2.2.2.2.2 := by rw [hnL]; decide
  intro n
  induction n with
  | zero =>
    intro v3 M h
    cases (show (none : Option (Int32 × xMem)) = some (r, M') from h)
  | succ n ih =>
    intro v3 M h
    rw [fX5_playerWith_l2.eq_2] at h
    refine r_iload_n (pc := 2) C dX5_playerWith_2 rfl rfl ?_
    refine r_aload_n (pc := 3) C dX5_playerWith_3 rfl rfl ?_
    refine r_getR (pc := 4) C kX5_18 hp0 (by decide) dX5_playerWith_4 ?_
    refine r_iload_n (pc := 7) C dX5_playerWith_7 rfl rfl ?_
    obtain ⟨g1, h⟩ := xGb_of h
    refine r_iald (pc := 8) C (xtk hp0 (by decide) rfl rfl) g1 dX5_playerWith_8 ?_
    refine r_icmp_ge (pc := 9) (tgt := 35) C dX5_playerWith_9 (by decide) h (fun _ h => ?_) (fun _ h => ?_)
    · exact hK v3 M h
    · refine r_aload_n (pc := 12) C dX5_playerWith_12 rfl rfl ?_
      refine r_getR (pc := 13) C kX5_15 hp0 (by decide) dX5_playerWith_13 ?_
      refine r_iload_n (pc := 16) C dX5_playerWith_16 rfl rfl ?_
      refine r_bipush (pc := 17) (v := (nI 10)) C dX5_playerWith_17 (by decide) ?_
      refine r_imul (pc := 19) C dX5_playerWith_19 ?_
      refine r_iload_n (pc := 20) C dX5_playerWith_20 rfl rfl ?_
      refine r_iadd (pc := 21) C dX5_playerWith_21 ?_
      obtain ⟨g2, h⟩ := xGb_of h
      refine r_iald (pc := 22) C (xtk hp0 (by decide) rfl rfl) g2 dX5_playerWith_22 ?_
      refine r_iload_n (pc := 23) C dX5_playerWith_23 rfl rfl ?_
      refine r_icmp_ne (pc := 24) (tgt := 29) C dX5_playerWith_24 (by decide) h (fun _ h => ?_) (fun _ h => ?_)
      · refine r_iincL (pc := 29) (c := nI 1) C dX5_playerWith_29 rfl (by decide) hn3 h (fun x3 h => ?_)
        refine r_lvE (lv' := [_, _, _, _]) rfl ?_
        refine r_goto (pc := 32) (tgt := 2) C dX5_playerWith_32 (by decide) ?_
        exact ih x3 M h
      · refine r_iload_n (pc := 27) C dX5_playerWith_27 rfl rfl ?_
        exact r_iret (pc := 28) C R0 h dX5_playerWith_28
set_option maxRecDepth 100000 in
set_option maxHeartbeats 4000000 in
theorem zX5_playerWith (G : xGX) (a0 : Nat) (h0 : xkd a0 = 5) (a1 : Int32) (a2 : Int32) (M : xMem) (r : Int32) (M' : xMem) (h : fX5_playerWith a0 a1 a2 M = some (r, M')) : xCt G yX5_playerWith cX5_playerWith 4 (some .int) 1 [vr G a0, .int a1, .int a2] M (some (.int r), M') := by
  refine xMet (lv := [some (vr G a0), some (.int a1), some (.int a2), none]) (by decide) (Nat.le_of_ble_eq_true rfl) rfl ?_
  intro X hG hnL C R0
  subst hG
  have C : xCk X cX5_playerWith RX5 1 := C
  have hn3 : 3 < X.2.2.2.2.2.2.2.2.2.2.2.2.2 := by rw [hnL]; decide
  unfold fX5_playerWith at h
  refine r_iconst (pc := 0) (v := (nI 0)) C dX5_playerWith_0 (by decide) ?_
  refine r_istore_n (pc := 1) (lv' := [_, _, _, _]) C dX5_playerWith_1 rfl hn3 rfl ?_
  refine lX5_playerWith_2 C R0 hnL a0 h0 a1 a2 _ (fun v4 M5 h => ?_) _ _ _ h
  refine r_iconst (pc := 35) (v := (-1)) C dX5_playerWith_35 (by decide) ?_
  exact r_iret (pc := 36) C R0 h dX5_playerWith_36
theorem dX5_addPlayer_0 : decode cX5_addPlayer 0 = .ok (.aload_n 0, 1) := by decide +kernel
theorem dX5_addPlayer_1 : decode cX5_addPlayer 1 = .ok (.getfield 18, 3) := by decide +kernel
theorem dX5_addPlayer_4 : decode cX5_addPlayer 4 = .ok (.iload_n 1, 1) := by decide +kernel
theorem dX5_addPlayer_5 : decode cX5_addPlayer 5 = .ok (.iaload, 1) := by decide +kernel
theorem dX5_addPlayer_6 : decode cX5_addPlayer 6 = .ok (.bipush 10, 2) := by decide +kernel
theorem dX5_addPlayer_8 : decode cX5_addPlayer 8 = .ok (.if_icmp .ge 30, 3) := by decide +kernel
theorem dX5_addPlayer_11 : decode cX5_addPlayer 11 = .ok (.aload_n 0, 1) := by decide +kernel
theorem dX5_addPlayer_12 : decode cX5_addPlayer 12 = .ok (.getfield 15, 3) := by decide +kernel
theorem dX5_addPlayer_15 : decode cX5_addPlayer 15 = .ok (.iload_n 1, 1) := by decide +kernel
theorem dX5_addPlayer_16 : decode cX5_addPlayer 16 = .ok (.bipush 10, 2) := by decide +kernel
theorem dX5_addPlayer_18 : decode cX5_addPlayer 18 = .ok (.imul, 1) := by decide +kernel
theorem dX5_addPlayer_19 : decode cX5_addPlayer 19 = .ok (.aload_n 0, 1) := by decide +kernel
theorem dX5_addPlayer_20 : decode cX5_addPlayer 20 = .ok (.getfield 18, 3) := by decide +kernel
theorem dX5_addPlayer_23 : decode cX5_addPlayer 23 = .ok (.iload_n 1, 1) := by decide +kernel
theorem dX5_addPlayer_24 : decode cX5_addPlayer 24 = .ok (.iaload, 1) := by decide +kernel
theorem dX5_addPlayer_25 : decode cX5_addPlayer 25 = .ok (.iadd, 1) := by decide +kernel
theorem dX5_addPlayer_26 : decode cX5_addPlayer 26 = .ok (.iload_n 2, 1) := by decide +kernel
theorem dX5_addPlayer_27 : decode cX5_addPlayer 27 = .ok (.iastore, 1) := by decide +kernel
theorem dX5_addPlayer_28 : decode cX5_addPlayer 28 = .ok (.aload_n 0, 1) := by decide +kernel
theorem dX5_addPlayer_29 : decode cX5_addPlayer 29 = .ok (.getfield 18, 3) := by decide +kernel
theorem dX5_addPlayer_32 : decode cX5_addPlayer 32 = .ok (.iload_n 1, 1) := by decide +kernel
theorem dX5_addPlayer_33 : decode cX5_addPlayer 33 = .ok (.dup2, 1) := by decide +kernel
theorem dX5_addPlayer_34 : decode cX5_addPlayer 34 = .ok (.iaload, 1) := by decide +kernel
theorem dX5_addPlayer_35 : decode cX5_addPlayer 35 = .ok (.iconst 1, 1) := by decide +kernel
theorem dX5_addPlayer_36 : decode cX5_addPlayer 36 = .ok (.iadd, 1) := by decide +kernel
theorem dX5_addPlayer_37 : decode cX5_addPlayer 37 = .ok (.iastore, 1) := by decide +kernel
theorem dX5_addPlayer_38 : decode cX5_addPlayer 38 = .ok (.return_, 1) := by decide +kernel
def fX5_addPlayer (a0 : Nat) (a1 : Int32) (a2 : Int32) (M : xMem) : Option (xMem) :=
  xGb a1 (xln (xrf a0 2)) (if (nI 10) ≤ (M.1 (xrf a0 2) (Int32.toNatClampNeg a1)) then (some M) else (xGb a1 (xln (xrf a0 2)) (xGb ((a1 * (nI 10)) + (M.1 (xrf a0 2) (Int32.toNatClampNeg a1))) (xln (xrf a0 1)) (xLt (xwI M (xrf a0 1) (Int32.toNatClampNeg ((a1 * (nI 10)) + (M.1 (xrf a0 2) (Int32.toNatClampNeg a1)))) a2) fun M4 => xGb a1 (xln (xrf a0 2)) (xGb a1 (xln (xrf a0 2)) (xLt (xwI M4 (xrf a0 2) (Int32.toNatClampNeg a1) ((M4.1 (xrf a0 2) (Int32.toNatClampNeg a1)) + (nI 1))) fun M7 => some M7))))))
set_option maxRecDepth 100000 in
set_option maxHeartbeats 4000000 in
theorem zX5_addPlayer (G : xGX) (a0 : Nat) (h0 : xkd a0 = 5) (a1 : Int32) (a2 : Int32) (M : xMem) (M' : xMem) (h : fX5_addPlayer a0 a1 a2 M = some M') : xCt G yX5_addPlayer cX5_addPlayer 3 none 1 [vr G a0, .int a1, .int a2] M (none, M') := by
  refine xMet (lv := [some (vr G a0), some (.int a1), some (.int a2)]) (by decide) (Nat.le_of_ble_eq_true rfl) rfl ?_
  intro X hG hnL C R0
  subst hG
  have C : xCk X cX5_addPlayer RX5 1 := C
  unfold fX5_addPlayer at h
  refine r_aload_n (pc := 0) C dX5_addPlayer_0 rfl rfl ?_
  refine r_getR (pc := 1) C kX5_18 h0 (by decide) dX5_addPlayer_1 ?_
  refine r_iload_n (pc := 4) C dX5_addPlayer_4 rfl rfl ?_
  obtain ⟨g1, h⟩ := xGb_of h
  refine r_iald (pc := 5) C (xtk h0 (by decide) rfl rfl) g1 dX5_addPlayer_5 ?_
  refine r_bipush (pc := 6) (v := (nI 10)) C dX5_addPlayer_6 (by decide) ?_
  refine r_icmp_ge (pc := 8) (tgt := 38) C dX5_addPlayer_8 (by decide) h (fun _ h => ?_) (fun _ h => ?_)
  · exact r_vret (pc := 38) C R0 h dX5_addPlayer_38
  · refine r_aload_n (pc := 11) C dX5_addPlayer_11 rfl rfl ?_
    refine r_getR (pc := 12) C kX5_15 h0 (by decide) dX5_addPlayer_12 ?_
    refine r_iload_n (pc := 15) C dX5_addPlayer_15 rfl rfl ?_
    refine r_bipush (pc := 16) (v := (nI 10)) C dX5_addPlayer_16 (by decide) ?_
    refine r_imul (pc := 18) C dX5_addPlayer_18 ?_
    refine r_aload_n (pc := 19) C dX5_addPlayer_19 rfl rfl ?_
    refine r_getR (pc := 20) C kX5_18 h0 (by decide) dX5_addPlayer_20 ?_
    refine r_iload_n (pc := 23) C dX5_addPlayer_23 rfl rfl ?_
    obtain ⟨g2, h⟩ := xGb_of h
    refine r_iald (pc := 24) C (xtk h0 (by decide) rfl rfl) g2 dX5_addPlayer_24 ?_
    refine r_iadd (pc := 25) C dX5_addPlayer_25 ?_
    refine r_iload_n (pc := 26) C dX5_addPlayer_26 rfl rfl ?_
    obtain ⟨g3, h⟩ := xGb_of h
    refine r_iast (pc := 27) C (xtk h0 (by decide) rfl rfl) g3 dX5_addPlayer_27 ?_
    refine r_letM h (fun M4 h => ?_)
    refine r_aload_n (pc := 28) C dX5_addPlayer_28 rfl rfl ?_
    refine r_getR (pc := 29) C kX5_18 h0 (by decide) dX5_addPlayer_29 ?_
    refine r_iload_n (pc := 32) C dX5_addPlayer_32 rfl rfl ?_
    refine r_dup2 (pc := 33) C rfl rfl dX5_addPlayer_33 ?_
    obtain ⟨g5, h⟩ := xGb_of h
    refine r_iald (pc := 34) C (xtk h0 (by decide) rfl rfl) g5 dX5_addPlayer_34 ?_
    refine r_iconst (pc := 35) (v := (nI 1)) C dX5_addPlayer_35 (by decide) ?_
    refine r_iadd (pc := 36) C dX5_addPlayer_36 ?_
    obtain ⟨g6, h⟩ := xGb_of h
    refine r_iast (pc := 37) C (xtk h0 (by decide) rfl rfl) g6 dX5_addPlayer_37 ?_
    refine r_letM h (fun M7 h => ?_)
    exact r_vret (pc := 38) C R0 h dX5_addPlayer_38
theorem dX5_teamNamed_0 : decode cX5_teamNamed 0 = .ok (.iconst 0, 1) := by decide +kernel
theorem dX5_teamNamed_1 : decode cX5_teamNamed 1 = .ok (.istore_n 2, 1) := by decide +kernel
theorem dX5_teamNamed_2 : decode cX5_teamNamed 2 = .ok (.iload_n 2, 1) := by decide +kernel
theorem dX5_teamNamed_3 : decode cX5_teamNamed 3 = .ok (.iconst 2, 1) := by decide +kernel
theorem dX5_teamNamed_4 : decode cX5_teamNamed 4 = .ok (.if_icmp .ge 21, 3) := by decide +kernel
theorem dX5_teamNamed_7 : decode cX5_teamNamed 7 = .ok (.aload_n 0, 1) := by decide +kernel
theorem dX5_teamNamed_8 : decode cX5_teamNamed 8 = .ok (.getfield 9, 3) := by decide +kernel
theorem dX5_teamNamed_11 : decode cX5_teamNamed 11 = .ok (.iload_n 2, 1) := by decide +kernel
theorem dX5_teamNamed_12 : decode cX5_teamNamed 12 = .ok (.iaload, 1) := by decide +kernel
theorem dX5_teamNamed_13 : decode cX5_teamNamed 13 = .ok (.iload_n 1, 1) := by decide +kernel
theorem dX5_teamNamed_14 : decode cX5_teamNamed 14 = .ok (.if_icmp .ne 5, 3) := by decide +kernel
theorem dX5_teamNamed_17 : decode cX5_teamNamed 17 = .ok (.iload_n 2, 1) := by decide +kernel
theorem dX5_teamNamed_18 : decode cX5_teamNamed 18 = .ok (.ireturn, 1) := by decide +kernel
theorem dX5_teamNamed_19 : decode cX5_teamNamed 19 = .ok (.iinc 2 1, 3) := by decide +kernel
theorem dX5_teamNamed_22 : decode cX5_teamNamed 22 = .ok (.goto (-20), 3) := by decide +kernel
theorem dX5_teamNamed_25 : decode cX5_teamNamed 25 = .ok (.iconst (-1), 1) := by decide +kernel
theorem dX5_teamNamed_26 : decode cX5_teamNamed 26 = .ok (.ireturn, 1) := by decide +kernel
def fX5_teamNamed_l2 (p0 : Nat) (p1 : Int32) (K : Int32 → xMem → Option (Int32 × xMem)) : Nat → Int32 → xMem → Option (Int32 × xMem)
  | 0, _, _ => none
  | n + 1, v2, M => if (nI 2) ≤ v2 then (K v2 M) else (xGb v2 (xln (xrf p0 0)) (if (M.1 (xrf p0 0) (Int32.toNatClampNeg v2)) = p1 then (some (v2, M)) else (xLt (v2 + nI 1) fun x2 => fX5_teamNamed_l2 p0 p1 K n x2 M)))
def fX5_teamNamed (a0 : Nat) (a1 : Int32) (M : xMem) : Option (Int32 × xMem) :=
  fX5_teamNamed_l2 a0 a1 (fun (v3 : Int32) (M4 : xMem) => some ((-1), M4)) xFU (nI 0) M
set_option maxRecDepth 100000 in
set_option maxHeartbeats 4000000 in
theorem lX5_teamNamed_2 {X : xCX} {r : Int32} {M' : xMem} (C : xCk X cX5_teamNamed RX5 1) (R0 : xRk X (some .int) (some (.int r), M')) (hnL : X.2.2.2.2.2.2.2.2.2.2.2.2.2 = 3) (p0 : Nat) (hp0 : xkd p0 = 5) (p1 : Int32) (K : Int32 → xMem → Option (Int32 × xMem)) (hK : ∀ (v2 : Int32) (M : xMem), K v2 M = some (r, M') → WW X 25 [some (vr X.1 p0), some (.int p1), some (.int v2)] [] M) : ∀ (n : Nat) (v2 : Int32) (M : xMem), fX5_teamNamed_l2 p0 p1 K n v2 M = some (r, M') → WW X 2 [some (vr X.1 p0), some (.int p1), some (.int v2)] [] M := by
  have hn2 : 2 < X.2.2.2.2.2.2.2.2.2.2.2.2.2 := by rw [hnL]; decide
  intro n
  induction n with
  | zero =>
    intro v2 M h
    cases (show (none : Option (Int32 × xMem)) = some (r, M') from h)
  | succ n ih =>
    intro v2 M h
    rw [fX5_teamNamed_l2.eq_2] at h
    refine r_iload_n (pc := 2) C dX5_teamNamed_2 rfl rfl ?_
    refine r_iconst (pc := 3) (v := (nI 2)) C dX5_teamNamed_3 (by decide) ?_
    refine r_icmp_ge (pc := 4) (tgt := 25) C dX5_teamNamed_4 (by decide) h (fun _ h => ?_) (fun _ h => ?_)
    · exact hK v2 M h
    · refine r_aload_n (pc := 7) C dX5_teamNamed_7 rfl rfl ?_
      refine r_getR (pc := 8) C kX5_9 hp0 (by decide) dX5_teamNamed_8 ?_
      refine r_iload_n (pc := 11) C dX5_teamNamed_11 rfl rfl ?_
      obtain ⟨g1, h⟩ := xGb_of h
      refine r_iald (pc := 12) C (xtk hp0 (by decide) rfl rfl) g1 dX5_teamNamed_12 ?_
      refine r_iload_n (pc := 13) C dX5_teamNamed_13 rfl rfl ?_
      refine r_icmp_ne (pc := 14) (tgt := 19) C dX5_teamNamed_14 (by decide) h (fun _ h => ?_) (fun _ h => ?_)
      · refine r_iincL (pc := 19) (c := nI 1) C dX5_teamNamed_19 rfl (by decide) hn2 h (fun x2 h => ?_)
        refine r_lvE (lv' := [_, _, _]) rfl ?_
        refine r_goto (pc := 22) (tgt := 2) C dX5_teamNamed_22 (by decide) ?_
        exact ih x2 M h
      · refine r_iload_n (pc := 17) C dX5_teamNamed_17 rfl rfl ?_
        exact r_iret (pc := 18) C R0 h dX5_teamNamed_18
set_option maxRecDepth 100000 in
set_option maxHeartbeats 4000000 in
theorem zX5_teamNamed (G : xGX) (a0 : Nat) (h0 : xkd a0 = 5) (a1 : Int32) (M : xMem) (r : Int32) (M' : xMem) (h : fX5_teamNamed a0 a1 M = some (r, M')) : xCt G yX5_teamNamed cX5_teamNamed 3 (some .int) 1 [vr G a0, .int a1] M (some (.int r), M') := by
  refine xMet (lv := [some (vr G a0), some (.int a1), none]) (by decide) (Nat.le_of_ble_eq_true rfl) rfl ?_
  intro X hG hnL C R0
  subst hG
  have C : xCk X cX5_teamNamed RX5 1 := C
  have hn2 : 2 < X.2.2.2.2.2.2.2.2.2.2.2.2.2 := by rw [hnL]; decide
  unfold fX5_teamNamed at h
  refine r_iconst (pc := 0) (v := (nI 0)) C dX5_teamNamed_0 (by decide) ?_
  refine r_istore_n (pc := 1) (lv' := [_, _, _]) C dX5_teamNamed_1 rfl hn2 rfl ?_
  refine lX5_teamNamed_2 C R0 hnL a0 h0 a1 _ (fun v3 M4 h => ?_) _ _ _ h
  refine r_iconst (pc := 25) (v := (-1)) C dX5_teamNamed_25 (by decide) ?_
  exact r_iret (pc := 26) C R0 h dX5_teamNamed_26
theorem dX6_size_0 : decode cX6_size 0 = .ok (.aload_n 0, 1) := by decide +kernel
theorem dX6_size_1 : decode cX6_size 1 = .ok (.getfield 9, 3) := by decide +kernel
theorem dX6_size_4 : decode cX6_size 4 = .ok (.ireturn, 1) := by decide +kernel
def fX6_size (a0 : Nat) (M : xMem) : Option (Int32 × xMem) :=
  some ((M.1 a0 1), M)
set_option maxRecDepth 100000 in
set_option maxHeartbeats 4000000 in
theorem zX6_size (G : xGX) (a0 : Nat) (h0 : xkd a0 = 6) (M : xMem) (r : Int32) (M' : xMem) (h : fX6_size a0 M = some (r, M')) : xCt G yX6_size cX6_size 1 (some .int) 1 [vr G a0] M (some (.int r), M') := by
  refine xMet (lv := [some (vr G a0)]) (by decide) (Nat.le_of_ble_eq_true rfl) rfl ?_
  intro X hG hnL C R0
  subst hG
  have C : xCk X cX6_size RX6 1 := C
  unfold fX6_size at h
  refine r_aload_n (pc := 0) C dX6_size_0 rfl rfl ?_
  refine r_getI (pc := 1) C kX6_9 h0 dX6_size_1 ?_
  exact r_iret (pc := 4) C R0 h dX6_size_4
theorem dX6_at_0 : decode cX6_at 0 = .ok (.iload_n 1, 1) := by decide +kernel
theorem dX6_at_1 : decode cX6_at 1 = .ok (.ifCond .lt 24, 3) := by decide +kernel
theorem dX6_at_4 : decode cX6_at 4 = .ok (.iload_n 1, 1) := by decide +kernel
theorem dX6_at_5 : decode cX6_at 5 = .ok (.aload_n 0, 1) := by decide +kernel
theorem dX6_at_6 : decode cX6_at 6 = .ok (.getfield 9, 3) := by decide +kernel
theorem dX6_at_9 : decode cX6_at 9 = .ok (.if_icmp .ge 16, 3) := by decide +kernel
theorem dX6_at_12 : decode cX6_at 12 = .ok (.aload_n 0, 1) := by decide +kernel
theorem dX6_at_13 : decode cX6_at 13 = .ok (.getfield 15, 3) := by decide +kernel
theorem dX6_at_16 : decode cX6_at 16 = .ok (.iload_n 1, 1) := by decide +kernel
theorem dX6_at_17 : decode cX6_at 17 = .ok (.baload, 1) := by decide +kernel
theorem dX6_at_18 : decode cX6_at 18 = .ok (.sipush 255, 3) := by decide +kernel
theorem dX6_at_21 : decode cX6_at 21 = .ok (.iand, 1) := by decide +kernel
theorem dX6_at_22 : decode cX6_at 22 = .ok (.goto 4, 3) := by decide +kernel
theorem dX6_at_25 : decode cX6_at 25 = .ok (.iconst (-1), 1) := by decide +kernel
theorem dX6_at_26 : decode cX6_at 26 = .ok (.ireturn, 1) := by decide +kernel
def fX6_at (a0 : Nat) (a1 : Int32) (M : xMem) : Option (Int32 × xMem) :=
  if a1 < 0 then (some ((-1), M)) else (if (M.1 a0 1) ≤ a1 then (some ((-1), M)) else (xGb a1 (xln (xrf a0 0)) (some (((M.1 (xrf a0 0) (Int32.toNatClampNeg a1)) &&& (nI 255)), M))))
set_option maxRecDepth 100000 in
set_option maxHeartbeats 4000000 in
theorem zX6_at (G : xGX) (a0 : Nat) (h0 : xkd a0 = 6) (a1 : Int32) (M : xMem) (r : Int32) (M' : xMem) (h : fX6_at a0 a1 M = some (r, M')) : xCt G yX6_at cX6_at 2 (some .int) 1 [vr G a0, .int a1] M (some (.int r), M') := by
  refine xMet (lv := [some (vr G a0), some (.int a1)]) (by decide) (Nat.le_of_ble_eq_true rfl) rfl ?_
  intro X hG hnL C R0
  subst hG
  have C : xCk X cX6_at RX6 1 := C
  unfold fX6_at at h
  refine r_iload_n (pc := 0) C dX6_at_0 rfl rfl ?_
  refine r_if_lt (pc := 1) (tgt := 25) C dX6_at_1 (by decide) h (fun _ h => ?_) (fun _ h => ?_)
  · refine r_iconst (pc := 25) (v := (-1)) C dX6_at_25 (by decide) ?_
    exact r_iret (pc := 26) C R0 h dX6_at_26
  · refine r_iload_n (pc := 4) C dX6_at_4 rfl rfl ?_
    refine r_aload_n (pc := 5) C dX6_at_5 rfl rfl ?_
    refine r_getI (pc := 6) C kX6_9 h0 dX6_at_6 ?_
    refine r_icmp_ge (pc := 9) (tgt := 25) C dX6_at_9 (by decide) h (fun _ h => ?_) (fun _ h => ?_)
    · refine r_iconst (pc := 25) (v := (-1)) C dX6_at_25 (by decide) ?_
      exact r_iret (pc := 26) C R0 h dX6_at_26
    · refine r_aload_n (pc := 12) C dX6_at_12 rfl rfl ?_
      refine r_getR (pc := 13) C kX6_15 h0 (by decide) dX6_at_13 ?_
      refine r_iload_n (pc := 16) C dX6_at_16 rfl rfl ?_
      obtain ⟨g1, h⟩ := xGb_of h
      refine r_bald (pc := 17) C (xtk h0 (by decide) rfl rfl) g1 dX6_at_17 ?_
      refine r_sipush (pc := 18) (v := (nI 255)) C dX6_at_18 (by decide) ?_
      refine r_iand (pc := 21) C dX6_at_21 ?_
      refine r_goto (pc := 22) (tgt := 26) C dX6_at_22 (by decide) ?_
      exact r_iret (pc := 26) C R0 h dX6_at_26
theorem dX6_cut_0 : decode cX6_cut 0 = .ok (.iload_n 1, 1) := by decide +kernel
theorem dX6_cut_1 : decode cX6_cut 1 = .ok (.ifCond .lt 16, 3) := by decide +kernel
theorem dX6_cut_4 : decode cX6_cut 4 = .ok (.iload_n 1, 1) := by decide +kernel
theorem dX6_cut_5 : decode cX6_cut 5 = .ok (.aload_n 0, 1) := by decide +kernel
theorem dX6_cut_6 : decode cX6_cut 6 = .ok (.getfield 9, 3) := by decide +kernel
theorem dX6_cut_9 : decode cX6_cut 9 = .ok (.if_icmp .ge 8, 3) := by decide +kernel
theorem dX6_cut_12 : decode cX6_cut 12 = .ok (.aload_n 0, 1) := by decide +kernel
theorem dX6_cut_13 : decode cX6_cut 13 = .ok (.iload_n 1, 1) := by decide +kernel
theorem dX6_cut_14 : decode cX6_cut 14 = .ok (.putfield 9, 3) := by decide +kernel
theorem dX6_cut_17 : decode cX6_cut 17 = .ok (.return_, 1) := by decide +kernel
def fX6_cut (a0 : Nat) (a1 : Int32) (M : xMem) : Option (xMem) :=
  if a1 < 0 then (some M) else (if (M.1 a0 1) ≤ a1 then (some M) else (xLt (xwI M a0 1 a1) fun M1 => some M1))
set_option maxRecDepth 100000 in
set_option maxHeartbeats 4000000 in
theorem zX6_cut (G : xGX) (a0 : Nat) (h0 : xkd a0 = 6) (a1 : Int32) (M : xMem) (M' : xMem) (h : fX6_cut a0 a1 M = some M') : xCt G yX6_cut cX6_cut 2 none 1 [vr G a0, .int a1] M (none, M') := by
  refine xMet (lv := [some (vr G a0), some (.int a1)]) (by decide) (Nat.le_of_ble_eq_true rfl) rfl ?_
  intro X hG hnL C R0
  subst hG
  have C : xCk X cX6_cut RX6 1 := C
  unfold fX6_cut at h
  refine r_iload_n (pc := 0) C dX6_cut_0 rfl rfl ?_
  refine r_if_lt (pc := 1) (tgt := 17) C dX6_cut_1 (by decide) h (fun _ h => ?_) (fun _ h => ?_)
  · exact r_vret (pc := 17) C R0 h dX6_cut_17
  · refine r_iload_n (pc := 4) C dX6_cut_4 rfl rfl ?_
    refine r_aload_n (pc := 5) C dX6_cut_5 rfl rfl ?_
    refine r_getI (pc := 6) C kX6_9 h0 dX6_cut_6 ?_
    refine r_icmp_ge (pc := 9) (tgt := 17) C dX6_cut_9 (by decide) h (fun _ h => ?_) (fun _ h => ?_)
    · exact r_vret (pc := 17) C R0 h dX6_cut_17
    · refine r_aload_n (pc := 12) C dX6_cut_12 rfl rfl ?_
      refine r_iload_n (pc := 13) C dX6_cut_13 rfl rfl ?_
      refine r_putI (pc := 14) C kX6_9 h0 dX6_cut_14 ?_
      refine r_letM h (fun M1 h => ?_)
      exact r_vret (pc := 17) C R0 h dX6_cut_17
theorem dX6_put_0 : decode cX6_put 0 = .ok (.aload_n 0, 1) := by decide +kernel
theorem dX6_put_1 : decode cX6_put 1 = .ok (.getfield 9, 3) := by decide +kernel
theorem dX6_put_4 : decode cX6_put 4 = .ok (.aload_n 0, 1) := by decide +kernel
theorem dX6_put_5 : decode cX6_put 5 = .ok (.getfield 15, 3) := by decide +kernel
theorem dX6_put_8 : decode cX6_put 8 = .ok (.arraylength, 1) := by decide +kernel
theorem dX6_put_9 : decode cX6_put 9 = .ok (.if_icmp .ge 24, 3) := by decide +kernel
theorem dX6_put_12 : decode cX6_put 12 = .ok (.aload_n 0, 1) := by decide +kernel
theorem dX6_put_13 : decode cX6_put 13 = .ok (.getfield 15, 3) := by decide +kernel
theorem dX6_put_16 : decode cX6_put 16 = .ok (.aload_n 0, 1) := by decide +kernel
theorem dX6_put_17 : decode cX6_put 17 = .ok (.getfield 9, 3) := by decide +kernel
theorem dX6_put_20 : decode cX6_put 20 = .ok (.iload_n 1, 1) := by decide +kernel
theorem dX6_put_21 : decode cX6_put 21 = .ok (.i2b, 1) := by decide +kernel
theorem dX6_put_22 : decode cX6_put 22 = .ok (.bastore, 1) := by decide +kernel
theorem dX6_put_23 : decode cX6_put 23 = .ok (.aload_n 0, 1) := by decide +kernel
theorem dX6_put_24 : decode cX6_put 24 = .ok (.dup, 1) := by decide +kernel
theorem dX6_put_25 : decode cX6_put 25 = .ok (.getfield 9, 3) := by decide +kernel
theorem dX6_put_28 : decode cX6_put 28 = .ok (.iconst 1, 1) := by decide +kernel
theorem dX6_put_29 : decode cX6_put 29 = .ok (.iadd, 1) := by decide +kernel
theorem dX6_put_30 : decode cX6_put 30 = .ok (.putfield 9, 3) := by decide +kernel
theorem dX6_put_33 : decode cX6_put 33 = .ok (.return_, 1) := by decide +kernel
def fX6_put (a0 : Nat) (a1 : Int32) (M : xMem) : Option (xMem) :=
  if (nI (xln (xrf a0 0))) ≤ (M.1 a0 1) then (some M) else (xGb (M.1 a0 1) (xln (xrf a0 0)) (xLt (xwI M (xrf a0 0) (Int32.toNatClampNeg (M.1 a0 1)) (vp_nar .byte ((Int32.toInt8 a1).toInt32))) fun M2 => xLt (xwI M2 a0 1 ((M2.1 a0 1) + (nI 1))) fun M3 => some M3))
set_option maxRecDepth 100000 in
set_option maxHeartbeats 4000000 in
theorem zX6_put (G : xGX) (a0 : Nat) (h0 : xkd a0 = 6) (a1 : Int32) (M : xMem) (M' : xMem) (h : fX6_put a0 a1 M = some M') : xCt G yX6_put cX6_put 2 none 1 [vr G a0, .int a1] M (none, M') := by
  refine xMet (lv := [some (vr G a0), some (.int a1)]) (by decide) (Nat.le_of_ble_eq_true rfl) rfl ?_
  intro X hG hnL C R0
  subst hG
  have C : xCk X cX6_put RX6 1 := C
  unfold fX6_put at h
  refine r_aload_n (pc := 0) C dX6_put_0 rfl rfl ?_
  refine r_getI (pc := 1) C kX6_9 h0 dX6_put_1 ?_
  refine r_aload_n (pc := 4) C dX6_put_4 rfl rfl ?_
  refine r_getR (pc := 5) C kX6_15 h0 (by decide) dX6_put_5 ?_
  refine r_alen (pc := 8) C (xkar (xtk h0 (by decide) rfl rfl) (by decide)) dX6_put_8 ?_
  refine r_icmp_ge (pc := 9) (tgt := 33) C dX6_put_9 (by decide) h (fun _ h => ?_) (fun _ h => ?_)
  · exact r_vret (pc := 33) C R0 h dX6_put_33
  · refine r_aload_n (pc := 12) C dX6_put_12 rfl rfl ?_
    refine r_getR (pc := 13) C kX6_15 h0 (by decide) dX6_put_13 ?_
    refine r_aload_n (pc := 16) C dX6_put_16 rfl rfl ?_
    refine r_getI (pc := 17) C kX6_9 h0 dX6_put_17 ?_
    refine r_iload_n (pc := 20) C dX6_put_20 rfl rfl ?_
    refine r_i2b (pc := 21) C dX6_put_21 ?_
    obtain ⟨g1, h⟩ := xGb_of h
    refine r_bast (pc := 22) C (xtk h0 (by decide) rfl rfl) g1 dX6_put_22 ?_
    refine r_letM h (fun M2 h => ?_)
    refine r_aload_n (pc := 23) C dX6_put_23 rfl rfl ?_
    refine r_dup (pc := 24) C rfl dX6_put_24 ?_
    refine r_getI (pc := 25) C kX6_9 h0 dX6_put_25 ?_
    refine r_iconst (pc := 28) (v := (nI 1)) C dX6_put_28 (by decide) ?_
    refine r_iadd (pc := 29) C dX6_put_29 ?_
    refine r_putI (pc := 30) C kX6_9 h0 dX6_put_30 ?_
    refine r_letM h (fun M3 h => ?_)
    exact r_vret (pc := 33) C R0 h dX6_put_33
theorem dX6_putNumber_0 : decode cX6_putNumber 0 = .ok (.aload_n 0, 1) := by decide +kernel
theorem dX6_putNumber_1 : decode cX6_putNumber 1 = .ok (.iload_n 1, 1) := by decide +kernel
theorem dX6_putNumber_2 : decode cX6_putNumber 2 = .ok (.bipush 24, 2) := by decide +kernel
theorem dX6_putNumber_4 : decode cX6_putNumber 4 = .ok (.iushr, 1) := by decide +kernel
theorem dX6_putNumber_5 : decode cX6_putNumber 5 = .ok (.invokevirtual 19, 3) := by decide +kernel
theorem dX6_putNumber_8 : decode cX6_putNumber 8 = .ok (.aload_n 0, 1) := by decide +kernel
theorem dX6_putNumber_9 : decode cX6_putNumber 9 = .ok (.iload_n 1, 1) := by decide +kernel
theorem dX6_putNumber_10 : decode cX6_putNumber 10 = .ok (.bipush 16, 2) := by decide +kernel
theorem dX6_putNumber_12 : decode cX6_putNumber 12 = .ok (.iushr, 1) := by decide +kernel
theorem dX6_putNumber_13 : decode cX6_putNumber 13 = .ok (.invokevirtual 19, 3) := by decide +kernel
theorem dX6_putNumber_16 : decode cX6_putNumber 16 = .ok (.aload_n 0, 1) := by decide +kernel
theorem dX6_putNumber_17 : decode cX6_putNumber 17 = .ok (.iload_n 1, 1) := by decide +kernel
theorem dX6_putNumber_18 : decode cX6_putNumber 18 = .ok (.bipush 8, 2) := by decide +kernel
theorem dX6_putNumber_20 : decode cX6_putNumber 20 = .ok (.iushr, 1) := by decide +kernel
theorem dX6_putNumber_21 : decode cX6_putNumber 21 = .ok (.invokevirtual 19, 3) := by decide +kernel
theorem dX6_putNumber_24 : decode cX6_putNumber 24 = .ok (.aload_n 0, 1) := by decide +kernel
theorem dX6_putNumber_25 : decode cX6_putNumber 25 = .ok (.iload_n 1, 1) := by decide +kernel
theorem dX6_putNumber_26 : decode cX6_putNumber 26 = .ok (.invokevirtual 19, 3) := by decide +kernel
theorem dX6_putNumber_29 : decode cX6_putNumber 29 = .ok (.return_, 1) := by decide +kernel
def fX6_putNumber (a0 : Nat) (a1 : Int32) (M : xMem) : Option (xMem) :=
  xBv (fX6_put a0 ((Int32.toUInt32 a1 >>> (Int32.toUInt32 (nI 24) &&& Int32.toUInt32 31)).toInt32) M) fun M1 => xBv (fX6_put a0 ((Int32.toUInt32 a1 >>> (Int32.toUInt32 (nI 16) &&& Int32.toUInt32 31)).toInt32) M1) fun M2 => xBv (fX6_put a0 ((Int32.toUInt32 a1 >>> (Int32.toUInt32 (nI 8) &&& Int32.toUInt32 31)).toInt32) M2) fun M3 => xBv (fX6_put a0 a1 M3) fun M4 => some M4
set_option maxRecDepth 100000 in
set_option maxHeartbeats 4000000 in
theorem zX6_putNumber (G : xGX) (a0 : Nat) (h0 : xkd a0 = 6) (a1 : Int32) (M : xMem) (M' : xMem) (h : fX6_putNumber a0 a1 M = some M') : xCt G yX6_putNumber cX6_putNumber 2 none 2 [vr G a0, .int a1] M (none, M') := by
  refine xMet (lv := [some (vr G a0), some (.int a1)]) (by decide) (Nat.le_of_ble_eq_true rfl) rfl ?_
  intro X hG hnL C R0
  subst hG
  have C : xCk X cX6_putNumber RX6 2 := C
  unfold fX6_putNumber at h
  refine r_aload_n (pc := 0) C dX6_putNumber_0 rfl rfl ?_
  refine r_iload_n (pc := 1) C dX6_putNumber_1 rfl rfl ?_
  refine r_bipush (pc := 2) (v := (nI 24)) C dX6_putNumber_2 (by decide) ?_
  refine r_iushr (pc := 4) C dX6_putNumber_4 ?_
  refine r_vV1 (pc := 5) C (fun M' e => zX6_put X.1 a0 h0 ((Int32.toUInt32 a1 >>> (Int32.toUInt32 (nI 24) &&& Int32.toUInt32 31)).toInt32) M M' e) h0 (by decide) rfl mX6_put lX6_19 (by decide) (Nat.le_of_ble_eq_true rfl) dX6_putNumber_5 h (fun M1 h => ?_)
  refine r_aload_n (pc := 8) C dX6_putNumber_8 rfl rfl ?_
  refine r_iload_n (pc := 9) C dX6_putNumber_9 rfl rfl ?_
  refine r_bipush (pc := 10) (v := (nI 16)) C dX6_putNumber_10 (by decide) ?_
  refine r_iushr (pc := 12) C dX6_putNumber_12 ?_
  refine r_vV1 (pc := 13) C (fun M' e => zX6_put X.1 a0 h0 ((Int32.toUInt32 a1 >>> (Int32.toUInt32 (nI 16) &&& Int32.toUInt32 31)).toInt32) M1 M' e) h0 (by decide) rfl mX6_put lX6_19 (by decide) (Nat.le_of_ble_eq_true rfl) dX6_putNumber_13 h (fun M2 h => ?_)
  refine r_aload_n (pc := 16) C dX6_putNumber_16 rfl rfl ?_
  refine r_iload_n (pc := 17) C dX6_putNumber_17 rfl rfl ?_
  refine r_bipush (pc := 18) (v := (nI 8)) C dX6_putNumber_18 (by decide) ?_
  refine r_iushr (pc := 20) C dX6_putNumber_20 ?_
  refine r_vV1 (pc := 21) C (fun M' e => zX6_put X.1 a0 h0 ((Int32.toUInt32 a1 >>> (Int32.toUInt32 (nI 8) &&& Int32.toUInt32 31)).toInt32) M2 M' e) h0 (by decide) rfl mX6_put lX6_19 (by decide) (Nat.le_of_ble_eq_true rfl) dX6_putNumber_21 h (fun M3 h => ?_)
  refine r_aload_n (pc := 24) C dX6_putNumber_24 rfl rfl ?_
  refine r_iload_n (pc := 25) C dX6_putNumber_25 rfl rfl ?_
  refine r_vV1 (pc := 26) C (fun M' e => zX6_put X.1 a0 h0 a1 M3 M' e) h0 (by decide) rfl mX6_put lX6_19 (by decide) (Nat.le_of_ble_eq_true rfl) dX6_putNumber_26 h (fun M4 h => ?_)
  exact r_vret (pc := 29) C R0 h dX6_putNumber_29
theorem dX6_putWords_0 : decode cX6_putWords 0 = .ok (.iconst 0, 1) := by decide +kernel
theorem dX6_putWords_1 : decode cX6_putWords 1 = .ok (.istore_n 2, 1) := by decide +kernel
theorem dX6_putWords_2 : decode cX6_putWords 2 = .ok (.iload_n 2, 1) := by decide +kernel
theorem dX6_putWords_3 : decode cX6_putWords 3 = .ok (.aload_n 1, 1) := by decide +kernel
theorem dX6_putWords_4 : decode cX6_putWords 4 = .ok (.invokevirtual 23, 3) := by decide +kernel
theorem dX6_putWords_7 : decode cX6_putWords 7 = .ok (.if_icmp .ge 18, 3) := by decide +kernel
theorem dX6_putWords_10 : decode cX6_putWords 10 = .ok (.aload_n 0, 1) := by decide +kernel
theorem dX6_putWords_11 : decode cX6_putWords 11 = .ok (.aload_n 1, 1) := by decide +kernel
theorem dX6_putWords_12 : decode cX6_putWords 12 = .ok (.iload_n 2, 1) := by decide +kernel
theorem dX6_putWords_13 : decode cX6_putWords 13 = .ok (.invokevirtual 28, 3) := by decide +kernel
theorem dX6_putWords_16 : decode cX6_putWords 16 = .ok (.invokevirtual 19, 3) := by decide +kernel
theorem dX6_putWords_19 : decode cX6_putWords 19 = .ok (.iinc 2 1, 3) := by decide +kernel
theorem dX6_putWords_22 : decode cX6_putWords 22 = .ok (.goto (-20), 3) := by decide +kernel
theorem dX6_putWords_25 : decode cX6_putWords 25 = .ok (.return_, 1) := by decide +kernel
def fX6_putWords_l2 (p0 : Nat) (p1 : Nat) (K : Int32 → xMem → Option (xMem)) : Nat → Int32 → xMem → Option (xMem)
  | 0, _, _ => none
  | n + 1, v2, M => if (nI (xsn p1)) ≤ v2 then (K v2 M) else (xGb v2 (xsn p1) (xBv (fX6_put p0 (xsc p1 (Int32.toNatClampNeg v2)) M) fun M2 => xLt (v2 + nI 1) fun x3 => fX6_putWords_l2 p0 p1 K n x3 M2))
def fX6_putWords (a0 : Nat) (a1 : Nat) (M : xMem) : Option (xMem) :=
  fX6_putWords_l2 a0 a1 (fun (v4 : Int32) (M5 : xMem) => some M5) xFU (nI 0) M
set_option maxRecDepth 100000 in
set_option maxHeartbeats 4000000 in
theorem lX6_putWords_2 {X : xCX} {M' : xMem} (C : xCk X cX6_putWords RX6 5) (R0 : xRk X none (none, M')) (hnL : X.2.2.2.2.2.2.2.2.2.2.2.2.2 = 3) (p0 : Nat) (hp0 : xkd p0 = 6) (p1 : Nat) (hp1 : p1 < 30) (K : Int32 → xMem → Option (xMem)) (hK : ∀ (v2 : Int32) (M : xMem), K v2 M = some M' → WW X 25 [some (vr X.1 p0), some (vs X.1 p1), some (.int v2)] [] M) : ∀ (n : Nat) (v2 : Int32) (M : xMem), fX6_putWords_l2 p0 p1 K n v2 M = some M' → WW X 2 [some (vr X.1 p0), some (vs X.1 p1), some (.int v2)] [] M := by
  have hn2 : 2 < X.2.2.2.2.2.2.2.2.2.2.2.2.2 := by rw [hnL]; decide
  intro n
  induction n with
  | zero =>
    intro v2 M h
    cases (show (none : Option (xMem)) = some M' from h)
  | succ n ih =>
    intro v2 M h
    rw [fX6_putWords_l2.eq_2] at h
    refine r_iload_n (pc := 2) C dX6_putWords_2 rfl rfl ?_
    refine r_sload_n (pc := 3) C dX6_putWords_3 rfl rfl ?_
    refine r_slen (pc := 4) C hp1 lX6_23 (by decide) (Nat.le_of_ble_eq_true rfl) dX6_putWords_4 ?_
    refine r_icmp_ge (pc := 7) (tgt := 25) C dX6_putWords_7 (by decide) h (fun _ h => ?_) (fun _ h => ?_)
    · exact hK v2 M h
    · refine r_aload_n (pc := 10) C dX6_putWords_10 rfl rfl ?_
      refine r_sload_n (pc := 11) C dX6_putWords_11 rfl rfl ?_
      refine r_iload_n (pc := 12) C dX6_putWords_12 rfl rfl ?_
      obtain ⟨g1, h⟩ := xGb_of h
      refine r_schar (pc := 13) C hp1 g1 lX6_28 (by decide) (Nat.le_of_ble_eq_true rfl) dX6_putWords_13 ?_
      refine r_vV1 (pc := 16) C (fun M' e => zX6_put X.1 p0 hp0 (xsc p1 (Int32.toNatClampNeg v2)) M M' e) hp0 (by decide) rfl mX6_put lX6_19 (by decide) (Nat.le_of_ble_eq_true rfl) dX6_putWords_16 h (fun M2 h => ?_)
      refine r_iincL (pc := 19) (c := nI 1) C dX6_putWords_19 rfl (by decide) hn2 h (fun x3 h => ?_)
      refine r_lvE (lv' := [_, _, _]) rfl ?_
      refine r_goto (pc := 22) (tgt := 2) C dX6_putWords_22 (by decide) ?_
      exact ih x3 M2 h
set_option maxRecDepth 100000 in
set_option maxHeartbeats 4000000 in
theorem zX6_putWords (G : xGX) (a0 : Nat) (h0 : xkd a0 = 6) (a1 : Nat) (h1 : a1 < 30) (M : xMem) (M' : xMem) (h : fX6_putWords a0 a1 M = some M') : xCt G yX6_putWords cX6_putWords 3 none 5 [vr G a0, vs G a1] M (none, M') := by
  refine xMet (lv := [some (vr G a0), some (vs G a1), none]) (by decide) (Nat.le_of_ble_eq_true rfl) rfl ?_
  intro X hG hnL C R0
  subst hG
  have C : xCk X cX6_putWords RX6 5 := C
  have hn2 : 2 < X.2.2.2.2.2.2.2.2.2.2.2.2.2 := by rw [hnL]; decide
  unfold fX6_putWords at h
  refine r_iconst (pc := 0) (v := (nI 0)) C dX6_putWords_0 (by decide) ?_
  refine r_istore_n (pc := 1) (lv' := [_, _, _]) C dX6_putWords_1 rfl hn2 rfl ?_
  refine lX6_putWords_2 C R0 hnL a0 h0 a1 h1 _ (fun v4 M5 h => ?_) _ _ _ h
  exact r_vret (pc := 25) C R0 h dX6_putWords_25
theorem dX6_putShirt_0 : decode cX6_putShirt 0 = .ok (.iload_n 1, 1) := by decide +kernel
theorem dX6_putShirt_1 : decode cX6_putShirt 1 = .ok (.bipush 10, 2) := by decide +kernel
theorem dX6_putShirt_3 : decode cX6_putShirt 3 = .ok (.if_icmp .lt 14, 3) := by decide +kernel
theorem dX6_putShirt_6 : decode cX6_putShirt 6 = .ok (.aload_n 0, 1) := by decide +kernel
theorem dX6_putShirt_7 : decode cX6_putShirt 7 = .ok (.bipush 48, 2) := by decide +kernel
theorem dX6_putShirt_9 : decode cX6_putShirt 9 = .ok (.iload_n 1, 1) := by decide +kernel
theorem dX6_putShirt_10 : decode cX6_putShirt 10 = .ok (.bipush 10, 2) := by decide +kernel
theorem dX6_putShirt_12 : decode cX6_putShirt 12 = .ok (.idiv, 1) := by decide +kernel
theorem dX6_putShirt_13 : decode cX6_putShirt 13 = .ok (.iadd, 1) := by decide +kernel
theorem dX6_putShirt_14 : decode cX6_putShirt 14 = .ok (.invokevirtual 19, 3) := by decide +kernel
theorem dX6_putShirt_17 : decode cX6_putShirt 17 = .ok (.aload_n 0, 1) := by decide +kernel
theorem dX6_putShirt_18 : decode cX6_putShirt 18 = .ok (.bipush 48, 2) := by decide +kernel
theorem dX6_putShirt_20 : decode cX6_putShirt 20 = .ok (.iload_n 1, 1) := by decide +kernel
theorem dX6_putShirt_21 : decode cX6_putShirt 21 = .ok (.bipush 10, 2) := by decide +kernel
theorem dX6_putShirt_23 : decode cX6_putShirt 23 = .ok (.irem, 1) := by decide +kernel
theorem dX6_putShirt_24 : decode cX6_putShirt 24 = .ok (.iadd, 1) := by decide +kernel
theorem dX6_putShirt_25 : decode cX6_putShirt 25 = .ok (.invokevirtual 19, 3) := by decide +kernel
theorem dX6_putShirt_28 : decode cX6_putShirt 28 = .ok (.return_, 1) := by decide +kernel
def fX6_putShirt (a0 : Nat) (a1 : Int32) (M : xMem) : Option (xMem) :=
  xLt (fun  (M1 : xMem) => (xBv (fX6_put a0 ((nI 48) + (a1 - a1 / (nI 10) * (nI 10))) M1) fun M2 => some M2 : Option (xMem))) fun J17 => if a1 < (nI 10) then (J17  M) else (xBv (fX6_put a0 ((nI 48) + (a1 / (nI 10))) M) fun M3 => J17  M3)
set_option maxRecDepth 100000 in
set_option maxHeartbeats 4000000 in
theorem zX6_putShirt (G : xGX) (a0 : Nat) (h0 : xkd a0 = 6) (a1 : Int32) (M : xMem) (M' : xMem) (h : fX6_putShirt a0 a1 M = some M') : xCt G yX6_putShirt cX6_putShirt 2 none 2 [vr G a0, .int a1] M (none, M') := by
  refine xMet (lv := [some (vr G a0), some (.int a1)]) (by decide) (Nat.le_of_ble_eq_true rfl) rfl ?_
  intro X hG hnL C R0
  subst hG
  have C : xCk X cX6_putShirt RX6 2 := C
  unfold fX6_putShirt at h
  refine r_iload_n (pc := 0) C dX6_putShirt_0 rfl rfl ?_
  refine r_bipush (pc := 1) (v := (nI 10)) C dX6_putShirt_1 (by decide) ?_
  refine r_jn (fun J => ∀  (M1 : xMem) , J  M1 = some M' → WW X 17 [some (vr X.1 a0), some (.int a1)] [] M1) h (fun  M1  h => ?_) (fun J17 hJ17 h => ?_)
  · refine r_aload_n (pc := 17) C dX6_putShirt_17 rfl rfl ?_
    refine r_bipush (pc := 18) (v := (nI 48)) C dX6_putShirt_18 (by decide) ?_
    refine r_iload_n (pc := 20) C dX6_putShirt_20 rfl rfl ?_
    refine r_bipush (pc := 21) (v := (nI 10)) C dX6_putShirt_21 (by decide) ?_
    refine r_irem (pc := 23) C (by decide) dX6_putShirt_23 ?_
    refine r_iadd (pc := 24) C dX6_putShirt_24 ?_
    refine r_vV1 (pc := 25) C (fun M' e => zX6_put X.1 a0 h0 ((nI 48) + (a1 - a1 / (nI 10) * (nI 10))) M1 M' e) h0 (by decide) rfl mX6_put lX6_19 (by decide) (Nat.le_of_ble_eq_true rfl) dX6_putShirt_25 h (fun M2 h => ?_)
    exact r_vret (pc := 28) C R0 h dX6_putShirt_28
  refine r_icmp_lt (pc := 3) (tgt := 17) C dX6_putShirt_3 (by decide) h (fun _ h => ?_) (fun _ h => ?_)
  · exact hJ17  M  h
  · refine r_aload_n (pc := 6) C dX6_putShirt_6 rfl rfl ?_
    refine r_bipush (pc := 7) (v := (nI 48)) C dX6_putShirt_7 (by decide) ?_
    refine r_iload_n (pc := 9) C dX6_putShirt_9 rfl rfl ?_
    refine r_bipush (pc := 10) (v := (nI 10)) C dX6_putShirt_10 (by decide) ?_
    refine r_idiv (pc := 12) C (by decide) dX6_putShirt_12 ?_
    refine r_iadd (pc := 13) C dX6_putShirt_13 ?_
    refine r_vV1 (pc := 14) C (fun M' e => zX6_put X.1 a0 h0 ((nI 48) + (a1 / (nI 10))) M M' e) h0 (by decide) rfl mX6_put lX6_19 (by decide) (Nat.le_of_ble_eq_true rfl) dX6_putShirt_14 h (fun M3 h => ?_)
    exact hJ17  M3  h
theorem dX9_clear_0 : decode cX9_clear 0 = .ok (.aload_n 0, 1) := by decide +kernel
theorem dX9_clear_1 : decode cX9_clear 1 = .ok (.getfield 12, 3) := by decide +kernel
theorem dX9_clear_4 : decode cX9_clear 4 = .ok (.invokevirtual 26, 3) := by decide +kernel
theorem dX9_clear_7 : decode cX9_clear 7 = .ok (.aload_n 0, 1) := by decide +kernel
theorem dX9_clear_8 : decode cX9_clear 8 = .ok (.iconst 0, 1) := by decide +kernel
theorem dX9_clear_9 : decode cX9_clear 9 = .ok (.putfield 22, 3) := by decide +kernel
theorem dX9_clear_12 : decode cX9_clear 12 = .ok (.return_, 1) := by decide +kernel
def fX9_clear (a0 : Nat) (M : xMem) : Option (xMem) :=
  xBv (fX5_clear (xrf a0 0) M) fun M1 => xLt (xwI M1 a0 2 (nI 0)) fun M2 => some M2
set_option maxRecDepth 100000 in
set_option maxHeartbeats 4000000 in
theorem zX9_clear (G : xGX) (a0 : Nat) (h0 : xkd a0 = 9) (M : xMem) (M' : xMem) (h : fX9_clear a0 M = some M') : xCt G yX9_clear cX9_clear 1 none 2 [vr G a0] M (none, M') := by
  refine xMet (lv := [some (vr G a0)]) (by decide) (Nat.le_of_ble_eq_true rfl) rfl ?_
  intro X hG hnL C R0
  subst hG
  have C : xCk X cX9_clear RX9 2 := C
  unfold fX9_clear at h
  refine r_aload_n (pc := 0) C dX9_clear_0 rfl rfl ?_
  refine r_getR (pc := 1) C kX9_12 h0 (by decide) dX9_clear_1 ?_
  refine r_vV0 (pc := 4) C (fun M' e => zX5_clear X.1 (xrf a0 0) (xtk h0 (by decide) rfl rfl) M M' e) (xtk h0 (by decide) rfl rfl) (by decide) rfl mX5_clear lX9_26 (by decide) (Nat.le_of_ble_eq_true rfl) dX9_clear_4 h (fun M1 h => ?_)
  refine r_aload_n (pc := 7) C dX9_clear_7 rfl rfl ?_
  refine r_iconst (pc := 8) (v := (nI 0)) C dX9_clear_8 (by decide) ?_
  refine r_putI (pc := 9) C kX9_22 h0 dX9_clear_9 ?_
  refine r_letM h (fun M2 h => ?_)
  exact r_vret (pc := 12) C R0 h dX9_clear_12
theorem dX9_copyFrom_0 : decode cX9_copyFrom 0 = .ok (.aload_n 0, 1) := by decide +kernel
theorem dX9_copyFrom_1 : decode cX9_copyFrom 1 = .ok (.getfield 12, 3) := by decide +kernel
theorem dX9_copyFrom_4 : decode cX9_copyFrom 4 = .ok (.aload_n 1, 1) := by decide +kernel
theorem dX9_copyFrom_5 : decode cX9_copyFrom 5 = .ok (.getfield 12, 3) := by decide +kernel
theorem dX9_copyFrom_8 : decode cX9_copyFrom 8 = .ok (.invokevirtual 29, 3) := by decide +kernel
theorem dX9_copyFrom_11 : decode cX9_copyFrom 11 = .ok (.aload_n 0, 1) := by decide +kernel
theorem dX9_copyFrom_12 : decode cX9_copyFrom 12 = .ok (.aload_n 1, 1) := by decide +kernel
theorem dX9_copyFrom_13 : decode cX9_copyFrom 13 = .ok (.getfield 22, 3) := by decide +kernel
theorem dX9_copyFrom_16 : decode cX9_copyFrom 16 = .ok (.putfield 22, 3) := by decide +kernel
theorem dX9_copyFrom_19 : decode cX9_copyFrom 19 = .ok (.aload_n 1, 1) := by decide +kernel
theorem dX9_copyFrom_20 : decode cX9_copyFrom 20 = .ok (.getfield 18, 3) := by decide +kernel
theorem dX9_copyFrom_23 : decode cX9_copyFrom 23 = .ok (.iconst 0, 1) := by decide +kernel
theorem dX9_copyFrom_24 : decode cX9_copyFrom 24 = .ok (.aload_n 0, 1) := by decide +kernel
theorem dX9_copyFrom_25 : decode cX9_copyFrom 25 = .ok (.getfield 18, 3) := by decide +kernel
theorem dX9_copyFrom_28 : decode cX9_copyFrom 28 = .ok (.iconst 0, 1) := by decide +kernel
theorem dX9_copyFrom_29 : decode cX9_copyFrom 29 = .ok (.aload_n 0, 1) := by decide +kernel
theorem dX9_copyFrom_30 : decode cX9_copyFrom 30 = .ok (.getfield 18, 3) := by decide +kernel
theorem dX9_copyFrom_33 : decode cX9_copyFrom 33 = .ok (.arraylength, 1) := by decide +kernel
theorem dX9_copyFrom_34 : decode cX9_copyFrom 34 = .ok (.invokestatic 33, 3) := by decide +kernel
theorem dX9_copyFrom_37 : decode cX9_copyFrom 37 = .ok (.return_, 1) := by decide +kernel
def fX9_copyFrom (a0 : Nat) (a1 : Nat) (M : xMem) : Option (xMem) :=
  xBv (fX5_copyFrom (xrf a0 0) (xrf a1 0) M) fun M1 => xLt (xwI M1 a0 2 (M1.1 a1 2)) fun M2 => xGc (nI 0) (nI 0) (nI (xln (xrf a0 1))) (xln (xrf a1 1)) (xln (xrf a0 1)) (xLt (xwQ M2 (xrf a0 1) (va_cpy (M2.2.1 (xrf a1 1)) (M2.2.1 (xrf a0 1)) (Int32.toNatClampNeg (nI 0)) (Int32.toNatClampNeg (nI 0)) (Int32.toNatClampNeg (nI (xln (xrf a0 1)))))) fun M4 => some M4)
set_option maxRecDepth 100000 in
set_option maxHeartbeats 4000000 in
theorem zX9_copyFrom (G : xGX) (a0 : Nat) (h0 : xkd a0 = 9) (a1 : Nat) (h1 : xkd a1 = 9) (M : xMem) (M' : xMem) (h : fX9_copyFrom a0 a1 M = some M') : xCt G yX9_copyFrom cX9_copyFrom 2 none 2 [vr G a0, vr G a1] M (none, M') := by
  refine xMet (lv := [some (vr G a0), some (vr G a1)]) (by decide) (Nat.le_of_ble_eq_true rfl) rfl ?_
  intro X hG hnL C R0
  subst hG
  have C : xCk X cX9_copyFrom RX9 2 := C
  unfold fX9_copyFrom at h
  refine r_aload_n (pc := 0) C dX9_copyFrom_0 rfl rfl ?_
  refine r_getR (pc := 1) C kX9_12 h0 (by decide) dX9_copyFrom_1 ?_
  refine r_aload_n (pc := 4) C dX9_copyFrom_4 rfl rfl ?_
  refine r_getR (pc := 5) C kX9_12 h1 (by decide) dX9_copyFrom_5 ?_
  refine r_vV1 (pc := 8) C (fun M' e => zX5_copyFrom X.1 (xrf a0 0) (xtk h0 (by decide) rfl rfl) (xrf a1 0) (xtk h1 (by decide) rfl rfl) M M' e) (xtk h0 (by decide) rfl rfl) (by decide) rfl mX5_copyFrom lX9_29 (by decide) (Nat.le_of_ble_eq_true rfl) dX9_copyFrom_8 h (fun M1 h => ?_)
  refine r_aload_n (pc := 11) C dX9_copyFrom_11 rfl rfl ?_
  refine r_aload_n (pc := 12) C dX9_copyFrom_12 rfl rfl ?_
  refine r_getI (pc := 13) C kX9_22 h1 dX9_copyFrom_13 ?_
  refine r_putI (pc := 16) C kX9_22 h0 dX9_copyFrom_16 ?_
  refine r_letM h (fun M2 h => ?_)
  refine r_aload_n (pc := 19) C dX9_copyFrom_19 rfl rfl ?_
  refine r_getR (pc := 20) C kX9_18 h1 (by decide) dX9_copyFrom_20 ?_
  refine r_iconst (pc := 23) (v := (nI 0)) C dX9_copyFrom_23 (by decide) ?_
  refine r_aload_n (pc := 24) C dX9_copyFrom_24 rfl rfl ?_
  refine r_getR (pc := 25) C kX9_18 h0 (by decide) dX9_copyFrom_25 ?_
  refine r_iconst (pc := 28) (v := (nI 0)) C dX9_copyFrom_28 (by decide) ?_
  refine r_aload_n (pc := 29) C dX9_copyFrom_29 rfl rfl ?_
  refine r_getR (pc := 30) C kX9_18 h0 (by decide) dX9_copyFrom_30 ?_
  refine r_alen (pc := 33) C (xkar (xtk h0 (by decide) rfl rfl) (by decide)) dX9_copyFrom_33 ?_
  obtain ⟨g3, h⟩ := xGc_of h
  refine r_acpL (pc := 34) C (xTb_c2 187 rfl rfl) (xtk h1 (by decide) rfl rfl) (xtk h0 (by decide) rfl rfl) g3 (by decide) (Nat.le_of_ble_eq_true rfl) dX9_copyFrom_34 ?_
  refine r_letM h (fun M4 h => ?_)
  exact r_vret (pc := 37) C R0 h dX9_copyFrom_37
theorem dX9_lineAt_0 : decode cX9_lineAt 0 = .ok (.iload_n 1, 1) := by decide +kernel
theorem dX9_lineAt_1 : decode cX9_lineAt 1 = .ok (.ifCond .lt 20, 3) := by decide +kernel
theorem dX9_lineAt_4 : decode cX9_lineAt 4 = .ok (.iload_n 1, 1) := by decide +kernel
theorem dX9_lineAt_5 : decode cX9_lineAt 5 = .ok (.aload_n 0, 1) := by decide +kernel
theorem dX9_lineAt_6 : decode cX9_lineAt 6 = .ok (.getfield 22, 3) := by decide +kernel
theorem dX9_lineAt_9 : decode cX9_lineAt 9 = .ok (.if_icmp .ge 12, 3) := by decide +kernel
theorem dX9_lineAt_12 : decode cX9_lineAt 12 = .ok (.aload_n 0, 1) := by decide +kernel
theorem dX9_lineAt_13 : decode cX9_lineAt 13 = .ok (.getfield 18, 3) := by decide +kernel
theorem dX9_lineAt_16 : decode cX9_lineAt 16 = .ok (.iload_n 1, 1) := by decide +kernel
theorem dX9_lineAt_17 : decode cX9_lineAt 17 = .ok (.laload, 1) := by decide +kernel
theorem dX9_lineAt_18 : decode cX9_lineAt 18 = .ok (.goto 4, 3) := by decide +kernel
theorem dX9_lineAt_21 : decode cX9_lineAt 21 = .ok (.lconst 0, 1) := by decide +kernel
theorem dX9_lineAt_22 : decode cX9_lineAt 22 = .ok (.lreturn, 1) := by decide +kernel
def fX9_lineAt (a0 : Nat) (a1 : Int32) (M : xMem) : Option (Int64 × xMem) :=
  if a1 < 0 then (some ((lN 0), M)) else (if (M.1 a0 2) ≤ a1 then (some ((lN 0), M)) else (xGb a1 (xln (xrf a0 1)) (some ((M.2.1 (xrf a0 1) (Int32.toNatClampNeg a1)), M))))
set_option maxRecDepth 100000 in
set_option maxHeartbeats 4000000 in
theorem zX9_lineAt (G : xGX) (a0 : Nat) (h0 : xkd a0 = 9) (a1 : Int32) (M : xMem) (r : Int64) (M' : xMem) (h : fX9_lineAt a0 a1 M = some (r, M')) : xCt G yX9_lineAt cX9_lineAt 2 (some .long) 1 [vr G a0, .int a1] M (some (.long r), M') := by
  refine xMet (lv := [some (vr G a0), some (.int a1)]) (by decide) (Nat.le_of_ble_eq_true rfl) rfl ?_
  intro X hG hnL C R0
  subst hG
  have C : xCk X cX9_lineAt RX9 1 := C
  unfold fX9_lineAt at h
  refine r_iload_n (pc := 0) C dX9_lineAt_0 rfl rfl ?_
  refine r_if_lt (pc := 1) (tgt := 21) C dX9_lineAt_1 (by decide) h (fun _ h => ?_) (fun _ h => ?_)
  · refine r_lconst (pc := 21) (v := lN 0) C dX9_lineAt_21 rfl ?_
    exact r_lret (pc := 22) C R0 h dX9_lineAt_22
  · refine r_iload_n (pc := 4) C dX9_lineAt_4 rfl rfl ?_
    refine r_aload_n (pc := 5) C dX9_lineAt_5 rfl rfl ?_
    refine r_getI (pc := 6) C kX9_22 h0 dX9_lineAt_6 ?_
    refine r_icmp_ge (pc := 9) (tgt := 21) C dX9_lineAt_9 (by decide) h (fun _ h => ?_) (fun _ h => ?_)
    · refine r_lconst (pc := 21) (v := lN 0) C dX9_lineAt_21 rfl ?_
      exact r_lret (pc := 22) C R0 h dX9_lineAt_22
    · refine r_aload_n (pc := 12) C dX9_lineAt_12 rfl rfl ?_
      refine r_getR (pc := 13) C kX9_18 h0 (by decide) dX9_lineAt_13 ?_
      refine r_iload_n (pc := 16) C dX9_lineAt_16 rfl rfl ?_
      obtain ⟨g1, h⟩ := xGb_of h
      refine r_lald (pc := 17) C (xtk h0 (by decide) rfl rfl) g1 dX9_lineAt_17 ?_
      refine r_goto (pc := 18) (tgt := 22) C dX9_lineAt_18 (by decide) ?_
      exact r_lret (pc := 22) C R0 h dX9_lineAt_22
theorem dX9_addLine_0 : decode cX9_addLine 0 = .ok (.aload_n 0, 1) := by decide +kernel
theorem dX9_addLine_1 : decode cX9_addLine 1 = .ok (.getfield 22, 3) := by decide +kernel
theorem dX9_addLine_4 : decode cX9_addLine 4 = .ok (.aload_n 0, 1) := by decide +kernel
theorem dX9_addLine_5 : decode cX9_addLine 5 = .ok (.getfield 18, 3) := by decide +kernel
theorem dX9_addLine_8 : decode cX9_addLine 8 = .ok (.arraylength, 1) := by decide +kernel
theorem dX9_addLine_9 : decode cX9_addLine 9 = .ok (.if_icmp .ge 23, 3) := by decide +kernel
theorem dX9_addLine_12 : decode cX9_addLine 12 = .ok (.aload_n 0, 1) := by decide +kernel
theorem dX9_addLine_13 : decode cX9_addLine 13 = .ok (.getfield 18, 3) := by decide +kernel
theorem dX9_addLine_16 : decode cX9_addLine 16 = .ok (.aload_n 0, 1) := by decide +kernel
theorem dX9_addLine_17 : decode cX9_addLine 17 = .ok (.getfield 22, 3) := by decide +kernel
theorem dX9_addLine_20 : decode cX9_addLine 20 = .ok (.lload_n 1, 1) := by decide +kernel
theorem dX9_addLine_21 : decode cX9_addLine 21 = .ok (.lastore, 1) := by decide +kernel
theorem dX9_addLine_22 : decode cX9_addLine 22 = .ok (.aload_n 0, 1) := by decide +kernel
theorem dX9_addLine_23 : decode cX9_addLine 23 = .ok (.dup, 1) := by decide +kernel
theorem dX9_addLine_24 : decode cX9_addLine 24 = .ok (.getfield 22, 3) := by decide +kernel
theorem dX9_addLine_27 : decode cX9_addLine 27 = .ok (.iconst 1, 1) := by decide +kernel
theorem dX9_addLine_28 : decode cX9_addLine 28 = .ok (.iadd, 1) := by decide +kernel
theorem dX9_addLine_29 : decode cX9_addLine 29 = .ok (.putfield 22, 3) := by decide +kernel
theorem dX9_addLine_32 : decode cX9_addLine 32 = .ok (.return_, 1) := by decide +kernel
def fX9_addLine (a0 : Nat) (a1 : Int64) (M : xMem) : Option (xMem) :=
  if (nI (xln (xrf a0 1))) ≤ (M.1 a0 2) then (some M) else (xGb (M.1 a0 2) (xln (xrf a0 1)) (xLt (xwL M (xrf a0 1) (Int32.toNatClampNeg (M.1 a0 2)) a1) fun M2 => xLt (xwI M2 a0 2 ((M2.1 a0 2) + (nI 1))) fun M3 => some M3))
set_option maxRecDepth 100000 in
set_option maxHeartbeats 4000000 in
theorem zX9_addLine (G : xGX) (a0 : Nat) (h0 : xkd a0 = 9) (a1 : Int64) (M : xMem) (M' : xMem) (h : fX9_addLine a0 a1 M = some M') : xCt G yX9_addLine cX9_addLine 3 none 1 [vr G a0, .long a1] M (none, M') := by
  refine xMet (lv := [some (vr G a0), some (.long a1), none]) (by decide) (Nat.le_of_ble_eq_true rfl) rfl ?_
  intro X hG hnL C R0
  subst hG
  have C : xCk X cX9_addLine RX9 1 := C
  unfold fX9_addLine at h
  refine r_aload_n (pc := 0) C dX9_addLine_0 rfl rfl ?_
  refine r_getI (pc := 1) C kX9_22 h0 dX9_addLine_1 ?_
  refine r_aload_n (pc := 4) C dX9_addLine_4 rfl rfl ?_
  refine r_getR (pc := 5) C kX9_18 h0 (by decide) dX9_addLine_5 ?_
  refine r_alen (pc := 8) C (xkar (xtk h0 (by decide) rfl rfl) (by decide)) dX9_addLine_8 ?_
  refine r_icmp_ge (pc := 9) (tgt := 32) C dX9_addLine_9 (by decide) h (fun _ h => ?_) (fun _ h => ?_)
  · exact r_vret (pc := 32) C R0 h dX9_addLine_32
  · refine r_aload_n (pc := 12) C dX9_addLine_12 rfl rfl ?_
    refine r_getR (pc := 13) C kX9_18 h0 (by decide) dX9_addLine_13 ?_
    refine r_aload_n (pc := 16) C dX9_addLine_16 rfl rfl ?_
    refine r_getI (pc := 17) C kX9_22 h0 dX9_addLine_17 ?_
    refine r_lload_n (pc := 20) C dX9_addLine_20 rfl rfl ?_
    obtain ⟨g1, h⟩ := xGb_of h
    refine r_last (pc := 21) C (xtk h0 (by decide) rfl rfl) g1 dX9_addLine_21 ?_
    refine r_letM h (fun M2 h => ?_)
    refine r_aload_n (pc := 22) C dX9_addLine_22 rfl rfl ?_
    refine r_dup (pc := 23) C rfl dX9_addLine_23 ?_
    refine r_getI (pc := 24) C kX9_22 h0 dX9_addLine_24 ?_
    refine r_iconst (pc := 27) (v := (nI 1)) C dX9_addLine_27 (by decide) ?_
    refine r_iadd (pc := 28) C dX9_addLine_28 ?_
    refine r_putI (pc := 29) C kX9_22 h0 dX9_addLine_29 ?_
    refine r_letM h (fun M3 h => ?_)
    exact r_vret (pc := 32) C R0 h dX9_addLine_32
theorem dX9_dropLine_0 : decode cX9_dropLine 0 = .ok (.aload_n 0, 1) := by decide +kernel
theorem dX9_dropLine_1 : decode cX9_dropLine 1 = .ok (.getfield 22, 3) := by decide +kernel
theorem dX9_dropLine_4 : decode cX9_dropLine 4 = .ok (.ifCond .le 13, 3) := by decide +kernel
theorem dX9_dropLine_7 : decode cX9_dropLine 7 = .ok (.aload_n 0, 1) := by decide +kernel
theorem dX9_dropLine_8 : decode cX9_dropLine 8 = .ok (.dup, 1) := by decide +kernel
theorem dX9_dropLine_9 : decode cX9_dropLine 9 = .ok (.getfield 22, 3) := by decide +kernel
theorem dX9_dropLine_12 : decode cX9_dropLine 12 = .ok (.iconst 1, 1) := by decide +kernel
theorem dX9_dropLine_13 : decode cX9_dropLine 13 = .ok (.isub, 1) := by decide +kernel
theorem dX9_dropLine_14 : decode cX9_dropLine 14 = .ok (.putfield 22, 3) := by decide +kernel
theorem dX9_dropLine_17 : decode cX9_dropLine 17 = .ok (.return_, 1) := by decide +kernel
def fX9_dropLine (a0 : Nat) (M : xMem) : Option (xMem) :=
  if (M.1 a0 2) ≤ 0 then (some M) else (xLt (xwI M a0 2 ((M.1 a0 2) - (nI 1))) fun M1 => some M1)
set_option maxRecDepth 100000 in
set_option maxHeartbeats 4000000 in
theorem zX9_dropLine (G : xGX) (a0 : Nat) (h0 : xkd a0 = 9) (M : xMem) (M' : xMem) (h : fX9_dropLine a0 M = some M') : xCt G yX9_dropLine cX9_dropLine 1 none 1 [vr G a0] M (none, M') := by
  refine xMet (lv := [some (vr G a0)]) (by decide) (Nat.le_of_ble_eq_true rfl) rfl ?_
  intro X hG hnL C R0
  subst hG
  have C : xCk X cX9_dropLine RX9 1 := C
  unfold fX9_dropLine at h
  refine r_aload_n (pc := 0) C dX9_dropLine_0 rfl rfl ?_
  refine r_getI (pc := 1) C kX9_22 h0 dX9_dropLine_1 ?_
  refine r_if_le (pc := 4) (tgt := 17) C dX9_dropLine_4 (by decide) h (fun _ h => ?_) (fun _ h => ?_)
  · exact r_vret (pc := 17) C R0 h dX9_dropLine_17
  · refine r_aload_n (pc := 7) C dX9_dropLine_7 rfl rfl ?_
    refine r_dup (pc := 8) C rfl dX9_dropLine_8 ?_
    refine r_getI (pc := 9) C kX9_22 h0 dX9_dropLine_9 ?_
    refine r_iconst (pc := 12) (v := (nI 1)) C dX9_dropLine_12 (by decide) ?_
    refine r_isub (pc := 13) C dX9_dropLine_13 ?_
    refine r_putI (pc := 14) C kX9_22 h0 dX9_dropLine_14 ?_
    refine r_letM h (fun M1 h => ?_)
    exact r_vret (pc := 17) C R0 h dX9_dropLine_17
theorem dJ6_numberOfTrailingZeros_0f7a4_0 : decode cJ6_numberOfTrailingZeros_0f7a4 0 = .ok (.iload_n 0, 1) := by decide +kernel
theorem dJ6_numberOfTrailingZeros_0f7a4_1 : decode cJ6_numberOfTrailingZeros_0f7a4 1 = .ok (.iconst (-1), 1) := by decide +kernel
theorem dJ6_numberOfTrailingZeros_0f7a4_2 : decode cJ6_numberOfTrailingZeros_0f7a4 2 = .ok (.ixor, 1) := by decide +kernel
theorem dJ6_numberOfTrailingZeros_0f7a4_3 : decode cJ6_numberOfTrailingZeros_0f7a4 3 = .ok (.iload_n 0, 1) := by decide +kernel
theorem dJ6_numberOfTrailingZeros_0f7a4_4 : decode cJ6_numberOfTrailingZeros_0f7a4 4 = .ok (.iconst 1, 1) := by decide +kernel
theorem dJ6_numberOfTrailingZeros_0f7a4_5 : decode cJ6_numberOfTrailingZeros_0f7a4 5 = .ok (.isub, 1) := by decide +kernel
theorem dJ6_numberOfTrailingZeros_0f7a4_6 : decode cJ6_numberOfTrailingZeros_0f7a4 6 = .ok (.iand, 1) := by decide +kernel
theorem dJ6_numberOfTrailingZeros_0f7a4_7 : decode cJ6_numberOfTrailingZeros_0f7a4 7 = .ok (.istore_n 0, 1) := by decide +kernel
theorem dJ6_numberOfTrailingZeros_0f7a4_8 : decode cJ6_numberOfTrailingZeros_0f7a4 8 = .ok (.iload_n 0, 1) := by decide +kernel
theorem dJ6_numberOfTrailingZeros_0f7a4_9 : decode cJ6_numberOfTrailingZeros_0f7a4 9 = .ok (.ifCond .gt 8, 3) := by decide +kernel
theorem dJ6_numberOfTrailingZeros_0f7a4_12 : decode cJ6_numberOfTrailingZeros_0f7a4 12 = .ok (.iload_n 0, 1) := by decide +kernel
theorem dJ6_numberOfTrailingZeros_0f7a4_13 : decode cJ6_numberOfTrailingZeros_0f7a4 13 = .ok (.bipush 32, 2) := by decide +kernel
theorem dJ6_numberOfTrailingZeros_0f7a4_15 : decode cJ6_numberOfTrailingZeros_0f7a4 15 = .ok (.iand, 1) := by decide +kernel
theorem dJ6_numberOfTrailingZeros_0f7a4_16 : decode cJ6_numberOfTrailingZeros_0f7a4 16 = .ok (.ireturn, 1) := by decide +kernel
theorem dJ6_numberOfTrailingZeros_0f7a4_17 : decode cJ6_numberOfTrailingZeros_0f7a4 17 = .ok (.iconst 1, 1) := by decide +kernel
theorem dJ6_numberOfTrailingZeros_0f7a4_18 : decode cJ6_numberOfTrailingZeros_0f7a4 18 = .ok (.istore_n 1, 1) := by decide +kernel
theorem dJ6_numberOfTrailingZeros_0f7a4_19 : decode cJ6_numberOfTrailingZeros_0f7a4 19 = .ok (.iload_n 0, 1) := by decide +kernel
theorem dJ6_numberOfTrailingZeros_0f7a4_20 : decode cJ6_numberOfTrailingZeros_0f7a4 20 = .ok (.ldc_w 264, 3) := by decide +kernel
theorem dJ6_numberOfTrailingZeros_0f7a4_23 : decode cJ6_numberOfTrailingZeros_0f7a4 23 = .ok (.if_icmp .le 11, 3) := by decide +kernel
theorem dJ6_numberOfTrailingZeros_0f7a4_26 : decode cJ6_numberOfTrailingZeros_0f7a4 26 = .ok (.iinc 1 16, 3) := by decide +kernel
theorem dJ6_numberOfTrailingZeros_0f7a4_29 : decode cJ6_numberOfTrailingZeros_0f7a4 29 = .ok (.iload_n 0, 1) := by decide +kernel
theorem dJ6_numberOfTrailingZeros_0f7a4_30 : decode cJ6_numberOfTrailingZeros_0f7a4 30 = .ok (.bipush 16, 2) := by decide +kernel
theorem dJ6_numberOfTrailingZeros_0f7a4_32 : decode cJ6_numberOfTrailingZeros_0f7a4 32 = .ok (.iushr, 1) := by decide +kernel
theorem dJ6_numberOfTrailingZeros_0f7a4_33 : decode cJ6_numberOfTrailingZeros_0f7a4 33 = .ok (.istore_n 0, 1) := by decide +kernel
theorem dJ6_numberOfTrailingZeros_0f7a4_34 : decode cJ6_numberOfTrailingZeros_0f7a4 34 = .ok (.iload_n 0, 1) := by decide +kernel
theorem dJ6_numberOfTrailingZeros_0f7a4_35 : decode cJ6_numberOfTrailingZeros_0f7a4 35 = .ok (.sipush 256, 3) := by decide +kernel
theorem dJ6_numberOfTrailingZeros_0f7a4_38 : decode cJ6_numberOfTrailingZeros_0f7a4 38 = .ok (.if_icmp .le 11, 3) := by decide +kernel
theorem dJ6_numberOfTrailingZeros_0f7a4_41 : decode cJ6_numberOfTrailingZeros_0f7a4 41 = .ok (.iinc 1 8, 3) := by decide +kernel
theorem dJ6_numberOfTrailingZeros_0f7a4_44 : decode cJ6_numberOfTrailingZeros_0f7a4 44 = .ok (.iload_n 0, 1) := by decide +kernel
theorem dJ6_numberOfTrailingZeros_0f7a4_45 : decode cJ6_numberOfTrailingZeros_0f7a4 45 = .ok (.bipush 8, 2) := by decide +kernel
theorem dJ6_numberOfTrailingZeros_0f7a4_47 : decode cJ6_numberOfTrailingZeros_0f7a4 47 = .ok (.iushr, 1) := by decide +kernel
theorem dJ6_numberOfTrailingZeros_0f7a4_48 : decode cJ6_numberOfTrailingZeros_0f7a4 48 = .ok (.istore_n 0, 1) := by decide +kernel
theorem dJ6_numberOfTrailingZeros_0f7a4_49 : decode cJ6_numberOfTrailingZeros_0f7a4 49 = .ok (.iload_n 0, 1) := by decide +kernel
theorem dJ6_numberOfTrailingZeros_0f7a4_50 : decode cJ6_numberOfTrailingZeros_0f7a4 50 = .ok (.bipush 16, 2) := by decide +kernel
theorem dJ6_numberOfTrailingZeros_0f7a4_52 : decode cJ6_numberOfTrailingZeros_0f7a4 52 = .ok (.if_icmp .le 10, 3) := by decide +kernel
theorem dJ6_numberOfTrailingZeros_0f7a4_55 : decode cJ6_numberOfTrailingZeros_0f7a4 55 = .ok (.iinc 1 4, 3) := by decide +kernel
theorem dJ6_numberOfTrailingZeros_0f7a4_58 : decode cJ6_numberOfTrailingZeros_0f7a4 58 = .ok (.iload_n 0, 1) := by decide +kernel
theorem dJ6_numberOfTrailingZeros_0f7a4_59 : decode cJ6_numberOfTrailingZeros_0f7a4 59 = .ok (.iconst 4, 1) := by decide +kernel
theorem dJ6_numberOfTrailingZeros_0f7a4_60 : decode cJ6_numberOfTrailingZeros_0f7a4 60 = .ok (.iushr, 1) := by decide +kernel
theorem dJ6_numberOfTrailingZeros_0f7a4_61 : decode cJ6_numberOfTrailingZeros_0f7a4 61 = .ok (.istore_n 0, 1) := by decide +kernel
theorem dJ6_numberOfTrailingZeros_0f7a4_62 : decode cJ6_numberOfTrailingZeros_0f7a4 62 = .ok (.iload_n 0, 1) := by decide +kernel
theorem dJ6_numberOfTrailingZeros_0f7a4_63 : decode cJ6_numberOfTrailingZeros_0f7a4 63 = .ok (.iconst 4, 1) := by decide +kernel
theorem dJ6_numberOfTrailingZeros_0f7a4_64 : decode cJ6_numberOfTrailingZeros_0f7a4 64 = .ok (.if_icmp .le 10, 3) := by decide +kernel
theorem dJ6_numberOfTrailingZeros_0f7a4_67 : decode cJ6_numberOfTrailingZeros_0f7a4 67 = .ok (.iinc 1 2, 3) := by decide +kernel
theorem dJ6_numberOfTrailingZeros_0f7a4_70 : decode cJ6_numberOfTrailingZeros_0f7a4 70 = .ok (.iload_n 0, 1) := by decide +kernel
theorem dJ6_numberOfTrailingZeros_0f7a4_71 : decode cJ6_numberOfTrailingZeros_0f7a4 71 = .ok (.iconst 2, 1) := by decide +kernel
theorem dJ6_numberOfTrailingZeros_0f7a4_72 : decode cJ6_numberOfTrailingZeros_0f7a4 72 = .ok (.iushr, 1) := by decide +kernel
theorem dJ6_numberOfTrailingZeros_0f7a4_73 : decode cJ6_numberOfTrailingZeros_0f7a4 73 = .ok (.istore_n 0, 1) := by decide +kernel
theorem dJ6_numberOfTrailingZeros_0f7a4_74 : decode cJ6_numberOfTrailingZeros_0f7a4 74 = .ok (.iload_n 1, 1) := by decide +kernel
theorem dJ6_numberOfTrailingZeros_0f7a4_75 : decode cJ6_numberOfTrailingZeros_0f7a4 75 = .ok (.iload_n 0, 1) := by decide +kernel
theorem dJ6_numberOfTrailingZeros_0f7a4_76 : decode cJ6_numberOfTrailingZeros_0f7a4 76 = .ok (.iconst 1, 1) := by decide +kernel
theorem dJ6_numberOfTrailingZeros_0f7a4_77 : decode cJ6_numberOfTrailingZeros_0f7a4 77 = .ok (.iushr, 1) := by decide +kernel
theorem dJ6_numberOfTrailingZeros_0f7a4_78 : decode cJ6_numberOfTrailingZeros_0f7a4 78 = .ok (.iadd, 1) := by decide +kernel
theorem dJ6_numberOfTrailingZeros_0f7a4_79 : decode cJ6_numberOfTrailingZeros_0f7a4 79 = .ok (.ireturn, 1) := by decide +kernel
def fJ6_numberOfTrailingZeros_0f7a4 (a0 : Int32) (M : xMem) : Option (Int32 × xMem) :=
  xLt ((a0 ^^^ (-1)) &&& (a0 - (nI 1))) fun x1 => if 0 < x1 then (xLt (fun (v2 : Int32) (v3 : Int32) (M4 : xMem) => (xLt (fun (v5 : Int32) (v6 : Int32) (M7 : xMem) => (xLt (fun (v8 : Int32) (v9 : Int32) (M10 : xMem) => (xLt (fun (v11 : Int32) (v12 : Int32) (M13 : xMem) => (some ((v12 + ((Int32.toUInt32 v11 >>> (Int32.toUInt32 (nI 1) &&& Int32.toUInt32 31)).toInt32)), M13) : Option (Int32 × xMem))) fun J74 => if v8 ≤ (nI 4) then (J74 v8 v9 M10) else (xLt (v9 + nI 2) fun x14 => xLt ((Int32.toUInt32 v8 >>> (Int32.toUInt32 (nI 2) &&& Int32.toUInt32 31)).toInt32) fun x15 => J74 x15 x14 M10) : Option (Int32 × xMem))) fun J62 => if v5 ≤ (nI 16) then (J62 v5 v6 M7) else (xLt (v6 + nI 4) fun x16 => xLt ((Int32.toUInt32 v5 >>> (Int32.toUInt32 (nI 4) &&& Int32.toUInt32 31)).toInt32) fun x17 => J62 x17 x16 M7) : Option (Int32 × xMem))) fun J49 => if v2 ≤ (nI 256) then (J49 v2 v3 M4) else (xLt (v3 + nI 8) fun x18 => xLt ((Int32.toUInt32 v2 >>> (Int32.toUInt32 (nI 8) &&& Int32.toUInt32 31)).toInt32) fun x19 => J49 x19 x18 M4) : Option (Int32 × xMem))) fun J34 => if x1 ≤ (nI 65536) then (J34 x1 (nI 1) M) else (xLt ((nI 1) + nI 16) fun x20 => xLt ((Int32.toUInt32 x1 >>> (Int32.toUInt32 (nI 16) &&& Int32.toUInt32 31)).toInt32) fun x21 => J34 x21 x20 M)) else (some ((x1 &&& (nI 32)), M))
set_option maxRecDepth 100000 in
set_option maxHeartbeats 4000000 in
theorem zJ6_numberOfTrailingZeros_0f7a4 (G : xGX) (a0 : Int32) (M : xMem) (r : Int32) (M' : xMem) (h : fJ6_numberOfTrailingZeros_0f7a4 a0 M = some (r, M')) : xCt G yJ6_numberOfTrailingZeros_0f7a4 cJ6_numberOfTrailingZeros_0f7a4 2 (some .int) 1 [.int a0] M (some (.int r), M') := by
  refine xMet (lv := [some (.int a0), none]) (by decide) (Nat.le_of_ble_eq_true rfl) rfl ?_
  intro X hG hnL C R0
  subst hG
  have C : xCk X cJ6_numberOfTrailingZeros_0f7a4 RJ6 1 := C
  have hn0 : 0 < X.2.2.2.2.2.2.2.2.2.2.2.2.2 := by rw [hnL]; decide
  have hn1 : 1 < X.2.2.2.2.2.2.2.2.2.2.2.2.2 := by rw [hnL]; decide
  unfold fJ6_numberOfTrailingZeros_0f7a4 at h
  refine r_iload_n (pc := 0) C dJ6_numberOfTrailingZeros_0f7a4_0 rfl rfl ?_
  refine r_iconst (pc := 1) (v := (-1)) C dJ6_numberOfTrailingZeros_0f7a4_1 (by decide) ?_
  refine r_ixor (pc := 2) C dJ6_numberOfTrailingZeros_0f7a4_2 ?_
  refine r_iload_n (pc := 3) C dJ6_numberOfTrailingZeros_0f7a4_3 rfl rfl ?_
  refine r_iconst (pc := 4) (v := (nI 1)) C dJ6_numberOfTrailingZeros_0f7a4_4 (by decide) ?_
  refine r_isub (pc := 5) C dJ6_numberOfTrailingZeros_0f7a4_5 ?_
  refine r_iand (pc := 6) C dJ6_numberOfTrailingZeros_0f7a4_6 ?_
  refine r_letI h (fun x1 h => ?_)
  refine r_istore_n (pc := 7) (lv' := [_, _]) C dJ6_numberOfTrailingZeros_0f7a4_7 rfl hn0 rfl ?_
  refine r_iload_n (pc := 8) C dJ6_numberOfTrailingZeros_0f7a4_8 rfl rfl ?_
  refine r_if_gt (pc := 9) (tgt := 17) C dJ6_numberOfTrailingZeros_0f7a4_9 (by decide) h (fun _ h => ?_) (fun _ h => ?_)
  · refine r_iconst (pc := 17) (v := (nI 1)) C dJ6_numberOfTrailingZeros_0f7a4_17 (by decide) ?_
    refine r_istore_n (pc := 18) (lv' := [_, _]) C dJ6_numberOfTrailingZeros_0f7a4_18 rfl hn1 rfl ?_
    refine r_iload_n (pc := 19) C dJ6_numberOfTrailingZeros_0f7a4_19 rfl rfl ?_
    refine r_ldcw (pc := 20) C nJ6_264 dJ6_numberOfTrailingZeros_0f7a4_20 ?_
    refine r_jn (fun J => ∀ (v2 : Int32) (v3 : Int32) (M4 : xMem) , J v2 v3 M4 = some (r, M') → WW X 34 [some (.int v2), some (.int v3)] [] M4) h (fun v2 v3 M4  h => ?_) (fun J34 hJ34 h => ?_)
    · refine r_iload_n (pc := 34) C dJ6_numberOfTrailingZeros_0f7a4_34 rfl rfl ?_
      refine r_sipush (pc := 35) (v := (nI 256)) C dJ6_numberOfTrailingZeros_0f7a4_35 (by decide) ?_
      refine r_jn (fun J => ∀ (v5 : Int32) (v6 : Int32) (M7 : xMem) , J v5 v6 M7 = some (r, M') → WW X 49 [some (.int v5), some (.int v6)] [] M7) h (fun v5 v6 M7  h => ?_) (fun J49 hJ49 h => ?_)
      · refine r_iload_n (pc := 49) C dJ6_numberOfTrailingZeros_0f7a4_49 rfl rfl ?_
        refine r_bipush (pc := 50) (v := (nI 16)) C dJ6_numberOfTrailingZeros_0f7a4_50 (by decide) ?_
        refine r_jn (fun J => ∀ (v8 : Int32) (v9 : Int32) (M10 : xMem) , J v8 v9 M10 = some (r, M') → WW X 62 [some (.int v8), some (.int v9)] [] M10) h (fun v8 v9 M10  h => ?_) (fun J62 hJ62 h => ?_)
        · refine r_iload_n (pc := 62) C dJ6_numberOfTrailingZeros_0f7a4_62 rfl rfl ?_
          refine r_iconst (pc := 63) (v := (nI 4)) C dJ6_numberOfTrailingZeros_0f7a4_63 (by decide) ?_
          refine r_jn (fun J => ∀ (v11 : Int32) (v12 : Int32) (M13 : xMem) , J v11 v12 M13 = some (r, M') → WW X 74 [some (.int v11), some (.int v12)] [] M13) h (fun v11 v12 M13  h => ?_) (fun J74 hJ74 h => ?_)
          · refine r_iload_n (pc := 74) C dJ6_numberOfTrailingZeros_0f7a4_74 rfl rfl ?_
            refine r_iload_n (pc := 75) C dJ6_numberOfTrailingZeros_0f7a4_75 rfl rfl ?_
            refine r_iconst (pc := 76) (v := (nI 1)) C dJ6_numberOfTrailingZeros_0f7a4_76 (by decide) ?_
            refine r_iushr (pc := 77) C dJ6_numberOfTrailingZeros_0f7a4_77 ?_
            refine r_iadd (pc := 78) C dJ6_numberOfTrailingZeros_0f7a4_78 ?_
            exact r_iret (pc := 79) C R0 h dJ6_numberOfTrailingZeros_0f7a4_79
          refine r_icmp_le (pc := 64) (tgt := 74) C dJ6_numberOfTrailingZeros_0f7a4_64 (by decide) h (fun _ h => ?_) (fun _ h => ?_)
          · exact hJ74 v8 v9 M10  h
          · refine r_iincL (pc := 67) (c := nI 2) C dJ6_numberOfTrailingZeros_0f7a4_67 rfl (by decide) hn1 h (fun x14 h => ?_)
            refine r_lvE (lv' := [_, _]) rfl ?_
            refine r_iload_n (pc := 70) C dJ6_numberOfTrailingZeros_0f7a4_70 rfl rfl ?_
            refine r_iconst (pc := 71) (v := (nI 2)) C dJ6_numberOfTrailingZeros_0f7a4_71 (by decide) ?_
            refine r_iushr (pc := 72) C dJ6_numberOfTrailingZeros_0f7a4_72 ?_
            refine r_letI h (fun x15 h => ?_)
            refine r_istore_n (pc := 73) (lv' := [_, _]) C dJ6_numberOfTrailingZeros_0f7a4_73 rfl hn0 rfl ?_
            exact hJ74 x15 x14 M10  h
        refine r_icmp_le (pc := 52) (tgt := 62) C dJ6_numberOfTrailingZeros_0f7a4_52 (by decide) h (fun _ h => ?_) (fun _ h => ?_)
        · exact hJ62 v5 v6 M7  h
        · refine r_iincL (pc := 55) (c := nI 4) C dJ6_numberOfTrailingZeros_0f7a4_55 rfl (by decide) hn1 h (fun x16 h => ?_)
          refine r_lvE (lv' := [_, _]) rfl ?_
          refine r_iload_n (pc := 58) C dJ6_numberOfTrailingZeros_0f7a4_58 rfl rfl ?_
          refine r_iconst (pc := 59) (v := (nI 4)) C dJ6_numberOfTrailingZeros_0f7a4_59 (by decide) ?_
          refine r_iushr (pc := 60) C dJ6_numberOfTrailingZeros_0f7a4_60 ?_
          refine r_letI h (fun x17 h => ?_)
          refine r_istore_n (pc := 61) (lv' := [_, _]) C dJ6_numberOfTrailingZeros_0f7a4_61 rfl hn0 rfl ?_
          exact hJ62 x17 x16 M7  h
      refine r_icmp_le (pc := 38) (tgt := 49) C dJ6_numberOfTrailingZeros_0f7a4_38 (by decide) h (fun _ h => ?_) (fun _ h => ?_)
      · exact hJ49 v2 v3 M4  h
      · refine r_iincL (pc := 41) (c := nI 8) C dJ6_numberOfTrailingZeros_0f7a4_41 rfl (by decide) hn1 h (fun x18 h => ?_)
        refine r_lvE (lv' := [_, _]) rfl ?_
        refine r_iload_n (pc := 44) C dJ6_numberOfTrailingZeros_0f7a4_44 rfl rfl ?_
        refine r_bipush (pc := 45) (v := (nI 8)) C dJ6_numberOfTrailingZeros_0f7a4_45 (by decide) ?_
        refine r_iushr (pc := 47) C dJ6_numberOfTrailingZeros_0f7a4_47 ?_
        refine r_letI h (fun x19 h => ?_)
        refine r_istore_n (pc := 48) (lv' := [_, _]) C dJ6_numberOfTrailingZeros_0f7a4_48 rfl hn0 rfl ?_
        exact hJ49 x19 x18 M4  h
    refine r_icmp_le (pc := 23) (tgt := 34) C dJ6_numberOfTrailingZeros_0f7a4_23 (by decide) h (fun _ h => ?_) (fun _ h => ?_)
    · exact hJ34 x1 (nI 1) M  h
    · refine r_iincL (pc := 26) (c := nI 16) C dJ6_numberOfTrailingZeros_0f7a4_26 rfl (by decide) hn1 h (fun x20 h => ?_)
      refine r_lvE (lv' := [_, _]) rfl ?_
      refine r_iload_n (pc := 29) C dJ6_numberOfTrailingZeros_0f7a4_29 rfl rfl ?_
      refine r_bipush (pc := 30) (v := (nI 16)) C dJ6_numberOfTrailingZeros_0f7a4_30 (by decide) ?_
      refine r_iushr (pc := 32) C dJ6_numberOfTrailingZeros_0f7a4_32 ?_
      refine r_letI h (fun x21 h => ?_)
      refine r_istore_n (pc := 33) (lv' := [_, _]) C dJ6_numberOfTrailingZeros_0f7a4_33 rfl hn0 rfl ?_
      exact hJ34 x21 x20 M  h
  · refine r_iload_n (pc := 12) C dJ6_numberOfTrailingZeros_0f7a4_12 rfl rfl ?_
    refine r_bipush (pc := 13) (v := (nI 32)) C dJ6_numberOfTrailingZeros_0f7a4_13 (by decide) ?_
    refine r_iand (pc := 15) C dJ6_numberOfTrailingZeros_0f7a4_15 ?_
    exact r_iret (pc := 16) C R0 h dJ6_numberOfTrailingZeros_0f7a4_16
theorem dJ6_bitCount_0f7a4_0 : decode cJ6_bitCount_0f7a4 0 = .ok (.iload_n 0, 1) := by decide +kernel
theorem dJ6_bitCount_0f7a4_1 : decode cJ6_bitCount_0f7a4 1 = .ok (.iload_n 0, 1) := by decide +kernel
theorem dJ6_bitCount_0f7a4_2 : decode cJ6_bitCount_0f7a4 2 = .ok (.iconst 1, 1) := by decide +kernel
theorem dJ6_bitCount_0f7a4_3 : decode cJ6_bitCount_0f7a4 3 = .ok (.iushr, 1) := by decide +kernel
theorem dJ6_bitCount_0f7a4_4 : decode cJ6_bitCount_0f7a4 4 = .ok (.ldc_w 265, 3) := by decide +kernel
theorem dJ6_bitCount_0f7a4_7 : decode cJ6_bitCount_0f7a4 7 = .ok (.iand, 1) := by decide +kernel
theorem dJ6_bitCount_0f7a4_8 : decode cJ6_bitCount_0f7a4 8 = .ok (.isub, 1) := by decide +kernel
theorem dJ6_bitCount_0f7a4_9 : decode cJ6_bitCount_0f7a4 9 = .ok (.istore_n 0, 1) := by decide +kernel
theorem dJ6_bitCount_0f7a4_10 : decode cJ6_bitCount_0f7a4 10 = .ok (.iload_n 0, 1) := by decide +kernel
theorem dJ6_bitCount_0f7a4_11 : decode cJ6_bitCount_0f7a4 11 = .ok (.ldc_w 266, 3) := by decide +kernel
theorem dJ6_bitCount_0f7a4_14 : decode cJ6_bitCount_0f7a4 14 = .ok (.iand, 1) := by decide +kernel
theorem dJ6_bitCount_0f7a4_15 : decode cJ6_bitCount_0f7a4 15 = .ok (.iload_n 0, 1) := by decide +kernel
theorem dJ6_bitCount_0f7a4_16 : decode cJ6_bitCount_0f7a4 16 = .ok (.iconst 2, 1) := by decide +kernel
theorem dJ6_bitCount_0f7a4_17 : decode cJ6_bitCount_0f7a4 17 = .ok (.iushr, 1) := by decide +kernel
theorem dJ6_bitCount_0f7a4_18 : decode cJ6_bitCount_0f7a4 18 = .ok (.ldc_w 266, 3) := by decide +kernel
theorem dJ6_bitCount_0f7a4_21 : decode cJ6_bitCount_0f7a4 21 = .ok (.iand, 1) := by decide +kernel
theorem dJ6_bitCount_0f7a4_22 : decode cJ6_bitCount_0f7a4 22 = .ok (.iadd, 1) := by decide +kernel
theorem dJ6_bitCount_0f7a4_23 : decode cJ6_bitCount_0f7a4 23 = .ok (.istore_n 0, 1) := by decide +kernel
theorem dJ6_bitCount_0f7a4_24 : decode cJ6_bitCount_0f7a4 24 = .ok (.iload_n 0, 1) := by decide +kernel
theorem dJ6_bitCount_0f7a4_25 : decode cJ6_bitCount_0f7a4 25 = .ok (.iload_n 0, 1) := by decide +kernel
theorem dJ6_bitCount_0f7a4_26 : decode cJ6_bitCount_0f7a4 26 = .ok (.iconst 4, 1) := by decide +kernel
theorem dJ6_bitCount_0f7a4_27 : decode cJ6_bitCount_0f7a4 27 = .ok (.iushr, 1) := by decide +kernel
theorem dJ6_bitCount_0f7a4_28 : decode cJ6_bitCount_0f7a4 28 = .ok (.iadd, 1) := by decide +kernel
theorem dJ6_bitCount_0f7a4_29 : decode cJ6_bitCount_0f7a4 29 = .ok (.ldc_w 267, 3) := by decide +kernel
theorem dJ6_bitCount_0f7a4_32 : decode cJ6_bitCount_0f7a4 32 = .ok (.iand, 1) := by decide +kernel
theorem dJ6_bitCount_0f7a4_33 : decode cJ6_bitCount_0f7a4 33 = .ok (.istore_n 0, 1) := by decide +kernel
theorem dJ6_bitCount_0f7a4_34 : decode cJ6_bitCount_0f7a4 34 = .ok (.iload_n 0, 1) := by decide +kernel
theorem dJ6_bitCount_0f7a4_35 : decode cJ6_bitCount_0f7a4 35 = .ok (.iload_n 0, 1) := by decide +kernel
theorem dJ6_bitCount_0f7a4_36 : decode cJ6_bitCount_0f7a4 36 = .ok (.bipush 8, 2) := by decide +kernel
theorem dJ6_bitCount_0f7a4_38 : decode cJ6_bitCount_0f7a4 38 = .ok (.iushr, 1) := by decide +kernel
theorem dJ6_bitCount_0f7a4_39 : decode cJ6_bitCount_0f7a4 39 = .ok (.iadd, 1) := by decide +kernel
theorem dJ6_bitCount_0f7a4_40 : decode cJ6_bitCount_0f7a4 40 = .ok (.istore_n 0, 1) := by decide +kernel
theorem dJ6_bitCount_0f7a4_41 : decode cJ6_bitCount_0f7a4 41 = .ok (.iload_n 0, 1) := by decide +kernel
theorem dJ6_bitCount_0f7a4_42 : decode cJ6_bitCount_0f7a4 42 = .ok (.iload_n 0, 1) := by decide +kernel
theorem dJ6_bitCount_0f7a4_43 : decode cJ6_bitCount_0f7a4 43 = .ok (.bipush 16, 2) := by decide +kernel
theorem dJ6_bitCount_0f7a4_45 : decode cJ6_bitCount_0f7a4 45 = .ok (.iushr, 1) := by decide +kernel
theorem dJ6_bitCount_0f7a4_46 : decode cJ6_bitCount_0f7a4 46 = .ok (.iadd, 1) := by decide +kernel
theorem dJ6_bitCount_0f7a4_47 : decode cJ6_bitCount_0f7a4 47 = .ok (.istore_n 0, 1) := by decide +kernel
theorem dJ6_bitCount_0f7a4_48 : decode cJ6_bitCount_0f7a4 48 = .ok (.iload_n 0, 1) := by decide +kernel
theorem dJ6_bitCount_0f7a4_49 : decode cJ6_bitCount_0f7a4 49 = .ok (.bipush 63, 2) := by decide +kernel
theorem dJ6_bitCount_0f7a4_51 : decode cJ6_bitCount_0f7a4 51 = .ok (.iand, 1) := by decide +kernel
theorem dJ6_bitCount_0f7a4_52 : decode cJ6_bitCount_0f7a4 52 = .ok (.ireturn, 1) := by decide +kernel
def fJ6_bitCount_0f7a4 (a0 : Int32) (M : xMem) : Option (Int32 × xMem) :=
  xLt (a0 - (((Int32.toUInt32 a0 >>> (Int32.toUInt32 (nI 1) &&& Int32.toUInt32 31)).toInt32) &&& (nI 1431655765))) fun x1 => xLt ((x1 &&& (nI 858993459)) + (((Int32.toUInt32 x1 >>> (Int32.toUInt32 (nI 2) &&& Int32.toUInt32 31)).toInt32) &&& (nI 858993459))) fun x2 => xLt ((x2 + ((Int32.toUInt32 x2 >>> (Int32.toUInt32 (nI 4) &&& Int32.toUInt32 31)).toInt32)) &&& (nI 252645135)) fun x3 => xLt (x3 + ((Int32.toUInt32 x3 >>> (Int32.toUInt32 (nI 8) &&& Int32.toUInt32 31)).toInt32)) fun x4 => xLt (x4 + ((Int32.toUInt32 x4 >>> (Int32.toUInt32 (nI 16) &&& Int32.toUInt32 31)).toInt32)) fun x5 => some ((x5 &&& (nI 63)), M)
set_option maxRecDepth 100000 in
set_option maxHeartbeats 4000000 in
theorem zJ6_bitCount_0f7a4 (G : xGX) (a0 : Int32) (M : xMem) (r : Int32) (M' : xMem) (h : fJ6_bitCount_0f7a4 a0 M = some (r, M')) : xCt G yJ6_bitCount_0f7a4 cJ6_bitCount_0f7a4 1 (some .int) 1 [.int a0] M (some (.int r), M') := by
  refine xMet (lv := [some (.int a0)]) (by decide) (Nat.le_of_ble_eq_true rfl) rfl ?_
  intro X hG hnL C R0
  subst hG
  have C : xCk X cJ6_bitCount_0f7a4 RJ6 1 := C
  have hn0 : 0 < X.2.2.2.2.2.2.2.2.2.2.2.2.2 := by rw [hnL]; decide
  unfold fJ6_bitCount_0f7a4 at h
  refine r_iload_n (pc := 0) C dJ6_bitCount_0f7a4_0 rfl rfl ?_
  refine r_iload_n (pc := 1) C dJ6_bitCount_0f7a4_1 rfl rfl ?_
  refine r_iconst (pc := 2) (v := (nI 1)) C dJ6_bitCount_0f7a4_2 (by decide) ?_
  refine r_iushr (pc := 3) C dJ6_bitCount_0f7a4_3 ?_
  refine r_ldcw (pc := 4) C nJ6_265 dJ6_bitCount_0f7a4_4 ?_
  refine r_iand (pc := 7) C dJ6_bitCount_0f7a4_7 ?_
  refine r_isub (pc := 8) C dJ6_bitCount_0f7a4_8 ?_
  refine r_letI h (fun x1 h => ?_)
  refine r_istore_n (pc := 9) (lv' := [_]) C dJ6_bitCount_0f7a4_9 rfl hn0 rfl ?_
  refine r_iload_n (pc := 10) C dJ6_bitCount_0f7a4_10 rfl rfl ?_
  refine r_ldcw (pc := 11) C nJ6_266 dJ6_bitCount_0f7a4_11 ?_
  refine r_iand (pc := 14) C dJ6_bitCount_0f7a4_14 ?_
  refine r_iload_n (pc := 15) C dJ6_bitCount_0f7a4_15 rfl rfl ?_
  refine r_iconst (pc := 16) (v := (nI 2)) C dJ6_bitCount_0f7a4_16 (by decide) ?_
  refine r_iushr (pc := 17) C dJ6_bitCount_0f7a4_17 ?_
  refine r_ldcw (pc := 18) C nJ6_266 dJ6_bitCount_0f7a4_18 ?_
  refine r_iand (pc := 21) C dJ6_bitCount_0f7a4_21 ?_
  refine r_iadd (pc := 22) C dJ6_bitCount_0f7a4_22 ?_
  refine r_letI h (fun x2 h => ?_)
  refine r_istore_n (pc := 23) (lv' := [_]) C dJ6_bitCount_0f7a4_23 rfl hn0 rfl ?_
  refine r_iload_n (pc := 24) C dJ6_bitCount_0f7a4_24 rfl rfl ?_
  refine r_iload_n (pc := 25) C dJ6_bitCount_0f7a4_25 rfl rfl ?_
  refine r_iconst (pc := 26) (v := (nI 4)) C dJ6_bitCount_0f7a4_26 (by decide) ?_
  refine r_iushr (pc := 27) C dJ6_bitCount_0f7a4_27 ?_
  refine r_iadd (pc := 28) C dJ6_bitCount_0f7a4_28 ?_
  refine r_ldcw (pc := 29) C nJ6_267 dJ6_bitCount_0f7a4_29 ?_
  refine r_iand (pc := 32) C dJ6_bitCount_0f7a4_32 ?_
  refine r_letI h (fun x3 h => ?_)
  refine r_istore_n (pc := 33) (lv' := [_]) C dJ6_bitCount_0f7a4_33 rfl hn0 rfl ?_
  refine r_iload_n (pc := 34) C dJ6_bitCount_0f7a4_34 rfl rfl ?_
  refine r_iload_n (pc := 35) C dJ6_bitCount_0f7a4_35 rfl rfl ?_
  refine r_bipush (pc := 36) (v := (nI 8)) C dJ6_bitCount_0f7a4_36 (by decide) ?_
  refine r_iushr (pc := 38) C dJ6_bitCount_0f7a4_38 ?_
  refine r_iadd (pc := 39) C dJ6_bitCount_0f7a4_39 ?_
  refine r_letI h (fun x4 h => ?_)
  refine r_istore_n (pc := 40) (lv' := [_]) C dJ6_bitCount_0f7a4_40 rfl hn0 rfl ?_
  refine r_iload_n (pc := 41) C dJ6_bitCount_0f7a4_41 rfl rfl ?_
  refine r_iload_n (pc := 42) C dJ6_bitCount_0f7a4_42 rfl rfl ?_
  refine r_bipush (pc := 43) (v := (nI 16)) C dJ6_bitCount_0f7a4_43 (by decide) ?_
  refine r_iushr (pc := 45) C dJ6_bitCount_0f7a4_45 ?_
  refine r_iadd (pc := 46) C dJ6_bitCount_0f7a4_46 ?_
  refine r_letI h (fun x5 h => ?_)
  refine r_istore_n (pc := 47) (lv' := [_]) C dJ6_bitCount_0f7a4_47 rfl hn0 rfl ?_
  refine r_iload_n (pc := 48) C dJ6_bitCount_0f7a4_48 rfl rfl ?_
  refine r_bipush (pc := 49) (v := (nI 63)) C dJ6_bitCount_0f7a4_49 (by decide) ?_
  refine r_iand (pc := 51) C dJ6_bitCount_0f7a4_51 ?_
  exact r_iret (pc := 52) C R0 h dJ6_bitCount_0f7a4_52
theorem dJ6_signum_0f7a4_0 : decode cJ6_signum_0f7a4 0 = .ok (.iload_n 0, 1) := by decide +kernel
theorem dJ6_signum_0f7a4_1 : decode cJ6_signum_0f7a4 1 = .ok (.bipush 31, 2) := by decide +kernel
theorem dJ6_signum_0f7a4_3 : decode cJ6_signum_0f7a4 3 = .ok (.ishr, 1) := by decide +kernel
theorem dJ6_signum_0f7a4_4 : decode cJ6_signum_0f7a4 4 = .ok (.iload_n 0, 1) := by decide +kernel
theorem dJ6_signum_0f7a4_5 : decode cJ6_signum_0f7a4 5 = .ok (.ineg, 1) := by decide +kernel
theorem dJ6_signum_0f7a4_6 : decode cJ6_signum_0f7a4 6 = .ok (.bipush 31, 2) := by decide +kernel
theorem dJ6_signum_0f7a4_8 : decode cJ6_signum_0f7a4 8 = .ok (.iushr, 1) := by decide +kernel
theorem dJ6_signum_0f7a4_9 : decode cJ6_signum_0f7a4 9 = .ok (.ior, 1) := by decide +kernel
theorem dJ6_signum_0f7a4_10 : decode cJ6_signum_0f7a4 10 = .ok (.ireturn, 1) := by decide +kernel
def fJ6_signum_0f7a4 (a0 : Int32) (M : xMem) : Option (Int32 × xMem) :=
  some (((a0 >>> ((nI 31) &&& 31)) ||| ((Int32.toUInt32 (-a0) >>> (Int32.toUInt32 (nI 31) &&& Int32.toUInt32 31)).toInt32)), M)
set_option maxRecDepth 100000 in
set_option maxHeartbeats 4000000 in
theorem zJ6_signum_0f7a4 (G : xGX) (a0 : Int32) (M : xMem) (r : Int32) (M' : xMem) (h : fJ6_signum_0f7a4 a0 M = some (r, M')) : xCt G yJ6_signum_0f7a4 cJ6_signum_0f7a4 1 (some .int) 1 [.int a0] M (some (.int r), M') := by
  refine xMet (lv := [some (.int a0)]) (by decide) (Nat.le_of_ble_eq_true rfl) rfl ?_
  intro X hG hnL C R0
  subst hG
  have C : xCk X cJ6_signum_0f7a4 RJ6 1 := C
  unfold fJ6_signum_0f7a4 at h
  refine r_iload_n (pc := 0) C dJ6_signum_0f7a4_0 rfl rfl ?_
  refine r_bipush (pc := 1) (v := (nI 31)) C dJ6_signum_0f7a4_1 (by decide) ?_
  refine r_ishr (pc := 3) C dJ6_signum_0f7a4_3 ?_
  refine r_iload_n (pc := 4) C dJ6_signum_0f7a4_4 rfl rfl ?_
  refine r_ineg (pc := 5) C dJ6_signum_0f7a4_5 ?_
  refine r_bipush (pc := 6) (v := (nI 31)) C dJ6_signum_0f7a4_6 (by decide) ?_
  refine r_iushr (pc := 8) C dJ6_signum_0f7a4_8 ?_
  refine r_ior (pc := 9) C dJ6_signum_0f7a4_9 ?_
  exact r_iret (pc := 10) C R0 h dJ6_signum_0f7a4_10
