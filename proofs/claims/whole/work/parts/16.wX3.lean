theorem dX3_place_0 : decode cX3_place 0 = .ok (.aload_n 0, 1) := by decide +kernel
theorem dX3_place_1 : decode cX3_place 1 = .ok (.getfield 22, 3) := by decide +kernel
theorem dX3_place_4 : decode cX3_place 4 = .ok (.ireturn, 1) := by decide +kernel
def fX3_place (a0 : Nat) (M : xMem) : Option (Int32 × xMem) :=
  some ((M.1 a0 4), M)
set_option maxRecDepth 100000 in
set_option maxHeartbeats 4000000 in
theorem zX3_place (G : xGX) (a0 : Nat) (h0 : xkd a0 = 3) (M : xMem) (r : Int32) (M' : xMem) (h : fX3_place a0 M = some (r, M')) : xCt G yX3_place cX3_place 1 (some .int) 1 [vr G a0] M (some (.int r), M') := by
  refine xMet (lv := [some (vr G a0)]) (by decide) (Nat.le_of_ble_eq_true rfl) rfl ?_
  intro X hG hnL C R0
  subst hG
  have C : xCk X cX3_place RX3 1 := C
  unfold fX3_place at h
  refine r_aload_n (pc := 0) C dX3_place_0 rfl rfl ?_
  refine r_getI (pc := 1) C kX3_22 h0 dX3_place_1 ?_
  exact r_iret (pc := 4) C R0 h dX3_place_4
theorem dX3_kindOf_0 : decode cX3_kindOf 0 = .ok (.iload_n 0, 1) := by decide +kernel
theorem dX3_kindOf_1 : decode cX3_kindOf 1 = .ok (.bipush 97, 2) := by decide +kernel
theorem dX3_kindOf_3 : decode cX3_kindOf 3 = .ok (.if_icmp .lt 11, 3) := by decide +kernel
theorem dX3_kindOf_6 : decode cX3_kindOf 6 = .ok (.iload_n 0, 1) := by decide +kernel
theorem dX3_kindOf_7 : decode cX3_kindOf 7 = .ok (.bipush 122, 2) := by decide +kernel
theorem dX3_kindOf_9 : decode cX3_kindOf 9 = .ok (.if_icmp .gt 5, 3) := by decide +kernel
theorem dX3_kindOf_12 : decode cX3_kindOf 12 = .ok (.iconst 1, 1) := by decide +kernel
theorem dX3_kindOf_13 : decode cX3_kindOf 13 = .ok (.ireturn, 1) := by decide +kernel
theorem dX3_kindOf_14 : decode cX3_kindOf 14 = .ok (.iload_n 0, 1) := by decide +kernel
theorem dX3_kindOf_15 : decode cX3_kindOf 15 = .ok (.bipush 48, 2) := by decide +kernel
theorem dX3_kindOf_17 : decode cX3_kindOf 17 = .ok (.if_icmp .lt 13, 3) := by decide +kernel
theorem dX3_kindOf_20 : decode cX3_kindOf 20 = .ok (.iload_n 0, 1) := by decide +kernel
theorem dX3_kindOf_21 : decode cX3_kindOf 21 = .ok (.bipush 57, 2) := by decide +kernel
theorem dX3_kindOf_23 : decode cX3_kindOf 23 = .ok (.if_icmp .gt 7, 3) := by decide +kernel
theorem dX3_kindOf_26 : decode cX3_kindOf 26 = .ok (.iconst 2, 1) := by decide +kernel
theorem dX3_kindOf_27 : decode cX3_kindOf 27 = .ok (.goto 4, 3) := by decide +kernel
theorem dX3_kindOf_30 : decode cX3_kindOf 30 = .ok (.iconst 3, 1) := by decide +kernel
theorem dX3_kindOf_31 : decode cX3_kindOf 31 = .ok (.ireturn, 1) := by decide +kernel
def fX3_kindOf (a0 : Int32) (M : xMem) : Option (Int32 × xMem) :=
  xLt (fun  (M1 : xMem) => (if a0 < (nI 48) then (some ((nI 3), M1)) else (if (nI 57) < a0 then (some ((nI 3), M1)) else (some ((nI 2), M1))) : Option (Int32 × xMem))) fun J14 => if a0 < (nI 97) then (J14  M) else (if (nI 122) < a0 then (J14  M) else (some ((nI 1), M)))
set_option maxRecDepth 100000 in
set_option maxHeartbeats 4000000 in
theorem zX3_kindOf (G : xGX) (a0 : Int32) (M : xMem) (r : Int32) (M' : xMem) (h : fX3_kindOf a0 M = some (r, M')) : xCt G yX3_kindOf cX3_kindOf 1 (some .int) 1 [.int a0] M (some (.int r), M') := by
  refine xMet (lv := [some (.int a0)]) (by decide) (Nat.le_of_ble_eq_true rfl) rfl ?_
  intro X hG hnL C R0
  subst hG
  have C : xCk X cX3_kindOf RX3 1 := C
  unfold fX3_kindOf at h
  refine r_iload_n (pc := 0) C dX3_kindOf_0 rfl rfl ?_
  refine r_bipush (pc := 1) (v := (nI 97)) C dX3_kindOf_1 (by decide) ?_
  refine r_jn (fun J => ∀  (M1 : xMem) , J  M1 = some (r, M') → WW X 14 [some (.int a0)] [] M1) h (fun  M1  h => ?_) (fun J14 hJ14 h => ?_)
  · refine r_iload_n (pc := 14) C dX3_kindOf_14 rfl rfl ?_
    refine r_bipush (pc := 15) (v := (nI 48)) C dX3_kindOf_15 (by decide) ?_
    refine r_icmp_lt (pc := 17) (tgt := 30) C dX3_kindOf_17 (by decide) h (fun _ h => ?_) (fun _ h => ?_)
    · refine r_iconst (pc := 30) (v := (nI 3)) C dX3_kindOf_30 (by decide) ?_
      exact r_iret (pc := 31) C R0 h dX3_kindOf_31
    · refine r_iload_n (pc := 20) C dX3_kindOf_20 rfl rfl ?_
      refine r_bipush (pc := 21) (v := (nI 57)) C dX3_kindOf_21 (by decide) ?_
      refine r_icmp_gt (pc := 23) (tgt := 30) C dX3_kindOf_23 (by decide) h (fun _ h => ?_) (fun _ h => ?_)
      · refine r_iconst (pc := 30) (v := (nI 3)) C dX3_kindOf_30 (by decide) ?_
        exact r_iret (pc := 31) C R0 h dX3_kindOf_31
      · refine r_iconst (pc := 26) (v := (nI 2)) C dX3_kindOf_26 (by decide) ?_
        refine r_goto (pc := 27) (tgt := 31) C dX3_kindOf_27 (by decide) ?_
        exact r_iret (pc := 31) C R0 h dX3_kindOf_31
  refine r_icmp_lt (pc := 3) (tgt := 14) C dX3_kindOf_3 (by decide) h (fun _ h => ?_) (fun _ h => ?_)
  · exact hJ14  M  h
  · refine r_iload_n (pc := 6) C dX3_kindOf_6 rfl rfl ?_
    refine r_bipush (pc := 7) (v := (nI 122)) C dX3_kindOf_7 (by decide) ?_
    refine r_icmp_gt (pc := 9) (tgt := 14) C dX3_kindOf_9 (by decide) h (fun _ h => ?_) (fun _ h => ?_)
    · exact hJ14  M  h
    · refine r_iconst (pc := 12) (v := (nI 1)) C dX3_kindOf_12 (by decide) ?_
      exact r_iret (pc := 13) C R0 h dX3_kindOf_13
theorem dX3_addToValue_0 : decode cX3_addToValue 0 = .ok (.aload_n 0, 1) := by decide +kernel
theorem dX3_addToValue_1 : decode cX3_addToValue 1 = .ok (.getfield 18, 3) := by decide +kernel
theorem dX3_addToValue_4 : decode cX3_addToValue 4 = .ok (.iconst 1, 1) := by decide +kernel
theorem dX3_addToValue_5 : decode cX3_addToValue 5 = .ok (.if_icmp .ne 24, 3) := by decide +kernel
theorem dX3_addToValue_8 : decode cX3_addToValue 8 = .ok (.aload_n 0, 1) := by decide +kernel
theorem dX3_addToValue_9 : decode cX3_addToValue 9 = .ok (.aload_n 0, 1) := by decide +kernel
theorem dX3_addToValue_10 : decode cX3_addToValue 10 = .ok (.getfield 28, 3) := by decide +kernel
theorem dX3_addToValue_13 : decode cX3_addToValue 13 = .ok (.iconst 5, 1) := by decide +kernel
theorem dX3_addToValue_14 : decode cX3_addToValue 14 = .ok (.lshl, 1) := by decide +kernel
theorem dX3_addToValue_15 : decode cX3_addToValue 15 = .ok (.iload_n 1, 1) := by decide +kernel
theorem dX3_addToValue_16 : decode cX3_addToValue 16 = .ok (.bipush 97, 2) := by decide +kernel
theorem dX3_addToValue_18 : decode cX3_addToValue 18 = .ok (.isub, 1) := by decide +kernel
theorem dX3_addToValue_19 : decode cX3_addToValue 19 = .ok (.iconst 1, 1) := by decide +kernel
theorem dX3_addToValue_20 : decode cX3_addToValue 20 = .ok (.iadd, 1) := by decide +kernel
theorem dX3_addToValue_21 : decode cX3_addToValue 21 = .ok (.i2l, 1) := by decide +kernel
theorem dX3_addToValue_22 : decode cX3_addToValue 22 = .ok (.lor, 1) := by decide +kernel
theorem dX3_addToValue_23 : decode cX3_addToValue 23 = .ok (.putfield 28, 3) := by decide +kernel
theorem dX3_addToValue_26 : decode cX3_addToValue 26 = .ok (.goto 33, 3) := by decide +kernel
theorem dX3_addToValue_29 : decode cX3_addToValue 29 = .ok (.aload_n 0, 1) := by decide +kernel
theorem dX3_addToValue_30 : decode cX3_addToValue 30 = .ok (.getfield 28, 3) := by decide +kernel
theorem dX3_addToValue_33 : decode cX3_addToValue 33 = .ok (.ldc2_w 96, 3) := by decide +kernel
theorem dX3_addToValue_36 : decode cX3_addToValue 36 = .ok (.lcmp, 1) := by decide +kernel
theorem dX3_addToValue_37 : decode cX3_addToValue 37 = .ok (.ifCond .gt 22, 3) := by decide +kernel
theorem dX3_addToValue_40 : decode cX3_addToValue 40 = .ok (.aload_n 0, 1) := by decide +kernel
theorem dX3_addToValue_41 : decode cX3_addToValue 41 = .ok (.aload_n 0, 1) := by decide +kernel
theorem dX3_addToValue_42 : decode cX3_addToValue 42 = .ok (.getfield 28, 3) := by decide +kernel
theorem dX3_addToValue_45 : decode cX3_addToValue 45 = .ok (.ldc2_w 98, 3) := by decide +kernel
theorem dX3_addToValue_48 : decode cX3_addToValue 48 = .ok (.lmul, 1) := by decide +kernel
theorem dX3_addToValue_49 : decode cX3_addToValue 49 = .ok (.iload_n 1, 1) := by decide +kernel
theorem dX3_addToValue_50 : decode cX3_addToValue 50 = .ok (.i2l, 1) := by decide +kernel
theorem dX3_addToValue_51 : decode cX3_addToValue 51 = .ok (.ladd, 1) := by decide +kernel
theorem dX3_addToValue_52 : decode cX3_addToValue 52 = .ok (.ldc2_w 100, 3) := by decide +kernel
theorem dX3_addToValue_55 : decode cX3_addToValue 55 = .ok (.lsub, 1) := by decide +kernel
theorem dX3_addToValue_56 : decode cX3_addToValue 56 = .ok (.putfield 28, 3) := by decide +kernel
theorem dX3_addToValue_59 : decode cX3_addToValue 59 = .ok (.return_, 1) := by decide +kernel
def fX3_addToValue (a0 : Nat) (a1 : Int32) (M : xMem) : Option (xMem) :=
  if (M.1 a0 3) = (nI 1) then (xLt (xwL M a0 6 (((M.2.1 a0 6) <<< (Int32.toInt64 (nI 5) &&& 63)) ||| (Int32.toInt64 ((a1 - (nI 97)) + (nI 1))))) fun M2 => some M2) else (if 0 < (lg_cmp (M.2.1 a0 6) (lN 99)) then (some M) else (xLt (xwL M a0 6 ((((M.2.1 a0 6) * (lN 10)) + (Int32.toInt64 a1)) - (lN 48))) fun M1 => some M1))
set_option maxRecDepth 100000 in
set_option maxHeartbeats 4000000 in
theorem zX3_addToValue (G : xGX) (a0 : Nat) (h0 : xkd a0 = 3) (a1 : Int32) (M : xMem) (M' : xMem) (h : fX3_addToValue a0 a1 M = some M') : xCt G yX3_addToValue cX3_addToValue 2 none 1 [vr G a0, .int a1] M (none, M') := by
  refine xMet (lv := [some (vr G a0), some (.int a1)]) (by decide) (Nat.le_of_ble_eq_true rfl) rfl ?_
  intro X hG hnL C R0
  subst hG
  have C : xCk X cX3_addToValue RX3 1 := C
  unfold fX3_addToValue at h
  refine r_aload_n (pc := 0) C dX3_addToValue_0 rfl rfl ?_
  refine r_getI (pc := 1) C kX3_18 h0 dX3_addToValue_1 ?_
  refine r_iconst (pc := 4) (v := (nI 1)) C dX3_addToValue_4 (by decide) ?_
  refine r_icmp_ne (pc := 5) (tgt := 29) C dX3_addToValue_5 (by decide) h (fun _ h => ?_) (fun _ h => ?_)
  · refine r_aload_n (pc := 29) C dX3_addToValue_29 rfl rfl ?_
    refine r_getL (pc := 30) C kX3_28 h0 dX3_addToValue_30 ?_
    refine r_ldc2 (pc := 33) C nX3_96 dX3_addToValue_33 ?_
    refine r_lcmp (pc := 36) C dX3_addToValue_36 ?_
    refine r_if_gt (pc := 37) (tgt := 59) C dX3_addToValue_37 (by decide) h (fun _ h => ?_) (fun _ h => ?_)
    · exact r_vret (pc := 59) C R0 h dX3_addToValue_59
    · refine r_aload_n (pc := 40) C dX3_addToValue_40 rfl rfl ?_
      refine r_aload_n (pc := 41) C dX3_addToValue_41 rfl rfl ?_
      refine r_getL (pc := 42) C kX3_28 h0 dX3_addToValue_42 ?_
      refine r_ldc2 (pc := 45) C nX3_98 dX3_addToValue_45 ?_
      refine r_lmul (pc := 48) C dX3_addToValue_48 ?_
      refine r_iload_n (pc := 49) C dX3_addToValue_49 rfl rfl ?_
      refine r_i2l (pc := 50) C dX3_addToValue_50 ?_
      refine r_ladd (pc := 51) C dX3_addToValue_51 ?_
      refine r_ldc2 (pc := 52) C nX3_100 dX3_addToValue_52 ?_
      refine r_lsub (pc := 55) C dX3_addToValue_55 ?_
      refine r_putL (pc := 56) C kX3_28 h0 dX3_addToValue_56 ?_
      refine r_letM h (fun M1 h => ?_)
      exact r_vret (pc := 59) C R0 h dX3_addToValue_59
  · refine r_aload_n (pc := 8) C dX3_addToValue_8 rfl rfl ?_
    refine r_aload_n (pc := 9) C dX3_addToValue_9 rfl rfl ?_
    refine r_getL (pc := 10) C kX3_28 h0 dX3_addToValue_10 ?_
    refine r_iconst (pc := 13) (v := (nI 5)) C dX3_addToValue_13 (by decide) ?_
    refine r_lshl (pc := 14) C dX3_addToValue_14 ?_
    refine r_iload_n (pc := 15) C dX3_addToValue_15 rfl rfl ?_
    refine r_bipush (pc := 16) (v := (nI 97)) C dX3_addToValue_16 (by decide) ?_
    refine r_isub (pc := 18) C dX3_addToValue_18 ?_
    refine r_iconst (pc := 19) (v := (nI 1)) C dX3_addToValue_19 (by decide) ?_
    refine r_iadd (pc := 20) C dX3_addToValue_20 ?_
    refine r_i2l (pc := 21) C dX3_addToValue_21 ?_
    refine r_lor (pc := 22) C dX3_addToValue_22 ?_
    refine r_putL (pc := 23) C kX3_28 h0 dX3_addToValue_23 ?_
    refine r_letM h (fun M2 h => ?_)
    refine r_goto (pc := 26) (tgt := 59) C dX3_addToValue_26 (by decide) ?_
    exact r_vret (pc := 59) C R0 h dX3_addToValue_59
theorem dX3_advance_0 : decode cX3_advance 0 = .ok (.aload_n 0, 1) := by decide +kernel
theorem dX3_advance_1 : decode cX3_advance 1 = .ok (.getfield 41, 3) := by decide +kernel
theorem dX3_advance_4 : decode cX3_advance 4 = .ok (.invokevirtual 81, 3) := by decide +kernel
theorem dX3_advance_7 : decode cX3_advance 7 = .ok (.istore_n 1, 1) := by decide +kernel
theorem dX3_advance_8 : decode cX3_advance 8 = .ok (.aload_n 0, 1) := by decide +kernel
theorem dX3_advance_9 : decode cX3_advance 9 = .ok (.getfield 25, 3) := by decide +kernel
theorem dX3_advance_12 : decode cX3_advance 12 = .ok (.istore_n 2, 1) := by decide +kernel
theorem dX3_advance_13 : decode cX3_advance 13 = .ok (.iload_n 2, 1) := by decide +kernel
theorem dX3_advance_14 : decode cX3_advance 14 = .ok (.iload_n 1, 1) := by decide +kernel
theorem dX3_advance_15 : decode cX3_advance 15 = .ok (.if_icmp .ge 35, 3) := by decide +kernel
theorem dX3_advance_18 : decode cX3_advance 18 = .ok (.aload_n 0, 1) := by decide +kernel
theorem dX3_advance_19 : decode cX3_advance 19 = .ok (.getfield 41, 3) := by decide +kernel
theorem dX3_advance_22 : decode cX3_advance 22 = .ok (.iload_n 2, 1) := by decide +kernel
theorem dX3_advance_23 : decode cX3_advance 23 = .ok (.invokevirtual 86, 3) := by decide +kernel
theorem dX3_advance_26 : decode cX3_advance 26 = .ok (.bipush 32, 2) := by decide +kernel
theorem dX3_advance_28 : decode cX3_advance 28 = .ok (.if_icmp .eq 16, 3) := by decide +kernel
theorem dX3_advance_31 : decode cX3_advance 31 = .ok (.aload_n 0, 1) := by decide +kernel
theorem dX3_advance_32 : decode cX3_advance 32 = .ok (.getfield 41, 3) := by decide +kernel
theorem dX3_advance_35 : decode cX3_advance 35 = .ok (.iload_n 2, 1) := by decide +kernel
theorem dX3_advance_36 : decode cX3_advance 36 = .ok (.invokevirtual 86, 3) := by decide +kernel
theorem dX3_advance_39 : decode cX3_advance 39 = .ok (.bipush 10, 2) := by decide +kernel
theorem dX3_advance_41 : decode cX3_advance 41 = .ok (.if_icmp .ne 9, 3) := by decide +kernel
theorem dX3_advance_44 : decode cX3_advance 44 = .ok (.iinc 2 1, 3) := by decide +kernel
theorem dX3_advance_47 : decode cX3_advance 47 = .ok (.goto (-34), 3) := by decide +kernel
theorem dX3_advance_50 : decode cX3_advance 50 = .ok (.aload_n 0, 1) := by decide +kernel
theorem dX3_advance_51 : decode cX3_advance 51 = .ok (.iload_n 2, 1) := by decide +kernel
theorem dX3_advance_52 : decode cX3_advance 52 = .ok (.putfield 22, 3) := by decide +kernel
theorem dX3_advance_55 : decode cX3_advance 55 = .ok (.aload_n 0, 1) := by decide +kernel
theorem dX3_advance_56 : decode cX3_advance 56 = .ok (.iload_n 2, 1) := by decide +kernel
theorem dX3_advance_57 : decode cX3_advance 57 = .ok (.iload_n 1, 1) := by decide +kernel
theorem dX3_advance_58 : decode cX3_advance 58 = .ok (.if_icmp .ge 17, 3) := by decide +kernel
theorem dX3_advance_61 : decode cX3_advance 61 = .ok (.aload_n 0, 1) := by decide +kernel
theorem dX3_advance_62 : decode cX3_advance 62 = .ok (.getfield 41, 3) := by decide +kernel
theorem dX3_advance_65 : decode cX3_advance 65 = .ok (.iload_n 2, 1) := by decide +kernel
theorem dX3_advance_66 : decode cX3_advance 66 = .ok (.invokevirtual 86, 3) := by decide +kernel
theorem dX3_advance_69 : decode cX3_advance 69 = .ok (.invokestatic 89, 3) := by decide +kernel
theorem dX3_advance_72 : decode cX3_advance 72 = .ok (.goto 4, 3) := by decide +kernel
theorem dX3_advance_75 : decode cX3_advance 75 = .ok (.iconst 0, 1) := by decide +kernel
theorem dX3_advance_76 : decode cX3_advance 76 = .ok (.putfield 18, 3) := by decide +kernel
theorem dX3_advance_79 : decode cX3_advance 79 = .ok (.aload_n 0, 1) := by decide +kernel
theorem dX3_advance_80 : decode cX3_advance 80 = .ok (.aload_n 0, 1) := by decide +kernel
theorem dX3_advance_81 : decode cX3_advance 81 = .ok (.getfield 18, 3) := by decide +kernel
theorem dX3_advance_84 : decode cX3_advance 84 = .ok (.iconst 3, 1) := by decide +kernel
theorem dX3_advance_85 : decode cX3_advance 85 = .ok (.if_icmp .ne 15, 3) := by decide +kernel
theorem dX3_advance_88 : decode cX3_advance 88 = .ok (.aload_n 0, 1) := by decide +kernel
theorem dX3_advance_89 : decode cX3_advance 89 = .ok (.getfield 41, 3) := by decide +kernel
theorem dX3_advance_92 : decode cX3_advance 92 = .ok (.iload_n 2, 1) := by decide +kernel
theorem dX3_advance_93 : decode cX3_advance 93 = .ok (.invokevirtual 86, 3) := by decide +kernel
theorem dX3_advance_96 : decode cX3_advance 96 = .ok (.i2l, 1) := by decide +kernel
theorem dX3_advance_97 : decode cX3_advance 97 = .ok (.goto 4, 3) := by decide +kernel
theorem dX3_advance_100 : decode cX3_advance 100 = .ok (.lconst 0, 1) := by decide +kernel
theorem dX3_advance_101 : decode cX3_advance 101 = .ok (.putfield 28, 3) := by decide +kernel
theorem dX3_advance_104 : decode cX3_advance 104 = .ok (.iload_n 2, 1) := by decide +kernel
theorem dX3_advance_105 : decode cX3_advance 105 = .ok (.iload_n 1, 1) := by decide +kernel
theorem dX3_advance_106 : decode cX3_advance 106 = .ok (.if_icmp .ge 47, 3) := by decide +kernel
theorem dX3_advance_109 : decode cX3_advance 109 = .ok (.aload_n 0, 1) := by decide +kernel
theorem dX3_advance_110 : decode cX3_advance 110 = .ok (.getfield 18, 3) := by decide +kernel
theorem dX3_advance_113 : decode cX3_advance 113 = .ok (.iconst 3, 1) := by decide +kernel
theorem dX3_advance_114 : decode cX3_advance 114 = .ok (.if_icmp .eq 39, 3) := by decide +kernel
theorem dX3_advance_117 : decode cX3_advance 117 = .ok (.aload_n 0, 1) := by decide +kernel
theorem dX3_advance_118 : decode cX3_advance 118 = .ok (.getfield 41, 3) := by decide +kernel
theorem dX3_advance_121 : decode cX3_advance 121 = .ok (.iload_n 2, 1) := by decide +kernel
theorem dX3_advance_122 : decode cX3_advance 122 = .ok (.invokevirtual 86, 3) := by decide +kernel
theorem dX3_advance_125 : decode cX3_advance 125 = .ok (.invokestatic 89, 3) := by decide +kernel
theorem dX3_advance_128 : decode cX3_advance 128 = .ok (.aload_n 0, 1) := by decide +kernel
theorem dX3_advance_129 : decode cX3_advance 129 = .ok (.getfield 18, 3) := by decide +kernel
theorem dX3_advance_132 : decode cX3_advance 132 = .ok (.if_icmp .ne 21, 3) := by decide +kernel
theorem dX3_advance_135 : decode cX3_advance 135 = .ok (.aload_n 0, 1) := by decide +kernel
theorem dX3_advance_136 : decode cX3_advance 136 = .ok (.aload_n 0, 1) := by decide +kernel
theorem dX3_advance_137 : decode cX3_advance 137 = .ok (.getfield 41, 3) := by decide +kernel
theorem dX3_advance_140 : decode cX3_advance 140 = .ok (.iload_n 2, 1) := by decide +kernel
theorem dX3_advance_141 : decode cX3_advance 141 = .ok (.invokevirtual 86, 3) := by decide +kernel
theorem dX3_advance_144 : decode cX3_advance 144 = .ok (.invokevirtual 92, 3) := by decide +kernel
theorem dX3_advance_147 : decode cX3_advance 147 = .ok (.iinc 2 1, 3) := by decide +kernel
theorem dX3_advance_150 : decode cX3_advance 150 = .ok (.goto (-46), 3) := by decide +kernel
theorem dX3_advance_153 : decode cX3_advance 153 = .ok (.aload_n 0, 1) := by decide +kernel
theorem dX3_advance_154 : decode cX3_advance 154 = .ok (.aload_n 0, 1) := by decide +kernel
theorem dX3_advance_155 : decode cX3_advance 155 = .ok (.getfield 18, 3) := by decide +kernel
theorem dX3_advance_158 : decode cX3_advance 158 = .ok (.iconst 3, 1) := by decide +kernel
theorem dX3_advance_159 : decode cX3_advance 159 = .ok (.if_icmp .ne 9, 3) := by decide +kernel
theorem dX3_advance_162 : decode cX3_advance 162 = .ok (.iload_n 2, 1) := by decide +kernel
theorem dX3_advance_163 : decode cX3_advance 163 = .ok (.iconst 1, 1) := by decide +kernel
theorem dX3_advance_164 : decode cX3_advance 164 = .ok (.iadd, 1) := by decide +kernel
theorem dX3_advance_165 : decode cX3_advance 165 = .ok (.goto 4, 3) := by decide +kernel
theorem dX3_advance_168 : decode cX3_advance 168 = .ok (.iload_n 2, 1) := by decide +kernel
theorem dX3_advance_169 : decode cX3_advance 169 = .ok (.putfield 25, 3) := by decide +kernel
theorem dX3_advance_172 : decode cX3_advance 172 = .ok (.return_, 1) := by decide +kernel
def fX3_advance_l13 (p0 : Nat) (p1 : Int32) (K : Int32 → xMem → Option (xMem)) : Nat → Int32 → xMem → Option (xMem)
  | 0, _, _ => none
  | n + 1, v2, M => if p1 ≤ v2 then (K v2 M) else (xBn (fX6_at (xrf p0 0) v2 M) fun r4 M5 => if r4 = (nI 32) then (xLt (v2 + nI 1) fun x6 => fX3_advance_l13 p0 p1 K n x6 M5) else (xBn (fX6_at (xrf p0 0) v2 M5) fun r7 M8 => if r7 = (nI 10) then (xLt (v2 + nI 1) fun x9 => fX3_advance_l13 p0 p1 K n x9 M8) else (K v2 M8)))
def fX3_advance_l104 (p0 : Nat) (p1 : Int32) (K : Int32 → xMem → Option (xMem)) : Nat → Int32 → xMem → Option (xMem)
  | 0, _, _ => none
  | n + 1, v2, M => if p1 ≤ v2 then (K v2 M) else (if (M.1 p0 3) = (nI 3) then (K v2 M) else (xBn (fX6_at (xrf p0 0) v2 M) fun r19 M20 => xBn (fX3_kindOf r19 M20) fun r21 M22 => if r21 = (M22.1 p0 3) then (xBn (fX6_at (xrf p0 0) v2 M22) fun r23 M24 => xBv (fX3_addToValue p0 r23 M24) fun M25 => xLt (v2 + nI 1) fun x26 => fX3_advance_l104 p0 p1 K n x26 M25) else (K v2 M22)))
def fX3_advance (a0 : Nat) (M : xMem) : Option (xMem) :=
  xBn (fX6_size (xrf a0 0) M) fun r1 M2 => xLt (M2.1 a0 5) fun x3 => fX3_advance_l13 a0 r1 (fun (v10 : Int32) (M11 : xMem) => xLt (xwI M11 a0 4 v10) fun M12 => xLt (fun (s13 : Int32) (M14 : xMem) => (xLt (xwI M14 a0 3 s13) fun M15 => xLt (fun (s16 : Int64) (M17 : xMem) => (xLt (xwL M17 a0 6 s16) fun M18 => fX3_advance_l104 a0 r1 (fun (v27 : Int32) (M28 : xMem) => xLt (fun (s29 : Int32) (M30 : xMem) => (xLt (xwI M30 a0 5 s29) fun M31 => some M31 : Option (xMem))) fun J169 => if (M28.1 a0 3) = (nI 3) then (J169 (v27 + (nI 1)) M28) else (J169 v27 M28)) xFU v10 M18 : Option (xMem))) fun J101 => if (M15.1 a0 3) = (nI 3) then (xBn (fX6_at (xrf a0 0) v10 M15) fun r32 M33 => J101 (Int32.toInt64 r32) M33) else (J101 (lN 0) M15) : Option (xMem))) fun J76 => if r1 ≤ v10 then (J76 (nI 0) M12) else (xBn (fX6_at (xrf a0 0) v10 M12) fun r34 M35 => xBn (fX3_kindOf r34 M35) fun r36 M37 => J76 r36 M37)) xFU x3 M2
set_option maxRecDepth 100000 in
set_option maxHeartbeats 4000000 in
theorem lX3_advance_13 {X : xCX} {M' : xMem} (C : xCk X cX3_advance RX3 2) (R0 : xRk X none (none, M')) (hnL : X.2.2.2.2.2.2.2.2.2.2.2.2.2 = 3) (p0 : Nat) (hp0 : xkd p0 = 3) (p1 : Int32) (K : Int32 → xMem → Option (xMem)) (hK : ∀ (v2 : Int32) (M : xMem), K v2 M = some M' → WW X 50 [some (vr X.1 p0), some (.int p1), some (.int v2)] [] M) : ∀ (n : Nat) (v2 : Int32) (M : xMem), fX3_advance_l13 p0 p1 K n v2 M = some M' → WW X 13 [some (vr X.1 p0), some (.int p1), some (.int v2)] [] M := by
  have hn1 : 1 < X.2.2.2.2.2.2.2.2.2.2.2.2.2 := by rw [hnL]; decide
  have hn2 : 2 < X.2.2.2.2.2.2.2.2.2.2.2.2.2 := by rw [hnL]; decide
  intro n
  induction n with
  | zero =>
    intro v2 M h
    cases (show (none : Option (xMem)) = some M' from h)
  | succ n ih =>
    intro v2 M h
    rw [fX3_advance_l13.eq_2] at h
    refine r_iload_n (pc := 13) C dX3_advance_13 rfl rfl ?_
    refine r_iload_n (pc := 14) C dX3_advance_14 rfl rfl ?_
    refine r_icmp_ge (pc := 15) (tgt := 50) C dX3_advance_15 (by decide) h (fun _ h => ?_) (fun _ h => ?_)
    · exact hK v2 M h
    · refine r_aload_n (pc := 18) C dX3_advance_18 rfl rfl ?_
      refine r_getR (pc := 19) C kX3_41 hp0 (by decide) dX3_advance_19 ?_
      refine r_iload_n (pc := 22) C dX3_advance_22 rfl rfl ?_
      refine r_vI1 (pc := 23) C (fun r M' e => zX6_at X.1 (xrf p0 0) (xtk hp0 (by decide) rfl rfl) v2 M r M' e) (xtk hp0 (by decide) rfl rfl) (by decide) rfl mX6_at lX3_86 (by decide) (Nat.le_of_ble_eq_true rfl) dX3_advance_23 h (fun r4 M5 h => ?_)
      refine r_bipush (pc := 26) (v := (nI 32)) C dX3_advance_26 (by decide) ?_
      refine r_icmp_eq (pc := 28) (tgt := 44) C dX3_advance_28 (by decide) h (fun _ h => ?_) (fun _ h => ?_)
      · refine r_iincL (pc := 44) (c := nI 1) C dX3_advance_44 rfl (by decide) hn2 h (fun x6 h => ?_)
        refine r_lvE (lv' := [_, _, _]) rfl ?_
        refine r_goto (pc := 47) (tgt := 13) C dX3_advance_47 (by decide) ?_
        exact ih x6 M5 h
      · refine r_aload_n (pc := 31) C dX3_advance_31 rfl rfl ?_
        refine r_getR (pc := 32) C kX3_41 hp0 (by decide) dX3_advance_32 ?_
        refine r_iload_n (pc := 35) C dX3_advance_35 rfl rfl ?_
        refine r_vI1 (pc := 36) C (fun r M' e => zX6_at X.1 (xrf p0 0) (xtk hp0 (by decide) rfl rfl) v2 M5 r M' e) (xtk hp0 (by decide) rfl rfl) (by decide) rfl mX6_at lX3_86 (by decide) (Nat.le_of_ble_eq_true rfl) dX3_advance_36 h (fun r7 M8 h => ?_)
        refine r_bipush (pc := 39) (v := (nI 10)) C dX3_advance_39 (by decide) ?_
        refine r_icmp_ne (pc := 41) (tgt := 50) C dX3_advance_41 (by decide) h (fun _ h => ?_) (fun _ h => ?_)
        · exact hK v2 M8 h
        · refine r_iincL (pc := 44) (c := nI 1) C dX3_advance_44 rfl (by decide) hn2 h (fun x9 h => ?_)
          refine r_lvE (lv' := [_, _, _]) rfl ?_
          refine r_goto (pc := 47) (tgt := 13) C dX3_advance_47 (by decide) ?_
          exact ih x9 M8 h
set_option maxRecDepth 100000 in
set_option maxHeartbeats 4000000 in
theorem lX3_advance_104 {X : xCX} {M' : xMem} (C : xCk X cX3_advance RX3 2) (R0 : xRk X none (none, M')) (hnL : X.2.2.2.2.2.2.2.2.2.2.2.2.2 = 3) (p0 : Nat) (hp0 : xkd p0 = 3) (p1 : Int32) (K : Int32 → xMem → Option (xMem)) (hK : ∀ (v2 : Int32) (M : xMem), K v2 M = some M' → WW X 153 [some (vr X.1 p0), some (.int p1), some (.int v2)] [] M) : ∀ (n : Nat) (v2 : Int32) (M : xMem), fX3_advance_l104 p0 p1 K n v2 M = some M' → WW X 104 [some (vr X.1 p0), some (.int p1), some (.int v2)] [] M := by
  have hn1 : 1 < X.2.2.2.2.2.2.2.2.2.2.2.2.2 := by rw [hnL]; decide
  have hn2 : 2 < X.2.2.2.2.2.2.2.2.2.2.2.2.2 := by rw [hnL]; decide
  intro n
  induction n with
  | zero =>
    intro v2 M h
    cases (show (none : Option (xMem)) = some M' from h)
  | succ n ih =>
    intro v2 M h
    rw [fX3_advance_l104.eq_2] at h
    refine r_iload_n (pc := 104) C dX3_advance_104 rfl rfl ?_
    refine r_iload_n (pc := 105) C dX3_advance_105 rfl rfl ?_
    refine r_icmp_ge (pc := 106) (tgt := 153) C dX3_advance_106 (by decide) h (fun _ h => ?_) (fun _ h => ?_)
    · exact hK v2 M h
    · refine r_aload_n (pc := 109) C dX3_advance_109 rfl rfl ?_
      refine r_getI (pc := 110) C kX3_18 hp0 dX3_advance_110 ?_
      refine r_iconst (pc := 113) (v := (nI 3)) C dX3_advance_113 (by decide) ?_
      refine r_icmp_eq (pc := 114) (tgt := 153) C dX3_advance_114 (by decide) h (fun _ h => ?_) (fun _ h => ?_)
      · exact hK v2 M h
      · refine r_aload_n (pc := 117) C dX3_advance_117 rfl rfl ?_
        refine r_getR (pc := 118) C kX3_41 hp0 (by decide) dX3_advance_118 ?_
        refine r_iload_n (pc := 121) C dX3_advance_121 rfl rfl ?_
        refine r_vI1 (pc := 122) C (fun r M' e => zX6_at X.1 (xrf p0 0) (xtk hp0 (by decide) rfl rfl) v2 M r M' e) (xtk hp0 (by decide) rfl rfl) (by decide) rfl mX6_at lX3_86 (by decide) (Nat.le_of_ble_eq_true rfl) dX3_advance_122 h (fun r19 M20 h => ?_)
        refine r_sI1 (pc := 125) C (fun r M' e => zX3_kindOf X.1 r19 M20 r M' e) mX3_kindOf lX3_89 (by decide) (Nat.le_of_ble_eq_true rfl) dX3_advance_125 h (fun r21 M22 h => ?_)
        refine r_aload_n (pc := 128) C dX3_advance_128 rfl rfl ?_
        refine r_getI (pc := 129) C kX3_18 hp0 dX3_advance_129 ?_
        refine r_icmp_ne (pc := 132) (tgt := 153) C dX3_advance_132 (by decide) h (fun _ h => ?_) (fun _ h => ?_)
        · exact hK v2 M22 h
        · refine r_aload_n (pc := 135) C dX3_advance_135 rfl rfl ?_
          refine r_aload_n (pc := 136) C dX3_advance_136 rfl rfl ?_
          refine r_getR (pc := 137) C kX3_41 hp0 (by decide) dX3_advance_137 ?_
          refine r_iload_n (pc := 140) C dX3_advance_140 rfl rfl ?_
          refine r_vI1 (pc := 141) C (fun r M' e => zX6_at X.1 (xrf p0 0) (xtk hp0 (by decide) rfl rfl) v2 M22 r M' e) (xtk hp0 (by decide) rfl rfl) (by decide) rfl mX6_at lX3_86 (by decide) (Nat.le_of_ble_eq_true rfl) dX3_advance_141 h (fun r23 M24 h => ?_)
          refine r_vV1 (pc := 144) C (fun M' e => zX3_addToValue X.1 p0 hp0 r23 M24 M' e) hp0 (by decide) rfl mX3_addToValue lX3_92 (by decide) (Nat.le_of_ble_eq_true rfl) dX3_advance_144 h (fun M25 h => ?_)
          refine r_iincL (pc := 147) (c := nI 1) C dX3_advance_147 rfl (by decide) hn2 h (fun x26 h => ?_)
          refine r_lvE (lv' := [_, _, _]) rfl ?_
          refine r_goto (pc := 150) (tgt := 104) C dX3_advance_150 (by decide) ?_
          exact ih x26 M25 h
set_option maxRecDepth 100000 in
set_option maxHeartbeats 4000000 in
theorem zX3_advance (G : xGX) (a0 : Nat) (h0 : xkd a0 = 3) (M : xMem) (M' : xMem) (h : fX3_advance a0 M = some M') : xCt G yX3_advance cX3_advance 3 none 2 [vr G a0] M (none, M') := by
  refine xMet (lv := [some (vr G a0), none, none]) (by decide) (Nat.le_of_ble_eq_true rfl) rfl ?_
  intro X hG hnL C R0
  subst hG
  have C : xCk X cX3_advance RX3 2 := C
  have hn1 : 1 < X.2.2.2.2.2.2.2.2.2.2.2.2.2 := by rw [hnL]; decide
  have hn2 : 2 < X.2.2.2.2.2.2.2.2.2.2.2.2.2 := by rw [hnL]; decide
  unfold fX3_advance at h
  refine r_aload_n (pc := 0) C dX3_advance_0 rfl rfl ?_
  refine r_getR (pc := 1) C kX3_41 h0 (by decide) dX3_advance_1 ?_
  refine r_vI0 (pc := 4) C (fun r M' e => zX6_size X.1 (xrf a0 0) (xtk h0 (by decide) rfl rfl) M r M' e) (xtk h0 (by decide) rfl rfl) (by decide) rfl mX6_size lX3_81 (by decide) (Nat.le_of_ble_eq_true rfl) dX3_advance_4 h (fun r1 M2 h => ?_)
  refine r_istore_n (pc := 7) (lv' := [_, _, _]) C dX3_advance_7 rfl hn1 rfl ?_
  refine r_aload_n (pc := 8) C dX3_advance_8 rfl rfl ?_
  refine r_getI (pc := 9) C kX3_25 h0 dX3_advance_9 ?_
  refine r_letI h (fun x3 h => ?_)
  refine r_istore_n (pc := 12) (lv' := [_, _, _]) C dX3_advance_12 rfl hn2 rfl ?_
  refine lX3_advance_13 C R0 hnL a0 h0 r1 _ (fun v10 M11 h => ?_) _ _ _ h
  refine r_aload_n (pc := 50) C dX3_advance_50 rfl rfl ?_
  refine r_iload_n (pc := 51) C dX3_advance_51 rfl rfl ?_
  refine r_putI (pc := 52) C kX3_22 h0 dX3_advance_52 ?_
  refine r_letM h (fun M12 h => ?_)
  refine r_aload_n (pc := 55) C dX3_advance_55 rfl rfl ?_
  refine r_iload_n (pc := 56) C dX3_advance_56 rfl rfl ?_
  refine r_iload_n (pc := 57) C dX3_advance_57 rfl rfl ?_
  refine r_jn (fun J => ∀ (s13 : Int32) (M14 : xMem) , J s13 M14 = some M' → WW X 76 [some (vr X.1 a0), some (.int r1), some (.int v10)] [.int s13, vr X.1 a0] M14) h (fun s13 M14  h => ?_) (fun J76 hJ76 h => ?_)
  · refine r_putI (pc := 76) C kX3_18 h0 dX3_advance_76 ?_
    refine r_letM h (fun M15 h => ?_)
    refine r_aload_n (pc := 79) C dX3_advance_79 rfl rfl ?_
    refine r_aload_n (pc := 80) C dX3_advance_80 rfl rfl ?_
    refine r_getI (pc := 81) C kX3_18 h0 dX3_advance_81 ?_
    refine r_iconst (pc := 84) (v := (nI 3)) C dX3_advance_84 (by decide) ?_
    refine r_jn (fun J => ∀ (s16 : Int64) (M17 : xMem) , J s16 M17 = some M' → WW X 101 [some (vr X.1 a0), some (.int r1), some (.int v10)] [.long s16, vr X.1 a0] M17) h (fun s16 M17  h => ?_) (fun J101 hJ101 h => ?_)
    · refine r_putL (pc := 101) C kX3_28 h0 dX3_advance_101 ?_
      refine r_letM h (fun M18 h => ?_)
      refine lX3_advance_104 C R0 hnL a0 h0 r1 _ (fun v27 M28 h => ?_) _ _ _ h
      refine r_aload_n (pc := 153) C dX3_advance_153 rfl rfl ?_
      refine r_aload_n (pc := 154) C dX3_advance_154 rfl rfl ?_
      refine r_getI (pc := 155) C kX3_18 h0 dX3_advance_155 ?_
      refine r_iconst (pc := 158) (v := (nI 3)) C dX3_advance_158 (by decide) ?_
      refine r_jn (fun J => ∀ (s29 : Int32) (M30 : xMem) , J s29 M30 = some M' → WW X 169 [some (vr X.1 a0), some (.int r1), some (.int v27)] [.int s29, vr X.1 a0] M30) h (fun s29 M30  h => ?_) (fun J169 hJ169 h => ?_)
      · refine r_putI (pc := 169) C kX3_25 h0 dX3_advance_169 ?_
        refine r_letM h (fun M31 h => ?_)
        exact r_vret (pc := 172) C R0 h dX3_advance_172
      refine r_icmp_ne (pc := 159) (tgt := 168) C dX3_advance_159 (by decide) h (fun _ h => ?_) (fun _ h => ?_)
      · refine r_iload_n (pc := 168) C dX3_advance_168 rfl rfl ?_
        exact hJ169 v27 M28  h
      · refine r_iload_n (pc := 162) C dX3_advance_162 rfl rfl ?_
        refine r_iconst (pc := 163) (v := (nI 1)) C dX3_advance_163 (by decide) ?_
        refine r_iadd (pc := 164) C dX3_advance_164 ?_
        refine r_goto (pc := 165) (tgt := 169) C dX3_advance_165 (by decide) ?_
        exact hJ169 (v27 + (nI 1)) M28  h
    refine r_icmp_ne (pc := 85) (tgt := 100) C dX3_advance_85 (by decide) h (fun _ h => ?_) (fun _ h => ?_)
    · refine r_lconst (pc := 100) (v := lN 0) C dX3_advance_100 rfl ?_
      exact hJ101 (lN 0) M15  h
    · refine r_aload_n (pc := 88) C dX3_advance_88 rfl rfl ?_
      refine r_getR (pc := 89) C kX3_41 h0 (by decide) dX3_advance_89 ?_
      refine r_iload_n (pc := 92) C dX3_advance_92 rfl rfl ?_
      refine r_vI1 (pc := 93) C (fun r M' e => zX6_at X.1 (xrf a0 0) (xtk h0 (by decide) rfl rfl) v10 M15 r M' e) (xtk h0 (by decide) rfl rfl) (by decide) rfl mX6_at lX3_86 (by decide) (Nat.le_of_ble_eq_true rfl) dX3_advance_93 h (fun r32 M33 h => ?_)
      refine r_i2l (pc := 96) C dX3_advance_96 ?_
      refine r_goto (pc := 97) (tgt := 101) C dX3_advance_97 (by decide) ?_
      exact hJ101 (Int32.toInt64 r32) M33  h
  refine r_icmp_ge (pc := 58) (tgt := 75) C dX3_advance_58 (by decide) h (fun _ h => ?_) (fun _ h => ?_)
  · refine r_iconst (pc := 75) (v := (nI 0)) C dX3_advance_75 (by decide) ?_
    exact hJ76 (nI 0) M12  h
  · refine r_aload_n (pc := 61) C dX3_advance_61 rfl rfl ?_
    refine r_getR (pc := 62) C kX3_41 h0 (by decide) dX3_advance_62 ?_
    refine r_iload_n (pc := 65) C dX3_advance_65 rfl rfl ?_
    refine r_vI1 (pc := 66) C (fun r M' e => zX6_at X.1 (xrf a0 0) (xtk h0 (by decide) rfl rfl) v10 M12 r M' e) (xtk h0 (by decide) rfl rfl) (by decide) rfl mX6_at lX3_86 (by decide) (Nat.le_of_ble_eq_true rfl) dX3_advance_66 h (fun r34 M35 h => ?_)
    refine r_sI1 (pc := 69) C (fun r M' e => zX3_kindOf X.1 r34 M35 r M' e) mX3_kindOf lX3_89 (by decide) (Nat.le_of_ble_eq_true rfl) dX3_advance_69 h (fun r36 M37 h => ?_)
    refine r_goto (pc := 72) (tgt := 76) C dX3_advance_72 (by decide) ?_
    exact hJ76 r36 M37  h
theorem dX3_word_0 : decode cX3_word 0 = .ok (.aload_n 0, 1) := by decide +kernel
theorem dX3_word_1 : decode cX3_word 1 = .ok (.getfield 18, 3) := by decide +kernel
theorem dX3_word_4 : decode cX3_word 4 = .ok (.iconst 1, 1) := by decide +kernel
theorem dX3_word_5 : decode cX3_word 5 = .ok (.if_icmp .eq 5, 3) := by decide +kernel
theorem dX3_word_8 : decode cX3_word 8 = .ok (.iconst (-1), 1) := by decide +kernel
theorem dX3_word_9 : decode cX3_word 9 = .ok (.ireturn, 1) := by decide +kernel
theorem dX3_word_10 : decode cX3_word 10 = .ok (.iconst 0, 1) := by decide +kernel
theorem dX3_word_11 : decode cX3_word 11 = .ok (.istore_n 1, 1) := by decide +kernel
theorem dX3_word_12 : decode cX3_word 12 = .ok (.lconst 0, 1) := by decide +kernel
theorem dX3_word_13 : decode cX3_word 13 = .ok (.lstore_n 2, 1) := by decide +kernel
theorem dX3_word_14 : decode cX3_word 14 = .ok (.iconst 0, 1) := by decide +kernel
theorem dX3_word_15 : decode cX3_word 15 = .ok (.istore 4, 2) := by decide +kernel
theorem dX3_word_17 : decode cX3_word 17 = .ok (.iload 4, 2) := by decide +kernel
theorem dX3_word_19 : decode cX3_word 19 = .ok (.ldc 102, 2) := by decide +kernel
theorem dX3_word_21 : decode cX3_word 21 = .ok (.invokevirtual 104, 3) := by decide +kernel
theorem dX3_word_24 : decode cX3_word 24 = .ok (.if_icmp .ge 58, 3) := by decide +kernel
theorem dX3_word_27 : decode cX3_word 27 = .ok (.ldc 102, 2) := by decide +kernel
theorem dX3_word_29 : decode cX3_word 29 = .ok (.iload 4, 2) := by decide +kernel
theorem dX3_word_31 : decode cX3_word 31 = .ok (.invokevirtual 109, 3) := by decide +kernel
theorem dX3_word_34 : decode cX3_word 34 = .ok (.bipush 32, 2) := by decide +kernel
theorem dX3_word_36 : decode cX3_word 36 = .ok (.if_icmp .eq 24, 3) := by decide +kernel
theorem dX3_word_39 : decode cX3_word 39 = .ok (.lload_n 2, 1) := by decide +kernel
theorem dX3_word_40 : decode cX3_word 40 = .ok (.iconst 5, 1) := by decide +kernel
theorem dX3_word_41 : decode cX3_word 41 = .ok (.lshl, 1) := by decide +kernel
theorem dX3_word_42 : decode cX3_word 42 = .ok (.ldc 102, 2) := by decide +kernel
theorem dX3_word_44 : decode cX3_word 44 = .ok (.iload 4, 2) := by decide +kernel
theorem dX3_word_46 : decode cX3_word 46 = .ok (.invokevirtual 109, 3) := by decide +kernel
theorem dX3_word_49 : decode cX3_word 49 = .ok (.bipush 97, 2) := by decide +kernel
theorem dX3_word_51 : decode cX3_word 51 = .ok (.isub, 1) := by decide +kernel
theorem dX3_word_52 : decode cX3_word 52 = .ok (.iconst 1, 1) := by decide +kernel
theorem dX3_word_53 : decode cX3_word 53 = .ok (.iadd, 1) := by decide +kernel
theorem dX3_word_54 : decode cX3_word 54 = .ok (.i2l, 1) := by decide +kernel
theorem dX3_word_55 : decode cX3_word 55 = .ok (.lor, 1) := by decide +kernel
theorem dX3_word_56 : decode cX3_word 56 = .ok (.lstore_n 2, 1) := by decide +kernel
theorem dX3_word_57 : decode cX3_word 57 = .ok (.goto 19, 3) := by decide +kernel
theorem dX3_word_60 : decode cX3_word 60 = .ok (.lload_n 2, 1) := by decide +kernel
theorem dX3_word_61 : decode cX3_word 61 = .ok (.aload_n 0, 1) := by decide +kernel
theorem dX3_word_62 : decode cX3_word 62 = .ok (.getfield 28, 3) := by decide +kernel
theorem dX3_word_65 : decode cX3_word 65 = .ok (.lcmp, 1) := by decide +kernel
theorem dX3_word_66 : decode cX3_word 66 = .ok (.ifCond .ne 5, 3) := by decide +kernel
theorem dX3_word_69 : decode cX3_word 69 = .ok (.iload_n 1, 1) := by decide +kernel
theorem dX3_word_70 : decode cX3_word 70 = .ok (.ireturn, 1) := by decide +kernel
theorem dX3_word_71 : decode cX3_word 71 = .ok (.iinc 1 1, 3) := by decide +kernel
theorem dX3_word_74 : decode cX3_word 74 = .ok (.lconst 0, 1) := by decide +kernel
theorem dX3_word_75 : decode cX3_word 75 = .ok (.lstore_n 2, 1) := by decide +kernel
theorem dX3_word_76 : decode cX3_word 76 = .ok (.iinc 4 1, 3) := by decide +kernel
theorem dX3_word_79 : decode cX3_word 79 = .ok (.goto (-62), 3) := by decide +kernel
theorem dX3_word_82 : decode cX3_word 82 = .ok (.iconst (-1), 1) := by decide +kernel
theorem dX3_word_83 : decode cX3_word 83 = .ok (.ireturn, 1) := by decide +kernel
def fX3_word_l17 (p0 : Nat) (K : Int32 → Int64 → Int32 → xMem → Option (Int32 × xMem)) : Nat → Int32 → Int64 → Int32 → xMem → Option (Int32 × xMem)
  | 0, _, _, _, _ => none
  | n + 1, v1, v2, v4, M => if (nI (xsn 0)) ≤ v4 then (K v1 v2 v4 M) else (xGb v4 (xsn 0) (if (xsc 0 (Int32.toNatClampNeg v4)) = (nI 32) then (if (lg_cmp v2 (M.2.1 p0 6)) = 0 then (some (v1, M)) else (xLt (v1 + nI 1) fun x2 => xLt (v4 + nI 1) fun x3 => fX3_word_l17 p0 K n x2 (lN 0) x3 M)) else (xGb v4 (xsn 0) (xLt ((v2 <<< (Int32.toInt64 (nI 5) &&& 63)) ||| (Int32.toInt64 (((xsc 0 (Int32.toNatClampNeg v4)) - (nI 97)) + (nI 1)))) fun x5 => xLt (v4 + nI 1) fun x6 => fX3_word_l17 p0 K n v1 x5 x6 M))))
def fX3_word (a0 : Nat) (M : xMem) : Option (Int32 × xMem) :=
  if (M.1 a0 3) = (nI 1) then (fX3_word_l17 a0 (fun (v7 : Int32) (v8 : Int64) (v9 : Int32) (M10 : xMem) => some ((-1), M10)) xFU (nI 0) (lN 0) (nI 0) M) else (some ((-1), M))
set_option maxRecDepth 100000 in
set_option maxHeartbeats 4000000 in
theorem lX3_word_17 {X : xCX} {r : Int32} {M' : xMem} (C : xCk X cX3_word RX3 5) (R0 : xRk X (some .int) (some (.int r), M')) (hnL : X.2.2.2.2.2.2.2.2.2.2.2.2.2 = 5) (p0 : Nat) (hp0 : xkd p0 = 3) (K : Int32 → Int64 → Int32 → xMem → Option (Int32 × xMem)) (hK : ∀ (v1 : Int32) (v2 : Int64) (v4 : Int32) (M : xMem), K v1 v2 v4 M = some (r, M') → WW X 82 [some (vr X.1 p0), some (.int v1), some (.long v2), none, some (.int v4)] [] M) : ∀ (n : Nat) (v1 : Int32) (v2 : Int64) (v4 : Int32) (M : xMem), fX3_word_l17 p0 K n v1 v2 v4 M = some (r, M') → WW X 17 [some (vr X.1 p0), some (.int v1), some (.long v2), none, some (.int v4)] [] M := by
  have hn1 : 1 < X.2.2.2.2.2.2.2.2.2.2.2.2.2 := by rw [hnL]; decide
  have hn2 : 2 + 1 < X.2.2.2.2.2.2.2.2.2.2.2.2.2 := by rw [hnL]; decide
  have hn4 : 4 < X.2.2.2.2.2.2.2.2.2.2.2.2.2 := by rw [hnL]; decide
  intro n
  induction n with
  | zero =>
    intro v1 v2 v4 M h
    cases (show (none : Option (Int32 × xMem)) = some (r, M') from h)
  | succ n ih =>
    intro v1 v2 v4 M h
    rw [fX3_word_l17.eq_2] at h
    refine r_iload (pc := 17) C dX3_word_17 rfl ?_
    refine r_ldcS (pc := 19) (i := 0) C (by decide) rfl dX3_word_19 ?_
    refine r_slen (pc := 21) C (by decide) lX3_104 (by decide) (Nat.le_of_ble_eq_true rfl) dX3_word_21 ?_
    refine r_icmp_ge (pc := 24) (tgt := 82) C dX3_word_24 (by decide) h (fun _ h => ?_) (fun _ h => ?_)
    · exact hK v1 v2 v4 M h
    · refine r_ldcS (pc := 27) (i := 0) C (by decide) rfl dX3_word_27 ?_
      refine r_iload (pc := 29) C dX3_word_29 rfl ?_
      obtain ⟨g1, h⟩ := xGb_of h
      refine r_schar (pc := 31) C (by decide) g1 lX3_109 (by decide) (Nat.le_of_ble_eq_true rfl) dX3_word_31 ?_
      refine r_bipush (pc := 34) (v := (nI 32)) C dX3_word_34 (by decide) ?_
      refine r_icmp_eq (pc := 36) (tgt := 60) C dX3_word_36 (by decide) h (fun _ h => ?_) (fun _ h => ?_)
      · refine r_lload_n (pc := 60) C dX3_word_60 rfl rfl ?_
        refine r_aload_n (pc := 61) C dX3_word_61 rfl rfl ?_
        refine r_getL (pc := 62) C kX3_28 hp0 dX3_word_62 ?_
        refine r_lcmp (pc := 65) C dX3_word_65 ?_
        refine r_if_ne (pc := 66) (tgt := 71) C dX3_word_66 (by decide) h (fun _ h => ?_) (fun _ h => ?_)
        · refine r_iincL (pc := 71) (c := nI 1) C dX3_word_71 rfl (by decide) hn1 h (fun x2 h => ?_)
          refine r_lvE (lv' := [_, _, _, _, _]) rfl ?_
          refine r_lconst (pc := 74) (v := lN 0) C dX3_word_74 rfl ?_
          refine r_lstore_n (pc := 75) (lv' := [_, _, _, _, _]) C dX3_word_75 rfl hn2 rfl ?_
          refine r_iincL (pc := 76) (c := nI 1) C dX3_word_76 rfl (by decide) hn4 h (fun x3 h => ?_)
          refine r_lvE (lv' := [_, _, _, _, _]) rfl ?_
          refine r_goto (pc := 79) (tgt := 17) C dX3_word_79 (by decide) ?_
          exact ih x2 (lN 0) x3 M h
        · refine r_iload_n (pc := 69) C dX3_word_69 rfl rfl ?_
          exact r_iret (pc := 70) C R0 h dX3_word_70
      · refine r_lload_n (pc := 39) C dX3_word_39 rfl rfl ?_
        refine r_iconst (pc := 40) (v := (nI 5)) C dX3_word_40 (by decide) ?_
        refine r_lshl (pc := 41) C dX3_word_41 ?_
        refine r_ldcS (pc := 42) (i := 0) C (by decide) rfl dX3_word_42 ?_
        refine r_iload (pc := 44) C dX3_word_44 rfl ?_
        obtain ⟨g4, h⟩ := xGb_of h
        refine r_schar (pc := 46) C (by decide) g4 lX3_109 (by decide) (Nat.le_of_ble_eq_true rfl) dX3_word_46 ?_
        refine r_bipush (pc := 49) (v := (nI 97)) C dX3_word_49 (by decide) ?_
        refine r_isub (pc := 51) C dX3_word_51 ?_
        refine r_iconst (pc := 52) (v := (nI 1)) C dX3_word_52 (by decide) ?_
        refine r_iadd (pc := 53) C dX3_word_53 ?_
        refine r_i2l (pc := 54) C dX3_word_54 ?_
        refine r_lor (pc := 55) C dX3_word_55 ?_
        refine r_letL h (fun x5 h => ?_)
        refine r_lstore_n (pc := 56) (lv' := [_, _, _, _, _]) C dX3_word_56 rfl hn2 rfl ?_
        refine r_goto (pc := 57) (tgt := 76) C dX3_word_57 (by decide) ?_
        refine r_iincL (pc := 76) (c := nI 1) C dX3_word_76 rfl (by decide) hn4 h (fun x6 h => ?_)
        refine r_lvE (lv' := [_, _, _, _, _]) rfl ?_
        refine r_goto (pc := 79) (tgt := 17) C dX3_word_79 (by decide) ?_
        exact ih v1 x5 x6 M h
set_option maxRecDepth 100000 in
set_option maxHeartbeats 4000000 in
theorem zX3_word (G : xGX) (a0 : Nat) (h0 : xkd a0 = 3) (M : xMem) (r : Int32) (M' : xMem) (h : fX3_word a0 M = some (r, M')) : xCt G yX3_word cX3_word 5 (some .int) 5 [vr G a0] M (some (.int r), M') := by
  refine xMet (lv := [some (vr G a0), none, none, none, none]) (by decide) (Nat.le_of_ble_eq_true rfl) rfl ?_
  intro X hG hnL C R0
  subst hG
  have C : xCk X cX3_word RX3 5 := C
  have hn1 : 1 < X.2.2.2.2.2.2.2.2.2.2.2.2.2 := by rw [hnL]; decide
  have hn2 : 2 + 1 < X.2.2.2.2.2.2.2.2.2.2.2.2.2 := by rw [hnL]; decide
  have hn4 : 4 < X.2.2.2.2.2.2.2.2.2.2.2.2.2 := by rw [hnL]; decide
  unfold fX3_word at h
  refine r_aload_n (pc := 0) C dX3_word_0 rfl rfl ?_
  refine r_getI (pc := 1) C kX3_18 h0 dX3_word_1 ?_
  refine r_iconst (pc := 4) (v := (nI 1)) C dX3_word_4 (by decide) ?_
  refine r_icmp_eq (pc := 5) (tgt := 10) C dX3_word_5 (by decide) h (fun _ h => ?_) (fun _ h => ?_)
  · refine r_iconst (pc := 10) (v := (nI 0)) C dX3_word_10 (by decide) ?_
    refine r_istore_n (pc := 11) (lv' := [_, _, _, _, _]) C dX3_word_11 rfl hn1 rfl ?_
    refine r_lconst (pc := 12) (v := lN 0) C dX3_word_12 rfl ?_
    refine r_lstore_n (pc := 13) (lv' := [_, _, _, _, _]) C dX3_word_13 rfl hn2 rfl ?_
    refine r_iconst (pc := 14) (v := (nI 0)) C dX3_word_14 (by decide) ?_
    refine r_istore (pc := 15) (lv' := [_, _, _, _, _]) C dX3_word_15 hn4 rfl ?_
    refine lX3_word_17 C R0 hnL a0 h0 _ (fun v7 v8 v9 M10 h => ?_) _ _ _ _ _ h
    refine r_iconst (pc := 82) (v := (-1)) C dX3_word_82 (by decide) ?_
    exact r_iret (pc := 83) C R0 h dX3_word_83
  · refine r_iconst (pc := 8) (v := (-1)) C dX3_word_8 (by decide) ?_
    exact r_iret (pc := 9) C R0 h dX3_word_9
theorem dX3_takeWord_0 : decode cX3_takeWord 0 = .ok (.aload_n 0, 1) := by decide +kernel
theorem dX3_takeWord_1 : decode cX3_takeWord 1 = .ok (.invokevirtual 113, 3) := by decide +kernel
theorem dX3_takeWord_4 : decode cX3_takeWord 4 = .ok (.iload_n 1, 1) := by decide +kernel
theorem dX3_takeWord_5 : decode cX3_takeWord 5 = .ok (.if_icmp .eq 5, 3) := by decide +kernel
theorem dX3_takeWord_8 : decode cX3_takeWord 8 = .ok (.iconst 1, 1) := by decide +kernel
theorem dX3_takeWord_9 : decode cX3_takeWord 9 = .ok (.ireturn, 1) := by decide +kernel
theorem dX3_takeWord_10 : decode cX3_takeWord 10 = .ok (.aload_n 0, 1) := by decide +kernel
theorem dX3_takeWord_11 : decode cX3_takeWord 11 = .ok (.invokevirtual 60, 3) := by decide +kernel
theorem dX3_takeWord_14 : decode cX3_takeWord 14 = .ok (.iconst 0, 1) := by decide +kernel
theorem dX3_takeWord_15 : decode cX3_takeWord 15 = .ok (.ireturn, 1) := by decide +kernel
def fX3_takeWord (a0 : Nat) (a1 : Int32) (M : xMem) : Option (Int32 × xMem) :=
  xBn (fX3_word a0 M) fun r1 M2 => if r1 = a1 then (xBv (fX3_advance a0 M2) fun M3 => some ((nI 0), M3)) else (some ((nI 1), M2))
set_option maxRecDepth 100000 in
set_option maxHeartbeats 4000000 in
theorem zX3_takeWord (G : xGX) (a0 : Nat) (h0 : xkd a0 = 3) (a1 : Int32) (M : xMem) (r : Int32) (M' : xMem) (h : fX3_takeWord a0 a1 M = some (r, M')) : xCt G yX3_takeWord cX3_takeWord 2 (some .int) 6 [vr G a0, .int a1] M (some (.int r), M') := by
  refine xMet (lv := [some (vr G a0), some (.int a1)]) (by decide) (Nat.le_of_ble_eq_true rfl) rfl ?_
  intro X hG hnL C R0
  subst hG
  have C : xCk X cX3_takeWord RX3 6 := C
  unfold fX3_takeWord at h
  refine r_aload_n (pc := 0) C dX3_takeWord_0 rfl rfl ?_
  refine r_vI0 (pc := 1) C (fun r M' e => zX3_word X.1 a0 h0 M r M' e) h0 (by decide) rfl mX3_word lX3_113 (by decide) (Nat.le_of_ble_eq_true rfl) dX3_takeWord_1 h (fun r1 M2 h => ?_)
  refine r_iload_n (pc := 4) C dX3_takeWord_4 rfl rfl ?_
  refine r_icmp_eq (pc := 5) (tgt := 10) C dX3_takeWord_5 (by decide) h (fun _ h => ?_) (fun _ h => ?_)
  · refine r_aload_n (pc := 10) C dX3_takeWord_10 rfl rfl ?_
    refine r_vV0 (pc := 11) C (fun M' e => zX3_advance X.1 a0 h0 M2 M' e) h0 (by decide) rfl mX3_advance lX3_60 (by decide) (Nat.le_of_ble_eq_true rfl) dX3_takeWord_11 h (fun M3 h => ?_)
    refine r_iconst (pc := 14) (v := (nI 0)) C dX3_takeWord_14 (by decide) ?_
    exact r_iret (pc := 15) C R0 h dX3_takeWord_15
  · refine r_iconst (pc := 8) (v := (nI 1)) C dX3_takeWord_8 (by decide) ?_
    exact r_iret (pc := 9) C R0 h dX3_takeWord_9
theorem dX3_isName_0 : decode cX3_isName 0 = .ok (.aload_n 0, 1) := by decide +kernel
theorem dX3_isName_1 : decode cX3_isName 1 = .ok (.getfield 18, 3) := by decide +kernel
theorem dX3_isName_4 : decode cX3_isName 4 = .ok (.iconst 1, 1) := by decide +kernel
theorem dX3_isName_5 : decode cX3_isName 5 = .ok (.if_icmp .ne 29, 3) := by decide +kernel
theorem dX3_isName_8 : decode cX3_isName 8 = .ok (.aload_n 0, 1) := by decide +kernel
theorem dX3_isName_9 : decode cX3_isName 9 = .ok (.getfield 25, 3) := by decide +kernel
theorem dX3_isName_12 : decode cX3_isName 12 = .ok (.aload_n 0, 1) := by decide +kernel
theorem dX3_isName_13 : decode cX3_isName 13 = .ok (.getfield 22, 3) := by decide +kernel
theorem dX3_isName_16 : decode cX3_isName 16 = .ok (.isub, 1) := by decide +kernel
theorem dX3_isName_17 : decode cX3_isName 17 = .ok (.bipush 6, 2) := by decide +kernel
theorem dX3_isName_19 : decode cX3_isName 19 = .ok (.if_icmp .gt 15, 3) := by decide +kernel
theorem dX3_isName_22 : decode cX3_isName 22 = .ok (.aload_n 0, 1) := by decide +kernel
theorem dX3_isName_23 : decode cX3_isName 23 = .ok (.invokevirtual 113, 3) := by decide +kernel
theorem dX3_isName_26 : decode cX3_isName 26 = .ok (.iconst (-1), 1) := by decide +kernel
theorem dX3_isName_27 : decode cX3_isName 27 = .ok (.if_icmp .ne 7, 3) := by decide +kernel
theorem dX3_isName_30 : decode cX3_isName 30 = .ok (.iconst 1, 1) := by decide +kernel
theorem dX3_isName_31 : decode cX3_isName 31 = .ok (.goto 4, 3) := by decide +kernel
theorem dX3_isName_34 : decode cX3_isName 34 = .ok (.iconst 0, 1) := by decide +kernel
theorem dX3_isName_35 : decode cX3_isName 35 = .ok (.ireturn, 1) := by decide +kernel
def fX3_isName (a0 : Nat) (M : xMem) : Option (Int32 × xMem) :=
  if (M.1 a0 3) = (nI 1) then (if (nI 6) < ((M.1 a0 5) - (M.1 a0 4)) then (some ((nI 0), M)) else (xBn (fX3_word a0 M) fun r1 M2 => if r1 = (-1) then (some ((nI 1), M2)) else (some ((nI 0), M2)))) else (some ((nI 0), M))
set_option maxRecDepth 100000 in
set_option maxHeartbeats 4000000 in
theorem zX3_isName (G : xGX) (a0 : Nat) (h0 : xkd a0 = 3) (M : xMem) (r : Int32) (M' : xMem) (h : fX3_isName a0 M = some (r, M')) : xCt G yX3_isName cX3_isName 1 (some .boolean) 6 [vr G a0] M (some (.int r), M') := by
  refine xMet (lv := [some (vr G a0)]) (by decide) (Nat.le_of_ble_eq_true rfl) rfl ?_
  intro X hG hnL C R0
  subst hG
  have C : xCk X cX3_isName RX3 6 := C
  unfold fX3_isName at h
  refine r_aload_n (pc := 0) C dX3_isName_0 rfl rfl ?_
  refine r_getI (pc := 1) C kX3_18 h0 dX3_isName_1 ?_
  refine r_iconst (pc := 4) (v := (nI 1)) C dX3_isName_4 (by decide) ?_
  refine r_icmp_ne (pc := 5) (tgt := 34) C dX3_isName_5 (by decide) h (fun _ h => ?_) (fun _ h => ?_)
  · refine r_iconst (pc := 34) (v := (nI 0)) C dX3_isName_34 (by decide) ?_
    exact r_zret (pc := 35) (Or.inl (by decide)) C R0 h dX3_isName_35
  · refine r_aload_n (pc := 8) C dX3_isName_8 rfl rfl ?_
    refine r_getI (pc := 9) C kX3_25 h0 dX3_isName_9 ?_
    refine r_aload_n (pc := 12) C dX3_isName_12 rfl rfl ?_
    refine r_getI (pc := 13) C kX3_22 h0 dX3_isName_13 ?_
    refine r_isub (pc := 16) C dX3_isName_16 ?_
    refine r_bipush (pc := 17) (v := (nI 6)) C dX3_isName_17 (by decide) ?_
    refine r_icmp_gt (pc := 19) (tgt := 34) C dX3_isName_19 (by decide) h (fun _ h => ?_) (fun _ h => ?_)
    · refine r_iconst (pc := 34) (v := (nI 0)) C dX3_isName_34 (by decide) ?_
      exact r_zret (pc := 35) (Or.inl (by decide)) C R0 h dX3_isName_35
    · refine r_aload_n (pc := 22) C dX3_isName_22 rfl rfl ?_
      refine r_vI0 (pc := 23) C (fun r M' e => zX3_word X.1 a0 h0 M r M' e) h0 (by decide) rfl mX3_word lX3_113 (by decide) (Nat.le_of_ble_eq_true rfl) dX3_isName_23 h (fun r1 M2 h => ?_)
      refine r_iconst (pc := 26) (v := (-1)) C dX3_isName_26 (by decide) ?_
      refine r_icmp_ne (pc := 27) (tgt := 34) C dX3_isName_27 (by decide) h (fun _ h => ?_) (fun _ h => ?_)
      · refine r_iconst (pc := 34) (v := (nI 0)) C dX3_isName_34 (by decide) ?_
        exact r_zret (pc := 35) (Or.inl (by decide)) C R0 h dX3_isName_35
      · refine r_iconst (pc := 30) (v := (nI 1)) C dX3_isName_30 (by decide) ?_
        refine r_goto (pc := 31) (tgt := 35) C dX3_isName_31 (by decide) ?_
        exact r_zret (pc := 35) (Or.inr (by decide)) C R0 h dX3_isName_35
theorem dX3_readNewName_0 : decode cX3_readNewName 0 = .ok (.aload_n 0, 1) := by decide +kernel
theorem dX3_readNewName_1 : decode cX3_readNewName 1 = .ok (.invokevirtual 132, 3) := by decide +kernel
theorem dX3_readNewName_4 : decode cX3_readNewName 4 = .ok (.ifCond .ne 5, 3) := by decide +kernel
theorem dX3_readNewName_7 : decode cX3_readNewName 7 = .ok (.iconst 1, 1) := by decide +kernel
theorem dX3_readNewName_8 : decode cX3_readNewName 8 = .ok (.ireturn, 1) := by decide +kernel
theorem dX3_readNewName_9 : decode cX3_readNewName 9 = .ok (.aload_n 0, 1) := by decide +kernel
theorem dX3_readNewName_10 : decode cX3_readNewName 10 = .ok (.getfield 45, 3) := by decide +kernel
theorem dX3_readNewName_13 : decode cX3_readNewName 13 = .ok (.getfield 49, 3) := by decide +kernel
theorem dX3_readNewName_16 : decode cX3_readNewName 16 = .ok (.getfield 136, 3) := by decide +kernel
theorem dX3_readNewName_19 : decode cX3_readNewName 19 = .ok (.aload_n 0, 1) := by decide +kernel
theorem dX3_readNewName_20 : decode cX3_readNewName 20 = .ok (.getfield 28, 3) := by decide +kernel
theorem dX3_readNewName_23 : decode cX3_readNewName 23 = .ok (.l2i, 1) := by decide +kernel
theorem dX3_readNewName_24 : decode cX3_readNewName 24 = .ok (.invokevirtual 140, 3) := by decide +kernel
theorem dX3_readNewName_27 : decode cX3_readNewName 27 = .ok (.iconst (-1), 1) := by decide +kernel
theorem dX3_readNewName_28 : decode cX3_readNewName 28 = .ok (.if_icmp .eq 5, 3) := by decide +kernel
theorem dX3_readNewName_31 : decode cX3_readNewName 31 = .ok (.iconst 3, 1) := by decide +kernel
theorem dX3_readNewName_32 : decode cX3_readNewName 32 = .ok (.ireturn, 1) := by decide +kernel
theorem dX3_readNewName_33 : decode cX3_readNewName 33 = .ok (.aload_n 0, 1) := by decide +kernel
theorem dX3_readNewName_34 : decode cX3_readNewName 34 = .ok (.getfield 45, 3) := by decide +kernel
theorem dX3_readNewName_37 : decode cX3_readNewName 37 = .ok (.getfield 49, 3) := by decide +kernel
theorem dX3_readNewName_40 : decode cX3_readNewName 40 = .ok (.getfield 136, 3) := by decide +kernel
theorem dX3_readNewName_43 : decode cX3_readNewName 43 = .ok (.getfield 145, 3) := by decide +kernel
theorem dX3_readNewName_46 : decode cX3_readNewName 46 = .ok (.iload_n 1, 1) := by decide +kernel
theorem dX3_readNewName_47 : decode cX3_readNewName 47 = .ok (.aload_n 0, 1) := by decide +kernel
theorem dX3_readNewName_48 : decode cX3_readNewName 48 = .ok (.getfield 28, 3) := by decide +kernel
theorem dX3_readNewName_51 : decode cX3_readNewName 51 = .ok (.l2i, 1) := by decide +kernel
theorem dX3_readNewName_52 : decode cX3_readNewName 52 = .ok (.iastore, 1) := by decide +kernel
theorem dX3_readNewName_53 : decode cX3_readNewName 53 = .ok (.aload_n 0, 1) := by decide +kernel
theorem dX3_readNewName_54 : decode cX3_readNewName 54 = .ok (.invokevirtual 60, 3) := by decide +kernel
theorem dX3_readNewName_57 : decode cX3_readNewName 57 = .ok (.iconst 0, 1) := by decide +kernel
theorem dX3_readNewName_58 : decode cX3_readNewName 58 = .ok (.ireturn, 1) := by decide +kernel
def fX3_readNewName (a0 : Nat) (a1 : Int32) (M : xMem) : Option (Int32 × xMem) :=
  xBn (fX3_isName a0 M) fun r1 M2 => if r1 = 0 then (some ((nI 1), M2)) else (xBn (fX5_teamNamed (xrf (xrf (xrf a0 1) 0) 0) (Int64.toInt32 (M2.2.1 a0 6)) M2) fun r3 M4 => if r3 = (-1) then (xGb a1 (xln (xrf (xrf (xrf (xrf a0 1) 0) 0) 0)) (xLt (xwI M4 (xrf (xrf (xrf (xrf a0 1) 0) 0) 0) (Int32.toNatClampNeg a1) (Int64.toInt32 (M4.2.1 a0 6))) fun M6 => xBv (fX3_advance a0 M6) fun M7 => some ((nI 0), M7))) else (some ((nI 3), M4)))
set_option maxRecDepth 100000 in
set_option maxHeartbeats 4000000 in
theorem zX3_readNewName (G : xGX) (a0 : Nat) (h0 : xkd a0 = 3) (a1 : Int32) (M : xMem) (r : Int32) (M' : xMem) (h : fX3_readNewName a0 a1 M = some (r, M')) : xCt G yX3_readNewName cX3_readNewName 2 (some .int) 7 [vr G a0, .int a1] M (some (.int r), M') := by
  refine xMet (lv := [some (vr G a0), some (.int a1)]) (by decide) (Nat.le_of_ble_eq_true rfl) rfl ?_
  intro X hG hnL C R0
  subst hG
  have C : xCk X cX3_readNewName RX3 7 := C
  unfold fX3_readNewName at h
  refine r_aload_n (pc := 0) C dX3_readNewName_0 rfl rfl ?_
  refine r_vI0 (pc := 1) C (fun r M' e => zX3_isName X.1 a0 h0 M r M' e) h0 (by decide) rfl mX3_isName lX3_132 (by decide) (Nat.le_of_ble_eq_true rfl) dX3_readNewName_1 h (fun r1 M2 h => ?_)
  refine r_if_ne (pc := 4) (tgt := 9) C dX3_readNewName_4 (by decide) h (fun _ h => ?_) (fun _ h => ?_)
  · refine r_aload_n (pc := 9) C dX3_readNewName_9 rfl rfl ?_
    refine r_getR (pc := 10) C kX3_45 h0 (by decide) dX3_readNewName_10 ?_
    refine r_getR (pc := 13) C kX3_49 (xtk h0 (by decide) rfl rfl) (by decide) dX3_readNewName_13 ?_
    refine r_getR (pc := 16) C kX3_136 (xtk (xtk h0 (by decide) rfl rfl) (by decide) rfl rfl) (by decide) dX3_readNewName_16 ?_
    refine r_aload_n (pc := 19) C dX3_readNewName_19 rfl rfl ?_
    refine r_getL (pc := 20) C kX3_28 h0 dX3_readNewName_20 ?_
    refine r_l2i (pc := 23) C dX3_readNewName_23 ?_
    refine r_vI1 (pc := 24) C (fun r M' e => zX5_teamNamed X.1 (xrf (xrf (xrf a0 1) 0) 0) (xtk (xtk (xtk h0 (by decide) rfl rfl) (by decide) rfl rfl) (by decide) rfl rfl) (Int64.toInt32 (M2.2.1 a0 6)) M2 r M' e) (xtk (xtk (xtk h0 (by decide) rfl rfl) (by decide) rfl rfl) (by decide) rfl rfl) (by decide) rfl mX5_teamNamed lX3_140 (by decide) (Nat.le_of_ble_eq_true rfl) dX3_readNewName_24 h (fun r3 M4 h => ?_)
    refine r_iconst (pc := 27) (v := (-1)) C dX3_readNewName_27 (by decide) ?_
    refine r_icmp_eq (pc := 28) (tgt := 33) C dX3_readNewName_28 (by decide) h (fun _ h => ?_) (fun _ h => ?_)
    · refine r_aload_n (pc := 33) C dX3_readNewName_33 rfl rfl ?_
      refine r_getR (pc := 34) C kX3_45 h0 (by decide) dX3_readNewName_34 ?_
      refine r_getR (pc := 37) C kX3_49 (xtk h0 (by decide) rfl rfl) (by decide) dX3_readNewName_37 ?_
      refine r_getR (pc := 40) C kX3_136 (xtk (xtk h0 (by decide) rfl rfl) (by decide) rfl rfl) (by decide) dX3_readNewName_40 ?_
      refine r_getR (pc := 43) C kX3_145 (xtk (xtk (xtk h0 (by decide) rfl rfl) (by decide) rfl rfl) (by decide) rfl rfl) (by decide) dX3_readNewName_43 ?_
      refine r_iload_n (pc := 46) C dX3_readNewName_46 rfl rfl ?_
      refine r_aload_n (pc := 47) C dX3_readNewName_47 rfl rfl ?_
      refine r_getL (pc := 48) C kX3_28 h0 dX3_readNewName_48 ?_
      refine r_l2i (pc := 51) C dX3_readNewName_51 ?_
      obtain ⟨g5, h⟩ := xGb_of h
      refine r_iast (pc := 52) C (xtk (xtk (xtk (xtk h0 (by decide) rfl rfl) (by decide) rfl rfl) (by decide) rfl rfl) (by decide) rfl rfl) g5 dX3_readNewName_52 ?_
      refine r_letM h (fun M6 h => ?_)
      refine r_aload_n (pc := 53) C dX3_readNewName_53 rfl rfl ?_
      refine r_vV0 (pc := 54) C (fun M' e => zX3_advance X.1 a0 h0 M6 M' e) h0 (by decide) rfl mX3_advance lX3_60 (by decide) (Nat.le_of_ble_eq_true rfl) dX3_readNewName_54 h (fun M7 h => ?_)
      refine r_iconst (pc := 57) (v := (nI 0)) C dX3_readNewName_57 (by decide) ?_
      exact r_iret (pc := 58) C R0 h dX3_readNewName_58
    · refine r_iconst (pc := 31) (v := (nI 3)) C dX3_readNewName_31 (by decide) ?_
      exact r_iret (pc := 32) C R0 h dX3_readNewName_32
  · refine r_iconst (pc := 7) (v := (nI 1)) C dX3_readNewName_7 (by decide) ?_
    exact r_iret (pc := 8) C R0 h dX3_readNewName_8
theorem dX3_isSign_0 : decode cX3_isSign 0 = .ok (.aload_n 0, 1) := by decide +kernel
theorem dX3_isSign_1 : decode cX3_isSign 1 = .ok (.getfield 18, 3) := by decide +kernel
theorem dX3_isSign_4 : decode cX3_isSign 4 = .ok (.iconst 3, 1) := by decide +kernel
theorem dX3_isSign_5 : decode cX3_isSign 5 = .ok (.if_icmp .ne 17, 3) := by decide +kernel
theorem dX3_isSign_8 : decode cX3_isSign 8 = .ok (.aload_n 0, 1) := by decide +kernel
theorem dX3_isSign_9 : decode cX3_isSign 9 = .ok (.getfield 28, 3) := by decide +kernel
theorem dX3_isSign_12 : decode cX3_isSign 12 = .ok (.iload_n 1, 1) := by decide +kernel
theorem dX3_isSign_13 : decode cX3_isSign 13 = .ok (.i2l, 1) := by decide +kernel
theorem dX3_isSign_14 : decode cX3_isSign 14 = .ok (.lcmp, 1) := by decide +kernel
theorem dX3_isSign_15 : decode cX3_isSign 15 = .ok (.ifCond .ne 7, 3) := by decide +kernel
theorem dX3_isSign_18 : decode cX3_isSign 18 = .ok (.iconst 1, 1) := by decide +kernel
theorem dX3_isSign_19 : decode cX3_isSign 19 = .ok (.goto 4, 3) := by decide +kernel
theorem dX3_isSign_22 : decode cX3_isSign 22 = .ok (.iconst 0, 1) := by decide +kernel
theorem dX3_isSign_23 : decode cX3_isSign 23 = .ok (.ireturn, 1) := by decide +kernel
def fX3_isSign (a0 : Nat) (a1 : Int32) (M : xMem) : Option (Int32 × xMem) :=
  if (M.1 a0 3) = (nI 3) then (if (lg_cmp (M.2.1 a0 6) (Int32.toInt64 a1)) = 0 then (some ((nI 1), M)) else (some ((nI 0), M))) else (some ((nI 0), M))
set_option maxRecDepth 100000 in
set_option maxHeartbeats 4000000 in
theorem zX3_isSign (G : xGX) (a0 : Nat) (h0 : xkd a0 = 3) (a1 : Int32) (M : xMem) (r : Int32) (M' : xMem) (h : fX3_isSign a0 a1 M = some (r, M')) : xCt G yX3_isSign cX3_isSign 2 (some .boolean) 1 [vr G a0, .int a1] M (some (.int r), M') := by
  refine xMet (lv := [some (vr G a0), some (.int a1)]) (by decide) (Nat.le_of_ble_eq_true rfl) rfl ?_
  intro X hG hnL C R0
  subst hG
  have C : xCk X cX3_isSign RX3 1 := C
  unfold fX3_isSign at h
  refine r_aload_n (pc := 0) C dX3_isSign_0 rfl rfl ?_
  refine r_getI (pc := 1) C kX3_18 h0 dX3_isSign_1 ?_
  refine r_iconst (pc := 4) (v := (nI 3)) C dX3_isSign_4 (by decide) ?_
  refine r_icmp_ne (pc := 5) (tgt := 22) C dX3_isSign_5 (by decide) h (fun _ h => ?_) (fun _ h => ?_)
  · refine r_iconst (pc := 22) (v := (nI 0)) C dX3_isSign_22 (by decide) ?_
    exact r_zret (pc := 23) (Or.inl (by decide)) C R0 h dX3_isSign_23
  · refine r_aload_n (pc := 8) C dX3_isSign_8 rfl rfl ?_
    refine r_getL (pc := 9) C kX3_28 h0 dX3_isSign_9 ?_
    refine r_iload_n (pc := 12) C dX3_isSign_12 rfl rfl ?_
    refine r_i2l (pc := 13) C dX3_isSign_13 ?_
    refine r_lcmp (pc := 14) C dX3_isSign_14 ?_
    refine r_if_ne (pc := 15) (tgt := 22) C dX3_isSign_15 (by decide) h (fun _ h => ?_) (fun _ h => ?_)
    · refine r_iconst (pc := 22) (v := (nI 0)) C dX3_isSign_22 (by decide) ?_
      exact r_zret (pc := 23) (Or.inl (by decide)) C R0 h dX3_isSign_23
    · refine r_iconst (pc := 18) (v := (nI 1)) C dX3_isSign_18 (by decide) ?_
      refine r_goto (pc := 19) (tgt := 23) C dX3_isSign_19 (by decide) ?_
      exact r_zret (pc := 23) (Or.inr (by decide)) C R0 h dX3_isSign_23
theorem dX3_takeSign_0 : decode cX3_takeSign 0 = .ok (.aload_n 0, 1) := by decide +kernel
theorem dX3_takeSign_1 : decode cX3_takeSign 1 = .ok (.iload_n 1, 1) := by decide +kernel
theorem dX3_takeSign_2 : decode cX3_takeSign 2 = .ok (.invokevirtual 116, 3) := by decide +kernel
theorem dX3_takeSign_5 : decode cX3_takeSign 5 = .ok (.ifCond .ne 5, 3) := by decide +kernel
theorem dX3_takeSign_8 : decode cX3_takeSign 8 = .ok (.iconst 1, 1) := by decide +kernel
theorem dX3_takeSign_9 : decode cX3_takeSign 9 = .ok (.ireturn, 1) := by decide +kernel
theorem dX3_takeSign_10 : decode cX3_takeSign 10 = .ok (.aload_n 0, 1) := by decide +kernel
theorem dX3_takeSign_11 : decode cX3_takeSign 11 = .ok (.invokevirtual 60, 3) := by decide +kernel
theorem dX3_takeSign_14 : decode cX3_takeSign 14 = .ok (.iconst 0, 1) := by decide +kernel
theorem dX3_takeSign_15 : decode cX3_takeSign 15 = .ok (.ireturn, 1) := by decide +kernel
def fX3_takeSign (a0 : Nat) (a1 : Int32) (M : xMem) : Option (Int32 × xMem) :=
  xBn (fX3_isSign a0 a1 M) fun r1 M2 => if r1 = 0 then (some ((nI 1), M2)) else (xBv (fX3_advance a0 M2) fun M3 => some ((nI 0), M3))
set_option maxRecDepth 100000 in
set_option maxHeartbeats 4000000 in
theorem zX3_takeSign (G : xGX) (a0 : Nat) (h0 : xkd a0 = 3) (a1 : Int32) (M : xMem) (r : Int32) (M' : xMem) (h : fX3_takeSign a0 a1 M = some (r, M')) : xCt G yX3_takeSign cX3_takeSign 2 (some .int) 3 [vr G a0, .int a1] M (some (.int r), M') := by
  refine xMet (lv := [some (vr G a0), some (.int a1)]) (by decide) (Nat.le_of_ble_eq_true rfl) rfl ?_
  intro X hG hnL C R0
  subst hG
  have C : xCk X cX3_takeSign RX3 3 := C
  unfold fX3_takeSign at h
  refine r_aload_n (pc := 0) C dX3_takeSign_0 rfl rfl ?_
  refine r_iload_n (pc := 1) C dX3_takeSign_1 rfl rfl ?_
  refine r_vI1 (pc := 2) C (fun r M' e => zX3_isSign X.1 a0 h0 a1 M r M' e) h0 (by decide) rfl mX3_isSign lX3_116 (by decide) (Nat.le_of_ble_eq_true rfl) dX3_takeSign_2 h (fun r1 M2 h => ?_)
  refine r_if_ne (pc := 5) (tgt := 10) C dX3_takeSign_5 (by decide) h (fun _ h => ?_) (fun _ h => ?_)
  · refine r_aload_n (pc := 10) C dX3_takeSign_10 rfl rfl ?_
    refine r_vV0 (pc := 11) C (fun M' e => zX3_advance X.1 a0 h0 M2 M' e) h0 (by decide) rfl mX3_advance lX3_60 (by decide) (Nat.le_of_ble_eq_true rfl) dX3_takeSign_11 h (fun M3 h => ?_)
    refine r_iconst (pc := 14) (v := (nI 0)) C dX3_takeSign_14 (by decide) ?_
    exact r_iret (pc := 15) C R0 h dX3_takeSign_15
  · refine r_iconst (pc := 8) (v := (nI 1)) C dX3_takeSign_8 (by decide) ?_
    exact r_iret (pc := 9) C R0 h dX3_takeSign_9
theorem dX10_isWithin_0 : decode cX10_isWithin 0 = .ok (.iload_n 0, 1) := by decide +kernel
theorem dX10_isWithin_1 : decode cX10_isWithin 1 = .ok (.iload_n 1, 1) := by decide +kernel
theorem dX10_isWithin_2 : decode cX10_isWithin 2 = .ok (.if_icmp .lt 12, 3) := by decide +kernel
theorem dX10_isWithin_5 : decode cX10_isWithin 5 = .ok (.iload_n 0, 1) := by decide +kernel
theorem dX10_isWithin_6 : decode cX10_isWithin 6 = .ok (.iload_n 2, 1) := by decide +kernel
theorem dX10_isWithin_7 : decode cX10_isWithin 7 = .ok (.if_icmp .gt 7, 3) := by decide +kernel
theorem dX10_isWithin_10 : decode cX10_isWithin 10 = .ok (.iconst 1, 1) := by decide +kernel
theorem dX10_isWithin_11 : decode cX10_isWithin 11 = .ok (.goto 4, 3) := by decide +kernel
theorem dX10_isWithin_14 : decode cX10_isWithin 14 = .ok (.iconst 0, 1) := by decide +kernel
theorem dX10_isWithin_15 : decode cX10_isWithin 15 = .ok (.ireturn, 1) := by decide +kernel
def fX10_isWithin (a0 : Int32) (a1 : Int32) (a2 : Int32) (M : xMem) : Option (Int32 × xMem) :=
  if a0 < a1 then (some ((nI 0), M)) else (if a2 < a0 then (some ((nI 0), M)) else (some ((nI 1), M)))
set_option maxRecDepth 100000 in
set_option maxHeartbeats 4000000 in
theorem zX10_isWithin (G : xGX) (a0 : Int32) (a1 : Int32) (a2 : Int32) (M : xMem) (r : Int32) (M' : xMem) (h : fX10_isWithin a0 a1 a2 M = some (r, M')) : xCt G yX10_isWithin cX10_isWithin 3 (some .boolean) 1 [.int a0, .int a1, .int a2] M (some (.int r), M') := by
  refine xMet (lv := [some (.int a0), some (.int a1), some (.int a2)]) (by decide) (Nat.le_of_ble_eq_true rfl) rfl ?_
  intro X hG hnL C R0
  subst hG
  have C : xCk X cX10_isWithin RX10 1 := C
  unfold fX10_isWithin at h
  refine r_iload_n (pc := 0) C dX10_isWithin_0 rfl rfl ?_
  refine r_iload_n (pc := 1) C dX10_isWithin_1 rfl rfl ?_
  refine r_icmp_lt (pc := 2) (tgt := 14) C dX10_isWithin_2 (by decide) h (fun _ h => ?_) (fun _ h => ?_)
  · refine r_iconst (pc := 14) (v := (nI 0)) C dX10_isWithin_14 (by decide) ?_
    exact r_zret (pc := 15) (Or.inl (by decide)) C R0 h dX10_isWithin_15
  · refine r_iload_n (pc := 5) C dX10_isWithin_5 rfl rfl ?_
    refine r_iload_n (pc := 6) C dX10_isWithin_6 rfl rfl ?_
    refine r_icmp_gt (pc := 7) (tgt := 14) C dX10_isWithin_7 (by decide) h (fun _ h => ?_) (fun _ h => ?_)
    · refine r_iconst (pc := 14) (v := (nI 0)) C dX10_isWithin_14 (by decide) ?_
      exact r_zret (pc := 15) (Or.inl (by decide)) C R0 h dX10_isWithin_15
    · refine r_iconst (pc := 10) (v := (nI 1)) C dX10_isWithin_10 (by decide) ?_
      refine r_goto (pc := 11) (tgt := 15) C dX10_isWithin_11 (by decide) ?_
      exact r_zret (pc := 15) (Or.inr (by decide)) C R0 h dX10_isWithin_15
theorem dX3_checkShirt_0 : decode cX3_checkShirt 0 = .ok (.aload_n 0, 1) := by decide +kernel
theorem dX3_checkShirt_1 : decode cX3_checkShirt 1 = .ok (.getfield 18, 3) := by decide +kernel
theorem dX3_checkShirt_4 : decode cX3_checkShirt 4 = .ok (.iconst 2, 1) := by decide +kernel
theorem dX3_checkShirt_5 : decode cX3_checkShirt 5 = .ok (.if_icmp .eq 5, 3) := by decide +kernel
theorem dX3_checkShirt_8 : decode cX3_checkShirt 8 = .ok (.iconst 1, 1) := by decide +kernel
theorem dX3_checkShirt_9 : decode cX3_checkShirt 9 = .ok (.ireturn, 1) := by decide +kernel
theorem dX3_checkShirt_10 : decode cX3_checkShirt 10 = .ok (.aload_n 0, 1) := by decide +kernel
theorem dX3_checkShirt_11 : decode cX3_checkShirt 11 = .ok (.getfield 28, 3) := by decide +kernel
theorem dX3_checkShirt_14 : decode cX3_checkShirt 14 = .ok (.l2i, 1) := by decide +kernel
theorem dX3_checkShirt_15 : decode cX3_checkShirt 15 = .ok (.istore_n 2, 1) := by decide +kernel
theorem dX3_checkShirt_16 : decode cX3_checkShirt 16 = .ok (.iload_n 2, 1) := by decide +kernel
theorem dX3_checkShirt_17 : decode cX3_checkShirt 17 = .ok (.iconst 1, 1) := by decide +kernel
theorem dX3_checkShirt_18 : decode cX3_checkShirt 18 = .ok (.bipush 99, 2) := by decide +kernel
theorem dX3_checkShirt_20 : decode cX3_checkShirt 20 = .ok (.invokestatic 160, 3) := by decide +kernel
theorem dX3_checkShirt_23 : decode cX3_checkShirt 23 = .ok (.ifCond .ne 5, 3) := by decide +kernel
theorem dX3_checkShirt_26 : decode cX3_checkShirt 26 = .ok (.iconst 2, 1) := by decide +kernel
theorem dX3_checkShirt_27 : decode cX3_checkShirt 27 = .ok (.ireturn, 1) := by decide +kernel
theorem dX3_checkShirt_28 : decode cX3_checkShirt 28 = .ok (.aload_n 0, 1) := by decide +kernel
theorem dX3_checkShirt_29 : decode cX3_checkShirt 29 = .ok (.aload_n 0, 1) := by decide +kernel
theorem dX3_checkShirt_30 : decode cX3_checkShirt 30 = .ok (.getfield 45, 3) := by decide +kernel
theorem dX3_checkShirt_33 : decode cX3_checkShirt 33 = .ok (.getfield 49, 3) := by decide +kernel
theorem dX3_checkShirt_36 : decode cX3_checkShirt 36 = .ok (.getfield 136, 3) := by decide +kernel
theorem dX3_checkShirt_39 : decode cX3_checkShirt 39 = .ok (.iload_n 1, 1) := by decide +kernel
theorem dX3_checkShirt_40 : decode cX3_checkShirt 40 = .ok (.iload_n 2, 1) := by decide +kernel
theorem dX3_checkShirt_41 : decode cX3_checkShirt 41 = .ok (.invokevirtual 185, 3) := by decide +kernel
theorem dX3_checkShirt_44 : decode cX3_checkShirt 44 = .ok (.putfield 35, 3) := by decide +kernel
theorem dX3_checkShirt_47 : decode cX3_checkShirt 47 = .ok (.aload_n 0, 1) := by decide +kernel
theorem dX3_checkShirt_48 : decode cX3_checkShirt 48 = .ok (.getfield 35, 3) := by decide +kernel
theorem dX3_checkShirt_51 : decode cX3_checkShirt 51 = .ok (.iconst (-1), 1) := by decide +kernel
theorem dX3_checkShirt_52 : decode cX3_checkShirt 52 = .ok (.if_icmp .ne 7, 3) := by decide +kernel
theorem dX3_checkShirt_55 : decode cX3_checkShirt 55 = .ok (.iconst 4, 1) := by decide +kernel
theorem dX3_checkShirt_56 : decode cX3_checkShirt 56 = .ok (.goto 4, 3) := by decide +kernel
theorem dX3_checkShirt_59 : decode cX3_checkShirt 59 = .ok (.iconst 0, 1) := by decide +kernel
theorem dX3_checkShirt_60 : decode cX3_checkShirt 60 = .ok (.ireturn, 1) := by decide +kernel
def fX3_checkShirt (a0 : Nat) (a1 : Int32) (M : xMem) : Option (Int32 × xMem) :=
  if (M.1 a0 3) = (nI 2) then (xLt (Int64.toInt32 (M.2.1 a0 6)) fun x1 => xBn (fX10_isWithin x1 (nI 1) (nI 99) M) fun r2 M3 => if r2 = 0 then (some ((nI 2), M3)) else (xBn (fX5_playerWith (xrf (xrf (xrf a0 1) 0) 0) a1 x1 M3) fun r4 M5 => xLt (xwI M5 a0 8 r4) fun M6 => if (M6.1 a0 8) = (-1) then (some ((nI 4), M6)) else (some ((nI 0), M6)))) else (some ((nI 1), M))
set_option maxRecDepth 100000 in
set_option maxHeartbeats 4000000 in
theorem zX3_checkShirt (G : xGX) (a0 : Nat) (h0 : xkd a0 = 3) (a1 : Int32) (M : xMem) (r : Int32) (M' : xMem) (h : fX3_checkShirt a0 a1 M = some (r, M')) : xCt G yX3_checkShirt cX3_checkShirt 3 (some .int) 2 [vr G a0, .int a1] M (some (.int r), M') := by
  refine xMet (lv := [some (vr G a0), some (.int a1), none]) (by decide) (Nat.le_of_ble_eq_true rfl) rfl ?_
  intro X hG hnL C R0
  subst hG
  have C : xCk X cX3_checkShirt RX3 2 := C
  have hn2 : 2 < X.2.2.2.2.2.2.2.2.2.2.2.2.2 := by rw [hnL]; decide
  unfold fX3_checkShirt at h
  refine r_aload_n (pc := 0) C dX3_checkShirt_0 rfl rfl ?_
  refine r_getI (pc := 1) C kX3_18 h0 dX3_checkShirt_1 ?_
  refine r_iconst (pc := 4) (v := (nI 2)) C dX3_checkShirt_4 (by decide) ?_
  refine r_icmp_eq (pc := 5) (tgt := 10) C dX3_checkShirt_5 (by decide) h (fun _ h => ?_) (fun _ h => ?_)
  · refine r_aload_n (pc := 10) C dX3_checkShirt_10 rfl rfl ?_
    refine r_getL (pc := 11) C kX3_28 h0 dX3_checkShirt_11 ?_
    refine r_l2i (pc := 14) C dX3_checkShirt_14 ?_
    refine r_letI h (fun x1 h => ?_)
    refine r_istore_n (pc := 15) (lv' := [_, _, _]) C dX3_checkShirt_15 rfl hn2 rfl ?_
    refine r_iload_n (pc := 16) C dX3_checkShirt_16 rfl rfl ?_
    refine r_iconst (pc := 17) (v := (nI 1)) C dX3_checkShirt_17 (by decide) ?_
    refine r_bipush (pc := 18) (v := (nI 99)) C dX3_checkShirt_18 (by decide) ?_
    refine r_sI3 (pc := 20) C (fun r M' e => zX10_isWithin X.1 x1 (nI 1) (nI 99) M r M' e) mX10_isWithin lX3_160 (by decide) (Nat.le_of_ble_eq_true rfl) dX3_checkShirt_20 h (fun r2 M3 h => ?_)
    refine r_if_ne (pc := 23) (tgt := 28) C dX3_checkShirt_23 (by decide) h (fun _ h => ?_) (fun _ h => ?_)
    · refine r_aload_n (pc := 28) C dX3_checkShirt_28 rfl rfl ?_
      refine r_aload_n (pc := 29) C dX3_checkShirt_29 rfl rfl ?_
      refine r_getR (pc := 30) C kX3_45 h0 (by decide) dX3_checkShirt_30 ?_
      refine r_getR (pc := 33) C kX3_49 (xtk h0 (by decide) rfl rfl) (by decide) dX3_checkShirt_33 ?_
      refine r_getR (pc := 36) C kX3_136 (xtk (xtk h0 (by decide) rfl rfl) (by decide) rfl rfl) (by decide) dX3_checkShirt_36 ?_
      refine r_iload_n (pc := 39) C dX3_checkShirt_39 rfl rfl ?_
      refine r_iload_n (pc := 40) C dX3_checkShirt_40 rfl rfl ?_
      refine r_vI2 (pc := 41) C (fun r M' e => zX5_playerWith X.1 (xrf (xrf (xrf a0 1) 0) 0) (xtk (xtk (xtk h0 (by decide) rfl rfl) (by decide) rfl rfl) (by decide) rfl rfl) a1 x1 M3 r M' e) (xtk (xtk (xtk h0 (by decide) rfl rfl) (by decide) rfl rfl) (by decide) rfl rfl) (by decide) rfl mX5_playerWith lX3_185 (by decide) (Nat.le_of_ble_eq_true rfl) dX3_checkShirt_41 h (fun r4 M5 h => ?_)
      refine r_putI (pc := 44) C kX3_35 h0 dX3_checkShirt_44 ?_
      refine r_letM h (fun M6 h => ?_)
      refine r_aload_n (pc := 47) C dX3_checkShirt_47 rfl rfl ?_
      refine r_getI (pc := 48) C kX3_35 h0 dX3_checkShirt_48 ?_
      refine r_iconst (pc := 51) (v := (-1)) C dX3_checkShirt_51 (by decide) ?_
      refine r_icmp_ne (pc := 52) (tgt := 59) C dX3_checkShirt_52 (by decide) h (fun _ h => ?_) (fun _ h => ?_)
      · refine r_iconst (pc := 59) (v := (nI 0)) C dX3_checkShirt_59 (by decide) ?_
        exact r_iret (pc := 60) C R0 h dX3_checkShirt_60
      · refine r_iconst (pc := 55) (v := (nI 4)) C dX3_checkShirt_55 (by decide) ?_
        refine r_goto (pc := 56) (tgt := 60) C dX3_checkShirt_56 (by decide) ?_
        exact r_iret (pc := 60) C R0 h dX3_checkShirt_60
    · refine r_iconst (pc := 26) (v := (nI 2)) C dX3_checkShirt_26 (by decide) ?_
      exact r_iret (pc := 27) C R0 h dX3_checkShirt_27
  · refine r_iconst (pc := 8) (v := (nI 1)) C dX3_checkShirt_8 (by decide) ?_
    exact r_iret (pc := 9) C R0 h dX3_checkShirt_9
theorem dX3_readNewShirt_0 : decode cX3_readNewShirt 0 = .ok (.aload_n 0, 1) := by decide +kernel
theorem dX3_readNewShirt_1 : decode cX3_readNewShirt 1 = .ok (.iload_n 1, 1) := by decide +kernel
theorem dX3_readNewShirt_2 : decode cX3_readNewShirt 2 = .ok (.invokevirtual 153, 3) := by decide +kernel
theorem dX3_readNewShirt_5 : decode cX3_readNewShirt 5 = .ok (.istore_n 3, 1) := by decide +kernel
theorem dX3_readNewShirt_6 : decode cX3_readNewShirt 6 = .ok (.iload_n 3, 1) := by decide +kernel
theorem dX3_readNewShirt_7 : decode cX3_readNewShirt 7 = .ok (.ifCond .ne 5, 3) := by decide +kernel
theorem dX3_readNewShirt_10 : decode cX3_readNewShirt 10 = .ok (.iconst 3, 1) := by decide +kernel
theorem dX3_readNewShirt_11 : decode cX3_readNewShirt 11 = .ok (.ireturn, 1) := by decide +kernel
theorem dX3_readNewShirt_12 : decode cX3_readNewShirt 12 = .ok (.iload_n 3, 1) := by decide +kernel
theorem dX3_readNewShirt_13 : decode cX3_readNewShirt 13 = .ok (.iconst 4, 1) := by decide +kernel
theorem dX3_readNewShirt_14 : decode cX3_readNewShirt 14 = .ok (.if_icmp .eq 5, 3) := by decide +kernel
theorem dX3_readNewShirt_17 : decode cX3_readNewShirt 17 = .ok (.iload_n 3, 1) := by decide +kernel
theorem dX3_readNewShirt_18 : decode cX3_readNewShirt 18 = .ok (.ireturn, 1) := by decide +kernel
theorem dX3_readNewShirt_19 : decode cX3_readNewShirt 19 = .ok (.iload_n 2, 1) := by decide +kernel
theorem dX3_readNewShirt_20 : decode cX3_readNewShirt 20 = .ok (.bipush 10, 2) := by decide +kernel
theorem dX3_readNewShirt_22 : decode cX3_readNewShirt 22 = .ok (.if_icmp .lt 6, 3) := by decide +kernel
theorem dX3_readNewShirt_25 : decode cX3_readNewShirt 25 = .ok (.bipush 6, 2) := by decide +kernel
theorem dX3_readNewShirt_27 : decode cX3_readNewShirt 27 = .ok (.ireturn, 1) := by decide +kernel
theorem dX3_readNewShirt_28 : decode cX3_readNewShirt 28 = .ok (.aload_n 0, 1) := by decide +kernel
theorem dX3_readNewShirt_29 : decode cX3_readNewShirt 29 = .ok (.getfield 45, 3) := by decide +kernel
theorem dX3_readNewShirt_32 : decode cX3_readNewShirt 32 = .ok (.getfield 49, 3) := by decide +kernel
theorem dX3_readNewShirt_35 : decode cX3_readNewShirt 35 = .ok (.getfield 136, 3) := by decide +kernel
theorem dX3_readNewShirt_38 : decode cX3_readNewShirt 38 = .ok (.iload_n 1, 1) := by decide +kernel
theorem dX3_readNewShirt_39 : decode cX3_readNewShirt 39 = .ok (.aload_n 0, 1) := by decide +kernel
theorem dX3_readNewShirt_40 : decode cX3_readNewShirt 40 = .ok (.getfield 28, 3) := by decide +kernel
theorem dX3_readNewShirt_43 : decode cX3_readNewShirt 43 = .ok (.l2i, 1) := by decide +kernel
theorem dX3_readNewShirt_44 : decode cX3_readNewShirt 44 = .ok (.invokevirtual 156, 3) := by decide +kernel
theorem dX3_readNewShirt_47 : decode cX3_readNewShirt 47 = .ok (.aload_n 0, 1) := by decide +kernel
theorem dX3_readNewShirt_48 : decode cX3_readNewShirt 48 = .ok (.invokevirtual 60, 3) := by decide +kernel
theorem dX3_readNewShirt_51 : decode cX3_readNewShirt 51 = .ok (.iconst 0, 1) := by decide +kernel
theorem dX3_readNewShirt_52 : decode cX3_readNewShirt 52 = .ok (.ireturn, 1) := by decide +kernel
def fX3_readNewShirt (a0 : Nat) (a1 : Int32) (a2 : Int32) (M : xMem) : Option (Int32 × xMem) :=
  xBn (fX3_checkShirt a0 a1 M) fun r1 M2 => if r1 = 0 then (some ((nI 3), M2)) else (if r1 = (nI 4) then (if a2 < (nI 10) then (xBv (fX5_addPlayer (xrf (xrf (xrf a0 1) 0) 0) a1 (Int64.toInt32 (M2.2.1 a0 6)) M2) fun M3 => xBv (fX3_advance a0 M3) fun M4 => some ((nI 0), M4)) else (some ((nI 6), M2))) else (some (r1, M2)))
set_option maxRecDepth 100000 in
set_option maxHeartbeats 4000000 in
theorem zX3_readNewShirt (G : xGX) (a0 : Nat) (h0 : xkd a0 = 3) (a1 : Int32) (a2 : Int32) (M : xMem) (r : Int32) (M' : xMem) (h : fX3_readNewShirt a0 a1 a2 M = some (r, M')) : xCt G yX3_readNewShirt cX3_readNewShirt 4 (some .int) 3 [vr G a0, .int a1, .int a2] M (some (.int r), M') := by
  refine xMet (lv := [some (vr G a0), some (.int a1), some (.int a2), none]) (by decide) (Nat.le_of_ble_eq_true rfl) rfl ?_
  intro X hG hnL C R0
  subst hG
  have C : xCk X cX3_readNewShirt RX3 3 := C
  have hn3 : 3 < X.2.2.2.2.2.2.2.2.2.2.2.2.2 := by rw [hnL]; decide
  unfold fX3_readNewShirt at h
  refine r_aload_n (pc := 0) C dX3_readNewShirt_0 rfl rfl ?_
  refine r_iload_n (pc := 1) C dX3_readNewShirt_1 rfl rfl ?_
  refine r_vI1 (pc := 2) C (fun r M' e => zX3_checkShirt X.1 a0 h0 a1 M r M' e) h0 (by decide) rfl mX3_checkShirt lX3_153 (by decide) (Nat.le_of_ble_eq_true rfl) dX3_readNewShirt_2 h (fun r1 M2 h => ?_)
  refine r_istore_n (pc := 5) (lv' := [_, _, _, _]) C dX3_readNewShirt_5 rfl hn3 rfl ?_
  refine r_iload_n (pc := 6) C dX3_readNewShirt_6 rfl rfl ?_
  refine r_if_ne (pc := 7) (tgt := 12) C dX3_readNewShirt_7 (by decide) h (fun _ h => ?_) (fun _ h => ?_)
  · refine r_iload_n (pc := 12) C dX3_readNewShirt_12 rfl rfl ?_
    refine r_iconst (pc := 13) (v := (nI 4)) C dX3_readNewShirt_13 (by decide) ?_
    refine r_icmp_eq (pc := 14) (tgt := 19) C dX3_readNewShirt_14 (by decide) h (fun _ h => ?_) (fun _ h => ?_)
    · refine r_iload_n (pc := 19) C dX3_readNewShirt_19 rfl rfl ?_
      refine r_bipush (pc := 20) (v := (nI 10)) C dX3_readNewShirt_20 (by decide) ?_
      refine r_icmp_lt (pc := 22) (tgt := 28) C dX3_readNewShirt_22 (by decide) h (fun _ h => ?_) (fun _ h => ?_)
      · refine r_aload_n (pc := 28) C dX3_readNewShirt_28 rfl rfl ?_
        refine r_getR (pc := 29) C kX3_45 h0 (by decide) dX3_readNewShirt_29 ?_
        refine r_getR (pc := 32) C kX3_49 (xtk h0 (by decide) rfl rfl) (by decide) dX3_readNewShirt_32 ?_
        refine r_getR (pc := 35) C kX3_136 (xtk (xtk h0 (by decide) rfl rfl) (by decide) rfl rfl) (by decide) dX3_readNewShirt_35 ?_
        refine r_iload_n (pc := 38) C dX3_readNewShirt_38 rfl rfl ?_
        refine r_aload_n (pc := 39) C dX3_readNewShirt_39 rfl rfl ?_
        refine r_getL (pc := 40) C kX3_28 h0 dX3_readNewShirt_40 ?_
        refine r_l2i (pc := 43) C dX3_readNewShirt_43 ?_
        refine r_vV2 (pc := 44) C (fun M' e => zX5_addPlayer X.1 (xrf (xrf (xrf a0 1) 0) 0) (xtk (xtk (xtk h0 (by decide) rfl rfl) (by decide) rfl rfl) (by decide) rfl rfl) a1 (Int64.toInt32 (M2.2.1 a0 6)) M2 M' e) (xtk (xtk (xtk h0 (by decide) rfl rfl) (by decide) rfl rfl) (by decide) rfl rfl) (by decide) rfl mX5_addPlayer lX3_156 (by decide) (Nat.le_of_ble_eq_true rfl) dX3_readNewShirt_44 h (fun M3 h => ?_)
        refine r_aload_n (pc := 47) C dX3_readNewShirt_47 rfl rfl ?_
        refine r_vV0 (pc := 48) C (fun M' e => zX3_advance X.1 a0 h0 M3 M' e) h0 (by decide) rfl mX3_advance lX3_60 (by decide) (Nat.le_of_ble_eq_true rfl) dX3_readNewShirt_48 h (fun M4 h => ?_)
        refine r_iconst (pc := 51) (v := (nI 0)) C dX3_readNewShirt_51 (by decide) ?_
        exact r_iret (pc := 52) C R0 h dX3_readNewShirt_52
      · refine r_bipush (pc := 25) (v := (nI 6)) C dX3_readNewShirt_25 (by decide) ?_
        exact r_iret (pc := 27) C R0 h dX3_readNewShirt_27
    · refine r_iload_n (pc := 17) C dX3_readNewShirt_17 rfl rfl ?_
      exact r_iret (pc := 18) C R0 h dX3_readNewShirt_18
  · refine r_iconst (pc := 10) (v := (nI 3)) C dX3_readNewShirt_10 (by decide) ?_
    exact r_iret (pc := 11) C R0 h dX3_readNewShirt_11
theorem dX3_readShirts_0 : decode cX3_readShirts 0 = .ok (.iconst 0, 1) := by decide +kernel
theorem dX3_readShirts_1 : decode cX3_readShirts 1 = .ok (.istore_n 2, 1) := by decide +kernel
theorem dX3_readShirts_2 : decode cX3_readShirts 2 = .ok (.iload_n 2, 1) := by decide +kernel
theorem dX3_readShirts_3 : decode cX3_readShirts 3 = .ok (.bipush 10, 2) := by decide +kernel
theorem dX3_readShirts_5 : decode cX3_readShirts 5 = .ok (.if_icmp .gt 62, 3) := by decide +kernel
theorem dX3_readShirts_8 : decode cX3_readShirts 8 = .ok (.aload_n 0, 1) := by decide +kernel
theorem dX3_readShirts_9 : decode cX3_readShirts 9 = .ok (.iload_n 1, 1) := by decide +kernel
theorem dX3_readShirts_10 : decode cX3_readShirts 10 = .ok (.iload_n 2, 1) := by decide +kernel
theorem dX3_readShirts_11 : decode cX3_readShirts 11 = .ok (.invokevirtual 149, 3) := by decide +kernel
theorem dX3_readShirts_14 : decode cX3_readShirts 14 = .ok (.istore_n 3, 1) := by decide +kernel
theorem dX3_readShirts_15 : decode cX3_readShirts 15 = .ok (.iload_n 3, 1) := by decide +kernel
theorem dX3_readShirts_16 : decode cX3_readShirts 16 = .ok (.ifCond .eq 5, 3) := by decide +kernel
theorem dX3_readShirts_19 : decode cX3_readShirts 19 = .ok (.iload_n 3, 1) := by decide +kernel
theorem dX3_readShirts_20 : decode cX3_readShirts 20 = .ok (.ireturn, 1) := by decide +kernel
theorem dX3_readShirts_21 : decode cX3_readShirts 21 = .ok (.aload_n 0, 1) := by decide +kernel
theorem dX3_readShirts_22 : decode cX3_readShirts 22 = .ok (.bipush 59, 2) := by decide +kernel
theorem dX3_readShirts_24 : decode cX3_readShirts 24 = .ok (.invokevirtual 116, 3) := by decide +kernel
theorem dX3_readShirts_27 : decode cX3_readShirts 27 = .ok (.ifCond .eq 23, 3) := by decide +kernel
theorem dX3_readShirts_30 : decode cX3_readShirts 30 = .ok (.iload_n 2, 1) := by decide +kernel
theorem dX3_readShirts_31 : decode cX3_readShirts 31 = .ok (.iconst 1, 1) := by decide +kernel
theorem dX3_readShirts_32 : decode cX3_readShirts 32 = .ok (.iadd, 1) := by decide +kernel
theorem dX3_readShirts_33 : decode cX3_readShirts 33 = .ok (.bipush 7, 2) := by decide +kernel
theorem dX3_readShirts_35 : decode cX3_readShirts 35 = .ok (.if_icmp .ge 8, 3) := by decide +kernel
theorem dX3_readShirts_38 : decode cX3_readShirts 38 = .ok (.bipush 6, 2) := by decide +kernel
theorem dX3_readShirts_40 : decode cX3_readShirts 40 = .ok (.goto 9, 3) := by decide +kernel
theorem dX3_readShirts_43 : decode cX3_readShirts 43 = .ok (.aload_n 0, 1) := by decide +kernel
theorem dX3_readShirts_44 : decode cX3_readShirts 44 = .ok (.bipush 59, 2) := by decide +kernel
theorem dX3_readShirts_46 : decode cX3_readShirts 46 = .ok (.invokevirtual 126, 3) := by decide +kernel
theorem dX3_readShirts_49 : decode cX3_readShirts 49 = .ok (.ireturn, 1) := by decide +kernel
theorem dX3_readShirts_50 : decode cX3_readShirts 50 = .ok (.aload_n 0, 1) := by decide +kernel
theorem dX3_readShirts_51 : decode cX3_readShirts 51 = .ok (.bipush 44, 2) := by decide +kernel
theorem dX3_readShirts_53 : decode cX3_readShirts 53 = .ok (.invokevirtual 126, 3) := by decide +kernel
theorem dX3_readShirts_56 : decode cX3_readShirts 56 = .ok (.ifCond .eq 5, 3) := by decide +kernel
theorem dX3_readShirts_59 : decode cX3_readShirts 59 = .ok (.iconst 1, 1) := by decide +kernel
theorem dX3_readShirts_60 : decode cX3_readShirts 60 = .ok (.ireturn, 1) := by decide +kernel
theorem dX3_readShirts_61 : decode cX3_readShirts 61 = .ok (.iinc 2 1, 3) := by decide +kernel
theorem dX3_readShirts_64 : decode cX3_readShirts 64 = .ok (.goto (-62), 3) := by decide +kernel
theorem dX3_readShirts_67 : decode cX3_readShirts 67 = .ok (.iconst 1, 1) := by decide +kernel
theorem dX3_readShirts_68 : decode cX3_readShirts 68 = .ok (.ireturn, 1) := by decide +kernel
def fX3_readShirts_l2 (p0 : Nat) (p1 : Int32) (K : Int32 → xMem → Option (Int32 × xMem)) : Nat → Int32 → xMem → Option (Int32 × xMem)
  | 0, _, _ => none
  | n + 1, v2, M => if (nI 10) < v2 then (K v2 M) else (xBn (fX3_readNewShirt p0 p1 v2 M) fun r1 M2 => if r1 = 0 then (xBn (fX3_isSign p0 (nI 59) M2) fun r3 M4 => if r3 = 0 then (xBn (fX3_takeSign p0 (nI 44) M4) fun r5 M6 => if r5 = 0 then (xLt (v2 + nI 1) fun x7 => fX3_readShirts_l2 p0 p1 K n x7 M6) else (some ((nI 1), M6))) else (if (nI 7) ≤ (v2 + (nI 1)) then (xBn (fX3_takeSign p0 (nI 59) M4) fun r8 M9 => some (r8, M9)) else (some ((nI 6), M4)))) else (some (r1, M2)))
def fX3_readShirts (a0 : Nat) (a1 : Int32) (M : xMem) : Option (Int32 × xMem) :=
  fX3_readShirts_l2 a0 a1 (fun (v10 : Int32) (M11 : xMem) => some ((nI 1), M11)) xFU (nI 0) M
set_option maxRecDepth 100000 in
set_option maxHeartbeats 4000000 in
theorem lX3_readShirts_2 {X : xCX} {r : Int32} {M' : xMem} (C : xCk X cX3_readShirts RX3 4) (R0 : xRk X (some .int) (some (.int r), M')) (hnL : X.2.2.2.2.2.2.2.2.2.2.2.2.2 = 4) (p0 : Nat) (hp0 : xkd p0 = 3) (p1 : Int32) (K : Int32 → xMem → Option (Int32 × xMem)) (hK : ∀ (v2 : Int32) (M : xMem), K v2 M = some (r, M') → WW X 67 [some (vr X.1 p0), some (.int p1), some (.int v2), none] [] M) : ∀ (n : Nat) (v2 : Int32) (M : xMem), fX3_readShirts_l2 p0 p1 K n v2 M = some (r, M') → WW X 2 [some (vr X.1 p0), some (.int p1), some (.int v2), none] [] M := by
  have hn2 : 2 < X.2.2.2.2.2.2.2.2.2.2.2.2.2 := by rw [hnL]; decide
  have hn3 : 3 < X.2.2.2.2.2.2.2.2.2.2.2.2.2 := by rw [hnL]; decide
  intro n
  induction n with
  | zero =>
    intro v2 M h
    cases (show (none : Option (Int32 × xMem)) = some (r, M') from h)
  | succ n ih =>
    intro v2 M h
    rw [fX3_readShirts_l2.eq_2] at h
    refine r_iload_n (pc := 2) C dX3_readShirts_2 rfl rfl ?_
    refine r_bipush (pc := 3) (v := (nI 10)) C dX3_readShirts_3 (by decide) ?_
    refine r_icmp_gt (pc := 5) (tgt := 67) C dX3_readShirts_5 (by decide) h (fun _ h => ?_) (fun _ h => ?_)
    · exact hK v2 M h
    · refine r_aload_n (pc := 8) C dX3_readShirts_8 rfl rfl ?_
      refine r_iload_n (pc := 9) C dX3_readShirts_9 rfl rfl ?_
      refine r_iload_n (pc := 10) C dX3_readShirts_10 rfl rfl ?_
      refine r_vI2 (pc := 11) C (fun r M' e => zX3_readNewShirt X.1 p0 hp0 p1 v2 M r M' e) hp0 (by decide) rfl mX3_readNewShirt lX3_149 (by decide) (Nat.le_of_ble_eq_true rfl) dX3_readShirts_11 h (fun r1 M2 h => ?_)
      refine r_istore_n (pc := 14) (lv' := [_, _, _, _]) C dX3_readShirts_14 rfl hn3 rfl ?_
      refine r_iload_n (pc := 15) C dX3_readShirts_15 rfl rfl ?_
      refine r_if_eq (pc := 16) (tgt := 21) C dX3_readShirts_16 (by decide) h (fun _ h => ?_) (fun _ h => ?_)
      · refine r_aload_n (pc := 21) C dX3_readShirts_21 rfl rfl ?_
        refine r_bipush (pc := 22) (v := (nI 59)) C dX3_readShirts_22 (by decide) ?_
        refine r_vI1 (pc := 24) C (fun r M' e => zX3_isSign X.1 p0 hp0 (nI 59) M2 r M' e) hp0 (by decide) rfl mX3_isSign lX3_116 (by decide) (Nat.le_of_ble_eq_true rfl) dX3_readShirts_24 h (fun r3 M4 h => ?_)
        refine r_if_eq (pc := 27) (tgt := 50) C dX3_readShirts_27 (by decide) h (fun _ h => ?_) (fun _ h => ?_)
        · refine r_aload_n (pc := 50) C dX3_readShirts_50 rfl rfl ?_
          refine r_bipush (pc := 51) (v := (nI 44)) C dX3_readShirts_51 (by decide) ?_
          refine r_vI1 (pc := 53) C (fun r M' e => zX3_takeSign X.1 p0 hp0 (nI 44) M4 r M' e) hp0 (by decide) rfl mX3_takeSign lX3_126 (by decide) (Nat.le_of_ble_eq_true rfl) dX3_readShirts_53 h (fun r5 M6 h => ?_)
          refine r_if_eq (pc := 56) (tgt := 61) C dX3_readShirts_56 (by decide) h (fun _ h => ?_) (fun _ h => ?_)
          · refine r_iincL (pc := 61) (c := nI 1) C dX3_readShirts_61 rfl (by decide) hn2 h (fun x7 h => ?_)
            refine r_lvE (lv' := [_, _, _, _]) rfl ?_
            refine r_goto (pc := 64) (tgt := 2) C dX3_readShirts_64 (by decide) ?_
            exact r_lv (xle_at (xle_some rfl (xle_some rfl (xle_some rfl (xle_none xle_nil))))) (ih x7 M6 h)
          · refine r_iconst (pc := 59) (v := (nI 1)) C dX3_readShirts_59 (by decide) ?_
            exact r_iret (pc := 60) C R0 h dX3_readShirts_60
        · refine r_iload_n (pc := 30) C dX3_readShirts_30 rfl rfl ?_
          refine r_iconst (pc := 31) (v := (nI 1)) C dX3_readShirts_31 (by decide) ?_
          refine r_iadd (pc := 32) C dX3_readShirts_32 ?_
          refine r_bipush (pc := 33) (v := (nI 7)) C dX3_readShirts_33 (by decide) ?_
          refine r_icmp_ge (pc := 35) (tgt := 43) C dX3_readShirts_35 (by decide) h (fun _ h => ?_) (fun _ h => ?_)
          · refine r_aload_n (pc := 43) C dX3_readShirts_43 rfl rfl ?_
            refine r_bipush (pc := 44) (v := (nI 59)) C dX3_readShirts_44 (by decide) ?_
            refine r_vI1 (pc := 46) C (fun r M' e => zX3_takeSign X.1 p0 hp0 (nI 59) M4 r M' e) hp0 (by decide) rfl mX3_takeSign lX3_126 (by decide) (Nat.le_of_ble_eq_true rfl) dX3_readShirts_46 h (fun r8 M9 h => ?_)
            exact r_iret (pc := 49) C R0 h dX3_readShirts_49
          · refine r_bipush (pc := 38) (v := (nI 6)) C dX3_readShirts_38 (by decide) ?_
            refine r_goto (pc := 40) (tgt := 49) C dX3_readShirts_40 (by decide) ?_
            exact r_iret (pc := 49) C R0 h dX3_readShirts_49
      · refine r_iload_n (pc := 19) C dX3_readShirts_19 rfl rfl ?_
        exact r_iret (pc := 20) C R0 h dX3_readShirts_20
set_option maxRecDepth 100000 in
set_option maxHeartbeats 4000000 in
theorem zX3_readShirts (G : xGX) (a0 : Nat) (h0 : xkd a0 = 3) (a1 : Int32) (M : xMem) (r : Int32) (M' : xMem) (h : fX3_readShirts a0 a1 M = some (r, M')) : xCt G yX3_readShirts cX3_readShirts 4 (some .int) 4 [vr G a0, .int a1] M (some (.int r), M') := by
  refine xMet (lv := [some (vr G a0), some (.int a1), none, none]) (by decide) (Nat.le_of_ble_eq_true rfl) rfl ?_
  intro X hG hnL C R0
  subst hG
  have C : xCk X cX3_readShirts RX3 4 := C
  have hn2 : 2 < X.2.2.2.2.2.2.2.2.2.2.2.2.2 := by rw [hnL]; decide
  have hn3 : 3 < X.2.2.2.2.2.2.2.2.2.2.2.2.2 := by rw [hnL]; decide
  unfold fX3_readShirts at h
  refine r_iconst (pc := 0) (v := (nI 0)) C dX3_readShirts_0 (by decide) ?_
  refine r_istore_n (pc := 1) (lv' := [_, _, _, _]) C dX3_readShirts_1 rfl hn2 rfl ?_
  refine lX3_readShirts_2 C R0 hnL a0 h0 a1 _ (fun v10 M11 h => ?_) _ _ _ h
  refine r_iconst (pc := 67) (v := (nI 1)) C dX3_readShirts_67 (by decide) ?_
  exact r_iret (pc := 68) C R0 h dX3_readShirts_68
theorem dX3_readTeam_0 : decode cX3_readTeam 0 = .ok (.aload_n 0, 1) := by decide +kernel
theorem dX3_readTeam_1 : decode cX3_readTeam 1 = .ok (.iconst 0, 1) := by decide +kernel
theorem dX3_readTeam_2 : decode cX3_readTeam 2 = .ok (.invokevirtual 120, 3) := by decide +kernel
theorem dX3_readTeam_5 : decode cX3_readTeam 5 = .ok (.istore_n 2, 1) := by decide +kernel
theorem dX3_readTeam_6 : decode cX3_readTeam 6 = .ok (.iload_n 2, 1) := by decide +kernel
theorem dX3_readTeam_7 : decode cX3_readTeam 7 = .ok (.ifCond .ne 9, 3) := by decide +kernel
theorem dX3_readTeam_10 : decode cX3_readTeam 10 = .ok (.aload_n 0, 1) := by decide +kernel
theorem dX3_readTeam_11 : decode cX3_readTeam 11 = .ok (.iload_n 1, 1) := by decide +kernel
theorem dX3_readTeam_12 : decode cX3_readTeam 12 = .ok (.invokevirtual 123, 3) := by decide +kernel
theorem dX3_readTeam_15 : decode cX3_readTeam 15 = .ok (.istore_n 2, 1) := by decide +kernel
theorem dX3_readTeam_16 : decode cX3_readTeam 16 = .ok (.iload_n 2, 1) := by decide +kernel
theorem dX3_readTeam_17 : decode cX3_readTeam 17 = .ok (.ifCond .ne 10, 3) := by decide +kernel
theorem dX3_readTeam_20 : decode cX3_readTeam 20 = .ok (.aload_n 0, 1) := by decide +kernel
theorem dX3_readTeam_21 : decode cX3_readTeam 21 = .ok (.bipush 58, 2) := by decide +kernel
theorem dX3_readTeam_23 : decode cX3_readTeam 23 = .ok (.invokevirtual 126, 3) := by decide +kernel
theorem dX3_readTeam_26 : decode cX3_readTeam 26 = .ok (.istore_n 2, 1) := by decide +kernel
theorem dX3_readTeam_27 : decode cX3_readTeam 27 = .ok (.iload_n 2, 1) := by decide +kernel
theorem dX3_readTeam_28 : decode cX3_readTeam 28 = .ok (.ifCond .ne 11, 3) := by decide +kernel
theorem dX3_readTeam_31 : decode cX3_readTeam 31 = .ok (.aload_n 0, 1) := by decide +kernel
theorem dX3_readTeam_32 : decode cX3_readTeam 32 = .ok (.iload_n 1, 1) := by decide +kernel
theorem dX3_readTeam_33 : decode cX3_readTeam 33 = .ok (.invokevirtual 129, 3) := by decide +kernel
theorem dX3_readTeam_36 : decode cX3_readTeam 36 = .ok (.goto 4, 3) := by decide +kernel
theorem dX3_readTeam_39 : decode cX3_readTeam 39 = .ok (.iload_n 2, 1) := by decide +kernel
theorem dX3_readTeam_40 : decode cX3_readTeam 40 = .ok (.ireturn, 1) := by decide +kernel
def fX3_readTeam (a0 : Nat) (a1 : Int32) (M : xMem) : Option (Int32 × xMem) :=
  xBn (fX3_takeWord a0 (nI 0) M) fun r1 M2 => xLt (fun (v3 : Int32) (M4 : xMem) => (xLt (fun (v5 : Int32) (M6 : xMem) => (if v5 = 0 then (xBn (fX3_readShirts a0 a1 M6) fun r7 M8 => some (r7, M8)) else (some (v5, M6)) : Option (Int32 × xMem))) fun J27 => if v3 = 0 then (xBn (fX3_takeSign a0 (nI 58) M4) fun r9 M10 => J27 r9 M10) else (J27 v3 M4) : Option (Int32 × xMem))) fun J16 => if r1 = 0 then (xBn (fX3_readNewName a0 a1 M2) fun r11 M12 => J16 r11 M12) else (J16 r1 M2)
set_option maxRecDepth 100000 in
set_option maxHeartbeats 4000000 in
theorem zX3_readTeam (G : xGX) (a0 : Nat) (h0 : xkd a0 = 3) (a1 : Int32) (M : xMem) (r : Int32) (M' : xMem) (h : fX3_readTeam a0 a1 M = some (r, M')) : xCt G yX3_readTeam cX3_readTeam 3 (some .int) 8 [vr G a0, .int a1] M (some (.int r), M') := by
  refine xMet (lv := [some (vr G a0), some (.int a1), none]) (by decide) (Nat.le_of_ble_eq_true rfl) rfl ?_
  intro X hG hnL C R0
  subst hG
  have C : xCk X cX3_readTeam RX3 8 := C
  have hn2 : 2 < X.2.2.2.2.2.2.2.2.2.2.2.2.2 := by rw [hnL]; decide
  unfold fX3_readTeam at h
  refine r_aload_n (pc := 0) C dX3_readTeam_0 rfl rfl ?_
  refine r_iconst (pc := 1) (v := (nI 0)) C dX3_readTeam_1 (by decide) ?_
  refine r_vI1 (pc := 2) C (fun r M' e => zX3_takeWord X.1 a0 h0 (nI 0) M r M' e) h0 (by decide) rfl mX3_takeWord lX3_120 (by decide) (Nat.le_of_ble_eq_true rfl) dX3_readTeam_2 h (fun r1 M2 h => ?_)
  refine r_istore_n (pc := 5) (lv' := [_, _, _]) C dX3_readTeam_5 rfl hn2 rfl ?_
  refine r_iload_n (pc := 6) C dX3_readTeam_6 rfl rfl ?_
  refine r_jn (fun J => ∀ (v3 : Int32) (M4 : xMem) , J v3 M4 = some (r, M') → WW X 16 [some (vr X.1 a0), some (.int a1), some (.int v3)] [] M4) h (fun v3 M4  h => ?_) (fun J16 hJ16 h => ?_)
  · refine r_iload_n (pc := 16) C dX3_readTeam_16 rfl rfl ?_
    refine r_jn (fun J => ∀ (v5 : Int32) (M6 : xMem) , J v5 M6 = some (r, M') → WW X 27 [some (vr X.1 a0), some (.int a1), some (.int v5)] [] M6) h (fun v5 M6  h => ?_) (fun J27 hJ27 h => ?_)
    · refine r_iload_n (pc := 27) C dX3_readTeam_27 rfl rfl ?_
      refine r_if_ne (pc := 28) (tgt := 39) C dX3_readTeam_28 (by decide) h (fun _ h => ?_) (fun _ h => ?_)
      · refine r_iload_n (pc := 39) C dX3_readTeam_39 rfl rfl ?_
        exact r_iret (pc := 40) C R0 h dX3_readTeam_40
      · refine r_aload_n (pc := 31) C dX3_readTeam_31 rfl rfl ?_
        refine r_iload_n (pc := 32) C dX3_readTeam_32 rfl rfl ?_
        refine r_vI1 (pc := 33) C (fun r M' e => zX3_readShirts X.1 a0 h0 a1 M6 r M' e) h0 (by decide) rfl mX3_readShirts lX3_129 (by decide) (Nat.le_of_ble_eq_true rfl) dX3_readTeam_33 h (fun r7 M8 h => ?_)
        refine r_goto (pc := 36) (tgt := 40) C dX3_readTeam_36 (by decide) ?_
        exact r_iret (pc := 40) C R0 h dX3_readTeam_40
    refine r_if_ne (pc := 17) (tgt := 27) C dX3_readTeam_17 (by decide) h (fun _ h => ?_) (fun _ h => ?_)
    · exact hJ27 v3 M4  h
    · refine r_aload_n (pc := 20) C dX3_readTeam_20 rfl rfl ?_
      refine r_bipush (pc := 21) (v := (nI 58)) C dX3_readTeam_21 (by decide) ?_
      refine r_vI1 (pc := 23) C (fun r M' e => zX3_takeSign X.1 a0 h0 (nI 58) M4 r M' e) h0 (by decide) rfl mX3_takeSign lX3_126 (by decide) (Nat.le_of_ble_eq_true rfl) dX3_readTeam_23 h (fun r9 M10 h => ?_)
      refine r_istore_n (pc := 26) (lv' := [_, _, _]) C dX3_readTeam_26 rfl hn2 rfl ?_
      exact hJ27 r9 M10  h
  refine r_if_ne (pc := 7) (tgt := 16) C dX3_readTeam_7 (by decide) h (fun _ h => ?_) (fun _ h => ?_)
  · exact hJ16 r1 M2  h
  · refine r_aload_n (pc := 10) C dX3_readTeam_10 rfl rfl ?_
    refine r_iload_n (pc := 11) C dX3_readTeam_11 rfl rfl ?_
    refine r_vI1 (pc := 12) C (fun r M' e => zX3_readNewName X.1 a0 h0 a1 M2 r M' e) h0 (by decide) rfl mX3_readNewName lX3_123 (by decide) (Nat.le_of_ble_eq_true rfl) dX3_readTeam_12 h (fun r11 M12 h => ?_)
    refine r_istore_n (pc := 15) (lv' := [_, _, _]) C dX3_readTeam_15 rfl hn2 rfl ?_
    exact hJ16 r11 M12  h
theorem dX3_nextShirt_0 : decode cX3_nextShirt 0 = .ok (.aload_n 0, 1) := by decide +kernel
theorem dX3_nextShirt_1 : decode cX3_nextShirt 1 = .ok (.invokevirtual 60, 3) := by decide +kernel
theorem dX3_nextShirt_4 : decode cX3_nextShirt 4 = .ok (.aload_n 0, 1) := by decide +kernel
theorem dX3_nextShirt_5 : decode cX3_nextShirt 5 = .ok (.iload_n 1, 1) := by decide +kernel
theorem dX3_nextShirt_6 : decode cX3_nextShirt 6 = .ok (.invokevirtual 153, 3) := by decide +kernel
theorem dX3_nextShirt_9 : decode cX3_nextShirt 9 = .ok (.ireturn, 1) := by decide +kernel
def fX3_nextShirt (a0 : Nat) (a1 : Int32) (M : xMem) : Option (Int32 × xMem) :=
  xBv (fX3_advance a0 M) fun M1 => xBn (fX3_checkShirt a0 a1 M1) fun r2 M3 => some (r2, M3)
set_option maxRecDepth 100000 in
set_option maxHeartbeats 4000000 in
theorem zX3_nextShirt (G : xGX) (a0 : Nat) (h0 : xkd a0 = 3) (a1 : Int32) (M : xMem) (r : Int32) (M' : xMem) (h : fX3_nextShirt a0 a1 M = some (r, M')) : xCt G yX3_nextShirt cX3_nextShirt 2 (some .int) 3 [vr G a0, .int a1] M (some (.int r), M') := by
  refine xMet (lv := [some (vr G a0), some (.int a1)]) (by decide) (Nat.le_of_ble_eq_true rfl) rfl ?_
  intro X hG hnL C R0
  subst hG
  have C : xCk X cX3_nextShirt RX3 3 := C
  unfold fX3_nextShirt at h
  refine r_aload_n (pc := 0) C dX3_nextShirt_0 rfl rfl ?_
  refine r_vV0 (pc := 1) C (fun M' e => zX3_advance X.1 a0 h0 M M' e) h0 (by decide) rfl mX3_advance lX3_60 (by decide) (Nat.le_of_ble_eq_true rfl) dX3_nextShirt_1 h (fun M1 h => ?_)
  refine r_aload_n (pc := 4) C dX3_nextShirt_4 rfl rfl ?_
  refine r_iload_n (pc := 5) C dX3_nextShirt_5 rfl rfl ?_
  refine r_vI1 (pc := 6) C (fun r M' e => zX3_checkShirt X.1 a0 h0 a1 M1 r M' e) h0 (by decide) rfl mX3_checkShirt lX3_153 (by decide) (Nat.le_of_ble_eq_true rfl) dX3_nextShirt_6 h (fun r2 M3 h => ?_)
  exact r_iret (pc := 9) C R0 h dX3_nextShirt_9
theorem dX3_checkDefender_0 : decode cX3_checkDefender 0 = .ok (.aload_n 0, 1) := by decide +kernel
theorem dX3_checkDefender_1 : decode cX3_checkDefender 1 = .ok (.iconst 1, 1) := by decide +kernel
theorem dX3_checkDefender_2 : decode cX3_checkDefender 2 = .ok (.aload_n 0, 1) := by decide +kernel
theorem dX3_checkDefender_3 : decode cX3_checkDefender 3 = .ok (.getfield 45, 3) := by decide +kernel
theorem dX3_checkDefender_6 : decode cX3_checkDefender 6 = .ok (.getfield 188, 3) := by decide +kernel
theorem dX3_checkDefender_9 : decode cX3_checkDefender 9 = .ok (.getfield 192, 3) := by decide +kernel
theorem dX3_checkDefender_12 : decode cX3_checkDefender 12 = .ok (.isub, 1) := by decide +kernel
theorem dX3_checkDefender_13 : decode cX3_checkDefender 13 = .ok (.invokevirtual 153, 3) := by decide +kernel
theorem dX3_checkDefender_16 : decode cX3_checkDefender 16 = .ok (.istore_n 1, 1) := by decide +kernel
theorem dX3_checkDefender_17 : decode cX3_checkDefender 17 = .ok (.iload_n 1, 1) := by decide +kernel
theorem dX3_checkDefender_18 : decode cX3_checkDefender 18 = .ok (.ifCond .eq 5, 3) := by decide +kernel
theorem dX3_checkDefender_21 : decode cX3_checkDefender 21 = .ok (.iload_n 1, 1) := by decide +kernel
theorem dX3_checkDefender_22 : decode cX3_checkDefender 22 = .ok (.ireturn, 1) := by decide +kernel
theorem dX3_checkDefender_23 : decode cX3_checkDefender 23 = .ok (.aload_n 0, 1) := by decide +kernel
theorem dX3_checkDefender_24 : decode cX3_checkDefender 24 = .ok (.getfield 12, 3) := by decide +kernel
theorem dX3_checkDefender_27 : decode cX3_checkDefender 27 = .ok (.invokevirtual 230, 3) := by decide +kernel
theorem dX3_checkDefender_30 : decode cX3_checkDefender 30 = .ok (.aload_n 0, 1) := by decide +kernel
theorem dX3_checkDefender_31 : decode cX3_checkDefender 31 = .ok (.getfield 35, 3) := by decide +kernel
theorem dX3_checkDefender_34 : decode cX3_checkDefender 34 = .ok (.ishr, 1) := by decide +kernel
theorem dX3_checkDefender_35 : decode cX3_checkDefender 35 = .ok (.iconst 1, 1) := by decide +kernel
theorem dX3_checkDefender_36 : decode cX3_checkDefender 36 = .ok (.iand, 1) := by decide +kernel
theorem dX3_checkDefender_37 : decode cX3_checkDefender 37 = .ok (.iconst 1, 1) := by decide +kernel
theorem dX3_checkDefender_38 : decode cX3_checkDefender 38 = .ok (.if_icmp .ne 7, 3) := by decide +kernel
theorem dX3_checkDefender_41 : decode cX3_checkDefender 41 = .ok (.iconst 1, 1) := by decide +kernel
theorem dX3_checkDefender_42 : decode cX3_checkDefender 42 = .ok (.goto 4, 3) := by decide +kernel
theorem dX3_checkDefender_45 : decode cX3_checkDefender 45 = .ok (.iconst 0, 1) := by decide +kernel
theorem dX3_checkDefender_46 : decode cX3_checkDefender 46 = .ok (.istore_n 2, 1) := by decide +kernel
theorem dX3_checkDefender_47 : decode cX3_checkDefender 47 = .ok (.iload_n 2, 1) := by decide +kernel
theorem dX3_checkDefender_48 : decode cX3_checkDefender 48 = .ok (.ifCond .ne 24, 3) := by decide +kernel
theorem dX3_checkDefender_51 : decode cX3_checkDefender 51 = .ok (.aload_n 0, 1) := by decide +kernel
theorem dX3_checkDefender_52 : decode cX3_checkDefender 52 = .ok (.getfield 45, 3) := by decide +kernel
theorem dX3_checkDefender_55 : decode cX3_checkDefender 55 = .ok (.getfield 188, 3) := by decide +kernel
theorem dX3_checkDefender_58 : decode cX3_checkDefender 58 = .ok (.invokevirtual 233, 3) := by decide +kernel
theorem dX3_checkDefender_61 : decode cX3_checkDefender 61 = .ok (.getfield 237, 3) := by decide +kernel
theorem dX3_checkDefender_64 : decode cX3_checkDefender 64 = .ok (.aload_n 0, 1) := by decide +kernel
theorem dX3_checkDefender_65 : decode cX3_checkDefender 65 = .ok (.getfield 35, 3) := by decide +kernel
theorem dX3_checkDefender_68 : decode cX3_checkDefender 68 = .ok (.iaload, 1) := by decide +kernel
theorem dX3_checkDefender_69 : decode cX3_checkDefender 69 = .ok (.ifCond .eq 7, 3) := by decide +kernel
theorem dX3_checkDefender_72 : decode cX3_checkDefender 72 = .ok (.iconst 5, 1) := by decide +kernel
theorem dX3_checkDefender_73 : decode cX3_checkDefender 73 = .ok (.goto 4, 3) := by decide +kernel
theorem dX3_checkDefender_76 : decode cX3_checkDefender 76 = .ok (.iconst 0, 1) := by decide +kernel
theorem dX3_checkDefender_77 : decode cX3_checkDefender 77 = .ok (.ireturn, 1) := by decide +kernel
def fX3_checkDefender (a0 : Nat) (M : xMem) : Option (Int32 × xMem) :=
  xBn (fX3_checkShirt a0 ((nI 1) - (M.1 (xrf (xrf a0 1) 1) 1)) M) fun r1 M2 => if r1 = 0 then (xBn (fX4_touchedMask (xrf a0 2) M2) fun r3 M4 => xLt (fun (s5 : Int32) (M6 : xMem) => (if s5 = 0 then (xBn (fX8_away (xrf (xrf a0 1) 1) M6) fun r7 M8 => xGb (M8.1 a0 8) (xln (xrf r7 0)) (if (M8.1 (xrf r7 0) (Int32.toNatClampNeg (M8.1 a0 8))) = 0 then (some ((nI 0), M8)) else (some ((nI 5), M8)))) else (some ((nI 5), M6)) : Option (Int32 × xMem))) fun J46 => if ((r3 >>> ((M4.1 a0 8) &&& 31)) &&& (nI 1)) = (nI 1) then (J46 (nI 1) M4) else (J46 (nI 0) M4)) else (some (r1, M2))
set_option maxRecDepth 100000 in
set_option maxHeartbeats 4000000 in
theorem zX3_checkDefender (G : xGX) (a0 : Nat) (h0 : xkd a0 = 3) (M : xMem) (r : Int32) (M' : xMem) (h : fX3_checkDefender a0 M = some (r, M')) : xCt G yX3_checkDefender cX3_checkDefender 3 (some .int) 3 [vr G a0] M (some (.int r), M') := by
  refine xMet (lv := [some (vr G a0), none, none]) (by decide) (Nat.le_of_ble_eq_true rfl) rfl ?_
  intro X hG hnL C R0
  subst hG
  have C : xCk X cX3_checkDefender RX3 3 := C
  have hn1 : 1 < X.2.2.2.2.2.2.2.2.2.2.2.2.2 := by rw [hnL]; decide
  have hn2 : 2 < X.2.2.2.2.2.2.2.2.2.2.2.2.2 := by rw [hnL]; decide
  unfold fX3_checkDefender at h
  refine r_aload_n (pc := 0) C dX3_checkDefender_0 rfl rfl ?_
  refine r_iconst (pc := 1) (v := (nI 1)) C dX3_checkDefender_1 (by decide) ?_
  refine r_aload_n (pc := 2) C dX3_checkDefender_2 rfl rfl ?_
  refine r_getR (pc := 3) C kX3_45 h0 (by decide) dX3_checkDefender_3 ?_
  refine r_getR (pc := 6) C kX3_188 (xtk h0 (by decide) rfl rfl) (by decide) dX3_checkDefender_6 ?_
  refine r_getI (pc := 9) C kX3_192 (xtk (xtk h0 (by decide) rfl rfl) (by decide) rfl rfl) dX3_checkDefender_9 ?_
  refine r_isub (pc := 12) C dX3_checkDefender_12 ?_
  refine r_vI1 (pc := 13) C (fun r M' e => zX3_checkShirt X.1 a0 h0 ((nI 1) - (M.1 (xrf (xrf a0 1) 1) 1)) M r M' e) h0 (by decide) rfl mX3_checkShirt lX3_153 (by decide) (Nat.le_of_ble_eq_true rfl) dX3_checkDefender_13 h (fun r1 M2 h => ?_)
  refine r_istore_n (pc := 16) (lv' := [_, _, _]) C dX3_checkDefender_16 rfl hn1 rfl ?_
  refine r_iload_n (pc := 17) C dX3_checkDefender_17 rfl rfl ?_
  refine r_if_eq (pc := 18) (tgt := 23) C dX3_checkDefender_18 (by decide) h (fun _ h => ?_) (fun _ h => ?_)
  · refine r_aload_n (pc := 23) C dX3_checkDefender_23 rfl rfl ?_
    refine r_getR (pc := 24) C kX3_12 h0 (by decide) dX3_checkDefender_24 ?_
    refine r_vI0 (pc := 27) C (fun r M' e => zX4_touchedMask X.1 (xrf a0 2) (xtk h0 (by decide) rfl rfl) M2 r M' e) (xtk h0 (by decide) rfl rfl) (by decide) rfl mX4_touchedMask lX3_230 (by decide) (Nat.le_of_ble_eq_true rfl) dX3_checkDefender_27 h (fun r3 M4 h => ?_)
    refine r_aload_n (pc := 30) C dX3_checkDefender_30 rfl rfl ?_
    refine r_getI (pc := 31) C kX3_35 h0 dX3_checkDefender_31 ?_
    refine r_ishr (pc := 34) C dX3_checkDefender_34 ?_
    refine r_iconst (pc := 35) (v := (nI 1)) C dX3_checkDefender_35 (by decide) ?_
    refine r_iand (pc := 36) C dX3_checkDefender_36 ?_
    refine r_iconst (pc := 37) (v := (nI 1)) C dX3_checkDefender_37 (by decide) ?_
    refine r_jn (fun J => ∀ (s5 : Int32) (M6 : xMem) , J s5 M6 = some (r, M') → WW X 46 [some (vr X.1 a0), some (.int r1), none] [.int s5] M6) h (fun s5 M6  h => ?_) (fun J46 hJ46 h => ?_)
    · refine r_istore_n (pc := 46) (lv' := [_, _, _]) C dX3_checkDefender_46 rfl hn2 rfl ?_
      refine r_iload_n (pc := 47) C dX3_checkDefender_47 rfl rfl ?_
      refine r_if_ne (pc := 48) (tgt := 72) C dX3_checkDefender_48 (by decide) h (fun _ h => ?_) (fun _ h => ?_)
      · refine r_iconst (pc := 72) (v := (nI 5)) C dX3_checkDefender_72 (by decide) ?_
        refine r_goto (pc := 73) (tgt := 77) C dX3_checkDefender_73 (by decide) ?_
        exact r_iret (pc := 77) C R0 h dX3_checkDefender_77
      · refine r_aload_n (pc := 51) C dX3_checkDefender_51 rfl rfl ?_
        refine r_getR (pc := 52) C kX3_45 h0 (by decide) dX3_checkDefender_52 ?_
        refine r_getR (pc := 55) C kX3_188 (xtk h0 (by decide) rfl rfl) (by decide) dX3_checkDefender_55 ?_
        refine r_vR0 (pc := 58) C (fun r M' e => zX8_away X.1 (xrf (xrf a0 1) 1) (xtk (xtk h0 (by decide) rfl rfl) (by decide) rfl rfl) M6 r M' e) (xtk (xtk h0 (by decide) rfl rfl) (by decide) rfl rfl) (by decide) rfl mX8_away lX3_233 (by decide) (Nat.le_of_ble_eq_true rfl) dX3_checkDefender_58 h (fun r7 M8 e9 h => ?_)
        have k10 := tX8_away (xtk (xtk h0 (by decide) rfl rfl) (by decide) rfl rfl) e9
        refine r_getR (pc := 61) C kX3_237 k10 (by decide) dX3_checkDefender_61 ?_
        refine r_aload_n (pc := 64) C dX3_checkDefender_64 rfl rfl ?_
        refine r_getI (pc := 65) C kX3_35 h0 dX3_checkDefender_65 ?_
        obtain ⟨g11, h⟩ := xGb_of h
        refine r_iald (pc := 68) C (xtk k10 (by decide) rfl rfl) g11 dX3_checkDefender_68 ?_
        refine r_if_eq (pc := 69) (tgt := 76) C dX3_checkDefender_69 (by decide) h (fun _ h => ?_) (fun _ h => ?_)
        · refine r_iconst (pc := 76) (v := (nI 0)) C dX3_checkDefender_76 (by decide) ?_
          exact r_iret (pc := 77) C R0 h dX3_checkDefender_77
        · refine r_iconst (pc := 72) (v := (nI 5)) C dX3_checkDefender_72 (by decide) ?_
          refine r_goto (pc := 73) (tgt := 77) C dX3_checkDefender_73 (by decide) ?_
          exact r_iret (pc := 77) C R0 h dX3_checkDefender_77
    refine r_icmp_ne (pc := 38) (tgt := 45) C dX3_checkDefender_38 (by decide) h (fun _ h => ?_) (fun _ h => ?_)
    · refine r_iconst (pc := 45) (v := (nI 0)) C dX3_checkDefender_45 (by decide) ?_
      exact hJ46 (nI 0) M4  h
    · refine r_iconst (pc := 41) (v := (nI 1)) C dX3_checkDefender_41 (by decide) ?_
      refine r_goto (pc := 42) (tgt := 46) C dX3_checkDefender_42 (by decide) ?_
      exact hJ46 (nI 1) M4  h
  · refine r_iload_n (pc := 21) C dX3_checkDefender_21 rfl rfl ?_
    exact r_iret (pc := 22) C R0 h dX3_checkDefender_22
theorem dX3_readWith_0 : decode cX3_readWith 0 = .ok (.aload_n 0, 1) := by decide +kernel
theorem dX3_readWith_1 : decode cX3_readWith 1 = .ok (.invokevirtual 113, 3) := by decide +kernel
theorem dX3_readWith_4 : decode cX3_readWith 4 = .ok (.bipush 14, 2) := by decide +kernel
theorem dX3_readWith_6 : decode cX3_readWith 6 = .ok (.if_icmp .eq 5, 3) := by decide +kernel
theorem dX3_readWith_9 : decode cX3_readWith 9 = .ok (.iconst 0, 1) := by decide +kernel
theorem dX3_readWith_10 : decode cX3_readWith 10 = .ok (.ireturn, 1) := by decide +kernel
theorem dX3_readWith_11 : decode cX3_readWith 11 = .ok (.aload_n 0, 1) := by decide +kernel
theorem dX3_readWith_12 : decode cX3_readWith 12 = .ok (.getfield 45, 3) := by decide +kernel
theorem dX3_readWith_15 : decode cX3_readWith 15 = .ok (.getfield 188, 3) := by decide +kernel
theorem dX3_readWith_18 : decode cX3_readWith 18 = .ok (.invokevirtual 208, 3) := by decide +kernel
theorem dX3_readWith_21 : decode cX3_readWith 21 = .ok (.ifCond .ne 5, 3) := by decide +kernel
theorem dX3_readWith_24 : decode cX3_readWith 24 = .ok (.iconst 5, 1) := by decide +kernel
theorem dX3_readWith_25 : decode cX3_readWith 25 = .ok (.ireturn, 1) := by decide +kernel
theorem dX3_readWith_26 : decode cX3_readWith 26 = .ok (.aload_n 0, 1) := by decide +kernel
theorem dX3_readWith_27 : decode cX3_readWith 27 = .ok (.getfield 12, 3) := by decide +kernel
theorem dX3_readWith_30 : decode cX3_readWith 30 = .ok (.iconst 1, 1) := by decide +kernel
theorem dX3_readWith_31 : decode cX3_readWith 31 = .ok (.putfield 242, 3) := by decide +kernel
theorem dX3_readWith_34 : decode cX3_readWith 34 = .ok (.aload_n 0, 1) := by decide +kernel
theorem dX3_readWith_35 : decode cX3_readWith 35 = .ok (.invokevirtual 60, 3) := by decide +kernel
theorem dX3_readWith_38 : decode cX3_readWith 38 = .ok (.iconst 0, 1) := by decide +kernel
theorem dX3_readWith_39 : decode cX3_readWith 39 = .ok (.ireturn, 1) := by decide +kernel
def fX3_readWith (a0 : Nat) (M : xMem) : Option (Int32 × xMem) :=
  xBn (fX3_word a0 M) fun r1 M2 => if r1 = (nI 14) then (xBn (fX8_isBonusOpen (xrf (xrf a0 1) 1) M2) fun r3 M4 => if r3 = 0 then (some ((nI 5), M4)) else (xLt (xwI M4 (xrf a0 2) 3 (nI 1)) fun M5 => xBv (fX3_advance a0 M5) fun M6 => some ((nI 0), M6))) else (some ((nI 0), M2))
set_option maxRecDepth 100000 in
set_option maxHeartbeats 4000000 in
theorem zX3_readWith (G : xGX) (a0 : Nat) (h0 : xkd a0 = 3) (M : xMem) (r : Int32) (M' : xMem) (h : fX3_readWith a0 M = some (r, M')) : xCt G yX3_readWith cX3_readWith 1 (some .int) 6 [vr G a0] M (some (.int r), M') := by
  refine xMet (lv := [some (vr G a0)]) (by decide) (Nat.le_of_ble_eq_true rfl) rfl ?_
  intro X hG hnL C R0
  subst hG
  have C : xCk X cX3_readWith RX3 6 := C
  unfold fX3_readWith at h
  refine r_aload_n (pc := 0) C dX3_readWith_0 rfl rfl ?_
  refine r_vI0 (pc := 1) C (fun r M' e => zX3_word X.1 a0 h0 M r M' e) h0 (by decide) rfl mX3_word lX3_113 (by decide) (Nat.le_of_ble_eq_true rfl) dX3_readWith_1 h (fun r1 M2 h => ?_)
  refine r_bipush (pc := 4) (v := (nI 14)) C dX3_readWith_4 (by decide) ?_
  refine r_icmp_eq (pc := 6) (tgt := 11) C dX3_readWith_6 (by decide) h (fun _ h => ?_) (fun _ h => ?_)
  · refine r_aload_n (pc := 11) C dX3_readWith_11 rfl rfl ?_
    refine r_getR (pc := 12) C kX3_45 h0 (by decide) dX3_readWith_12 ?_
    refine r_getR (pc := 15) C kX3_188 (xtk h0 (by decide) rfl rfl) (by decide) dX3_readWith_15 ?_
    refine r_vI0 (pc := 18) C (fun r M' e => zX8_isBonusOpen X.1 (xrf (xrf a0 1) 1) (xtk (xtk h0 (by decide) rfl rfl) (by decide) rfl rfl) M2 r M' e) (xtk (xtk h0 (by decide) rfl rfl) (by decide) rfl rfl) (by decide) rfl mX8_isBonusOpen lX3_208 (by decide) (Nat.le_of_ble_eq_true rfl) dX3_readWith_18 h (fun r3 M4 h => ?_)
    refine r_if_ne (pc := 21) (tgt := 26) C dX3_readWith_21 (by decide) h (fun _ h => ?_) (fun _ h => ?_)
    · refine r_aload_n (pc := 26) C dX3_readWith_26 rfl rfl ?_
      refine r_getR (pc := 27) C kX3_12 h0 (by decide) dX3_readWith_27 ?_
      refine r_iconst (pc := 30) (v := (nI 1)) C dX3_readWith_30 (by decide) ?_
      refine r_putI (pc := 31) C kX3_242 (xtk h0 (by decide) rfl rfl) dX3_readWith_31 ?_
      refine r_letM h (fun M5 h => ?_)
      refine r_aload_n (pc := 34) C dX3_readWith_34 rfl rfl ?_
      refine r_vV0 (pc := 35) C (fun M' e => zX3_advance X.1 a0 h0 M5 M' e) h0 (by decide) rfl mX3_advance lX3_60 (by decide) (Nat.le_of_ble_eq_true rfl) dX3_readWith_35 h (fun M6 h => ?_)
      refine r_iconst (pc := 38) (v := (nI 0)) C dX3_readWith_38 (by decide) ?_
      exact r_iret (pc := 39) C R0 h dX3_readWith_39
    · refine r_iconst (pc := 24) (v := (nI 5)) C dX3_readWith_24 (by decide) ?_
      exact r_iret (pc := 25) C R0 h dX3_readWith_25
  · refine r_iconst (pc := 9) (v := (nI 0)) C dX3_readWith_9 (by decide) ?_
    exact r_iret (pc := 10) C R0 h dX3_readWith_10
theorem dX3_readDefenders_0 : decode cX3_readDefenders 0 = .ok (.iconst 0, 1) := by decide +kernel
theorem dX3_readDefenders_1 : decode cX3_readDefenders 1 = .ok (.istore_n 1, 1) := by decide +kernel
theorem dX3_readDefenders_2 : decode cX3_readDefenders 2 = .ok (.iload_n 1, 1) := by decide +kernel
theorem dX3_readDefenders_3 : decode cX3_readDefenders 3 = .ok (.bipush 10, 2) := by decide +kernel
theorem dX3_readDefenders_5 : decode cX3_readDefenders 5 = .ok (.if_icmp .gt 76, 3) := by decide +kernel
theorem dX3_readDefenders_8 : decode cX3_readDefenders 8 = .ok (.aload_n 0, 1) := by decide +kernel
theorem dX3_readDefenders_9 : decode cX3_readDefenders 9 = .ok (.invokevirtual 218, 3) := by decide +kernel
theorem dX3_readDefenders_12 : decode cX3_readDefenders 12 = .ok (.istore_n 2, 1) := by decide +kernel
theorem dX3_readDefenders_13 : decode cX3_readDefenders 13 = .ok (.iload_n 2, 1) := by decide +kernel
theorem dX3_readDefenders_14 : decode cX3_readDefenders 14 = .ok (.ifCond .eq 5, 3) := by decide +kernel
theorem dX3_readDefenders_17 : decode cX3_readDefenders 17 = .ok (.iload_n 2, 1) := by decide +kernel
theorem dX3_readDefenders_18 : decode cX3_readDefenders 18 = .ok (.ireturn, 1) := by decide +kernel
theorem dX3_readDefenders_19 : decode cX3_readDefenders 19 = .ok (.aload_n 0, 1) := by decide +kernel
theorem dX3_readDefenders_20 : decode cX3_readDefenders 20 = .ok (.invokevirtual 60, 3) := by decide +kernel
theorem dX3_readDefenders_23 : decode cX3_readDefenders 23 = .ok (.aload_n 0, 1) := by decide +kernel
theorem dX3_readDefenders_24 : decode cX3_readDefenders 24 = .ok (.getfield 12, 3) := by decide +kernel
theorem dX3_readDefenders_27 : decode cX3_readDefenders 27 = .ok (.getfield 205, 3) := by decide +kernel
theorem dX3_readDefenders_30 : decode cX3_readDefenders 30 = .ok (.iconst 3, 1) := by decide +kernel
theorem dX3_readDefenders_31 : decode cX3_readDefenders 31 = .ok (.if_icmp .ne 19, 3) := by decide +kernel
theorem dX3_readDefenders_34 : decode cX3_readDefenders 34 = .ok (.aload_n 0, 1) := by decide +kernel
theorem dX3_readDefenders_35 : decode cX3_readDefenders 35 = .ok (.getfield 12, 3) := by decide +kernel
theorem dX3_readDefenders_38 : decode cX3_readDefenders 38 = .ok (.aload_n 0, 1) := by decide +kernel
theorem dX3_readDefenders_39 : decode cX3_readDefenders 39 = .ok (.getfield 35, 3) := by decide +kernel
theorem dX3_readDefenders_42 : decode cX3_readDefenders 42 = .ok (.putfield 221, 3) := by decide +kernel
theorem dX3_readDefenders_45 : decode cX3_readDefenders 45 = .ok (.aload_n 0, 1) := by decide +kernel
theorem dX3_readDefenders_46 : decode cX3_readDefenders 46 = .ok (.invokevirtual 224, 3) := by decide +kernel
theorem dX3_readDefenders_49 : decode cX3_readDefenders 49 = .ok (.ireturn, 1) := by decide +kernel
theorem dX3_readDefenders_50 : decode cX3_readDefenders 50 = .ok (.aload_n 0, 1) := by decide +kernel
theorem dX3_readDefenders_51 : decode cX3_readDefenders 51 = .ok (.getfield 12, 3) := by decide +kernel
theorem dX3_readDefenders_54 : decode cX3_readDefenders 54 = .ok (.aload_n 0, 1) := by decide +kernel
theorem dX3_readDefenders_55 : decode cX3_readDefenders 55 = .ok (.getfield 35, 3) := by decide +kernel
theorem dX3_readDefenders_58 : decode cX3_readDefenders 58 = .ok (.invokevirtual 227, 3) := by decide +kernel
theorem dX3_readDefenders_61 : decode cX3_readDefenders 61 = .ok (.aload_n 0, 1) := by decide +kernel
theorem dX3_readDefenders_62 : decode cX3_readDefenders 62 = .ok (.bipush 44, 2) := by decide +kernel
theorem dX3_readDefenders_64 : decode cX3_readDefenders 64 = .ok (.invokevirtual 126, 3) := by decide +kernel
theorem dX3_readDefenders_67 : decode cX3_readDefenders 67 = .ok (.ifCond .eq 8, 3) := by decide +kernel
theorem dX3_readDefenders_70 : decode cX3_readDefenders 70 = .ok (.aload_n 0, 1) := by decide +kernel
theorem dX3_readDefenders_71 : decode cX3_readDefenders 71 = .ok (.invokevirtual 224, 3) := by decide +kernel
theorem dX3_readDefenders_74 : decode cX3_readDefenders 74 = .ok (.ireturn, 1) := by decide +kernel
theorem dX3_readDefenders_75 : decode cX3_readDefenders 75 = .ok (.iinc 1 1, 3) := by decide +kernel
theorem dX3_readDefenders_78 : decode cX3_readDefenders 78 = .ok (.goto (-76), 3) := by decide +kernel
theorem dX3_readDefenders_81 : decode cX3_readDefenders 81 = .ok (.iconst 1, 1) := by decide +kernel
theorem dX3_readDefenders_82 : decode cX3_readDefenders 82 = .ok (.ireturn, 1) := by decide +kernel
def fX3_readDefenders_l2 (p0 : Nat) (K : Int32 → xMem → Option (Int32 × xMem)) : Nat → Int32 → xMem → Option (Int32 × xMem)
  | 0, _, _ => none
  | n + 1, v1, M => if (nI 10) < v1 then (K v1 M) else (xBn (fX3_checkDefender p0 M) fun r1 M2 => if r1 = 0 then (xBv (fX3_advance p0 M2) fun M3 => if (M3.1 (xrf p0 2) 1) = (nI 3) then (xLt (xwI M3 (xrf p0 2) 2 (M3.1 p0 8)) fun M10 => xBn (fX3_readWith p0 M10) fun r11 M12 => some (r11, M12)) else (xBv (fX4_addTouched (xrf p0 2) (M3.1 p0 8) M3) fun M4 => xBn (fX3_takeSign p0 (nI 44) M4) fun r5 M6 => if r5 = 0 then (xLt (v1 + nI 1) fun x7 => fX3_readDefenders_l2 p0 K n x7 M6) else (xBn (fX3_readWith p0 M6) fun r8 M9 => some (r8, M9)))) else (some (r1, M2)))
def fX3_readDefenders (a0 : Nat) (M : xMem) : Option (Int32 × xMem) :=
  fX3_readDefenders_l2 a0 (fun (v13 : Int32) (M14 : xMem) => some ((nI 1), M14)) xFU (nI 0) M
set_option maxRecDepth 100000 in
set_option maxHeartbeats 4000000 in
theorem lX3_readDefenders_2 {X : xCX} {r : Int32} {M' : xMem} (C : xCk X cX3_readDefenders RX3 7) (R0 : xRk X (some .int) (some (.int r), M')) (hnL : X.2.2.2.2.2.2.2.2.2.2.2.2.2 = 3) (p0 : Nat) (hp0 : xkd p0 = 3) (K : Int32 → xMem → Option (Int32 × xMem)) (hK : ∀ (v1 : Int32) (M : xMem), K v1 M = some (r, M') → WW X 81 [some (vr X.1 p0), some (.int v1), none] [] M) : ∀ (n : Nat) (v1 : Int32) (M : xMem), fX3_readDefenders_l2 p0 K n v1 M = some (r, M') → WW X 2 [some (vr X.1 p0), some (.int v1), none] [] M := by
  have hn1 : 1 < X.2.2.2.2.2.2.2.2.2.2.2.2.2 := by rw [hnL]; decide
  have hn2 : 2 < X.2.2.2.2.2.2.2.2.2.2.2.2.2 := by rw [hnL]; decide
  intro n
  induction n with
  | zero =>
    intro v1 M h
    cases (show (none : Option (Int32 × xMem)) = some (r, M') from h)
  | succ n ih =>
    intro v1 M h
    rw [fX3_readDefenders_l2.eq_2] at h
    refine r_iload_n (pc := 2) C dX3_readDefenders_2 rfl rfl ?_
    refine r_bipush (pc := 3) (v := (nI 10)) C dX3_readDefenders_3 (by decide) ?_
    refine r_icmp_gt (pc := 5) (tgt := 81) C dX3_readDefenders_5 (by decide) h (fun _ h => ?_) (fun _ h => ?_)
    · exact hK v1 M h
    · refine r_aload_n (pc := 8) C dX3_readDefenders_8 rfl rfl ?_
      refine r_vI0 (pc := 9) C (fun r M' e => zX3_checkDefender X.1 p0 hp0 M r M' e) hp0 (by decide) rfl mX3_checkDefender lX3_218 (by decide) (Nat.le_of_ble_eq_true rfl) dX3_readDefenders_9 h (fun r1 M2 h => ?_)
      refine r_istore_n (pc := 12) (lv' := [_, _, _]) C dX3_readDefenders_12 rfl hn2 rfl ?_
      refine r_iload_n (pc := 13) C dX3_readDefenders_13 rfl rfl ?_
      refine r_if_eq (pc := 14) (tgt := 19) C dX3_readDefenders_14 (by decide) h (fun _ h => ?_) (fun _ h => ?_)
      · refine r_aload_n (pc := 19) C dX3_readDefenders_19 rfl rfl ?_
        refine r_vV0 (pc := 20) C (fun M' e => zX3_advance X.1 p0 hp0 M2 M' e) hp0 (by decide) rfl mX3_advance lX3_60 (by decide) (Nat.le_of_ble_eq_true rfl) dX3_readDefenders_20 h (fun M3 h => ?_)
        refine r_aload_n (pc := 23) C dX3_readDefenders_23 rfl rfl ?_
        refine r_getR (pc := 24) C kX3_12 hp0 (by decide) dX3_readDefenders_24 ?_
        refine r_getI (pc := 27) C kX3_205 (xtk hp0 (by decide) rfl rfl) dX3_readDefenders_27 ?_
        refine r_iconst (pc := 30) (v := (nI 3)) C dX3_readDefenders_30 (by decide) ?_
        refine r_icmp_ne (pc := 31) (tgt := 50) C dX3_readDefenders_31 (by decide) h (fun _ h => ?_) (fun _ h => ?_)
        · refine r_aload_n (pc := 50) C dX3_readDefenders_50 rfl rfl ?_
          refine r_getR (pc := 51) C kX3_12 hp0 (by decide) dX3_readDefenders_51 ?_
          refine r_aload_n (pc := 54) C dX3_readDefenders_54 rfl rfl ?_
          refine r_getI (pc := 55) C kX3_35 hp0 dX3_readDefenders_55 ?_
          refine r_vV1 (pc := 58) C (fun M' e => zX4_addTouched X.1 (xrf p0 2) (xtk hp0 (by decide) rfl rfl) (M3.1 p0 8) M3 M' e) (xtk hp0 (by decide) rfl rfl) (by decide) rfl mX4_addTouched lX3_227 (by decide) (Nat.le_of_ble_eq_true rfl) dX3_readDefenders_58 h (fun M4 h => ?_)
          refine r_aload_n (pc := 61) C dX3_readDefenders_61 rfl rfl ?_
          refine r_bipush (pc := 62) (v := (nI 44)) C dX3_readDefenders_62 (by decide) ?_
          refine r_vI1 (pc := 64) C (fun r M' e => zX3_takeSign X.1 p0 hp0 (nI 44) M4 r M' e) hp0 (by decide) rfl mX3_takeSign lX3_126 (by decide) (Nat.le_of_ble_eq_true rfl) dX3_readDefenders_64 h (fun r5 M6 h => ?_)
          refine r_if_eq (pc := 67) (tgt := 75) C dX3_readDefenders_67 (by decide) h (fun _ h => ?_) (fun _ h => ?_)
          · refine r_iincL (pc := 75) (c := nI 1) C dX3_readDefenders_75 rfl (by decide) hn1 h (fun x7 h => ?_)
            refine r_lvE (lv' := [_, _, _]) rfl ?_
            refine r_goto (pc := 78) (tgt := 2) C dX3_readDefenders_78 (by decide) ?_
            exact r_lv (xle_at (xle_some rfl (xle_some rfl (xle_none xle_nil)))) (ih x7 M6 h)
          · refine r_aload_n (pc := 70) C dX3_readDefenders_70 rfl rfl ?_
            refine r_vI0 (pc := 71) C (fun r M' e => zX3_readWith X.1 p0 hp0 M6 r M' e) hp0 (by decide) rfl mX3_readWith lX3_224 (by decide) (Nat.le_of_ble_eq_true rfl) dX3_readDefenders_71 h (fun r8 M9 h => ?_)
            exact r_iret (pc := 74) C R0 h dX3_readDefenders_74
        · refine r_aload_n (pc := 34) C dX3_readDefenders_34 rfl rfl ?_
          refine r_getR (pc := 35) C kX3_12 hp0 (by decide) dX3_readDefenders_35 ?_
          refine r_aload_n (pc := 38) C dX3_readDefenders_38 rfl rfl ?_
          refine r_getI (pc := 39) C kX3_35 hp0 dX3_readDefenders_39 ?_
          refine r_putI (pc := 42) C kX3_221 (xtk hp0 (by decide) rfl rfl) dX3_readDefenders_42 ?_
          refine r_letM h (fun M10 h => ?_)
          refine r_aload_n (pc := 45) C dX3_readDefenders_45 rfl rfl ?_
          refine r_vI0 (pc := 46) C (fun r M' e => zX3_readWith X.1 p0 hp0 M10 r M' e) hp0 (by decide) rfl mX3_readWith lX3_224 (by decide) (Nat.le_of_ble_eq_true rfl) dX3_readDefenders_46 h (fun r11 M12 h => ?_)
          exact r_iret (pc := 49) C R0 h dX3_readDefenders_49
      · refine r_iload_n (pc := 17) C dX3_readDefenders_17 rfl rfl ?_
        exact r_iret (pc := 18) C R0 h dX3_readDefenders_18
set_option maxRecDepth 100000 in
set_option maxHeartbeats 4000000 in
theorem zX3_readDefenders (G : xGX) (a0 : Nat) (h0 : xkd a0 = 3) (M : xMem) (r : Int32) (M' : xMem) (h : fX3_readDefenders a0 M = some (r, M')) : xCt G yX3_readDefenders cX3_readDefenders 3 (some .int) 7 [vr G a0] M (some (.int r), M') := by
  refine xMet (lv := [some (vr G a0), none, none]) (by decide) (Nat.le_of_ble_eq_true rfl) rfl ?_
  intro X hG hnL C R0
  subst hG
  have C : xCk X cX3_readDefenders RX3 7 := C
  have hn1 : 1 < X.2.2.2.2.2.2.2.2.2.2.2.2.2 := by rw [hnL]; decide
  have hn2 : 2 < X.2.2.2.2.2.2.2.2.2.2.2.2.2 := by rw [hnL]; decide
  unfold fX3_readDefenders at h
  refine r_iconst (pc := 0) (v := (nI 0)) C dX3_readDefenders_0 (by decide) ?_
  refine r_istore_n (pc := 1) (lv' := [_, _, _]) C dX3_readDefenders_1 rfl hn1 rfl ?_
  refine lX3_readDefenders_2 C R0 hnL a0 h0 _ (fun v13 M14 h => ?_) _ _ _ h
  refine r_iconst (pc := 81) (v := (nI 1)) C dX3_readDefenders_81 (by decide) ?_
  exact r_iret (pc := 82) C R0 h dX3_readDefenders_82
theorem dX3_readRaid_0 : decode cX3_readRaid 0 = .ok (.aload_n 0, 1) := by decide +kernel
theorem dX3_readRaid_1 : decode cX3_readRaid 1 = .ok (.aload_n 0, 1) := by decide +kernel
theorem dX3_readRaid_2 : decode cX3_readRaid 2 = .ok (.getfield 45, 3) := by decide +kernel
theorem dX3_readRaid_5 : decode cX3_readRaid 5 = .ok (.getfield 188, 3) := by decide +kernel
theorem dX3_readRaid_8 : decode cX3_readRaid 8 = .ok (.getfield 192, 3) := by decide +kernel
theorem dX3_readRaid_11 : decode cX3_readRaid 11 = .ok (.invokevirtual 197, 3) := by decide +kernel
theorem dX3_readRaid_14 : decode cX3_readRaid 14 = .ok (.istore_n 1, 1) := by decide +kernel
theorem dX3_readRaid_15 : decode cX3_readRaid 15 = .ok (.iload_n 1, 1) := by decide +kernel
theorem dX3_readRaid_16 : decode cX3_readRaid 16 = .ok (.ifCond .eq 5, 3) := by decide +kernel
theorem dX3_readRaid_19 : decode cX3_readRaid 19 = .ok (.iload_n 1, 1) := by decide +kernel
theorem dX3_readRaid_20 : decode cX3_readRaid 20 = .ok (.ireturn, 1) := by decide +kernel
theorem dX3_readRaid_21 : decode cX3_readRaid 21 = .ok (.aload_n 0, 1) := by decide +kernel
theorem dX3_readRaid_22 : decode cX3_readRaid 22 = .ok (.getfield 45, 3) := by decide +kernel
theorem dX3_readRaid_25 : decode cX3_readRaid 25 = .ok (.getfield 188, 3) := by decide +kernel
theorem dX3_readRaid_28 : decode cX3_readRaid 28 = .ok (.aload_n 0, 1) := by decide +kernel
theorem dX3_readRaid_29 : decode cX3_readRaid 29 = .ok (.getfield 35, 3) := by decide +kernel
theorem dX3_readRaid_32 : decode cX3_readRaid 32 = .ok (.invokevirtual 200, 3) := by decide +kernel
theorem dX3_readRaid_35 : decode cX3_readRaid 35 = .ok (.ifCond .ne 5, 3) := by decide +kernel
theorem dX3_readRaid_38 : decode cX3_readRaid 38 = .ok (.iconst 5, 1) := by decide +kernel
theorem dX3_readRaid_39 : decode cX3_readRaid 39 = .ok (.ireturn, 1) := by decide +kernel
theorem dX3_readRaid_40 : decode cX3_readRaid 40 = .ok (.aload_n 0, 1) := by decide +kernel
theorem dX3_readRaid_41 : decode cX3_readRaid 41 = .ok (.invokevirtual 60, 3) := by decide +kernel
theorem dX3_readRaid_44 : decode cX3_readRaid 44 = .ok (.aload_n 0, 1) := by decide +kernel
theorem dX3_readRaid_45 : decode cX3_readRaid 45 = .ok (.invokevirtual 113, 3) := by decide +kernel
theorem dX3_readRaid_48 : decode cX3_readRaid 48 = .ok (.istore_n 2, 1) := by decide +kernel
theorem dX3_readRaid_49 : decode cX3_readRaid 49 = .ok (.iload_n 2, 1) := by decide +kernel
theorem dX3_readRaid_50 : decode cX3_readRaid 50 = .ok (.bipush 12, 2) := by decide +kernel
theorem dX3_readRaid_52 : decode cX3_readRaid 52 = .ok (.bipush 16, 2) := by decide +kernel
theorem dX3_readRaid_54 : decode cX3_readRaid 54 = .ok (.invokestatic 160, 3) := by decide +kernel
theorem dX3_readRaid_57 : decode cX3_readRaid 57 = .ok (.ifCond .ne 5, 3) := by decide +kernel
theorem dX3_readRaid_60 : decode cX3_readRaid 60 = .ok (.iconst 1, 1) := by decide +kernel
theorem dX3_readRaid_61 : decode cX3_readRaid 61 = .ok (.ireturn, 1) := by decide +kernel
theorem dX3_readRaid_62 : decode cX3_readRaid 62 = .ok (.aload_n 0, 1) := by decide +kernel
theorem dX3_readRaid_63 : decode cX3_readRaid 63 = .ok (.getfield 12, 3) := by decide +kernel
theorem dX3_readRaid_66 : decode cX3_readRaid 66 = .ok (.aload_n 0, 1) := by decide +kernel
theorem dX3_readRaid_67 : decode cX3_readRaid 67 = .ok (.getfield 35, 3) := by decide +kernel
theorem dX3_readRaid_70 : decode cX3_readRaid 70 = .ok (.iload_n 2, 1) := by decide +kernel
theorem dX3_readRaid_71 : decode cX3_readRaid 71 = .ok (.bipush 12, 2) := by decide +kernel
theorem dX3_readRaid_73 : decode cX3_readRaid 73 = .ok (.isub, 1) := by decide +kernel
theorem dX3_readRaid_74 : decode cX3_readRaid 74 = .ok (.invokevirtual 203, 3) := by decide +kernel
theorem dX3_readRaid_77 : decode cX3_readRaid 77 = .ok (.aload_n 0, 1) := by decide +kernel
theorem dX3_readRaid_78 : decode cX3_readRaid 78 = .ok (.getfield 12, 3) := by decide +kernel
theorem dX3_readRaid_81 : decode cX3_readRaid 81 = .ok (.getfield 205, 3) := by decide +kernel
theorem dX3_readRaid_84 : decode cX3_readRaid 84 = .ok (.iconst 2, 1) := by decide +kernel
theorem dX3_readRaid_85 : decode cX3_readRaid 85 = .ok (.if_icmp .ne 18, 3) := by decide +kernel
theorem dX3_readRaid_88 : decode cX3_readRaid 88 = .ok (.aload_n 0, 1) := by decide +kernel
theorem dX3_readRaid_89 : decode cX3_readRaid 89 = .ok (.getfield 45, 3) := by decide +kernel
theorem dX3_readRaid_92 : decode cX3_readRaid 92 = .ok (.getfield 188, 3) := by decide +kernel
theorem dX3_readRaid_95 : decode cX3_readRaid 95 = .ok (.invokevirtual 208, 3) := by decide +kernel
theorem dX3_readRaid_98 : decode cX3_readRaid 98 = .ok (.ifCond .ne 5, 3) := by decide +kernel
theorem dX3_readRaid_101 : decode cX3_readRaid 101 = .ok (.iconst 5, 1) := by decide +kernel
theorem dX3_readRaid_102 : decode cX3_readRaid 102 = .ok (.ireturn, 1) := by decide +kernel
theorem dX3_readRaid_103 : decode cX3_readRaid 103 = .ok (.aload_n 0, 1) := by decide +kernel
theorem dX3_readRaid_104 : decode cX3_readRaid 104 = .ok (.invokevirtual 60, 3) := by decide +kernel
theorem dX3_readRaid_107 : decode cX3_readRaid 107 = .ok (.aload_n 0, 1) := by decide +kernel
theorem dX3_readRaid_108 : decode cX3_readRaid 108 = .ok (.getfield 12, 3) := by decide +kernel
theorem dX3_readRaid_111 : decode cX3_readRaid 111 = .ok (.getfield 205, 3) := by decide +kernel
theorem dX3_readRaid_114 : decode cX3_readRaid 114 = .ok (.iconst 1, 1) := by decide +kernel
theorem dX3_readRaid_115 : decode cX3_readRaid 115 = .ok (.if_icmp .eq 14, 3) := by decide +kernel
theorem dX3_readRaid_118 : decode cX3_readRaid 118 = .ok (.aload_n 0, 1) := by decide +kernel
theorem dX3_readRaid_119 : decode cX3_readRaid 119 = .ok (.getfield 12, 3) := by decide +kernel
theorem dX3_readRaid_122 : decode cX3_readRaid 122 = .ok (.getfield 205, 3) := by decide +kernel
theorem dX3_readRaid_125 : decode cX3_readRaid 125 = .ok (.iconst 3, 1) := by decide +kernel
theorem dX3_readRaid_126 : decode cX3_readRaid 126 = .ok (.if_icmp .ne 8, 3) := by decide +kernel
theorem dX3_readRaid_129 : decode cX3_readRaid 129 = .ok (.aload_n 0, 1) := by decide +kernel
theorem dX3_readRaid_130 : decode cX3_readRaid 130 = .ok (.invokevirtual 211, 3) := by decide +kernel
theorem dX3_readRaid_133 : decode cX3_readRaid 133 = .ok (.istore_n 1, 1) := by decide +kernel
theorem dX3_readRaid_134 : decode cX3_readRaid 134 = .ok (.aload_n 0, 1) := by decide +kernel
theorem dX3_readRaid_135 : decode cX3_readRaid 135 = .ok (.aload_n 0, 1) := by decide +kernel
theorem dX3_readRaid_136 : decode cX3_readRaid 136 = .ok (.getfield 12, 3) := by decide +kernel
theorem dX3_readRaid_139 : decode cX3_readRaid 139 = .ok (.invokevirtual 214, 3) := by decide +kernel
theorem dX3_readRaid_142 : decode cX3_readRaid 142 = .ok (.putfield 38, 3) := by decide +kernel
theorem dX3_readRaid_145 : decode cX3_readRaid 145 = .ok (.iload_n 1, 1) := by decide +kernel
theorem dX3_readRaid_146 : decode cX3_readRaid 146 = .ok (.ireturn, 1) := by decide +kernel
def fX3_readRaid (a0 : Nat) (M : xMem) : Option (Int32 × xMem) :=
  xBn (fX3_nextShirt a0 (M.1 (xrf (xrf a0 1) 1) 1) M) fun r1 M2 => if r1 = 0 then (xBn (fX8_canSend (xrf (xrf a0 1) 1) (M2.1 a0 8) M2) fun r3 M4 => if r3 = 0 then (some ((nI 5), M4)) else (xBv (fX3_advance a0 M4) fun M5 => xBn (fX3_word a0 M5) fun r6 M7 => xBn (fX10_isWithin r6 (nI 12) (nI 16) M7) fun r8 M9 => if r8 = 0 then (some ((nI 1), M9)) else (xBv (fX4_begin (xrf a0 2) (M9.1 a0 8) (r6 - (nI 12)) M9) fun M10 => xLt (fun  (M11 : xMem) => (xBv (fX3_advance a0 M11) fun M12 => xLt (fun (v13 : Int32) (M14 : xMem) => (xBn (fX4_pack (xrf a0 2) M14) fun r15 M16 => xLt (xwL M16 a0 9 r15) fun M17 => some (v13, M17) : Option (Int32 × xMem))) fun J134 => xLt (fun  (M18 : xMem) => (xBn (fX3_readDefenders a0 M18) fun r19 M20 => J134 r19 M20 : Option (Int32 × xMem))) fun J129 => if (M12.1 (xrf a0 2) 1) = (nI 1) then (J129  M12) else (if (M12.1 (xrf a0 2) 1) = (nI 3) then (J129  M12) else (J134 r1 M12)) : Option (Int32 × xMem))) fun J103 => if (M10.1 (xrf a0 2) 1) = (nI 2) then (xBn (fX8_isBonusOpen (xrf (xrf a0 1) 1) M10) fun r21 M22 => if r21 = 0 then (some ((nI 5), M22)) else (J103  M22)) else (J103  M10)))) else (some (r1, M2))
set_option maxRecDepth 100000 in
set_option maxHeartbeats 4000000 in
theorem zX3_readRaid (G : xGX) (a0 : Nat) (h0 : xkd a0 = 3) (M : xMem) (r : Int32) (M' : xMem) (h : fX3_readRaid a0 M = some (r, M')) : xCt G yX3_readRaid cX3_readRaid 3 (some .int) 8 [vr G a0] M (some (.int r), M') := by
  refine xMet (lv := [some (vr G a0), none, none]) (by decide) (Nat.le_of_ble_eq_true rfl) rfl ?_
  intro X hG hnL C R0
  subst hG
  have C : xCk X cX3_readRaid RX3 8 := C
  have hn1 : 1 < X.2.2.2.2.2.2.2.2.2.2.2.2.2 := by rw [hnL]; decide
  have hn2 : 2 < X.2.2.2.2.2.2.2.2.2.2.2.2.2 := by rw [hnL]; decide
  unfold fX3_readRaid at h
  refine r_aload_n (pc := 0) C dX3_readRaid_0 rfl rfl ?_
  refine r_aload_n (pc := 1) C dX3_readRaid_1 rfl rfl ?_
  refine r_getR (pc := 2) C kX3_45 h0 (by decide) dX3_readRaid_2 ?_
  refine r_getR (pc := 5) C kX3_188 (xtk h0 (by decide) rfl rfl) (by decide) dX3_readRaid_5 ?_
  refine r_getI (pc := 8) C kX3_192 (xtk (xtk h0 (by decide) rfl rfl) (by decide) rfl rfl) dX3_readRaid_8 ?_
  refine r_vI1 (pc := 11) C (fun r M' e => zX3_nextShirt X.1 a0 h0 (M.1 (xrf (xrf a0 1) 1) 1) M r M' e) h0 (by decide) rfl mX3_nextShirt lX3_197 (by decide) (Nat.le_of_ble_eq_true rfl) dX3_readRaid_11 h (fun r1 M2 h => ?_)
  refine r_istore_n (pc := 14) (lv' := [_, _, _]) C dX3_readRaid_14 rfl hn1 rfl ?_
  refine r_iload_n (pc := 15) C dX3_readRaid_15 rfl rfl ?_
  refine r_if_eq (pc := 16) (tgt := 21) C dX3_readRaid_16 (by decide) h (fun _ h => ?_) (fun _ h => ?_)
  · refine r_aload_n (pc := 21) C dX3_readRaid_21 rfl rfl ?_
    refine r_getR (pc := 22) C kX3_45 h0 (by decide) dX3_readRaid_22 ?_
    refine r_getR (pc := 25) C kX3_188 (xtk h0 (by decide) rfl rfl) (by decide) dX3_readRaid_25 ?_
    refine r_aload_n (pc := 28) C dX3_readRaid_28 rfl rfl ?_
    refine r_getI (pc := 29) C kX3_35 h0 dX3_readRaid_29 ?_
    refine r_vI1 (pc := 32) C (fun r M' e => zX8_canSend X.1 (xrf (xrf a0 1) 1) (xtk (xtk h0 (by decide) rfl rfl) (by decide) rfl rfl) (M2.1 a0 8) M2 r M' e) (xtk (xtk h0 (by decide) rfl rfl) (by decide) rfl rfl) (by decide) rfl mX8_canSend lX3_200 (by decide) (Nat.le_of_ble_eq_true rfl) dX3_readRaid_32 h (fun r3 M4 h => ?_)
    refine r_if_ne (pc := 35) (tgt := 40) C dX3_readRaid_35 (by decide) h (fun _ h => ?_) (fun _ h => ?_)
    · refine r_aload_n (pc := 40) C dX3_readRaid_40 rfl rfl ?_
      refine r_vV0 (pc := 41) C (fun M' e => zX3_advance X.1 a0 h0 M4 M' e) h0 (by decide) rfl mX3_advance lX3_60 (by decide) (Nat.le_of_ble_eq_true rfl) dX3_readRaid_41 h (fun M5 h => ?_)
      refine r_aload_n (pc := 44) C dX3_readRaid_44 rfl rfl ?_
      refine r_vI0 (pc := 45) C (fun r M' e => zX3_word X.1 a0 h0 M5 r M' e) h0 (by decide) rfl mX3_word lX3_113 (by decide) (Nat.le_of_ble_eq_true rfl) dX3_readRaid_45 h (fun r6 M7 h => ?_)
      refine r_istore_n (pc := 48) (lv' := [_, _, _]) C dX3_readRaid_48 rfl hn2 rfl ?_
      refine r_iload_n (pc := 49) C dX3_readRaid_49 rfl rfl ?_
      refine r_bipush (pc := 50) (v := (nI 12)) C dX3_readRaid_50 (by decide) ?_
      refine r_bipush (pc := 52) (v := (nI 16)) C dX3_readRaid_52 (by decide) ?_
      refine r_sI3 (pc := 54) C (fun r M' e => zX10_isWithin X.1 r6 (nI 12) (nI 16) M7 r M' e) mX10_isWithin lX3_160 (by decide) (Nat.le_of_ble_eq_true rfl) dX3_readRaid_54 h (fun r8 M9 h => ?_)
      refine r_if_ne (pc := 57) (tgt := 62) C dX3_readRaid_57 (by decide) h (fun _ h => ?_) (fun _ h => ?_)
      · refine r_aload_n (pc := 62) C dX3_readRaid_62 rfl rfl ?_
        refine r_getR (pc := 63) C kX3_12 h0 (by decide) dX3_readRaid_63 ?_
        refine r_aload_n (pc := 66) C dX3_readRaid_66 rfl rfl ?_
        refine r_getI (pc := 67) C kX3_35 h0 dX3_readRaid_67 ?_
        refine r_iload_n (pc := 70) C dX3_readRaid_70 rfl rfl ?_
        refine r_bipush (pc := 71) (v := (nI 12)) C dX3_readRaid_71 (by decide) ?_
        refine r_isub (pc := 73) C dX3_readRaid_73 ?_
        refine r_vV2 (pc := 74) C (fun M' e => zX4_begin X.1 (xrf a0 2) (xtk h0 (by decide) rfl rfl) (M9.1 a0 8) (r6 - (nI 12)) M9 M' e) (xtk h0 (by decide) rfl rfl) (by decide) rfl mX4_begin lX3_203 (by decide) (Nat.le_of_ble_eq_true rfl) dX3_readRaid_74 h (fun M10 h => ?_)
        refine r_aload_n (pc := 77) C dX3_readRaid_77 rfl rfl ?_
        refine r_getR (pc := 78) C kX3_12 h0 (by decide) dX3_readRaid_78 ?_
        refine r_getI (pc := 81) C kX3_205 (xtk h0 (by decide) rfl rfl) dX3_readRaid_81 ?_
        refine r_iconst (pc := 84) (v := (nI 2)) C dX3_readRaid_84 (by decide) ?_
        refine r_jn (fun J => ∀  (M11 : xMem) , J  M11 = some (r, M') → WW X 103 [some (vr X.1 a0), some (.int r1), some (.int r6)] [] M11) h (fun  M11  h => ?_) (fun J103 hJ103 h => ?_)
        · refine r_aload_n (pc := 103) C dX3_readRaid_103 rfl rfl ?_
          refine r_vV0 (pc := 104) C (fun M' e => zX3_advance X.1 a0 h0 M11 M' e) h0 (by decide) rfl mX3_advance lX3_60 (by decide) (Nat.le_of_ble_eq_true rfl) dX3_readRaid_104 h (fun M12 h => ?_)
          refine r_aload_n (pc := 107) C dX3_readRaid_107 rfl rfl ?_
          refine r_getR (pc := 108) C kX3_12 h0 (by decide) dX3_readRaid_108 ?_
          refine r_getI (pc := 111) C kX3_205 (xtk h0 (by decide) rfl rfl) dX3_readRaid_111 ?_
          refine r_iconst (pc := 114) (v := (nI 1)) C dX3_readRaid_114 (by decide) ?_
          refine r_jn (fun J => ∀ (v13 : Int32) (M14 : xMem) , J v13 M14 = some (r, M') → WW X 134 [some (vr X.1 a0), some (.int v13), some (.int r6)] [] M14) h (fun v13 M14  h => ?_) (fun J134 hJ134 h => ?_)
          · refine r_aload_n (pc := 134) C dX3_readRaid_134 rfl rfl ?_
            refine r_aload_n (pc := 135) C dX3_readRaid_135 rfl rfl ?_
            refine r_getR (pc := 136) C kX3_12 h0 (by decide) dX3_readRaid_136 ?_
            refine r_vL0 (pc := 139) C (fun r M' e => zX4_pack X.1 (xrf a0 2) (xtk h0 (by decide) rfl rfl) M14 r M' e) (xtk h0 (by decide) rfl rfl) (by decide) rfl mX4_pack lX3_214 (by decide) (Nat.le_of_ble_eq_true rfl) dX3_readRaid_139 h (fun r15 M16 h => ?_)
            refine r_putL (pc := 142) C kX3_38 h0 dX3_readRaid_142 ?_
            refine r_letM h (fun M17 h => ?_)
            refine r_iload_n (pc := 145) C dX3_readRaid_145 rfl rfl ?_
            exact r_iret (pc := 146) C R0 h dX3_readRaid_146
          refine r_jn (fun J => ∀  (M18 : xMem) , J  M18 = some (r, M') → WW X 129 [some (vr X.1 a0), some (.int r1), some (.int r6)] [] M18) h (fun  M18  h => ?_) (fun J129 hJ129 h => ?_)
          · refine r_aload_n (pc := 129) C dX3_readRaid_129 rfl rfl ?_
            refine r_vI0 (pc := 130) C (fun r M' e => zX3_readDefenders X.1 a0 h0 M18 r M' e) h0 (by decide) rfl mX3_readDefenders lX3_211 (by decide) (Nat.le_of_ble_eq_true rfl) dX3_readRaid_130 h (fun r19 M20 h => ?_)
            refine r_istore_n (pc := 133) (lv' := [_, _, _]) C dX3_readRaid_133 rfl hn1 rfl ?_
            exact hJ134 r19 M20  h
          refine r_icmp_eq (pc := 115) (tgt := 129) C dX3_readRaid_115 (by decide) h (fun _ h => ?_) (fun _ h => ?_)
          · exact hJ129  M12  h
          · refine r_aload_n (pc := 118) C dX3_readRaid_118 rfl rfl ?_
            refine r_getR (pc := 119) C kX3_12 h0 (by decide) dX3_readRaid_119 ?_
            refine r_getI (pc := 122) C kX3_205 (xtk h0 (by decide) rfl rfl) dX3_readRaid_122 ?_
            refine r_iconst (pc := 125) (v := (nI 3)) C dX3_readRaid_125 (by decide) ?_
            refine r_icmp_ne (pc := 126) (tgt := 134) C dX3_readRaid_126 (by decide) h (fun _ h => ?_) (fun _ h => ?_)
            · exact hJ134 r1 M12  h
            · exact hJ129  M12  h
        refine r_icmp_ne (pc := 85) (tgt := 103) C dX3_readRaid_85 (by decide) h (fun _ h => ?_) (fun _ h => ?_)
        · exact hJ103  M10  h
        · refine r_aload_n (pc := 88) C dX3_readRaid_88 rfl rfl ?_
          refine r_getR (pc := 89) C kX3_45 h0 (by decide) dX3_readRaid_89 ?_
          refine r_getR (pc := 92) C kX3_188 (xtk h0 (by decide) rfl rfl) (by decide) dX3_readRaid_92 ?_
          refine r_vI0 (pc := 95) C (fun r M' e => zX8_isBonusOpen X.1 (xrf (xrf a0 1) 1) (xtk (xtk h0 (by decide) rfl rfl) (by decide) rfl rfl) M10 r M' e) (xtk (xtk h0 (by decide) rfl rfl) (by decide) rfl rfl) (by decide) rfl mX8_isBonusOpen lX3_208 (by decide) (Nat.le_of_ble_eq_true rfl) dX3_readRaid_95 h (fun r21 M22 h => ?_)
          refine r_if_ne (pc := 98) (tgt := 103) C dX3_readRaid_98 (by decide) h (fun _ h => ?_) (fun _ h => ?_)
          · exact hJ103  M22  h
          · refine r_iconst (pc := 101) (v := (nI 5)) C dX3_readRaid_101 (by decide) ?_
            exact r_iret (pc := 102) C R0 h dX3_readRaid_102
      · refine r_iconst (pc := 60) (v := (nI 1)) C dX3_readRaid_60 (by decide) ?_
        exact r_iret (pc := 61) C R0 h dX3_readRaid_61
    · refine r_iconst (pc := 38) (v := (nI 5)) C dX3_readRaid_38 (by decide) ?_
      exact r_iret (pc := 39) C R0 h dX3_readRaid_39
  · refine r_iload_n (pc := 19) C dX3_readRaid_19 rfl rfl ?_
    exact r_iret (pc := 20) C R0 h dX3_readRaid_20
theorem dX3_nextName_0 : decode cX3_nextName 0 = .ok (.aload_n 0, 1) := by decide +kernel
theorem dX3_nextName_1 : decode cX3_nextName 1 = .ok (.invokevirtual 60, 3) := by decide +kernel
theorem dX3_nextName_4 : decode cX3_nextName 4 = .ok (.aload_n 0, 1) := by decide +kernel
theorem dX3_nextName_5 : decode cX3_nextName 5 = .ok (.invokevirtual 132, 3) := by decide +kernel
theorem dX3_nextName_8 : decode cX3_nextName 8 = .ok (.ifCond .ne 5, 3) := by decide +kernel
theorem dX3_nextName_11 : decode cX3_nextName 11 = .ok (.iconst 1, 1) := by decide +kernel
theorem dX3_nextName_12 : decode cX3_nextName 12 = .ok (.ireturn, 1) := by decide +kernel
theorem dX3_nextName_13 : decode cX3_nextName 13 = .ok (.aload_n 0, 1) := by decide +kernel
theorem dX3_nextName_14 : decode cX3_nextName 14 = .ok (.aload_n 0, 1) := by decide +kernel
theorem dX3_nextName_15 : decode cX3_nextName 15 = .ok (.getfield 45, 3) := by decide +kernel
theorem dX3_nextName_18 : decode cX3_nextName 18 = .ok (.getfield 49, 3) := by decide +kernel
theorem dX3_nextName_21 : decode cX3_nextName 21 = .ok (.getfield 136, 3) := by decide +kernel
theorem dX3_nextName_24 : decode cX3_nextName 24 = .ok (.aload_n 0, 1) := by decide +kernel
theorem dX3_nextName_25 : decode cX3_nextName 25 = .ok (.getfield 28, 3) := by decide +kernel
theorem dX3_nextName_28 : decode cX3_nextName 28 = .ok (.l2i, 1) := by decide +kernel
theorem dX3_nextName_29 : decode cX3_nextName 29 = .ok (.invokevirtual 140, 3) := by decide +kernel
theorem dX3_nextName_32 : decode cX3_nextName 32 = .ok (.putfield 32, 3) := by decide +kernel
theorem dX3_nextName_35 : decode cX3_nextName 35 = .ok (.aload_n 0, 1) := by decide +kernel
theorem dX3_nextName_36 : decode cX3_nextName 36 = .ok (.getfield 32, 3) := by decide +kernel
theorem dX3_nextName_39 : decode cX3_nextName 39 = .ok (.iconst (-1), 1) := by decide +kernel
theorem dX3_nextName_40 : decode cX3_nextName 40 = .ok (.if_icmp .ne 7, 3) := by decide +kernel
theorem dX3_nextName_43 : decode cX3_nextName 43 = .ok (.iconst 4, 1) := by decide +kernel
theorem dX3_nextName_44 : decode cX3_nextName 44 = .ok (.goto 4, 3) := by decide +kernel
theorem dX3_nextName_47 : decode cX3_nextName 47 = .ok (.iconst 0, 1) := by decide +kernel
theorem dX3_nextName_48 : decode cX3_nextName 48 = .ok (.ireturn, 1) := by decide +kernel
def fX3_nextName (a0 : Nat) (M : xMem) : Option (Int32 × xMem) :=
  xBv (fX3_advance a0 M) fun M1 => xBn (fX3_isName a0 M1) fun r2 M3 => if r2 = 0 then (some ((nI 1), M3)) else (xBn (fX5_teamNamed (xrf (xrf (xrf a0 1) 0) 0) (Int64.toInt32 (M3.2.1 a0 6)) M3) fun r4 M5 => xLt (xwI M5 a0 7 r4) fun M6 => if (M6.1 a0 7) = (-1) then (some ((nI 4), M6)) else (some ((nI 0), M6)))
set_option maxRecDepth 100000 in
set_option maxHeartbeats 4000000 in
theorem zX3_nextName (G : xGX) (a0 : Nat) (h0 : xkd a0 = 3) (M : xMem) (r : Int32) (M' : xMem) (h : fX3_nextName a0 M = some (r, M')) : xCt G yX3_nextName cX3_nextName 1 (some .int) 7 [vr G a0] M (some (.int r), M') := by
  refine xMet (lv := [some (vr G a0)]) (by decide) (Nat.le_of_ble_eq_true rfl) rfl ?_
  intro X hG hnL C R0
  subst hG
  have C : xCk X cX3_nextName RX3 7 := C
  unfold fX3_nextName at h
  refine r_aload_n (pc := 0) C dX3_nextName_0 rfl rfl ?_
  refine r_vV0 (pc := 1) C (fun M' e => zX3_advance X.1 a0 h0 M M' e) h0 (by decide) rfl mX3_advance lX3_60 (by decide) (Nat.le_of_ble_eq_true rfl) dX3_nextName_1 h (fun M1 h => ?_)
  refine r_aload_n (pc := 4) C dX3_nextName_4 rfl rfl ?_
  refine r_vI0 (pc := 5) C (fun r M' e => zX3_isName X.1 a0 h0 M1 r M' e) h0 (by decide) rfl mX3_isName lX3_132 (by decide) (Nat.le_of_ble_eq_true rfl) dX3_nextName_5 h (fun r2 M3 h => ?_)
  refine r_if_ne (pc := 8) (tgt := 13) C dX3_nextName_8 (by decide) h (fun _ h => ?_) (fun _ h => ?_)
  · refine r_aload_n (pc := 13) C dX3_nextName_13 rfl rfl ?_
    refine r_aload_n (pc := 14) C dX3_nextName_14 rfl rfl ?_
    refine r_getR (pc := 15) C kX3_45 h0 (by decide) dX3_nextName_15 ?_
    refine r_getR (pc := 18) C kX3_49 (xtk h0 (by decide) rfl rfl) (by decide) dX3_nextName_18 ?_
    refine r_getR (pc := 21) C kX3_136 (xtk (xtk h0 (by decide) rfl rfl) (by decide) rfl rfl) (by decide) dX3_nextName_21 ?_
    refine r_aload_n (pc := 24) C dX3_nextName_24 rfl rfl ?_
    refine r_getL (pc := 25) C kX3_28 h0 dX3_nextName_25 ?_
    refine r_l2i (pc := 28) C dX3_nextName_28 ?_
    refine r_vI1 (pc := 29) C (fun r M' e => zX5_teamNamed X.1 (xrf (xrf (xrf a0 1) 0) 0) (xtk (xtk (xtk h0 (by decide) rfl rfl) (by decide) rfl rfl) (by decide) rfl rfl) (Int64.toInt32 (M3.2.1 a0 6)) M3 r M' e) (xtk (xtk (xtk h0 (by decide) rfl rfl) (by decide) rfl rfl) (by decide) rfl rfl) (by decide) rfl mX5_teamNamed lX3_140 (by decide) (Nat.le_of_ble_eq_true rfl) dX3_nextName_29 h (fun r4 M5 h => ?_)
    refine r_putI (pc := 32) C kX3_32 h0 dX3_nextName_32 ?_
    refine r_letM h (fun M6 h => ?_)
    refine r_aload_n (pc := 35) C dX3_nextName_35 rfl rfl ?_
    refine r_getI (pc := 36) C kX3_32 h0 dX3_nextName_36 ?_
    refine r_iconst (pc := 39) (v := (-1)) C dX3_nextName_39 (by decide) ?_
    refine r_icmp_ne (pc := 40) (tgt := 47) C dX3_nextName_40 (by decide) h (fun _ h => ?_) (fun _ h => ?_)
    · refine r_iconst (pc := 47) (v := (nI 0)) C dX3_nextName_47 (by decide) ?_
      exact r_iret (pc := 48) C R0 h dX3_nextName_48
    · refine r_iconst (pc := 43) (v := (nI 4)) C dX3_nextName_43 (by decide) ?_
      refine r_goto (pc := 44) (tgt := 48) C dX3_nextName_44 (by decide) ?_
      exact r_iret (pc := 48) C R0 h dX3_nextName_48
  · refine r_iconst (pc := 11) (v := (nI 1)) C dX3_nextName_11 (by decide) ?_
    exact r_iret (pc := 12) C R0 h dX3_nextName_12
theorem dX3_readCard_0 : decode cX3_readCard 0 = .ok (.aload_n 0, 1) := by decide +kernel
theorem dX3_readCard_1 : decode cX3_readCard 1 = .ok (.invokevirtual 245, 3) := by decide +kernel
theorem dX3_readCard_4 : decode cX3_readCard 4 = .ok (.istore_n 1, 1) := by decide +kernel
theorem dX3_readCard_5 : decode cX3_readCard 5 = .ok (.iload_n 1, 1) := by decide +kernel
theorem dX3_readCard_6 : decode cX3_readCard 6 = .ok (.ifCond .ne 12, 3) := by decide +kernel
theorem dX3_readCard_9 : decode cX3_readCard 9 = .ok (.aload_n 0, 1) := by decide +kernel
theorem dX3_readCard_10 : decode cX3_readCard 10 = .ok (.aload_n 0, 1) := by decide +kernel
theorem dX3_readCard_11 : decode cX3_readCard 11 = .ok (.getfield 32, 3) := by decide +kernel
theorem dX3_readCard_14 : decode cX3_readCard 14 = .ok (.invokevirtual 197, 3) := by decide +kernel
theorem dX3_readCard_17 : decode cX3_readCard 17 = .ok (.istore_n 1, 1) := by decide +kernel
theorem dX3_readCard_18 : decode cX3_readCard 18 = .ok (.iload_n 1, 1) := by decide +kernel
theorem dX3_readCard_19 : decode cX3_readCard 19 = .ok (.ifCond .eq 5, 3) := by decide +kernel
theorem dX3_readCard_22 : decode cX3_readCard 22 = .ok (.iload_n 1, 1) := by decide +kernel
theorem dX3_readCard_23 : decode cX3_readCard 23 = .ok (.ireturn, 1) := by decide +kernel
theorem dX3_readCard_24 : decode cX3_readCard 24 = .ok (.aload_n 0, 1) := by decide +kernel
theorem dX3_readCard_25 : decode cX3_readCard 25 = .ok (.getfield 45, 3) := by decide +kernel
theorem dX3_readCard_28 : decode cX3_readCard 28 = .ok (.getfield 188, 3) := by decide +kernel
theorem dX3_readCard_31 : decode cX3_readCard 31 = .ok (.aload_n 0, 1) := by decide +kernel
theorem dX3_readCard_32 : decode cX3_readCard 32 = .ok (.getfield 32, 3) := by decide +kernel
theorem dX3_readCard_35 : decode cX3_readCard 35 = .ok (.aload_n 0, 1) := by decide +kernel
theorem dX3_readCard_36 : decode cX3_readCard 36 = .ok (.getfield 35, 3) := by decide +kernel
theorem dX3_readCard_39 : decode cX3_readCard 39 = .ok (.iconst 2, 1) := by decide +kernel
theorem dX3_readCard_40 : decode cX3_readCard 40 = .ok (.invokevirtual 248, 3) := by decide +kernel
theorem dX3_readCard_43 : decode cX3_readCard 43 = .ok (.ifCond .ne 5, 3) := by decide +kernel
theorem dX3_readCard_46 : decode cX3_readCard 46 = .ok (.iconst 5, 1) := by decide +kernel
theorem dX3_readCard_47 : decode cX3_readCard 47 = .ok (.ireturn, 1) := by decide +kernel
theorem dX3_readCard_48 : decode cX3_readCard 48 = .ok (.aload_n 0, 1) := by decide +kernel
theorem dX3_readCard_49 : decode cX3_readCard 49 = .ok (.invokevirtual 60, 3) := by decide +kernel
theorem dX3_readCard_52 : decode cX3_readCard 52 = .ok (.aload_n 0, 1) := by decide +kernel
theorem dX3_readCard_53 : decode cX3_readCard 53 = .ok (.invokevirtual 113, 3) := by decide +kernel
theorem dX3_readCard_56 : decode cX3_readCard 56 = .ok (.istore_n 2, 1) := by decide +kernel
theorem dX3_readCard_57 : decode cX3_readCard 57 = .ok (.iload_n 2, 1) := by decide +kernel
theorem dX3_readCard_58 : decode cX3_readCard 58 = .ok (.bipush 9, 2) := by decide +kernel
theorem dX3_readCard_60 : decode cX3_readCard 60 = .ok (.bipush 11, 2) := by decide +kernel
theorem dX3_readCard_62 : decode cX3_readCard 62 = .ok (.invokestatic 160, 3) := by decide +kernel
theorem dX3_readCard_65 : decode cX3_readCard 65 = .ok (.ifCond .ne 5, 3) := by decide +kernel
theorem dX3_readCard_68 : decode cX3_readCard 68 = .ok (.iconst 1, 1) := by decide +kernel
theorem dX3_readCard_69 : decode cX3_readCard 69 = .ok (.ireturn, 1) := by decide +kernel
theorem dX3_readCard_70 : decode cX3_readCard 70 = .ok (.iload_n 2, 1) := by decide +kernel
theorem dX3_readCard_71 : decode cX3_readCard 71 = .ok (.bipush 9, 2) := by decide +kernel
theorem dX3_readCard_73 : decode cX3_readCard 73 = .ok (.isub, 1) := by decide +kernel
theorem dX3_readCard_74 : decode cX3_readCard 74 = .ok (.istore_n 3, 1) := by decide +kernel
theorem dX3_readCard_75 : decode cX3_readCard 75 = .ok (.aload_n 0, 1) := by decide +kernel
theorem dX3_readCard_76 : decode cX3_readCard 76 = .ok (.getfield 45, 3) := by decide +kernel
theorem dX3_readCard_79 : decode cX3_readCard 79 = .ok (.getfield 188, 3) := by decide +kernel
theorem dX3_readCard_82 : decode cX3_readCard 82 = .ok (.aload_n 0, 1) := by decide +kernel
theorem dX3_readCard_83 : decode cX3_readCard 83 = .ok (.getfield 32, 3) := by decide +kernel
theorem dX3_readCard_86 : decode cX3_readCard 86 = .ok (.aload_n 0, 1) := by decide +kernel
theorem dX3_readCard_87 : decode cX3_readCard 87 = .ok (.getfield 35, 3) := by decide +kernel
theorem dX3_readCard_90 : decode cX3_readCard 90 = .ok (.iload_n 3, 1) := by decide +kernel
theorem dX3_readCard_91 : decode cX3_readCard 91 = .ok (.invokevirtual 248, 3) := by decide +kernel
theorem dX3_readCard_94 : decode cX3_readCard 94 = .ok (.ifCond .ne 5, 3) := by decide +kernel
theorem dX3_readCard_97 : decode cX3_readCard 97 = .ok (.iconst 5, 1) := by decide +kernel
theorem dX3_readCard_98 : decode cX3_readCard 98 = .ok (.ireturn, 1) := by decide +kernel
theorem dX3_readCard_99 : decode cX3_readCard 99 = .ok (.aload_n 0, 1) := by decide +kernel
theorem dX3_readCard_100 : decode cX3_readCard 100 = .ok (.invokevirtual 60, 3) := by decide +kernel
theorem dX3_readCard_103 : decode cX3_readCard 103 = .ok (.aload_n 0, 1) := by decide +kernel
theorem dX3_readCard_104 : decode cX3_readCard 104 = .ok (.iconst 1, 1) := by decide +kernel
theorem dX3_readCard_105 : decode cX3_readCard 105 = .ok (.aload_n 0, 1) := by decide +kernel
theorem dX3_readCard_106 : decode cX3_readCard 106 = .ok (.getfield 32, 3) := by decide +kernel
theorem dX3_readCard_109 : decode cX3_readCard 109 = .ok (.aload_n 0, 1) := by decide +kernel
theorem dX3_readCard_110 : decode cX3_readCard 110 = .ok (.getfield 35, 3) := by decide +kernel
theorem dX3_readCard_113 : decode cX3_readCard 113 = .ok (.iload_n 3, 1) := by decide +kernel
theorem dX3_readCard_114 : decode cX3_readCard 114 = .ok (.invokestatic 251, 3) := by decide +kernel
theorem dX3_readCard_117 : decode cX3_readCard 117 = .ok (.putfield 38, 3) := by decide +kernel
theorem dX3_readCard_120 : decode cX3_readCard 120 = .ok (.iconst 0, 1) := by decide +kernel
theorem dX3_readCard_121 : decode cX3_readCard 121 = .ok (.ireturn, 1) := by decide +kernel
def fX3_readCard (a0 : Nat) (M : xMem) : Option (Int32 × xMem) :=
  xBn (fX3_nextName a0 M) fun r1 M2 => xLt (fun (v3 : Int32) (M4 : xMem) => (if v3 = 0 then (xBn (fX8_canShow (xrf (xrf a0 1) 1) (M4.1 a0 7) (M4.1 a0 8) (nI 2) M4) fun r5 M6 => if r5 = 0 then (some ((nI 5), M6)) else (xBv (fX3_advance a0 M6) fun M7 => xBn (fX3_word a0 M7) fun r8 M9 => xBn (fX10_isWithin r8 (nI 9) (nI 11) M9) fun r10 M11 => if r10 = 0 then (some ((nI 1), M11)) else (xLt (r8 - (nI 9)) fun x12 => xBn (fX8_canShow (xrf (xrf a0 1) 1) (M11.1 a0 7) (M11.1 a0 8) x12 M11) fun r13 M14 => if r13 = 0 then (some ((nI 5), M14)) else (xBv (fX3_advance a0 M14) fun M15 => xBn (fX4_packOther (nI 1) (M15.1 a0 7) (M15.1 a0 8) x12 M15) fun r16 M17 => xLt (xwL M17 a0 9 r16) fun M18 => some ((nI 0), M18))))) else (some (v3, M4)) : Option (Int32 × xMem))) fun J18 => if r1 = 0 then (xBn (fX3_nextShirt a0 (M2.1 a0 7) M2) fun r19 M20 => J18 r19 M20) else (J18 r1 M2)
set_option maxRecDepth 100000 in
set_option maxHeartbeats 4000000 in
theorem zX3_readCard (G : xGX) (a0 : Nat) (h0 : xkd a0 = 3) (M : xMem) (r : Int32) (M' : xMem) (h : fX3_readCard a0 M = some (r, M')) : xCt G yX3_readCard cX3_readCard 4 (some .int) 8 [vr G a0] M (some (.int r), M') := by
  refine xMet (lv := [some (vr G a0), none, none, none]) (by decide) (Nat.le_of_ble_eq_true rfl) rfl ?_
  intro X hG hnL C R0
  subst hG
  have C : xCk X cX3_readCard RX3 8 := C
  have hn1 : 1 < X.2.2.2.2.2.2.2.2.2.2.2.2.2 := by rw [hnL]; decide
  have hn2 : 2 < X.2.2.2.2.2.2.2.2.2.2.2.2.2 := by rw [hnL]; decide
  have hn3 : 3 < X.2.2.2.2.2.2.2.2.2.2.2.2.2 := by rw [hnL]; decide
  unfold fX3_readCard at h
  refine r_aload_n (pc := 0) C dX3_readCard_0 rfl rfl ?_
  refine r_vI0 (pc := 1) C (fun r M' e => zX3_nextName X.1 a0 h0 M r M' e) h0 (by decide) rfl mX3_nextName lX3_245 (by decide) (Nat.le_of_ble_eq_true rfl) dX3_readCard_1 h (fun r1 M2 h => ?_)
  refine r_istore_n (pc := 4) (lv' := [_, _, _, _]) C dX3_readCard_4 rfl hn1 rfl ?_
  refine r_iload_n (pc := 5) C dX3_readCard_5 rfl rfl ?_
  refine r_jn (fun J => ∀ (v3 : Int32) (M4 : xMem) , J v3 M4 = some (r, M') → WW X 18 [some (vr X.1 a0), some (.int v3), none, none] [] M4) h (fun v3 M4  h => ?_) (fun J18 hJ18 h => ?_)
  · refine r_iload_n (pc := 18) C dX3_readCard_18 rfl rfl ?_
    refine r_if_eq (pc := 19) (tgt := 24) C dX3_readCard_19 (by decide) h (fun _ h => ?_) (fun _ h => ?_)
    · refine r_aload_n (pc := 24) C dX3_readCard_24 rfl rfl ?_
      refine r_getR (pc := 25) C kX3_45 h0 (by decide) dX3_readCard_25 ?_
      refine r_getR (pc := 28) C kX3_188 (xtk h0 (by decide) rfl rfl) (by decide) dX3_readCard_28 ?_
      refine r_aload_n (pc := 31) C dX3_readCard_31 rfl rfl ?_
      refine r_getI (pc := 32) C kX3_32 h0 dX3_readCard_32 ?_
      refine r_aload_n (pc := 35) C dX3_readCard_35 rfl rfl ?_
      refine r_getI (pc := 36) C kX3_35 h0 dX3_readCard_36 ?_
      refine r_iconst (pc := 39) (v := (nI 2)) C dX3_readCard_39 (by decide) ?_
      refine r_vI3 (pc := 40) C (fun r M' e => zX8_canShow X.1 (xrf (xrf a0 1) 1) (xtk (xtk h0 (by decide) rfl rfl) (by decide) rfl rfl) (M4.1 a0 7) (M4.1 a0 8) (nI 2) M4 r M' e) (xtk (xtk h0 (by decide) rfl rfl) (by decide) rfl rfl) (by decide) rfl mX8_canShow lX3_248 (by decide) (Nat.le_of_ble_eq_true rfl) dX3_readCard_40 h (fun r5 M6 h => ?_)
      refine r_if_ne (pc := 43) (tgt := 48) C dX3_readCard_43 (by decide) h (fun _ h => ?_) (fun _ h => ?_)
      · refine r_aload_n (pc := 48) C dX3_readCard_48 rfl rfl ?_
        refine r_vV0 (pc := 49) C (fun M' e => zX3_advance X.1 a0 h0 M6 M' e) h0 (by decide) rfl mX3_advance lX3_60 (by decide) (Nat.le_of_ble_eq_true rfl) dX3_readCard_49 h (fun M7 h => ?_)
        refine r_aload_n (pc := 52) C dX3_readCard_52 rfl rfl ?_
        refine r_vI0 (pc := 53) C (fun r M' e => zX3_word X.1 a0 h0 M7 r M' e) h0 (by decide) rfl mX3_word lX3_113 (by decide) (Nat.le_of_ble_eq_true rfl) dX3_readCard_53 h (fun r8 M9 h => ?_)
        refine r_istore_n (pc := 56) (lv' := [_, _, _, _]) C dX3_readCard_56 rfl hn2 rfl ?_
        refine r_iload_n (pc := 57) C dX3_readCard_57 rfl rfl ?_
        refine r_bipush (pc := 58) (v := (nI 9)) C dX3_readCard_58 (by decide) ?_
        refine r_bipush (pc := 60) (v := (nI 11)) C dX3_readCard_60 (by decide) ?_
        refine r_sI3 (pc := 62) C (fun r M' e => zX10_isWithin X.1 r8 (nI 9) (nI 11) M9 r M' e) mX10_isWithin lX3_160 (by decide) (Nat.le_of_ble_eq_true rfl) dX3_readCard_62 h (fun r10 M11 h => ?_)
        refine r_if_ne (pc := 65) (tgt := 70) C dX3_readCard_65 (by decide) h (fun _ h => ?_) (fun _ h => ?_)
        · refine r_iload_n (pc := 70) C dX3_readCard_70 rfl rfl ?_
          refine r_bipush (pc := 71) (v := (nI 9)) C dX3_readCard_71 (by decide) ?_
          refine r_isub (pc := 73) C dX3_readCard_73 ?_
          refine r_letI h (fun x12 h => ?_)
          refine r_istore_n (pc := 74) (lv' := [_, _, _, _]) C dX3_readCard_74 rfl hn3 rfl ?_
          refine r_aload_n (pc := 75) C dX3_readCard_75 rfl rfl ?_
          refine r_getR (pc := 76) C kX3_45 h0 (by decide) dX3_readCard_76 ?_
          refine r_getR (pc := 79) C kX3_188 (xtk h0 (by decide) rfl rfl) (by decide) dX3_readCard_79 ?_
          refine r_aload_n (pc := 82) C dX3_readCard_82 rfl rfl ?_
          refine r_getI (pc := 83) C kX3_32 h0 dX3_readCard_83 ?_
          refine r_aload_n (pc := 86) C dX3_readCard_86 rfl rfl ?_
          refine r_getI (pc := 87) C kX3_35 h0 dX3_readCard_87 ?_
          refine r_iload_n (pc := 90) C dX3_readCard_90 rfl rfl ?_
          refine r_vI3 (pc := 91) C (fun r M' e => zX8_canShow X.1 (xrf (xrf a0 1) 1) (xtk (xtk h0 (by decide) rfl rfl) (by decide) rfl rfl) (M11.1 a0 7) (M11.1 a0 8) x12 M11 r M' e) (xtk (xtk h0 (by decide) rfl rfl) (by decide) rfl rfl) (by decide) rfl mX8_canShow lX3_248 (by decide) (Nat.le_of_ble_eq_true rfl) dX3_readCard_91 h (fun r13 M14 h => ?_)
          refine r_if_ne (pc := 94) (tgt := 99) C dX3_readCard_94 (by decide) h (fun _ h => ?_) (fun _ h => ?_)
          · refine r_aload_n (pc := 99) C dX3_readCard_99 rfl rfl ?_
            refine r_vV0 (pc := 100) C (fun M' e => zX3_advance X.1 a0 h0 M14 M' e) h0 (by decide) rfl mX3_advance lX3_60 (by decide) (Nat.le_of_ble_eq_true rfl) dX3_readCard_100 h (fun M15 h => ?_)
            refine r_aload_n (pc := 103) C dX3_readCard_103 rfl rfl ?_
            refine r_iconst (pc := 104) (v := (nI 1)) C dX3_readCard_104 (by decide) ?_
            refine r_aload_n (pc := 105) C dX3_readCard_105 rfl rfl ?_
            refine r_getI (pc := 106) C kX3_32 h0 dX3_readCard_106 ?_
            refine r_aload_n (pc := 109) C dX3_readCard_109 rfl rfl ?_
            refine r_getI (pc := 110) C kX3_35 h0 dX3_readCard_110 ?_
            refine r_iload_n (pc := 113) C dX3_readCard_113 rfl rfl ?_
            refine r_sL4 (pc := 114) C (fun r M' e => zX4_packOther X.1 (nI 1) (M15.1 a0 7) (M15.1 a0 8) x12 M15 r M' e) mX4_packOther lX3_251 (by decide) (Nat.le_of_ble_eq_true rfl) dX3_readCard_114 h (fun r16 M17 h => ?_)
            refine r_putL (pc := 117) C kX3_38 h0 dX3_readCard_117 ?_
            refine r_letM h (fun M18 h => ?_)
            refine r_iconst (pc := 120) (v := (nI 0)) C dX3_readCard_120 (by decide) ?_
            exact r_iret (pc := 121) C R0 h dX3_readCard_121
          · refine r_iconst (pc := 97) (v := (nI 5)) C dX3_readCard_97 (by decide) ?_
            exact r_iret (pc := 98) C R0 h dX3_readCard_98
        · refine r_iconst (pc := 68) (v := (nI 1)) C dX3_readCard_68 (by decide) ?_
          exact r_iret (pc := 69) C R0 h dX3_readCard_69
      · refine r_iconst (pc := 46) (v := (nI 5)) C dX3_readCard_46 (by decide) ?_
        exact r_iret (pc := 47) C R0 h dX3_readCard_47
    · refine r_iload_n (pc := 22) C dX3_readCard_22 rfl rfl ?_
      exact r_iret (pc := 23) C R0 h dX3_readCard_23
  refine r_if_ne (pc := 6) (tgt := 18) C dX3_readCard_6 (by decide) h (fun _ h => ?_) (fun _ h => ?_)
  · exact hJ18 r1 M2  h
  · refine r_aload_n (pc := 9) C dX3_readCard_9 rfl rfl ?_
    refine r_aload_n (pc := 10) C dX3_readCard_10 rfl rfl ?_
    refine r_getI (pc := 11) C kX3_32 h0 dX3_readCard_11 ?_
    refine r_vI1 (pc := 14) C (fun r M' e => zX3_nextShirt X.1 a0 h0 (M2.1 a0 7) M2 r M' e) h0 (by decide) rfl mX3_nextShirt lX3_197 (by decide) (Nat.le_of_ble_eq_true rfl) dX3_readCard_14 h (fun r19 M20 h => ?_)
    refine r_istore_n (pc := 17) (lv' := [_, _, _, _]) C dX3_readCard_17 rfl hn1 rfl ?_
    exact hJ18 r19 M20  h
theorem dX3_readChange_0 : decode cX3_readChange 0 = .ok (.aload_n 0, 1) := by decide +kernel
theorem dX3_readChange_1 : decode cX3_readChange 1 = .ok (.invokevirtual 245, 3) := by decide +kernel
theorem dX3_readChange_4 : decode cX3_readChange 4 = .ok (.istore_n 1, 1) := by decide +kernel
theorem dX3_readChange_5 : decode cX3_readChange 5 = .ok (.iload_n 1, 1) := by decide +kernel
theorem dX3_readChange_6 : decode cX3_readChange 6 = .ok (.ifCond .ne 12, 3) := by decide +kernel
theorem dX3_readChange_9 : decode cX3_readChange 9 = .ok (.aload_n 0, 1) := by decide +kernel
theorem dX3_readChange_10 : decode cX3_readChange 10 = .ok (.aload_n 0, 1) := by decide +kernel
theorem dX3_readChange_11 : decode cX3_readChange 11 = .ok (.getfield 32, 3) := by decide +kernel
theorem dX3_readChange_14 : decode cX3_readChange 14 = .ok (.invokevirtual 197, 3) := by decide +kernel
theorem dX3_readChange_17 : decode cX3_readChange 17 = .ok (.istore_n 1, 1) := by decide +kernel
theorem dX3_readChange_18 : decode cX3_readChange 18 = .ok (.iload_n 1, 1) := by decide +kernel
theorem dX3_readChange_19 : decode cX3_readChange 19 = .ok (.ifCond .eq 5, 3) := by decide +kernel
theorem dX3_readChange_22 : decode cX3_readChange 22 = .ok (.iload_n 1, 1) := by decide +kernel
theorem dX3_readChange_23 : decode cX3_readChange 23 = .ok (.ireturn, 1) := by decide +kernel
theorem dX3_readChange_24 : decode cX3_readChange 24 = .ok (.aload_n 0, 1) := by decide +kernel
theorem dX3_readChange_25 : decode cX3_readChange 25 = .ok (.getfield 35, 3) := by decide +kernel
theorem dX3_readChange_28 : decode cX3_readChange 28 = .ok (.istore_n 2, 1) := by decide +kernel
theorem dX3_readChange_29 : decode cX3_readChange 29 = .ok (.aload_n 0, 1) := by decide +kernel
theorem dX3_readChange_30 : decode cX3_readChange 30 = .ok (.getfield 45, 3) := by decide +kernel
theorem dX3_readChange_33 : decode cX3_readChange 33 = .ok (.getfield 188, 3) := by decide +kernel
theorem dX3_readChange_36 : decode cX3_readChange 36 = .ok (.aload_n 0, 1) := by decide +kernel
theorem dX3_readChange_37 : decode cX3_readChange 37 = .ok (.getfield 32, 3) := by decide +kernel
theorem dX3_readChange_40 : decode cX3_readChange 40 = .ok (.iload_n 2, 1) := by decide +kernel
theorem dX3_readChange_41 : decode cX3_readChange 41 = .ok (.invokevirtual 255, 3) := by decide +kernel
theorem dX3_readChange_44 : decode cX3_readChange 44 = .ok (.ifCond .ne 5, 3) := by decide +kernel
theorem dX3_readChange_47 : decode cX3_readChange 47 = .ok (.iconst 5, 1) := by decide +kernel
theorem dX3_readChange_48 : decode cX3_readChange 48 = .ok (.ireturn, 1) := by decide +kernel
theorem dX3_readChange_49 : decode cX3_readChange 49 = .ok (.aload_n 0, 1) := by decide +kernel
theorem dX3_readChange_50 : decode cX3_readChange 50 = .ok (.invokevirtual 60, 3) := by decide +kernel
theorem dX3_readChange_53 : decode cX3_readChange 53 = .ok (.aload_n 0, 1) := by decide +kernel
theorem dX3_readChange_54 : decode cX3_readChange 54 = .ok (.bipush 6, 2) := by decide +kernel
theorem dX3_readChange_56 : decode cX3_readChange 56 = .ok (.invokevirtual 120, 3) := by decide +kernel
theorem dX3_readChange_59 : decode cX3_readChange 59 = .ok (.istore_n 1, 1) := by decide +kernel
theorem dX3_readChange_60 : decode cX3_readChange 60 = .ok (.iload_n 1, 1) := by decide +kernel
theorem dX3_readChange_61 : decode cX3_readChange 61 = .ok (.ifCond .ne 12, 3) := by decide +kernel
theorem dX3_readChange_64 : decode cX3_readChange 64 = .ok (.aload_n 0, 1) := by decide +kernel
theorem dX3_readChange_65 : decode cX3_readChange 65 = .ok (.aload_n 0, 1) := by decide +kernel
theorem dX3_readChange_66 : decode cX3_readChange 66 = .ok (.getfield 32, 3) := by decide +kernel
theorem dX3_readChange_69 : decode cX3_readChange 69 = .ok (.invokevirtual 153, 3) := by decide +kernel
theorem dX3_readChange_72 : decode cX3_readChange 72 = .ok (.istore_n 1, 1) := by decide +kernel
theorem dX3_readChange_73 : decode cX3_readChange 73 = .ok (.iload_n 1, 1) := by decide +kernel
theorem dX3_readChange_74 : decode cX3_readChange 74 = .ok (.ifCond .eq 5, 3) := by decide +kernel
theorem dX3_readChange_77 : decode cX3_readChange 77 = .ok (.iload_n 1, 1) := by decide +kernel
theorem dX3_readChange_78 : decode cX3_readChange 78 = .ok (.ireturn, 1) := by decide +kernel
theorem dX3_readChange_79 : decode cX3_readChange 79 = .ok (.aload_n 0, 1) := by decide +kernel
theorem dX3_readChange_80 : decode cX3_readChange 80 = .ok (.getfield 45, 3) := by decide +kernel
theorem dX3_readChange_83 : decode cX3_readChange 83 = .ok (.getfield 188, 3) := by decide +kernel
theorem dX3_readChange_86 : decode cX3_readChange 86 = .ok (.aload_n 0, 1) := by decide +kernel
theorem dX3_readChange_87 : decode cX3_readChange 87 = .ok (.getfield 32, 3) := by decide +kernel
theorem dX3_readChange_90 : decode cX3_readChange 90 = .ok (.aload_n 0, 1) := by decide +kernel
theorem dX3_readChange_91 : decode cX3_readChange 91 = .ok (.getfield 35, 3) := by decide +kernel
theorem dX3_readChange_94 : decode cX3_readChange 94 = .ok (.invokevirtual 259, 3) := by decide +kernel
theorem dX3_readChange_97 : decode cX3_readChange 97 = .ok (.ifCond .ne 5, 3) := by decide +kernel
theorem dX3_readChange_100 : decode cX3_readChange 100 = .ok (.iconst 5, 1) := by decide +kernel
theorem dX3_readChange_101 : decode cX3_readChange 101 = .ok (.ireturn, 1) := by decide +kernel
theorem dX3_readChange_102 : decode cX3_readChange 102 = .ok (.aload_n 0, 1) := by decide +kernel
theorem dX3_readChange_103 : decode cX3_readChange 103 = .ok (.invokevirtual 60, 3) := by decide +kernel
theorem dX3_readChange_106 : decode cX3_readChange 106 = .ok (.aload_n 0, 1) := by decide +kernel
theorem dX3_readChange_107 : decode cX3_readChange 107 = .ok (.iconst 2, 1) := by decide +kernel
theorem dX3_readChange_108 : decode cX3_readChange 108 = .ok (.aload_n 0, 1) := by decide +kernel
theorem dX3_readChange_109 : decode cX3_readChange 109 = .ok (.getfield 32, 3) := by decide +kernel
theorem dX3_readChange_112 : decode cX3_readChange 112 = .ok (.iload_n 2, 1) := by decide +kernel
theorem dX3_readChange_113 : decode cX3_readChange 113 = .ok (.aload_n 0, 1) := by decide +kernel
theorem dX3_readChange_114 : decode cX3_readChange 114 = .ok (.getfield 35, 3) := by decide +kernel
theorem dX3_readChange_117 : decode cX3_readChange 117 = .ok (.invokestatic 251, 3) := by decide +kernel
theorem dX3_readChange_120 : decode cX3_readChange 120 = .ok (.putfield 38, 3) := by decide +kernel
theorem dX3_readChange_123 : decode cX3_readChange 123 = .ok (.iconst 0, 1) := by decide +kernel
theorem dX3_readChange_124 : decode cX3_readChange 124 = .ok (.ireturn, 1) := by decide +kernel
def fX3_readChange (a0 : Nat) (M : xMem) : Option (Int32 × xMem) :=
  xBn (fX3_nextName a0 M) fun r1 M2 => xLt (fun (v3 : Int32) (M4 : xMem) => (if v3 = 0 then (xLt (M4.1 a0 8) fun x5 => xBn (fX8_canLeave (xrf (xrf a0 1) 1) (M4.1 a0 7) x5 M4) fun r6 M7 => if r6 = 0 then (some ((nI 5), M7)) else (xBv (fX3_advance a0 M7) fun M8 => xBn (fX3_takeWord a0 (nI 6) M8) fun r9 M10 => xLt (fun (v11 : Int32) (M12 : xMem) => (if v11 = 0 then (xBn (fX8_canEnter (xrf (xrf a0 1) 1) (M12.1 a0 7) (M12.1 a0 8) M12) fun r13 M14 => if r13 = 0 then (some ((nI 5), M14)) else (xBv (fX3_advance a0 M14) fun M15 => xBn (fX4_packOther (nI 2) (M15.1 a0 7) x5 (M15.1 a0 8) M15) fun r16 M17 => xLt (xwL M17 a0 9 r16) fun M18 => some ((nI 0), M18))) else (some (v11, M12)) : Option (Int32 × xMem))) fun J73 => if r9 = 0 then (xBn (fX3_checkShirt a0 (M10.1 a0 7) M10) fun r19 M20 => J73 r19 M20) else (J73 r9 M10))) else (some (v3, M4)) : Option (Int32 × xMem))) fun J18 => if r1 = 0 then (xBn (fX3_nextShirt a0 (M2.1 a0 7) M2) fun r21 M22 => J18 r21 M22) else (J18 r1 M2)
set_option maxRecDepth 100000 in
set_option maxHeartbeats 4000000 in
theorem zX3_readChange (G : xGX) (a0 : Nat) (h0 : xkd a0 = 3) (M : xMem) (r : Int32) (M' : xMem) (h : fX3_readChange a0 M = some (r, M')) : xCt G yX3_readChange cX3_readChange 3 (some .int) 8 [vr G a0] M (some (.int r), M') := by
  refine xMet (lv := [some (vr G a0), none, none]) (by decide) (Nat.le_of_ble_eq_true rfl) rfl ?_
  intro X hG hnL C R0
  subst hG
  have C : xCk X cX3_readChange RX3 8 := C
  have hn1 : 1 < X.2.2.2.2.2.2.2.2.2.2.2.2.2 := by rw [hnL]; decide
  have hn2 : 2 < X.2.2.2.2.2.2.2.2.2.2.2.2.2 := by rw [hnL]; decide
  unfold fX3_readChange at h
  refine r_aload_n (pc := 0) C dX3_readChange_0 rfl rfl ?_
  refine r_vI0 (pc := 1) C (fun r M' e => zX3_nextName X.1 a0 h0 M r M' e) h0 (by decide) rfl mX3_nextName lX3_245 (by decide) (Nat.le_of_ble_eq_true rfl) dX3_readChange_1 h (fun r1 M2 h => ?_)
  refine r_istore_n (pc := 4) (lv' := [_, _, _]) C dX3_readChange_4 rfl hn1 rfl ?_
  refine r_iload_n (pc := 5) C dX3_readChange_5 rfl rfl ?_
  refine r_jn (fun J => ∀ (v3 : Int32) (M4 : xMem) , J v3 M4 = some (r, M') → WW X 18 [some (vr X.1 a0), some (.int v3), none] [] M4) h (fun v3 M4  h => ?_) (fun J18 hJ18 h => ?_)
  · refine r_iload_n (pc := 18) C dX3_readChange_18 rfl rfl ?_
    refine r_if_eq (pc := 19) (tgt := 24) C dX3_readChange_19 (by decide) h (fun _ h => ?_) (fun _ h => ?_)
    · refine r_aload_n (pc := 24) C dX3_readChange_24 rfl rfl ?_
      refine r_getI (pc := 25) C kX3_35 h0 dX3_readChange_25 ?_
      refine r_letI h (fun x5 h => ?_)
      refine r_istore_n (pc := 28) (lv' := [_, _, _]) C dX3_readChange_28 rfl hn2 rfl ?_
      refine r_aload_n (pc := 29) C dX3_readChange_29 rfl rfl ?_
      refine r_getR (pc := 30) C kX3_45 h0 (by decide) dX3_readChange_30 ?_
      refine r_getR (pc := 33) C kX3_188 (xtk h0 (by decide) rfl rfl) (by decide) dX3_readChange_33 ?_
      refine r_aload_n (pc := 36) C dX3_readChange_36 rfl rfl ?_
      refine r_getI (pc := 37) C kX3_32 h0 dX3_readChange_37 ?_
      refine r_iload_n (pc := 40) C dX3_readChange_40 rfl rfl ?_
      refine r_vI2 (pc := 41) C (fun r M' e => zX8_canLeave X.1 (xrf (xrf a0 1) 1) (xtk (xtk h0 (by decide) rfl rfl) (by decide) rfl rfl) (M4.1 a0 7) x5 M4 r M' e) (xtk (xtk h0 (by decide) rfl rfl) (by decide) rfl rfl) (by decide) rfl mX8_canLeave lX3_255 (by decide) (Nat.le_of_ble_eq_true rfl) dX3_readChange_41 h (fun r6 M7 h => ?_)
      refine r_if_ne (pc := 44) (tgt := 49) C dX3_readChange_44 (by decide) h (fun _ h => ?_) (fun _ h => ?_)
      · refine r_aload_n (pc := 49) C dX3_readChange_49 rfl rfl ?_
        refine r_vV0 (pc := 50) C (fun M' e => zX3_advance X.1 a0 h0 M7 M' e) h0 (by decide) rfl mX3_advance lX3_60 (by decide) (Nat.le_of_ble_eq_true rfl) dX3_readChange_50 h (fun M8 h => ?_)
        refine r_aload_n (pc := 53) C dX3_readChange_53 rfl rfl ?_
        refine r_bipush (pc := 54) (v := (nI 6)) C dX3_readChange_54 (by decide) ?_
        refine r_vI1 (pc := 56) C (fun r M' e => zX3_takeWord X.1 a0 h0 (nI 6) M8 r M' e) h0 (by decide) rfl mX3_takeWord lX3_120 (by decide) (Nat.le_of_ble_eq_true rfl) dX3_readChange_56 h (fun r9 M10 h => ?_)
        refine r_istore_n (pc := 59) (lv' := [_, _, _]) C dX3_readChange_59 rfl hn1 rfl ?_
        refine r_iload_n (pc := 60) C dX3_readChange_60 rfl rfl ?_
        refine r_jn (fun J => ∀ (v11 : Int32) (M12 : xMem) , J v11 M12 = some (r, M') → WW X 73 [some (vr X.1 a0), some (.int v11), some (.int x5)] [] M12) h (fun v11 M12  h => ?_) (fun J73 hJ73 h => ?_)
        · refine r_iload_n (pc := 73) C dX3_readChange_73 rfl rfl ?_
          refine r_if_eq (pc := 74) (tgt := 79) C dX3_readChange_74 (by decide) h (fun _ h => ?_) (fun _ h => ?_)
          · refine r_aload_n (pc := 79) C dX3_readChange_79 rfl rfl ?_
            refine r_getR (pc := 80) C kX3_45 h0 (by decide) dX3_readChange_80 ?_
            refine r_getR (pc := 83) C kX3_188 (xtk h0 (by decide) rfl rfl) (by decide) dX3_readChange_83 ?_
            refine r_aload_n (pc := 86) C dX3_readChange_86 rfl rfl ?_
            refine r_getI (pc := 87) C kX3_32 h0 dX3_readChange_87 ?_
            refine r_aload_n (pc := 90) C dX3_readChange_90 rfl rfl ?_
            refine r_getI (pc := 91) C kX3_35 h0 dX3_readChange_91 ?_
            refine r_vI2 (pc := 94) C (fun r M' e => zX8_canEnter X.1 (xrf (xrf a0 1) 1) (xtk (xtk h0 (by decide) rfl rfl) (by decide) rfl rfl) (M12.1 a0 7) (M12.1 a0 8) M12 r M' e) (xtk (xtk h0 (by decide) rfl rfl) (by decide) rfl rfl) (by decide) rfl mX8_canEnter lX3_259 (by decide) (Nat.le_of_ble_eq_true rfl) dX3_readChange_94 h (fun r13 M14 h => ?_)
            refine r_if_ne (pc := 97) (tgt := 102) C dX3_readChange_97 (by decide) h (fun _ h => ?_) (fun _ h => ?_)
            · refine r_aload_n (pc := 102) C dX3_readChange_102 rfl rfl ?_
              refine r_vV0 (pc := 103) C (fun M' e => zX3_advance X.1 a0 h0 M14 M' e) h0 (by decide) rfl mX3_advance lX3_60 (by decide) (Nat.le_of_ble_eq_true rfl) dX3_readChange_103 h (fun M15 h => ?_)
              refine r_aload_n (pc := 106) C dX3_readChange_106 rfl rfl ?_
              refine r_iconst (pc := 107) (v := (nI 2)) C dX3_readChange_107 (by decide) ?_
              refine r_aload_n (pc := 108) C dX3_readChange_108 rfl rfl ?_
              refine r_getI (pc := 109) C kX3_32 h0 dX3_readChange_109 ?_
              refine r_iload_n (pc := 112) C dX3_readChange_112 rfl rfl ?_
              refine r_aload_n (pc := 113) C dX3_readChange_113 rfl rfl ?_
              refine r_getI (pc := 114) C kX3_35 h0 dX3_readChange_114 ?_
              refine r_sL4 (pc := 117) C (fun r M' e => zX4_packOther X.1 (nI 2) (M15.1 a0 7) x5 (M15.1 a0 8) M15 r M' e) mX4_packOther lX3_251 (by decide) (Nat.le_of_ble_eq_true rfl) dX3_readChange_117 h (fun r16 M17 h => ?_)
              refine r_putL (pc := 120) C kX3_38 h0 dX3_readChange_120 ?_
              refine r_letM h (fun M18 h => ?_)
              refine r_iconst (pc := 123) (v := (nI 0)) C dX3_readChange_123 (by decide) ?_
              exact r_iret (pc := 124) C R0 h dX3_readChange_124
            · refine r_iconst (pc := 100) (v := (nI 5)) C dX3_readChange_100 (by decide) ?_
              exact r_iret (pc := 101) C R0 h dX3_readChange_101
          · refine r_iload_n (pc := 77) C dX3_readChange_77 rfl rfl ?_
            exact r_iret (pc := 78) C R0 h dX3_readChange_78
        refine r_if_ne (pc := 61) (tgt := 73) C dX3_readChange_61 (by decide) h (fun _ h => ?_) (fun _ h => ?_)
        · exact hJ73 r9 M10  h
        · refine r_aload_n (pc := 64) C dX3_readChange_64 rfl rfl ?_
          refine r_aload_n (pc := 65) C dX3_readChange_65 rfl rfl ?_
          refine r_getI (pc := 66) C kX3_32 h0 dX3_readChange_66 ?_
          refine r_vI1 (pc := 69) C (fun r M' e => zX3_checkShirt X.1 a0 h0 (M10.1 a0 7) M10 r M' e) h0 (by decide) rfl mX3_checkShirt lX3_153 (by decide) (Nat.le_of_ble_eq_true rfl) dX3_readChange_69 h (fun r19 M20 h => ?_)
          refine r_istore_n (pc := 72) (lv' := [_, _, _]) C dX3_readChange_72 rfl hn1 rfl ?_
          exact hJ73 r19 M20  h
      · refine r_iconst (pc := 47) (v := (nI 5)) C dX3_readChange_47 (by decide) ?_
        exact r_iret (pc := 48) C R0 h dX3_readChange_48
    · refine r_iload_n (pc := 22) C dX3_readChange_22 rfl rfl ?_
      exact r_iret (pc := 23) C R0 h dX3_readChange_23
  refine r_if_ne (pc := 6) (tgt := 18) C dX3_readChange_6 (by decide) h (fun _ h => ?_) (fun _ h => ?_)
  · exact hJ18 r1 M2  h
  · refine r_aload_n (pc := 9) C dX3_readChange_9 rfl rfl ?_
    refine r_aload_n (pc := 10) C dX3_readChange_10 rfl rfl ?_
    refine r_getI (pc := 11) C kX3_32 h0 dX3_readChange_11 ?_
    refine r_vI1 (pc := 14) C (fun r M' e => zX3_nextShirt X.1 a0 h0 (M2.1 a0 7) M2 r M' e) h0 (by decide) rfl mX3_nextShirt lX3_197 (by decide) (Nat.le_of_ble_eq_true rfl) dX3_readChange_14 h (fun r21 M22 h => ?_)
    refine r_istore_n (pc := 17) (lv' := [_, _, _]) C dX3_readChange_17 rfl hn1 rfl ?_
    exact hJ18 r21 M22  h
theorem dX3_readHalf_0 : decode cX3_readHalf 0 = .ok (.aload_n 0, 1) := by decide +kernel
theorem dX3_readHalf_1 : decode cX3_readHalf 1 = .ok (.getfield 45, 3) := by decide +kernel
theorem dX3_readHalf_4 : decode cX3_readHalf 4 = .ok (.getfield 188, 3) := by decide +kernel
theorem dX3_readHalf_7 : decode cX3_readHalf 7 = .ok (.invokevirtual 262, 3) := by decide +kernel
theorem dX3_readHalf_10 : decode cX3_readHalf 10 = .ok (.ifCond .eq 5, 3) := by decide +kernel
theorem dX3_readHalf_13 : decode cX3_readHalf 13 = .ok (.iconst 5, 1) := by decide +kernel
theorem dX3_readHalf_14 : decode cX3_readHalf 14 = .ok (.ireturn, 1) := by decide +kernel
theorem dX3_readHalf_15 : decode cX3_readHalf 15 = .ok (.aload_n 0, 1) := by decide +kernel
theorem dX3_readHalf_16 : decode cX3_readHalf 16 = .ok (.invokevirtual 60, 3) := by decide +kernel
theorem dX3_readHalf_19 : decode cX3_readHalf 19 = .ok (.aload_n 0, 1) := by decide +kernel
theorem dX3_readHalf_20 : decode cX3_readHalf 20 = .ok (.iconst 3, 1) := by decide +kernel
theorem dX3_readHalf_21 : decode cX3_readHalf 21 = .ok (.iconst 0, 1) := by decide +kernel
theorem dX3_readHalf_22 : decode cX3_readHalf 22 = .ok (.iconst 0, 1) := by decide +kernel
theorem dX3_readHalf_23 : decode cX3_readHalf 23 = .ok (.iconst 0, 1) := by decide +kernel
theorem dX3_readHalf_24 : decode cX3_readHalf 24 = .ok (.invokestatic 251, 3) := by decide +kernel
theorem dX3_readHalf_27 : decode cX3_readHalf 27 = .ok (.putfield 38, 3) := by decide +kernel
theorem dX3_readHalf_30 : decode cX3_readHalf 30 = .ok (.iconst 0, 1) := by decide +kernel
theorem dX3_readHalf_31 : decode cX3_readHalf 31 = .ok (.ireturn, 1) := by decide +kernel
def fX3_readHalf (a0 : Nat) (M : xMem) : Option (Int32 × xMem) :=
  xBn (fX8_isOver (xrf (xrf a0 1) 1) M) fun r1 M2 => if r1 = 0 then (xBv (fX3_advance a0 M2) fun M3 => xBn (fX4_packOther (nI 3) (nI 0) (nI 0) (nI 0) M3) fun r4 M5 => xLt (xwL M5 a0 9 r4) fun M6 => some ((nI 0), M6)) else (some ((nI 5), M2))
set_option maxRecDepth 100000 in
set_option maxHeartbeats 4000000 in
theorem zX3_readHalf (G : xGX) (a0 : Nat) (h0 : xkd a0 = 3) (M : xMem) (r : Int32) (M' : xMem) (h : fX3_readHalf a0 M = some (r, M')) : xCt G yX3_readHalf cX3_readHalf 1 (some .int) 3 [vr G a0] M (some (.int r), M') := by
  refine xMet (lv := [some (vr G a0)]) (by decide) (Nat.le_of_ble_eq_true rfl) rfl ?_
  intro X hG hnL C R0
  subst hG
  have C : xCk X cX3_readHalf RX3 3 := C
  unfold fX3_readHalf at h
  refine r_aload_n (pc := 0) C dX3_readHalf_0 rfl rfl ?_
  refine r_getR (pc := 1) C kX3_45 h0 (by decide) dX3_readHalf_1 ?_
  refine r_getR (pc := 4) C kX3_188 (xtk h0 (by decide) rfl rfl) (by decide) dX3_readHalf_4 ?_
  refine r_vI0 (pc := 7) C (fun r M' e => zX8_isOver X.1 (xrf (xrf a0 1) 1) (xtk (xtk h0 (by decide) rfl rfl) (by decide) rfl rfl) M r M' e) (xtk (xtk h0 (by decide) rfl rfl) (by decide) rfl rfl) (by decide) rfl mX8_isOver lX3_262 (by decide) (Nat.le_of_ble_eq_true rfl) dX3_readHalf_7 h (fun r1 M2 h => ?_)
  refine r_if_eq (pc := 10) (tgt := 15) C dX3_readHalf_10 (by decide) h (fun _ h => ?_) (fun _ h => ?_)
  · refine r_aload_n (pc := 15) C dX3_readHalf_15 rfl rfl ?_
    refine r_vV0 (pc := 16) C (fun M' e => zX3_advance X.1 a0 h0 M2 M' e) h0 (by decide) rfl mX3_advance lX3_60 (by decide) (Nat.le_of_ble_eq_true rfl) dX3_readHalf_16 h (fun M3 h => ?_)
    refine r_aload_n (pc := 19) C dX3_readHalf_19 rfl rfl ?_
    refine r_iconst (pc := 20) (v := (nI 3)) C dX3_readHalf_20 (by decide) ?_
    refine r_iconst (pc := 21) (v := (nI 0)) C dX3_readHalf_21 (by decide) ?_
    refine r_iconst (pc := 22) (v := (nI 0)) C dX3_readHalf_22 (by decide) ?_
    refine r_iconst (pc := 23) (v := (nI 0)) C dX3_readHalf_23 (by decide) ?_
    refine r_sL4 (pc := 24) C (fun r M' e => zX4_packOther X.1 (nI 3) (nI 0) (nI 0) (nI 0) M3 r M' e) mX4_packOther lX3_251 (by decide) (Nat.le_of_ble_eq_true rfl) dX3_readHalf_24 h (fun r4 M5 h => ?_)
    refine r_putL (pc := 27) C kX3_38 h0 dX3_readHalf_27 ?_
    refine r_letM h (fun M6 h => ?_)
    refine r_iconst (pc := 30) (v := (nI 0)) C dX3_readHalf_30 (by decide) ?_
    exact r_iret (pc := 31) C R0 h dX3_readHalf_31
  · refine r_iconst (pc := 13) (v := (nI 5)) C dX3_readHalf_13 (by decide) ?_
    exact r_iret (pc := 14) C R0 h dX3_readHalf_14
theorem dX3_readReview_0 : decode cX3_readReview 0 = .ok (.aload_n 0, 1) := by decide +kernel
theorem dX3_readReview_1 : decode cX3_readReview 1 = .ok (.invokevirtual 245, 3) := by decide +kernel
theorem dX3_readReview_4 : decode cX3_readReview 4 = .ok (.istore_n 1, 1) := by decide +kernel
theorem dX3_readReview_5 : decode cX3_readReview 5 = .ok (.iload_n 1, 1) := by decide +kernel
theorem dX3_readReview_6 : decode cX3_readReview 6 = .ok (.ifCond .eq 5, 3) := by decide +kernel
theorem dX3_readReview_9 : decode cX3_readReview 9 = .ok (.iload_n 1, 1) := by decide +kernel
theorem dX3_readReview_10 : decode cX3_readReview 10 = .ok (.ireturn, 1) := by decide +kernel
theorem dX3_readReview_11 : decode cX3_readReview 11 = .ok (.aload_n 0, 1) := by decide +kernel
theorem dX3_readReview_12 : decode cX3_readReview 12 = .ok (.getfield 45, 3) := by decide +kernel
theorem dX3_readReview_15 : decode cX3_readReview 15 = .ok (.getfield 188, 3) := by decide +kernel
theorem dX3_readReview_18 : decode cX3_readReview 18 = .ok (.aload_n 0, 1) := by decide +kernel
theorem dX3_readReview_19 : decode cX3_readReview 19 = .ok (.getfield 32, 3) := by decide +kernel
theorem dX3_readReview_22 : decode cX3_readReview 22 = .ok (.invokevirtual 265, 3) := by decide +kernel
theorem dX3_readReview_25 : decode cX3_readReview 25 = .ok (.ifCond .ne 5, 3) := by decide +kernel
theorem dX3_readReview_28 : decode cX3_readReview 28 = .ok (.iconst 5, 1) := by decide +kernel
theorem dX3_readReview_29 : decode cX3_readReview 29 = .ok (.ireturn, 1) := by decide +kernel
theorem dX3_readReview_30 : decode cX3_readReview 30 = .ok (.aload_n 0, 1) := by decide +kernel
theorem dX3_readReview_31 : decode cX3_readReview 31 = .ok (.invokevirtual 60, 3) := by decide +kernel
theorem dX3_readReview_34 : decode cX3_readReview 34 = .ok (.aload_n 0, 1) := by decide +kernel
theorem dX3_readReview_35 : decode cX3_readReview 35 = .ok (.invokevirtual 113, 3) := by decide +kernel
theorem dX3_readReview_38 : decode cX3_readReview 38 = .ok (.istore_n 2, 1) := by decide +kernel
theorem dX3_readReview_39 : decode cX3_readReview 39 = .ok (.iload_n 2, 1) := by decide +kernel
theorem dX3_readReview_40 : decode cX3_readReview 40 = .ok (.bipush 7, 2) := by decide +kernel
theorem dX3_readReview_42 : decode cX3_readReview 42 = .ok (.if_icmp .eq 11, 3) := by decide +kernel
theorem dX3_readReview_45 : decode cX3_readReview 45 = .ok (.iload_n 2, 1) := by decide +kernel
theorem dX3_readReview_46 : decode cX3_readReview 46 = .ok (.bipush 8, 2) := by decide +kernel
theorem dX3_readReview_48 : decode cX3_readReview 48 = .ok (.if_icmp .eq 5, 3) := by decide +kernel
theorem dX3_readReview_51 : decode cX3_readReview 51 = .ok (.iconst 1, 1) := by decide +kernel
theorem dX3_readReview_52 : decode cX3_readReview 52 = .ok (.ireturn, 1) := by decide +kernel
theorem dX3_readReview_53 : decode cX3_readReview 53 = .ok (.aload_n 0, 1) := by decide +kernel
theorem dX3_readReview_54 : decode cX3_readReview 54 = .ok (.invokevirtual 60, 3) := by decide +kernel
theorem dX3_readReview_57 : decode cX3_readReview 57 = .ok (.aload_n 0, 1) := by decide +kernel
theorem dX3_readReview_58 : decode cX3_readReview 58 = .ok (.iconst 4, 1) := by decide +kernel
theorem dX3_readReview_59 : decode cX3_readReview 59 = .ok (.aload_n 0, 1) := by decide +kernel
theorem dX3_readReview_60 : decode cX3_readReview 60 = .ok (.getfield 32, 3) := by decide +kernel
theorem dX3_readReview_63 : decode cX3_readReview 63 = .ok (.iload_n 2, 1) := by decide +kernel
theorem dX3_readReview_64 : decode cX3_readReview 64 = .ok (.bipush 7, 2) := by decide +kernel
theorem dX3_readReview_66 : decode cX3_readReview 66 = .ok (.if_icmp .ne 7, 3) := by decide +kernel
theorem dX3_readReview_69 : decode cX3_readReview 69 = .ok (.iconst 1, 1) := by decide +kernel
theorem dX3_readReview_70 : decode cX3_readReview 70 = .ok (.goto 4, 3) := by decide +kernel
theorem dX3_readReview_73 : decode cX3_readReview 73 = .ok (.iconst 0, 1) := by decide +kernel
theorem dX3_readReview_74 : decode cX3_readReview 74 = .ok (.iconst 0, 1) := by decide +kernel
theorem dX3_readReview_75 : decode cX3_readReview 75 = .ok (.invokestatic 251, 3) := by decide +kernel
theorem dX3_readReview_78 : decode cX3_readReview 78 = .ok (.putfield 38, 3) := by decide +kernel
theorem dX3_readReview_81 : decode cX3_readReview 81 = .ok (.iconst 0, 1) := by decide +kernel
theorem dX3_readReview_82 : decode cX3_readReview 82 = .ok (.ireturn, 1) := by decide +kernel
def fX3_readReview (a0 : Nat) (M : xMem) : Option (Int32 × xMem) :=
  xBn (fX3_nextName a0 M) fun r1 M2 => if r1 = 0 then (xBn (fX8_canAsk (xrf (xrf a0 1) 1) (M2.1 a0 7) M2) fun r3 M4 => if r3 = 0 then (some ((nI 5), M4)) else (xBv (fX3_advance a0 M4) fun M5 => xBn (fX3_word a0 M5) fun r6 M7 => xLt (fun  (M8 : xMem) => (xBv (fX3_advance a0 M8) fun M9 => xLt (fun (s10 : Int32) (M11 : xMem) => (xBn (fX4_packOther (nI 4) (M9.1 a0 7) s10 (nI 0) M11) fun r12 M13 => xLt (xwL M13 a0 9 r12) fun M14 => some ((nI 0), M14) : Option (Int32 × xMem))) fun J74 => if r6 = (nI 7) then (J74 (nI 1) M9) else (J74 (nI 0) M9) : Option (Int32 × xMem))) fun J53 => if r6 = (nI 7) then (J53  M7) else (if r6 = (nI 8) then (J53  M7) else (some ((nI 1), M7))))) else (some (r1, M2))
set_option maxRecDepth 100000 in
set_option maxHeartbeats 4000000 in
theorem zX3_readReview (G : xGX) (a0 : Nat) (h0 : xkd a0 = 3) (M : xMem) (r : Int32) (M' : xMem) (h : fX3_readReview a0 M = some (r, M')) : xCt G yX3_readReview cX3_readReview 3 (some .int) 8 [vr G a0] M (some (.int r), M') := by
  refine xMet (lv := [some (vr G a0), none, none]) (by decide) (Nat.le_of_ble_eq_true rfl) rfl ?_
  intro X hG hnL C R0
  subst hG
  have C : xCk X cX3_readReview RX3 8 := C
  have hn1 : 1 < X.2.2.2.2.2.2.2.2.2.2.2.2.2 := by rw [hnL]; decide
  have hn2 : 2 < X.2.2.2.2.2.2.2.2.2.2.2.2.2 := by rw [hnL]; decide
  unfold fX3_readReview at h
  refine r_aload_n (pc := 0) C dX3_readReview_0 rfl rfl ?_
  refine r_vI0 (pc := 1) C (fun r M' e => zX3_nextName X.1 a0 h0 M r M' e) h0 (by decide) rfl mX3_nextName lX3_245 (by decide) (Nat.le_of_ble_eq_true rfl) dX3_readReview_1 h (fun r1 M2 h => ?_)
  refine r_istore_n (pc := 4) (lv' := [_, _, _]) C dX3_readReview_4 rfl hn1 rfl ?_
  refine r_iload_n (pc := 5) C dX3_readReview_5 rfl rfl ?_
  refine r_if_eq (pc := 6) (tgt := 11) C dX3_readReview_6 (by decide) h (fun _ h => ?_) (fun _ h => ?_)
  · refine r_aload_n (pc := 11) C dX3_readReview_11 rfl rfl ?_
    refine r_getR (pc := 12) C kX3_45 h0 (by decide) dX3_readReview_12 ?_
    refine r_getR (pc := 15) C kX3_188 (xtk h0 (by decide) rfl rfl) (by decide) dX3_readReview_15 ?_
    refine r_aload_n (pc := 18) C dX3_readReview_18 rfl rfl ?_
    refine r_getI (pc := 19) C kX3_32 h0 dX3_readReview_19 ?_
    refine r_vI1 (pc := 22) C (fun r M' e => zX8_canAsk X.1 (xrf (xrf a0 1) 1) (xtk (xtk h0 (by decide) rfl rfl) (by decide) rfl rfl) (M2.1 a0 7) M2 r M' e) (xtk (xtk h0 (by decide) rfl rfl) (by decide) rfl rfl) (by decide) rfl mX8_canAsk lX3_265 (by decide) (Nat.le_of_ble_eq_true rfl) dX3_readReview_22 h (fun r3 M4 h => ?_)
    refine r_if_ne (pc := 25) (tgt := 30) C dX3_readReview_25 (by decide) h (fun _ h => ?_) (fun _ h => ?_)
    · refine r_aload_n (pc := 30) C dX3_readReview_30 rfl rfl ?_
      refine r_vV0 (pc := 31) C (fun M' e => zX3_advance X.1 a0 h0 M4 M' e) h0 (by decide) rfl mX3_advance lX3_60 (by decide) (Nat.le_of_ble_eq_true rfl) dX3_readReview_31 h (fun M5 h => ?_)
      refine r_aload_n (pc := 34) C dX3_readReview_34 rfl rfl ?_
      refine r_vI0 (pc := 35) C (fun r M' e => zX3_word X.1 a0 h0 M5 r M' e) h0 (by decide) rfl mX3_word lX3_113 (by decide) (Nat.le_of_ble_eq_true rfl) dX3_readReview_35 h (fun r6 M7 h => ?_)
      refine r_istore_n (pc := 38) (lv' := [_, _, _]) C dX3_readReview_38 rfl hn2 rfl ?_
      refine r_iload_n (pc := 39) C dX3_readReview_39 rfl rfl ?_
      refine r_bipush (pc := 40) (v := (nI 7)) C dX3_readReview_40 (by decide) ?_
      refine r_jn (fun J => ∀  (M8 : xMem) , J  M8 = some (r, M') → WW X 53 [some (vr X.1 a0), some (.int r1), some (.int r6)] [] M8) h (fun  M8  h => ?_) (fun J53 hJ53 h => ?_)
      · refine r_aload_n (pc := 53) C dX3_readReview_53 rfl rfl ?_
        refine r_vV0 (pc := 54) C (fun M' e => zX3_advance X.1 a0 h0 M8 M' e) h0 (by decide) rfl mX3_advance lX3_60 (by decide) (Nat.le_of_ble_eq_true rfl) dX3_readReview_54 h (fun M9 h => ?_)
        refine r_aload_n (pc := 57) C dX3_readReview_57 rfl rfl ?_
        refine r_iconst (pc := 58) (v := (nI 4)) C dX3_readReview_58 (by decide) ?_
        refine r_aload_n (pc := 59) C dX3_readReview_59 rfl rfl ?_
        refine r_getI (pc := 60) C kX3_32 h0 dX3_readReview_60 ?_
        refine r_iload_n (pc := 63) C dX3_readReview_63 rfl rfl ?_
        refine r_bipush (pc := 64) (v := (nI 7)) C dX3_readReview_64 (by decide) ?_
        refine r_jn (fun J => ∀ (s10 : Int32) (M11 : xMem) , J s10 M11 = some (r, M') → WW X 74 [some (vr X.1 a0), some (.int r1), some (.int r6)] [.int s10, .int (M9.1 a0 7), .int (nI 4), vr X.1 a0] M11) h (fun s10 M11  h => ?_) (fun J74 hJ74 h => ?_)
        · refine r_iconst (pc := 74) (v := (nI 0)) C dX3_readReview_74 (by decide) ?_
          refine r_sL4 (pc := 75) C (fun r M' e => zX4_packOther X.1 (nI 4) (M9.1 a0 7) s10 (nI 0) M11 r M' e) mX4_packOther lX3_251 (by decide) (Nat.le_of_ble_eq_true rfl) dX3_readReview_75 h (fun r12 M13 h => ?_)
          refine r_putL (pc := 78) C kX3_38 h0 dX3_readReview_78 ?_
          refine r_letM h (fun M14 h => ?_)
          refine r_iconst (pc := 81) (v := (nI 0)) C dX3_readReview_81 (by decide) ?_
          exact r_iret (pc := 82) C R0 h dX3_readReview_82
        refine r_icmp_ne (pc := 66) (tgt := 73) C dX3_readReview_66 (by decide) h (fun _ h => ?_) (fun _ h => ?_)
        · refine r_iconst (pc := 73) (v := (nI 0)) C dX3_readReview_73 (by decide) ?_
          exact hJ74 (nI 0) M9  h
        · refine r_iconst (pc := 69) (v := (nI 1)) C dX3_readReview_69 (by decide) ?_
          refine r_goto (pc := 70) (tgt := 74) C dX3_readReview_70 (by decide) ?_
          exact hJ74 (nI 1) M9  h
      refine r_icmp_eq (pc := 42) (tgt := 53) C dX3_readReview_42 (by decide) h (fun _ h => ?_) (fun _ h => ?_)
      · exact hJ53  M7  h
      · refine r_iload_n (pc := 45) C dX3_readReview_45 rfl rfl ?_
        refine r_bipush (pc := 46) (v := (nI 8)) C dX3_readReview_46 (by decide) ?_
        refine r_icmp_eq (pc := 48) (tgt := 53) C dX3_readReview_48 (by decide) h (fun _ h => ?_) (fun _ h => ?_)
        · exact hJ53  M7  h
        · refine r_iconst (pc := 51) (v := (nI 1)) C dX3_readReview_51 (by decide) ?_
          exact r_iret (pc := 52) C R0 h dX3_readReview_52
    · refine r_iconst (pc := 28) (v := (nI 5)) C dX3_readReview_28 (by decide) ?_
      exact r_iret (pc := 29) C R0 h dX3_readReview_29
  · refine r_iload_n (pc := 9) C dX3_readReview_9 rfl rfl ?_
    exact r_iret (pc := 10) C R0 h dX3_readReview_10
theorem dX3_readLine_0 : decode cX3_readLine 0 = .ok (.aload_n 0, 1) := by decide +kernel
theorem dX3_readLine_1 : decode cX3_readLine 1 = .ok (.invokevirtual 113, 3) := by decide +kernel
theorem dX3_readLine_4 : decode cX3_readLine 4 = .ok (.istore_n 1, 1) := by decide +kernel
theorem dX3_readLine_5 : decode cX3_readLine 5 = .ok (.iload_n 1, 1) := by decide +kernel
theorem dX3_readLine_6 : decode cX3_readLine 6 = .ok (.iconst 1, 1) := by decide +kernel
theorem dX3_readLine_7 : decode cX3_readLine 7 = .ok (.iconst 5, 1) := by decide +kernel
theorem dX3_readLine_8 : decode cX3_readLine 8 = .ok (.invokestatic 160, 3) := by decide +kernel
theorem dX3_readLine_11 : decode cX3_readLine 11 = .ok (.ifCond .ne 5, 3) := by decide +kernel
theorem dX3_readLine_14 : decode cX3_readLine 14 = .ok (.iconst 1, 1) := by decide +kernel
theorem dX3_readLine_15 : decode cX3_readLine 15 = .ok (.ireturn, 1) := by decide +kernel
theorem dX3_readLine_16 : decode cX3_readLine 16 = .ok (.iload_n 1, 1) := by decide +kernel
theorem dX3_readLine_17 : decode cX3_readLine 17 = .ok (.iconst 1, 1) := by decide +kernel
theorem dX3_readLine_18 : decode cX3_readLine 18 = .ok (.if_icmp .ne 13, 3) := by decide +kernel
theorem dX3_readLine_21 : decode cX3_readLine 21 = .ok (.aload_n 0, 1) := by decide +kernel
theorem dX3_readLine_22 : decode cX3_readLine 22 = .ok (.getfield 45, 3) := by decide +kernel
theorem dX3_readLine_25 : decode cX3_readLine 25 = .ok (.invokevirtual 164, 3) := by decide +kernel
theorem dX3_readLine_28 : decode cX3_readLine 28 = .ok (.goto 10, 3) := by decide +kernel
theorem dX3_readLine_31 : decode cX3_readLine 31 = .ok (.aload_n 0, 1) := by decide +kernel
theorem dX3_readLine_32 : decode cX3_readLine 32 = .ok (.getfield 45, 3) := by decide +kernel
theorem dX3_readLine_35 : decode cX3_readLine 35 = .ok (.invokevirtual 167, 3) := by decide +kernel
theorem dX3_readLine_38 : decode cX3_readLine 38 = .ok (.istore_n 2, 1) := by decide +kernel
theorem dX3_readLine_39 : decode cX3_readLine 39 = .ok (.iload_n 2, 1) := by decide +kernel
theorem dX3_readLine_40 : decode cX3_readLine 40 = .ok (.ifCond .ne 6, 3) := by decide +kernel
theorem dX3_readLine_43 : decode cX3_readLine 43 = .ok (.bipush 7, 2) := by decide +kernel
theorem dX3_readLine_45 : decode cX3_readLine 45 = .ok (.ireturn, 1) := by decide +kernel
theorem dX3_readLine_46 : decode cX3_readLine 46 = .ok (.iconst 0, 1) := by decide +kernel
theorem dX3_readLine_47 : decode cX3_readLine 47 = .ok (.istore_n 3, 1) := by decide +kernel
theorem dX3_readLine_48 : decode cX3_readLine 48 = .ok (.iload_n 1, 1) := by decide +kernel
theorem dX3_readLine_49 : decode cX3_readLine 49 = .ok (.tableswitch 63 1 4 #[31, 39, 47, 55], 31) := by decide +kernel
theorem dX3_readLine_80 : decode cX3_readLine 80 = .ok (.aload_n 0, 1) := by decide +kernel
theorem dX3_readLine_81 : decode cX3_readLine 81 = .ok (.invokevirtual 170, 3) := by decide +kernel
theorem dX3_readLine_84 : decode cX3_readLine 84 = .ok (.istore_n 3, 1) := by decide +kernel
theorem dX3_readLine_85 : decode cX3_readLine 85 = .ok (.goto 32, 3) := by decide +kernel
theorem dX3_readLine_88 : decode cX3_readLine 88 = .ok (.aload_n 0, 1) := by decide +kernel
theorem dX3_readLine_89 : decode cX3_readLine 89 = .ok (.invokevirtual 173, 3) := by decide +kernel
theorem dX3_readLine_92 : decode cX3_readLine 92 = .ok (.istore_n 3, 1) := by decide +kernel
theorem dX3_readLine_93 : decode cX3_readLine 93 = .ok (.goto 24, 3) := by decide +kernel
theorem dX3_readLine_96 : decode cX3_readLine 96 = .ok (.aload_n 0, 1) := by decide +kernel
theorem dX3_readLine_97 : decode cX3_readLine 97 = .ok (.invokevirtual 176, 3) := by decide +kernel
theorem dX3_readLine_100 : decode cX3_readLine 100 = .ok (.istore_n 3, 1) := by decide +kernel
theorem dX3_readLine_101 : decode cX3_readLine 101 = .ok (.goto 16, 3) := by decide +kernel
theorem dX3_readLine_104 : decode cX3_readLine 104 = .ok (.aload_n 0, 1) := by decide +kernel
theorem dX3_readLine_105 : decode cX3_readLine 105 = .ok (.invokevirtual 179, 3) := by decide +kernel
theorem dX3_readLine_108 : decode cX3_readLine 108 = .ok (.istore_n 3, 1) := by decide +kernel
theorem dX3_readLine_109 : decode cX3_readLine 109 = .ok (.goto 8, 3) := by decide +kernel
theorem dX3_readLine_112 : decode cX3_readLine 112 = .ok (.aload_n 0, 1) := by decide +kernel
theorem dX3_readLine_113 : decode cX3_readLine 113 = .ok (.invokevirtual 182, 3) := by decide +kernel
theorem dX3_readLine_116 : decode cX3_readLine 116 = .ok (.istore_n 3, 1) := by decide +kernel
theorem dX3_readLine_117 : decode cX3_readLine 117 = .ok (.iload_n 3, 1) := by decide +kernel
theorem dX3_readLine_118 : decode cX3_readLine 118 = .ok (.ifCond .ne 16, 3) := by decide +kernel
theorem dX3_readLine_121 : decode cX3_readLine 121 = .ok (.aload_n 0, 1) := by decide +kernel
theorem dX3_readLine_122 : decode cX3_readLine 122 = .ok (.bipush 59, 2) := by decide +kernel
theorem dX3_readLine_124 : decode cX3_readLine 124 = .ok (.invokevirtual 116, 3) := by decide +kernel
theorem dX3_readLine_127 : decode cX3_readLine 127 = .ok (.ifCond .ne 7, 3) := by decide +kernel
theorem dX3_readLine_130 : decode cX3_readLine 130 = .ok (.iconst 1, 1) := by decide +kernel
theorem dX3_readLine_131 : decode cX3_readLine 131 = .ok (.goto 4, 3) := by decide +kernel
theorem dX3_readLine_134 : decode cX3_readLine 134 = .ok (.iload_n 3, 1) := by decide +kernel
theorem dX3_readLine_135 : decode cX3_readLine 135 = .ok (.ireturn, 1) := by decide +kernel
def fX3_readLine (a0 : Nat) (M : xMem) : Option (Int32 × xMem) :=
  xBn (fX3_word a0 M) fun r1 M2 => xBn (fX10_isWithin r1 (nI 1) (nI 5) M2) fun r3 M4 => if r3 = 0 then (some ((nI 1), M4)) else (xLt (fun (s5 : Int32) (M6 : xMem) => (if s5 = 0 then (some ((nI 7), M6)) else (xLt (fun (v7 : Int32) (M8 : xMem) => (if v7 = 0 then (xBn (fX3_isSign a0 (nI 59) M8) fun r9 M10 => if r9 = 0 then (some ((nI 1), M10)) else (some (v7, M10))) else (some (v7, M8)) : Option (Int32 × xMem))) fun J117 => if r1 = nI 1 then (xBn (fX3_readRaid a0 M6) fun r12 M13 => J117 r12 M13) else (if r1 = nI 2 then (xBn (fX3_readCard a0 M6) fun r15 M16 => J117 r15 M16) else (if r1 = nI 3 then (xBn (fX3_readChange a0 M6) fun r18 M19 => J117 r18 M19) else (if r1 = nI 4 then (xBn (fX3_readHalf a0 M6) fun r21 M22 => J117 r21 M22) else (xBn (fX3_readReview a0 M6) fun r23 M24 => J117 r23 M24))))) : Option (Int32 × xMem))) fun J38 => if r1 = (nI 1) then (xBn (fX2_hasRoomForRaid (xrf a0 1) M4) fun r27 M28 => J38 r27 M28) else (xBn (fX2_hasRoomForOther (xrf a0 1) M4) fun r25 M26 => J38 r25 M26))
set_option maxRecDepth 100000 in
set_option maxHeartbeats 4000000 in
theorem zX3_readLine (G : xGX) (a0 : Nat) (h0 : xkd a0 = 3) (M : xMem) (r : Int32) (M' : xMem) (h : fX3_readLine a0 M = some (r, M')) : xCt G yX3_readLine cX3_readLine 4 (some .int) 9 [vr G a0] M (some (.int r), M') := by
  refine xMet (lv := [some (vr G a0), none, none, none]) (by decide) (Nat.le_of_ble_eq_true rfl) rfl ?_
  intro X hG hnL C R0
  subst hG
  have C : xCk X cX3_readLine RX3 9 := C
  have hn1 : 1 < X.2.2.2.2.2.2.2.2.2.2.2.2.2 := by rw [hnL]; decide
  have hn2 : 2 < X.2.2.2.2.2.2.2.2.2.2.2.2.2 := by rw [hnL]; decide
  have hn3 : 3 < X.2.2.2.2.2.2.2.2.2.2.2.2.2 := by rw [hnL]; decide
  unfold fX3_readLine at h
  refine r_aload_n (pc := 0) C dX3_readLine_0 rfl rfl ?_
  refine r_vI0 (pc := 1) C (fun r M' e => zX3_word X.1 a0 h0 M r M' e) h0 (by decide) rfl mX3_word lX3_113 (by decide) (Nat.le_of_ble_eq_true rfl) dX3_readLine_1 h (fun r1 M2 h => ?_)
  refine r_istore_n (pc := 4) (lv' := [_, _, _, _]) C dX3_readLine_4 rfl hn1 rfl ?_
  refine r_iload_n (pc := 5) C dX3_readLine_5 rfl rfl ?_
  refine r_iconst (pc := 6) (v := (nI 1)) C dX3_readLine_6 (by decide) ?_
  refine r_iconst (pc := 7) (v := (nI 5)) C dX3_readLine_7 (by decide) ?_
  refine r_sI3 (pc := 8) C (fun r M' e => zX10_isWithin X.1 r1 (nI 1) (nI 5) M2 r M' e) mX10_isWithin lX3_160 (by decide) (Nat.le_of_ble_eq_true rfl) dX3_readLine_8 h (fun r3 M4 h => ?_)
  refine r_if_ne (pc := 11) (tgt := 16) C dX3_readLine_11 (by decide) h (fun _ h => ?_) (fun _ h => ?_)
  · refine r_iload_n (pc := 16) C dX3_readLine_16 rfl rfl ?_
    refine r_iconst (pc := 17) (v := (nI 1)) C dX3_readLine_17 (by decide) ?_
    refine r_jn (fun J => ∀ (s5 : Int32) (M6 : xMem) , J s5 M6 = some (r, M') → WW X 38 [some (vr X.1 a0), some (.int r1), none, none] [.int s5] M6) h (fun s5 M6  h => ?_) (fun J38 hJ38 h => ?_)
    · refine r_istore_n (pc := 38) (lv' := [_, _, _, _]) C dX3_readLine_38 rfl hn2 rfl ?_
      refine r_iload_n (pc := 39) C dX3_readLine_39 rfl rfl ?_
      refine r_if_ne (pc := 40) (tgt := 46) C dX3_readLine_40 (by decide) h (fun _ h => ?_) (fun _ h => ?_)
      · refine r_iconst (pc := 46) (v := (nI 0)) C dX3_readLine_46 (by decide) ?_
        refine r_istore_n (pc := 47) (lv' := [_, _, _, _]) C dX3_readLine_47 rfl hn3 rfl ?_
        refine r_iload_n (pc := 48) C dX3_readLine_48 rfl rfl ?_
        refine r_jn (fun J => ∀ (v7 : Int32) (M8 : xMem) , J v7 M8 = some (r, M') → WW X 117 [some (vr X.1 a0), some (.int r1), some (.int s5), some (.int v7)] [] M8) h (fun v7 M8  h => ?_) (fun J117 hJ117 h => ?_)
        · refine r_iload_n (pc := 117) C dX3_readLine_117 rfl rfl ?_
          refine r_if_ne (pc := 118) (tgt := 134) C dX3_readLine_118 (by decide) h (fun _ h => ?_) (fun _ h => ?_)
          · refine r_iload_n (pc := 134) C dX3_readLine_134 rfl rfl ?_
            exact r_iret (pc := 135) C R0 h dX3_readLine_135
          · refine r_aload_n (pc := 121) C dX3_readLine_121 rfl rfl ?_
            refine r_bipush (pc := 122) (v := (nI 59)) C dX3_readLine_122 (by decide) ?_
            refine r_vI1 (pc := 124) C (fun r M' e => zX3_isSign X.1 a0 h0 (nI 59) M8 r M' e) h0 (by decide) rfl mX3_isSign lX3_116 (by decide) (Nat.le_of_ble_eq_true rfl) dX3_readLine_124 h (fun r9 M10 h => ?_)
            refine r_if_ne (pc := 127) (tgt := 134) C dX3_readLine_127 (by decide) h (fun _ h => ?_) (fun _ h => ?_)
            · refine r_iload_n (pc := 134) C dX3_readLine_134 rfl rfl ?_
              exact r_iret (pc := 135) C R0 h dX3_readLine_135
            · refine r_iconst (pc := 130) (v := (nI 1)) C dX3_readLine_130 (by decide) ?_
              refine r_goto (pc := 131) (tgt := 135) C dX3_readLine_131 (by decide) ?_
              exact r_iret (pc := 135) C R0 h dX3_readLine_135
        refine r_tb h (fun e11 h => ?_) (fun e11 h => ?_)
        · refine r_tabInE (pc := 49) (tgt := 80) e11 C dX3_readLine_49 (by decide) (by decide) rfl (by decide) ?_
          refine r_aload_n (pc := 80) C dX3_readLine_80 rfl rfl ?_
          refine r_vI0 (pc := 81) C (fun r M' e => zX3_readRaid X.1 a0 h0 M6 r M' e) h0 (by decide) rfl mX3_readRaid lX3_170 (by decide) (Nat.le_of_ble_eq_true rfl) dX3_readLine_81 h (fun r12 M13 h => ?_)
          refine r_istore_n (pc := 84) (lv' := [_, _, _, _]) C dX3_readLine_84 rfl hn3 rfl ?_
          refine r_goto (pc := 85) (tgt := 117) C dX3_readLine_85 (by decide) ?_
          exact hJ117 r12 M13  h
        refine r_tb h (fun e14 h => ?_) (fun e14 h => ?_)
        · refine r_tabInE (pc := 49) (tgt := 88) e14 C dX3_readLine_49 (by decide) (by decide) rfl (by decide) ?_
          refine r_aload_n (pc := 88) C dX3_readLine_88 rfl rfl ?_
          refine r_vI0 (pc := 89) C (fun r M' e => zX3_readCard X.1 a0 h0 M6 r M' e) h0 (by decide) rfl mX3_readCard lX3_173 (by decide) (Nat.le_of_ble_eq_true rfl) dX3_readLine_89 h (fun r15 M16 h => ?_)
          refine r_istore_n (pc := 92) (lv' := [_, _, _, _]) C dX3_readLine_92 rfl hn3 rfl ?_
          refine r_goto (pc := 93) (tgt := 117) C dX3_readLine_93 (by decide) ?_
          exact hJ117 r15 M16  h
        refine r_tb h (fun e17 h => ?_) (fun e17 h => ?_)
        · refine r_tabInE (pc := 49) (tgt := 96) e17 C dX3_readLine_49 (by decide) (by decide) rfl (by decide) ?_
          refine r_aload_n (pc := 96) C dX3_readLine_96 rfl rfl ?_
          refine r_vI0 (pc := 97) C (fun r M' e => zX3_readChange X.1 a0 h0 M6 r M' e) h0 (by decide) rfl mX3_readChange lX3_176 (by decide) (Nat.le_of_ble_eq_true rfl) dX3_readLine_97 h (fun r18 M19 h => ?_)
          refine r_istore_n (pc := 100) (lv' := [_, _, _, _]) C dX3_readLine_100 rfl hn3 rfl ?_
          refine r_goto (pc := 101) (tgt := 117) C dX3_readLine_101 (by decide) ?_
          exact hJ117 r18 M19  h
        refine r_tb h (fun e20 h => ?_) (fun e20 h => ?_)
        · refine r_tabInE (pc := 49) (tgt := 104) e20 C dX3_readLine_49 (by decide) (by decide) rfl (by decide) ?_
          refine r_aload_n (pc := 104) C dX3_readLine_104 rfl rfl ?_
          refine r_vI0 (pc := 105) C (fun r M' e => zX3_readHalf X.1 a0 h0 M6 r M' e) h0 (by decide) rfl mX3_readHalf lX3_179 (by decide) (Nat.le_of_ble_eq_true rfl) dX3_readLine_105 h (fun r21 M22 h => ?_)
          refine r_istore_n (pc := 108) (lv' := [_, _, _, _]) C dX3_readLine_108 rfl hn3 rfl ?_
          refine r_goto (pc := 109) (tgt := 117) C dX3_readLine_109 (by decide) ?_
          exact hJ117 r21 M22  h
        refine r_tabOut (pc := 49) (tgt := 112) C dX3_readLine_49 (xtabout 1 4 (fun k hk hk2 => by rcases (show k = 1 ∨ k = 2 ∨ k = 3 ∨ k = 4 by omega) with rfl | rfl | rfl | rfl <;> assumption)) (by decide) ?_
        refine r_aload_n (pc := 112) C dX3_readLine_112 rfl rfl ?_
        refine r_vI0 (pc := 113) C (fun r M' e => zX3_readReview X.1 a0 h0 M6 r M' e) h0 (by decide) rfl mX3_readReview lX3_182 (by decide) (Nat.le_of_ble_eq_true rfl) dX3_readLine_113 h (fun r23 M24 h => ?_)
        refine r_istore_n (pc := 116) (lv' := [_, _, _, _]) C dX3_readLine_116 rfl hn3 rfl ?_
        exact hJ117 r23 M24  h
      · refine r_bipush (pc := 43) (v := (nI 7)) C dX3_readLine_43 (by decide) ?_
        exact r_iret (pc := 45) C R0 h dX3_readLine_45
    refine r_icmp_ne (pc := 18) (tgt := 31) C dX3_readLine_18 (by decide) h (fun _ h => ?_) (fun _ h => ?_)
    · refine r_aload_n (pc := 31) C dX3_readLine_31 rfl rfl ?_
      refine r_getR (pc := 32) C kX3_45 h0 (by decide) dX3_readLine_32 ?_
      refine r_vI0 (pc := 35) C (fun r M' e => zX2_hasRoomForOther X.1 (xrf a0 1) (xtk h0 (by decide) rfl rfl) M4 r M' e) (xtk h0 (by decide) rfl rfl) (by decide) rfl mX2_hasRoomForOther lX3_167 (by decide) (Nat.le_of_ble_eq_true rfl) dX3_readLine_35 h (fun r25 M26 h => ?_)
      exact hJ38 r25 M26  h
    · refine r_aload_n (pc := 21) C dX3_readLine_21 rfl rfl ?_
      refine r_getR (pc := 22) C kX3_45 h0 (by decide) dX3_readLine_22 ?_
      refine r_vI0 (pc := 25) C (fun r M' e => zX2_hasRoomForRaid X.1 (xrf a0 1) (xtk h0 (by decide) rfl rfl) M4 r M' e) (xtk h0 (by decide) rfl rfl) (by decide) rfl mX2_hasRoomForRaid lX3_164 (by decide) (Nat.le_of_ble_eq_true rfl) dX3_readLine_25 h (fun r27 M28 h => ?_)
      refine r_goto (pc := 28) (tgt := 38) C dX3_readLine_28 (by decide) ?_
      exact hJ38 r27 M28  h
  · refine r_iconst (pc := 14) (v := (nI 1)) C dX3_readLine_14 (by decide) ?_
    exact r_iret (pc := 15) C R0 h dX3_readLine_15
