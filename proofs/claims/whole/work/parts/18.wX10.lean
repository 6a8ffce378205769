theorem dX10_feed_0 : decode cX10_feed 0 = .ok (.aload_n 0, 1) := by decide +kernel
theorem dX10_feed_1 : decode cX10_feed 1 = .ok (.getfield 14, 3) := by decide +kernel
theorem dX10_feed_4 : decode cX10_feed 4 = .ok (.invokevirtual 72, 3) := by decide +kernel
theorem dX10_feed_7 : decode cX10_feed 7 = .ok (.bipush 20, 2) := by decide +kernel
theorem dX10_feed_9 : decode cX10_feed 9 = .ok (.iadd, 1) := by decide +kernel
theorem dX10_feed_10 : decode cX10_feed 10 = .ok (.sipush 2000, 3) := by decide +kernel
theorem dX10_feed_13 : decode cX10_feed 13 = .ok (.if_icmp .le 5, 3) := by decide +kernel
theorem dX10_feed_16 : decode cX10_feed 16 = .ok (.iconst (-1), 1) := by decide +kernel
theorem dX10_feed_17 : decode cX10_feed 17 = .ok (.ireturn, 1) := by decide +kernel
theorem dX10_feed_18 : decode cX10_feed 18 = .ok (.aload_n 0, 1) := by decide +kernel
theorem dX10_feed_19 : decode cX10_feed 19 = .ok (.getfield 14, 3) := by decide +kernel
theorem dX10_feed_22 : decode cX10_feed 22 = .ok (.iload_n 1, 1) := by decide +kernel
theorem dX10_feed_23 : decode cX10_feed 23 = .ok (.invokevirtual 76, 3) := by decide +kernel
theorem dX10_feed_26 : decode cX10_feed 26 = .ok (.aload_n 0, 1) := by decide +kernel
theorem dX10_feed_27 : decode cX10_feed 27 = .ok (.getfield 14, 3) := by decide +kernel
theorem dX10_feed_30 : decode cX10_feed 30 = .ok (.iload_n 2, 1) := by decide +kernel
theorem dX10_feed_31 : decode cX10_feed 31 = .ok (.invokevirtual 76, 3) := by decide +kernel
theorem dX10_feed_34 : decode cX10_feed 34 = .ok (.aload_n 0, 1) := by decide +kernel
theorem dX10_feed_35 : decode cX10_feed 35 = .ok (.getfield 14, 3) := by decide +kernel
theorem dX10_feed_38 : decode cX10_feed 38 = .ok (.iload_n 3, 1) := by decide +kernel
theorem dX10_feed_39 : decode cX10_feed 39 = .ok (.invokevirtual 76, 3) := by decide +kernel
theorem dX10_feed_42 : decode cX10_feed 42 = .ok (.aload_n 0, 1) := by decide +kernel
theorem dX10_feed_43 : decode cX10_feed 43 = .ok (.getfield 14, 3) := by decide +kernel
theorem dX10_feed_46 : decode cX10_feed 46 = .ok (.iload 4, 2) := by decide +kernel
theorem dX10_feed_48 : decode cX10_feed 48 = .ok (.invokevirtual 76, 3) := by decide +kernel
theorem dX10_feed_51 : decode cX10_feed 51 = .ok (.aload_n 0, 1) := by decide +kernel
theorem dX10_feed_52 : decode cX10_feed 52 = .ok (.getfield 14, 3) := by decide +kernel
theorem dX10_feed_55 : decode cX10_feed 55 = .ok (.iload 5, 2) := by decide +kernel
theorem dX10_feed_57 : decode cX10_feed 57 = .ok (.invokevirtual 76, 3) := by decide +kernel
theorem dX10_feed_60 : decode cX10_feed 60 = .ok (.aload_n 0, 1) := by decide +kernel
theorem dX10_feed_61 : decode cX10_feed 61 = .ok (.getfield 14, 3) := by decide +kernel
theorem dX10_feed_64 : decode cX10_feed 64 = .ok (.invokevirtual 72, 3) := by decide +kernel
theorem dX10_feed_67 : decode cX10_feed 67 = .ok (.ireturn, 1) := by decide +kernel
def fX10_feed (a0 : Nat) (a1 : Int32) (a2 : Int32) (a3 : Int32) (a4 : Int32) (a5 : Int32) (M : xMem) : Option (Int32 × xMem) :=
  xBn (fX6_size (xrf a0 0) M) fun r1 M2 => if (r1 + (nI 20)) ≤ (nI 2000) then (xBv (fX6_putNumber (xrf a0 0) a1 M2) fun M3 => xBv (fX6_putNumber (xrf a0 0) a2 M3) fun M4 => xBv (fX6_putNumber (xrf a0 0) a3 M4) fun M5 => xBv (fX6_putNumber (xrf a0 0) a4 M5) fun M6 => xBv (fX6_putNumber (xrf a0 0) a5 M6) fun M7 => xBn (fX6_size (xrf a0 0) M7) fun r8 M9 => some (r8, M9)) else (some ((-1), M2))
set_option maxRecDepth 100000 in
set_option maxHeartbeats 4000000 in
theorem zX10_feed (G : xGX) (a0 : Nat) (h0 : xkd a0 = 10) (a1 : Int32) (a2 : Int32) (a3 : Int32) (a4 : Int32) (a5 : Int32) (M : xMem) (r : Int32) (M' : xMem) (h : fX10_feed a0 a1 a2 a3 a4 a5 M = some (r, M')) : xCt G yX10_feed cX10_feed 6 (some .int) 3 [vr G a0, .int a1, .int a2, .int a3, .int a4, .int a5] M (some (.int r), M') := by
  refine xMet (lv := [some (vr G a0), some (.int a1), some (.int a2), some (.int a3), some (.int a4), some (.int a5)]) (by decide) (Nat.le_of_ble_eq_true rfl) rfl ?_
  intro X hG hnL C R0
  subst hG
  have C : xCk X cX10_feed RX10 3 := C
  unfold fX10_feed at h
  refine r_aload_n (pc := 0) C dX10_feed_0 rfl rfl ?_
  refine r_getR (pc := 1) C kX10_14 h0 (by decide) dX10_feed_1 ?_
  refine r_vI0 (pc := 4) C (fun r M' e => zX6_size X.1 (xrf a0 0) (xtk h0 (by decide) rfl rfl) M r M' e) (xtk h0 (by decide) rfl rfl) (by decide) rfl mX6_size lX10_72 (by decide) (Nat.le_of_ble_eq_true rfl) dX10_feed_4 h (fun r1 M2 h => ?_)
  refine r_bipush (pc := 7) (v := (nI 20)) C dX10_feed_7 (by decide) ?_
  refine r_iadd (pc := 9) C dX10_feed_9 ?_
  refine r_sipush (pc := 10) (v := (nI 2000)) C dX10_feed_10 (by decide) ?_
  refine r_icmp_le (pc := 13) (tgt := 18) C dX10_feed_13 (by decide) h (fun _ h => ?_) (fun _ h => ?_)
  · refine r_aload_n (pc := 18) C dX10_feed_18 rfl rfl ?_
    refine r_getR (pc := 19) C kX10_14 h0 (by decide) dX10_feed_19 ?_
    refine r_iload_n (pc := 22) C dX10_feed_22 rfl rfl ?_
    refine r_vV1 (pc := 23) C (fun M' e => zX6_putNumber X.1 (xrf a0 0) (xtk h0 (by decide) rfl rfl) a1 M2 M' e) (xtk h0 (by decide) rfl rfl) (by decide) rfl mX6_putNumber lX10_76 (by decide) (Nat.le_of_ble_eq_true rfl) dX10_feed_23 h (fun M3 h => ?_)
    refine r_aload_n (pc := 26) C dX10_feed_26 rfl rfl ?_
    refine r_getR (pc := 27) C kX10_14 h0 (by decide) dX10_feed_27 ?_
    refine r_iload_n (pc := 30) C dX10_feed_30 rfl rfl ?_
    refine r_vV1 (pc := 31) C (fun M' e => zX6_putNumber X.1 (xrf a0 0) (xtk h0 (by decide) rfl rfl) a2 M3 M' e) (xtk h0 (by decide) rfl rfl) (by decide) rfl mX6_putNumber lX10_76 (by decide) (Nat.le_of_ble_eq_true rfl) dX10_feed_31 h (fun M4 h => ?_)
    refine r_aload_n (pc := 34) C dX10_feed_34 rfl rfl ?_
    refine r_getR (pc := 35) C kX10_14 h0 (by decide) dX10_feed_35 ?_
    refine r_iload_n (pc := 38) C dX10_feed_38 rfl rfl ?_
    refine r_vV1 (pc := 39) C (fun M' e => zX6_putNumber X.1 (xrf a0 0) (xtk h0 (by decide) rfl rfl) a3 M4 M' e) (xtk h0 (by decide) rfl rfl) (by decide) rfl mX6_putNumber lX10_76 (by decide) (Nat.le_of_ble_eq_true rfl) dX10_feed_39 h (fun M5 h => ?_)
    refine r_aload_n (pc := 42) C dX10_feed_42 rfl rfl ?_
    refine r_getR (pc := 43) C kX10_14 h0 (by decide) dX10_feed_43 ?_
    refine r_iload (pc := 46) C dX10_feed_46 rfl ?_
    refine r_vV1 (pc := 48) C (fun M' e => zX6_putNumber X.1 (xrf a0 0) (xtk h0 (by decide) rfl rfl) a4 M5 M' e) (xtk h0 (by decide) rfl rfl) (by decide) rfl mX6_putNumber lX10_76 (by decide) (Nat.le_of_ble_eq_true rfl) dX10_feed_48 h (fun M6 h => ?_)
    refine r_aload_n (pc := 51) C dX10_feed_51 rfl rfl ?_
    refine r_getR (pc := 52) C kX10_14 h0 (by decide) dX10_feed_52 ?_
    refine r_iload (pc := 55) C dX10_feed_55 rfl ?_
    refine r_vV1 (pc := 57) C (fun M' e => zX6_putNumber X.1 (xrf a0 0) (xtk h0 (by decide) rfl rfl) a5 M6 M' e) (xtk h0 (by decide) rfl rfl) (by decide) rfl mX6_putNumber lX10_76 (by decide) (Nat.le_of_ble_eq_true rfl) dX10_feed_57 h (fun M7 h => ?_)
    refine r_aload_n (pc := 60) C dX10_feed_60 rfl rfl ?_
    refine r_getR (pc := 61) C kX10_14 h0 (by decide) dX10_feed_61 ?_
    refine r_vI0 (pc := 64) C (fun r M' e => zX6_size X.1 (xrf a0 0) (xtk h0 (by decide) rfl rfl) M7 r M' e) (xtk h0 (by decide) rfl rfl) (by decide) rfl mX6_size lX10_72 (by decide) (Nat.le_of_ble_eq_true rfl) dX10_feed_64 h (fun r8 M9 h => ?_)
    exact r_iret (pc := 67) C R0 h dX10_feed_67
  · refine r_iconst (pc := 16) (v := (-1)) C dX10_feed_16 (by decide) ?_
    exact r_iret (pc := 17) C R0 h dX10_feed_17
theorem dX10_end_0 : decode cX10_end 0 = .ok (.iload_n 1, 1) := by decide +kernel
theorem dX10_end_1 : decode cX10_end 1 = .ok (.ifCond .lt 14, 3) := by decide +kernel
theorem dX10_end_4 : decode cX10_end 4 = .ok (.iload_n 1, 1) := by decide +kernel
theorem dX10_end_5 : decode cX10_end 5 = .ok (.aload_n 0, 1) := by decide +kernel
theorem dX10_end_6 : decode cX10_end 6 = .ok (.getfield 14, 3) := by decide +kernel
theorem dX10_end_9 : decode cX10_end 9 = .ok (.invokevirtual 72, 3) := by decide +kernel
theorem dX10_end_12 : decode cX10_end 12 = .ok (.if_icmp .le 5, 3) := by decide +kernel
theorem dX10_end_15 : decode cX10_end 15 = .ok (.iconst (-1), 1) := by decide +kernel
theorem dX10_end_16 : decode cX10_end 16 = .ok (.ireturn, 1) := by decide +kernel
theorem dX10_end_17 : decode cX10_end 17 = .ok (.aload_n 0, 1) := by decide +kernel
theorem dX10_end_18 : decode cX10_end 18 = .ok (.getfield 14, 3) := by decide +kernel
theorem dX10_end_21 : decode cX10_end 21 = .ok (.iload_n 1, 1) := by decide +kernel
theorem dX10_end_22 : decode cX10_end 22 = .ok (.invokevirtual 79, 3) := by decide +kernel
theorem dX10_end_25 : decode cX10_end 25 = .ok (.iload_n 1, 1) := by decide +kernel
theorem dX10_end_26 : decode cX10_end 26 = .ok (.ireturn, 1) := by decide +kernel
def fX10_end (a0 : Nat) (a1 : Int32) (M : xMem) : Option (Int32 × xMem) :=
  if a1 < 0 then (some ((-1), M)) else (xBn (fX6_size (xrf a0 0) M) fun r1 M2 => if a1 ≤ r1 then (xBv (fX6_cut (xrf a0 0) a1 M2) fun M3 => some (a1, M3)) else (some ((-1), M2)))
set_option maxRecDepth 100000 in
set_option maxHeartbeats 4000000 in
theorem zX10_end (G : xGX) (a0 : Nat) (h0 : xkd a0 = 10) (a1 : Int32) (M : xMem) (r : Int32) (M' : xMem) (h : fX10_end a0 a1 M = some (r, M')) : xCt G yX10_end cX10_end 2 (some .int) 2 [vr G a0, .int a1] M (some (.int r), M') := by
  refine xMet (lv := [some (vr G a0), some (.int a1)]) (by decide) (Nat.le_of_ble_eq_true rfl) rfl ?_
  intro X hG hnL C R0
  subst hG
  have C : xCk X cX10_end RX10 2 := C
  unfold fX10_end at h
  refine r_iload_n (pc := 0) C dX10_end_0 rfl rfl ?_
  refine r_if_lt (pc := 1) (tgt := 15) C dX10_end_1 (by decide) h (fun _ h => ?_) (fun _ h => ?_)
  · refine r_iconst (pc := 15) (v := (-1)) C dX10_end_15 (by decide) ?_
    exact r_iret (pc := 16) C R0 h dX10_end_16
  · refine r_iload_n (pc := 4) C dX10_end_4 rfl rfl ?_
    refine r_aload_n (pc := 5) C dX10_end_5 rfl rfl ?_
    refine r_getR (pc := 6) C kX10_14 h0 (by decide) dX10_end_6 ?_
    refine r_vI0 (pc := 9) C (fun r M' e => zX6_size X.1 (xrf a0 0) (xtk h0 (by decide) rfl rfl) M r M' e) (xtk h0 (by decide) rfl rfl) (by decide) rfl mX6_size lX10_72 (by decide) (Nat.le_of_ble_eq_true rfl) dX10_end_9 h (fun r1 M2 h => ?_)
    refine r_icmp_le (pc := 12) (tgt := 17) C dX10_end_12 (by decide) h (fun _ h => ?_) (fun _ h => ?_)
    · refine r_aload_n (pc := 17) C dX10_end_17 rfl rfl ?_
      refine r_getR (pc := 18) C kX10_14 h0 (by decide) dX10_end_18 ?_
      refine r_iload_n (pc := 21) C dX10_end_21 rfl rfl ?_
      refine r_vV1 (pc := 22) C (fun M' e => zX6_cut X.1 (xrf a0 0) (xtk h0 (by decide) rfl rfl) a1 M2 M' e) (xtk h0 (by decide) rfl rfl) (by decide) rfl mX6_cut lX10_79 (by decide) (Nat.le_of_ble_eq_true rfl) dX10_end_22 h (fun M3 h => ?_)
      refine r_iload_n (pc := 25) C dX10_end_25 rfl rfl ?_
      exact r_iret (pc := 26) C R0 h dX10_end_26
    · refine r_iconst (pc := 15) (v := (-1)) C dX10_end_15 (by decide) ?_
      exact r_iret (pc := 16) C R0 h dX10_end_16
theorem dX10_text_0 : decode cX10_text 0 = .ok (.aload_n 0, 1) := by decide +kernel
theorem dX10_text_1 : decode cX10_text 1 = .ok (.getfield 47, 3) := by decide +kernel
theorem dX10_text_4 : decode cX10_text 4 = .ok (.aload_n 0, 1) := by decide +kernel
theorem dX10_text_5 : decode cX10_text 5 = .ok (.getfield 24, 3) := by decide +kernel
theorem dX10_text_8 : decode cX10_text 8 = .ok (.getfield 82, 3) := by decide +kernel
theorem dX10_text_11 : decode cX10_text 11 = .ok (.invokevirtual 85, 3) := by decide +kernel
theorem dX10_text_14 : decode cX10_text 14 = .ok (.aload_n 0, 1) := by decide +kernel
theorem dX10_text_15 : decode cX10_text 15 = .ok (.aload_n 0, 1) := by decide +kernel
theorem dX10_text_16 : decode cX10_text 16 = .ok (.getfield 33, 3) := by decide +kernel
theorem dX10_text_19 : decode cX10_text 19 = .ok (.invokevirtual 89, 3) := by decide +kernel
theorem dX10_text_22 : decode cX10_text 22 = .ok (.putfield 65, 3) := by decide +kernel
theorem dX10_text_25 : decode cX10_text 25 = .ok (.aload_n 0, 1) := by decide +kernel
theorem dX10_text_26 : decode cX10_text 26 = .ok (.aload_n 0, 1) := by decide +kernel
theorem dX10_text_27 : decode cX10_text 27 = .ok (.getfield 65, 3) := by decide +kernel
theorem dX10_text_30 : decode cX10_text 30 = .ok (.ifCond .ne 7, 3) := by decide +kernel
theorem dX10_text_33 : decode cX10_text 33 = .ok (.iconst (-1), 1) := by decide +kernel
theorem dX10_text_34 : decode cX10_text 34 = .ok (.goto 10, 3) := by decide +kernel
theorem dX10_text_37 : decode cX10_text 37 = .ok (.aload_n 0, 1) := by decide +kernel
theorem dX10_text_38 : decode cX10_text 38 = .ok (.getfield 33, 3) := by decide +kernel
theorem dX10_text_41 : decode cX10_text 41 = .ok (.invokevirtual 92, 3) := by decide +kernel
theorem dX10_text_44 : decode cX10_text 44 = .ok (.putfield 69, 3) := by decide +kernel
theorem dX10_text_47 : decode cX10_text 47 = .ok (.aload_n 0, 1) := by decide +kernel
theorem dX10_text_48 : decode cX10_text 48 = .ok (.getfield 14, 3) := by decide +kernel
theorem dX10_text_51 : decode cX10_text 51 = .ok (.iconst 0, 1) := by decide +kernel
theorem dX10_text_52 : decode cX10_text 52 = .ok (.invokevirtual 79, 3) := by decide +kernel
theorem dX10_text_55 : decode cX10_text 55 = .ok (.aload_n 0, 1) := by decide +kernel
theorem dX10_text_56 : decode cX10_text 56 = .ok (.getfield 65, 3) := by decide +kernel
theorem dX10_text_59 : decode cX10_text 59 = .ok (.ifCond .eq 27, 3) := by decide +kernel
theorem dX10_text_62 : decode cX10_text 62 = .ok (.aload_n 0, 1) := by decide +kernel
theorem dX10_text_63 : decode cX10_text 63 = .ok (.getfield 24, 3) := by decide +kernel
theorem dX10_text_66 : decode cX10_text 66 = .ok (.getfield 82, 3) := by decide +kernel
theorem dX10_text_69 : decode cX10_text 69 = .ok (.aload_n 0, 1) := by decide +kernel
theorem dX10_text_70 : decode cX10_text 70 = .ok (.getfield 47, 3) := by decide +kernel
theorem dX10_text_73 : decode cX10_text 73 = .ok (.invokevirtual 85, 3) := by decide +kernel
theorem dX10_text_76 : decode cX10_text 76 = .ok (.aload_n 0, 1) := by decide +kernel
theorem dX10_text_77 : decode cX10_text 77 = .ok (.getfield 24, 3) := by decide +kernel
theorem dX10_text_80 : decode cX10_text 80 = .ok (.invokevirtual 95, 3) := by decide +kernel
theorem dX10_text_83 : decode cX10_text 83 = .ok (.bipush (-4), 2) := by decide +kernel
theorem dX10_text_85 : decode cX10_text 85 = .ok (.ireturn, 1) := by decide +kernel
theorem dX10_text_86 : decode cX10_text 86 = .ok (.aload_n 0, 1) := by decide +kernel
theorem dX10_text_87 : decode cX10_text 87 = .ok (.getfield 40, 3) := by decide +kernel
theorem dX10_text_90 : decode cX10_text 90 = .ok (.aload_n 0, 1) := by decide +kernel
theorem dX10_text_91 : decode cX10_text 91 = .ok (.getfield 47, 3) := by decide +kernel
theorem dX10_text_94 : decode cX10_text 94 = .ok (.invokevirtual 98, 3) := by decide +kernel
theorem dX10_text_97 : decode cX10_text 97 = .ok (.aload_n 0, 1) := by decide +kernel
theorem dX10_text_98 : decode cX10_text 98 = .ok (.getfield 24, 3) := by decide +kernel
theorem dX10_text_101 : decode cX10_text 101 = .ok (.getfield 82, 3) := by decide +kernel
theorem dX10_text_104 : decode cX10_text 104 = .ok (.getfield 101, 3) := by decide +kernel
theorem dX10_text_107 : decode cX10_text 107 = .ok (.ireturn, 1) := by decide +kernel
def fX10_text (a0 : Nat) (M : xMem) : Option (Int32 × xMem) :=
  xBv (fX9_copyFrom (xrf a0 5) (xrf (xrf a0 2) 0) M) fun M1 => xBn (fX3_readText (xrf a0 3) M1) fun r2 M3 => xLt (xwI M3 a0 8 r2) fun M4 => xLt (fun (s5 : Int32) (M6 : xMem) => (xLt (xwI M6 a0 9 s5) fun M7 => xBv (fX6_cut (xrf a0 0) (nI 0) M7) fun M8 => if (M8.1 a0 8) = 0 then (xBv (fX0_noteText (xrf a0 4) (xrf a0 5) M8) fun M9 => some ((M9.1 (xrf (xrf a0 2) 0) 2), M9)) else (xBv (fX9_copyFrom (xrf (xrf a0 2) 0) (xrf a0 5) M8) fun M10 => xBv (fX2_replay (xrf a0 2) M10) fun M11 => some ((-4), M11)) : Option (Int32 × xMem))) fun J44 => if (M4.1 a0 8) = 0 then (J44 (-1) M4) else (xBn (fX3_place (xrf a0 3) M4) fun r12 M13 => J44 r12 M13)
set_option maxRecDepth 100000 in
set_option maxHeartbeats 4000000 in
theorem zX10_text (G : xGX) (a0 : Nat) (h0 : xkd a0 = 10) (M : xMem) (r : Int32) (M' : xMem) (h : fX10_text a0 M = some (r, M')) : xCt G yX10_text cX10_text 1 (some .int) 11 [vr G a0] M (some (.int r), M') := by
  refine xMet (lv := [some (vr G a0)]) (by decide) (Nat.le_of_ble_eq_true rfl) rfl ?_
  intro X hG hnL C R0
  subst hG
  have C : xCk X cX10_text RX10 11 := C
  unfold fX10_text at h
  refine r_aload_n (pc := 0) C dX10_text_0 rfl rfl ?_
  refine r_getR (pc := 1) C kX10_47 h0 (by decide) dX10_text_1 ?_
  refine r_aload_n (pc := 4) C dX10_text_4 rfl rfl ?_
  refine r_getR (pc := 5) C kX10_24 h0 (by decide) dX10_text_5 ?_
  refine r_getR (pc := 8) C kX10_82 (xtk h0 (by decide) rfl rfl) (by decide) dX10_text_8 ?_
  refine r_vV1 (pc := 11) C (fun M' e => zX9_copyFrom X.1 (xrf a0 5) (xtk h0 (by decide) rfl rfl) (xrf (xrf a0 2) 0) (xtk (xtk h0 (by decide) rfl rfl) (by decide) rfl rfl) M M' e) (xtk h0 (by decide) rfl rfl) (by decide) rfl mX9_copyFrom lX10_85 (by decide) (Nat.le_of_ble_eq_true rfl) dX10_text_11 h (fun M1 h => ?_)
  refine r_aload_n (pc := 14) C dX10_text_14 rfl rfl ?_
  refine r_aload_n (pc := 15) C dX10_text_15 rfl rfl ?_
  refine r_getR (pc := 16) C kX10_33 h0 (by decide) dX10_text_16 ?_
  refine r_vI0 (pc := 19) C (fun r M' e => zX3_readText X.1 (xrf a0 3) (xtk h0 (by decide) rfl rfl) M1 r M' e) (xtk h0 (by decide) rfl rfl) (by decide) rfl mX3_readText lX10_89 (by decide) (Nat.le_of_ble_eq_true rfl) dX10_text_19 h (fun r2 M3 h => ?_)
  refine r_putI (pc := 22) C kX10_65 h0 dX10_text_22 ?_
  refine r_letM h (fun M4 h => ?_)
  refine r_aload_n (pc := 25) C dX10_text_25 rfl rfl ?_
  refine r_aload_n (pc := 26) C dX10_text_26 rfl rfl ?_
  refine r_getI (pc := 27) C kX10_65 h0 dX10_text_27 ?_
  refine r_jn (fun J => ∀ (s5 : Int32) (M6 : xMem) , J s5 M6 = some (r, M') → WW X 44 [some (vr X.1 a0)] [.int s5, vr X.1 a0] M6) h (fun s5 M6  h => ?_) (fun J44 hJ44 h => ?_)
  · refine r_putI (pc := 44) C kX10_69 h0 dX10_text_44 ?_
    refine r_letM h (fun M7 h => ?_)
    refine r_aload_n (pc := 47) C dX10_text_47 rfl rfl ?_
    refine r_getR (pc := 48) C kX10_14 h0 (by decide) dX10_text_48 ?_
    refine r_iconst (pc := 51) (v := (nI 0)) C dX10_text_51 (by decide) ?_
    refine r_vV1 (pc := 52) C (fun M' e => zX6_cut X.1 (xrf a0 0) (xtk h0 (by decide) rfl rfl) (nI 0) M7 M' e) (xtk h0 (by decide) rfl rfl) (by decide) rfl mX6_cut lX10_79 (by decide) (Nat.le_of_ble_eq_true rfl) dX10_text_52 h (fun M8 h => ?_)
    refine r_aload_n (pc := 55) C dX10_text_55 rfl rfl ?_
    refine r_getI (pc := 56) C kX10_65 h0 dX10_text_56 ?_
    refine r_if_eq (pc := 59) (tgt := 86) C dX10_text_59 (by decide) h (fun _ h => ?_) (fun _ h => ?_)
    · refine r_aload_n (pc := 86) C dX10_text_86 rfl rfl ?_
      refine r_getR (pc := 87) C kX10_40 h0 (by decide) dX10_text_87 ?_
      refine r_aload_n (pc := 90) C dX10_text_90 rfl rfl ?_
      refine r_getR (pc := 91) C kX10_47 h0 (by decide) dX10_text_91 ?_
      refine r_vV1 (pc := 94) C (fun M' e => zX0_noteText X.1 (xrf a0 4) (xtk h0 (by decide) rfl rfl) (xrf a0 5) (xtk h0 (by decide) rfl rfl) M8 M' e) (xtk h0 (by decide) rfl rfl) (by decide) rfl mX0_noteText lX10_98 (by decide) (Nat.le_of_ble_eq_true rfl) dX10_text_94 h (fun M9 h => ?_)
      refine r_aload_n (pc := 97) C dX10_text_97 rfl rfl ?_
      refine r_getR (pc := 98) C kX10_24 h0 (by decide) dX10_text_98 ?_
      refine r_getR (pc := 101) C kX10_82 (xtk h0 (by decide) rfl rfl) (by decide) dX10_text_101 ?_
      refine r_getI (pc := 104) C kX10_101 (xtk (xtk h0 (by decide) rfl rfl) (by decide) rfl rfl) dX10_text_104 ?_
      exact r_iret (pc := 107) C R0 h dX10_text_107
    · refine r_aload_n (pc := 62) C dX10_text_62 rfl rfl ?_
      refine r_getR (pc := 63) C kX10_24 h0 (by decide) dX10_text_63 ?_
      refine r_getR (pc := 66) C kX10_82 (xtk h0 (by decide) rfl rfl) (by decide) dX10_text_66 ?_
      refine r_aload_n (pc := 69) C dX10_text_69 rfl rfl ?_
      refine r_getR (pc := 70) C kX10_47 h0 (by decide) dX10_text_70 ?_
      refine r_vV1 (pc := 73) C (fun M' e => zX9_copyFrom X.1 (xrf (xrf a0 2) 0) (xtk (xtk h0 (by decide) rfl rfl) (by decide) rfl rfl) (xrf a0 5) (xtk h0 (by decide) rfl rfl) M8 M' e) (xtk (xtk h0 (by decide) rfl rfl) (by decide) rfl rfl) (by decide) rfl mX9_copyFrom lX10_85 (by decide) (Nat.le_of_ble_eq_true rfl) dX10_text_73 h (fun M10 h => ?_)
      refine r_aload_n (pc := 76) C dX10_text_76 rfl rfl ?_
      refine r_getR (pc := 77) C kX10_24 h0 (by decide) dX10_text_77 ?_
      refine r_vV0 (pc := 80) C (fun M' e => zX2_replay X.1 (xrf a0 2) (xtk h0 (by decide) rfl rfl) M10 M' e) (xtk h0 (by decide) rfl rfl) (by decide) rfl mX2_replay lX10_95 (by decide) (Nat.le_of_ble_eq_true rfl) dX10_text_80 h (fun M11 h => ?_)
      refine r_bipush (pc := 83) (v := (-4)) C dX10_text_83 (by decide) ?_
      exact r_iret (pc := 85) C R0 h dX10_text_85
  refine r_if_ne (pc := 30) (tgt := 37) C dX10_text_30 (by decide) h (fun _ h => ?_) (fun _ h => ?_)
  · refine r_aload_n (pc := 37) C dX10_text_37 rfl rfl ?_
    refine r_getR (pc := 38) C kX10_33 h0 (by decide) dX10_text_38 ?_
    refine r_vI0 (pc := 41) C (fun r M' e => zX3_place X.1 (xrf a0 3) (xtk h0 (by decide) rfl rfl) M4 r M' e) (xtk h0 (by decide) rfl rfl) (by decide) rfl mX3_place lX10_92 (by decide) (Nat.le_of_ble_eq_true rfl) dX10_text_41 h (fun r12 M13 h => ?_)
    exact hJ44 r12 M13  h
  · refine r_iconst (pc := 33) (v := (-1)) C dX10_text_33 (by decide) ?_
    refine r_goto (pc := 34) (tgt := 44) C dX10_text_34 (by decide) ?_
    exact hJ44 (-1) M4  h
theorem dX10_fault_0 : decode cX10_fault 0 = .ok (.iload_n 1, 1) := by decide +kernel
theorem dX10_fault_1 : decode cX10_fault 1 = .ok (.ifCond .ne 8, 3) := by decide +kernel
theorem dX10_fault_4 : decode cX10_fault 4 = .ok (.aload_n 0, 1) := by decide +kernel
theorem dX10_fault_5 : decode cX10_fault 5 = .ok (.getfield 65, 3) := by decide +kernel
theorem dX10_fault_8 : decode cX10_fault 8 = .ok (.ireturn, 1) := by decide +kernel
theorem dX10_fault_9 : decode cX10_fault 9 = .ok (.iload_n 1, 1) := by decide +kernel
theorem dX10_fault_10 : decode cX10_fault 10 = .ok (.iconst 1, 1) := by decide +kernel
theorem dX10_fault_11 : decode cX10_fault 11 = .ok (.if_icmp .ne 10, 3) := by decide +kernel
theorem dX10_fault_14 : decode cX10_fault 14 = .ok (.aload_n 0, 1) := by decide +kernel
theorem dX10_fault_15 : decode cX10_fault 15 = .ok (.getfield 69, 3) := by decide +kernel
theorem dX10_fault_18 : decode cX10_fault 18 = .ok (.goto 4, 3) := by decide +kernel
theorem dX10_fault_21 : decode cX10_fault 21 = .ok (.iconst (-1), 1) := by decide +kernel
theorem dX10_fault_22 : decode cX10_fault 22 = .ok (.ireturn, 1) := by decide +kernel
def fX10_fault (a0 : Nat) (a1 : Int32) (M : xMem) : Option (Int32 × xMem) :=
  if a1 = 0 then (some ((M.1 a0 8), M)) else (if a1 = (nI 1) then (some ((M.1 a0 9), M)) else (some ((-1), M)))
set_option maxRecDepth 100000 in
set_option maxHeartbeats 4000000 in
theorem zX10_fault (G : xGX) (a0 : Nat) (h0 : xkd a0 = 10) (a1 : Int32) (M : xMem) (r : Int32) (M' : xMem) (h : fX10_fault a0 a1 M = some (r, M')) : xCt G yX10_fault cX10_fault 2 (some .int) 1 [vr G a0, .int a1] M (some (.int r), M') := by
  refine xMet (lv := [some (vr G a0), some (.int a1)]) (by decide) (Nat.le_of_ble_eq_true rfl) rfl ?_
  intro X hG hnL C R0
  subst hG
  have C : xCk X cX10_fault RX10 1 := C
  unfold fX10_fault at h
  refine r_iload_n (pc := 0) C dX10_fault_0 rfl rfl ?_
  refine r_if_ne (pc := 1) (tgt := 9) C dX10_fault_1 (by decide) h (fun _ h => ?_) (fun _ h => ?_)
  · refine r_iload_n (pc := 9) C dX10_fault_9 rfl rfl ?_
    refine r_iconst (pc := 10) (v := (nI 1)) C dX10_fault_10 (by decide) ?_
    refine r_icmp_ne (pc := 11) (tgt := 21) C dX10_fault_11 (by decide) h (fun _ h => ?_) (fun _ h => ?_)
    · refine r_iconst (pc := 21) (v := (-1)) C dX10_fault_21 (by decide) ?_
      exact r_iret (pc := 22) C R0 h dX10_fault_22
    · refine r_aload_n (pc := 14) C dX10_fault_14 rfl rfl ?_
      refine r_getI (pc := 15) C kX10_69 h0 dX10_fault_15 ?_
      refine r_goto (pc := 18) (tgt := 22) C dX10_fault_18 (by decide) ?_
      exact r_iret (pc := 22) C R0 h dX10_fault_22
  · refine r_aload_n (pc := 4) C dX10_fault_4 rfl rfl ?_
    refine r_getI (pc := 5) C kX10_65 h0 dX10_fault_5 ?_
    exact r_iret (pc := 8) C R0 h dX10_fault_8
theorem dX10_count_0 : decode cX10_count 0 = .ok (.iload_n 1, 1) := by decide +kernel
theorem dX10_count_1 : decode cX10_count 1 = .ok (.tableswitch 119 0 7 #[47, 47, 62, 73, 84, 95, 103, 111], 47) := by decide +kernel
theorem dX10_count_48 : decode cX10_count 48 = .ok (.aload_n 0, 1) := by decide +kernel
theorem dX10_count_49 : decode cX10_count 49 = .ok (.getfield 24, 3) := by decide +kernel
theorem dX10_count_52 : decode cX10_count 52 = .ok (.getfield 82, 3) := by decide +kernel
theorem dX10_count_55 : decode cX10_count 55 = .ok (.getfield 104, 3) := by decide +kernel
theorem dX10_count_58 : decode cX10_count 58 = .ok (.iload_n 1, 1) := by decide +kernel
theorem dX10_count_59 : decode cX10_count 59 = .ok (.invokevirtual 108, 3) := by decide +kernel
theorem dX10_count_62 : decode cX10_count 62 = .ok (.ireturn, 1) := by decide +kernel
theorem dX10_count_63 : decode cX10_count 63 = .ok (.aload_n 0, 1) := by decide +kernel
theorem dX10_count_64 : decode cX10_count 64 = .ok (.getfield 24, 3) := by decide +kernel
theorem dX10_count_67 : decode cX10_count 67 = .ok (.getfield 114, 3) := by decide +kernel
theorem dX10_count_70 : decode cX10_count 70 = .ok (.getfield 118, 3) := by decide +kernel
theorem dX10_count_73 : decode cX10_count 73 = .ok (.ireturn, 1) := by decide +kernel
theorem dX10_count_74 : decode cX10_count 74 = .ok (.aload_n 0, 1) := by decide +kernel
theorem dX10_count_75 : decode cX10_count 75 = .ok (.getfield 24, 3) := by decide +kernel
theorem dX10_count_78 : decode cX10_count 78 = .ok (.getfield 122, 3) := by decide +kernel
theorem dX10_count_81 : decode cX10_count 81 = .ok (.getfield 125, 3) := by decide +kernel
theorem dX10_count_84 : decode cX10_count 84 = .ok (.ireturn, 1) := by decide +kernel
theorem dX10_count_85 : decode cX10_count 85 = .ok (.aload_n 0, 1) := by decide +kernel
theorem dX10_count_86 : decode cX10_count 86 = .ok (.getfield 24, 3) := by decide +kernel
theorem dX10_count_89 : decode cX10_count 89 = .ok (.getfield 122, 3) := by decide +kernel
theorem dX10_count_92 : decode cX10_count 92 = .ok (.getfield 128, 3) := by decide +kernel
theorem dX10_count_95 : decode cX10_count 95 = .ok (.ireturn, 1) := by decide +kernel
theorem dX10_count_96 : decode cX10_count 96 = .ok (.aload_n 0, 1) := by decide +kernel
theorem dX10_count_97 : decode cX10_count 97 = .ok (.getfield 40, 3) := by decide +kernel
theorem dX10_count_100 : decode cX10_count 100 = .ok (.getfield 131, 3) := by decide +kernel
theorem dX10_count_103 : decode cX10_count 103 = .ok (.ireturn, 1) := by decide +kernel
theorem dX10_count_104 : decode cX10_count 104 = .ok (.aload_n 0, 1) := by decide +kernel
theorem dX10_count_105 : decode cX10_count 105 = .ok (.getfield 14, 3) := by decide +kernel
theorem dX10_count_108 : decode cX10_count 108 = .ok (.invokevirtual 72, 3) := by decide +kernel
theorem dX10_count_111 : decode cX10_count 111 = .ok (.ireturn, 1) := by decide +kernel
theorem dX10_count_112 : decode cX10_count 112 = .ok (.aload_n 0, 1) := by decide +kernel
theorem dX10_count_113 : decode cX10_count 113 = .ok (.getfield 18, 3) := by decide +kernel
theorem dX10_count_116 : decode cX10_count 116 = .ok (.invokevirtual 72, 3) := by decide +kernel
theorem dX10_count_119 : decode cX10_count 119 = .ok (.ireturn, 1) := by decide +kernel
theorem dX10_count_120 : decode cX10_count 120 = .ok (.iconst (-1), 1) := by decide +kernel
theorem dX10_count_121 : decode cX10_count 121 = .ok (.ireturn, 1) := by decide +kernel
def fX10_count (a0 : Nat) (a1 : Int32) (M : xMem) : Option (Int32 × xMem) :=
  xLt (fun  (M1 : xMem) => (xBn (fX5_sizeOf (xrf (xrf (xrf a0 2) 0) 0) a1 M1) fun r2 M3 => some (r2, M3) : Option (Int32 × xMem))) fun J48 => if a1 = nI 0 then (J48  M) else (if a1 = nI 1 then (J48  M) else (if a1 = nI 2 then (some ((M.1 (xrf (xrf a0 2) 2) 5), M)) else (if a1 = nI 3 then (some ((M.1 (xrf (xrf a0 2) 1) 3), M)) else (if a1 = nI 4 then (some ((M.1 (xrf (xrf a0 2) 1) 2), M)) else (if a1 = nI 5 then (some ((M.1 (xrf a0 4) 2), M)) else (if a1 = nI 6 then (xBn (fX6_size (xrf a0 0) M) fun r11 M12 => some (r11, M12)) else (if a1 = nI 7 then (xBn (fX6_size (xrf a0 1) M) fun r14 M15 => some (r14, M15)) else (some ((-1), M)))))))))
set_option maxRecDepth 100000 in
set_option maxHeartbeats 4000000 in
theorem zX10_count (G : xGX) (a0 : Nat) (h0 : xkd a0 = 10) (a1 : Int32) (M : xMem) (r : Int32) (M' : xMem) (h : fX10_count a0 a1 M = some (r, M')) : xCt G yX10_count cX10_count 2 (some .int) 2 [vr G a0, .int a1] M (some (.int r), M') := by
  refine xMet (lv := [some (vr G a0), some (.int a1)]) (by decide) (Nat.le_of_ble_eq_true rfl) rfl ?_
  intro X hG hnL C R0
  subst hG
  have C : xCk X cX10_count RX10 2 := C
  unfold fX10_count at h
  refine r_iload_n (pc := 0) C dX10_count_0 rfl rfl ?_
  refine r_jn (fun J => ∀  (M1 : xMem) , J  M1 = some (r, M') → WW X 48 [some (vr X.1 a0), some (.int a1)] [] M1) h (fun  M1  h => ?_) (fun J48 hJ48 h => ?_)
  · refine r_aload_n (pc := 48) C dX10_count_48 rfl rfl ?_
    refine r_getR (pc := 49) C kX10_24 h0 (by decide) dX10_count_49 ?_
    refine r_getR (pc := 52) C kX10_82 (xtk h0 (by decide) rfl rfl) (by decide) dX10_count_52 ?_
    refine r_getR (pc := 55) C kX10_104 (xtk (xtk h0 (by decide) rfl rfl) (by decide) rfl rfl) (by decide) dX10_count_55 ?_
    refine r_iload_n (pc := 58) C dX10_count_58 rfl rfl ?_
    refine r_vI1 (pc := 59) C (fun r M' e => zX5_sizeOf X.1 (xrf (xrf (xrf a0 2) 0) 0) (xtk (xtk (xtk h0 (by decide) rfl rfl) (by decide) rfl rfl) (by decide) rfl rfl) a1 M1 r M' e) (xtk (xtk (xtk h0 (by decide) rfl rfl) (by decide) rfl rfl) (by decide) rfl rfl) (by decide) rfl mX5_sizeOf lX10_108 (by decide) (Nat.le_of_ble_eq_true rfl) dX10_count_59 h (fun r2 M3 h => ?_)
    exact r_iret (pc := 62) C R0 h dX10_count_62
  refine r_tb h (fun e4 h => ?_) (fun e4 h => ?_)
  · refine r_tabInE (pc := 1) (tgt := 48) e4 C dX10_count_1 (by decide) (by decide) rfl (by decide) ?_
    exact hJ48  M  h
  refine r_tb h (fun e5 h => ?_) (fun e5 h => ?_)
  · refine r_tabInE (pc := 1) (tgt := 48) e5 C dX10_count_1 (by decide) (by decide) rfl (by decide) ?_
    exact hJ48  M  h
  refine r_tb h (fun e6 h => ?_) (fun e6 h => ?_)
  · refine r_tabInE (pc := 1) (tgt := 63) e6 C dX10_count_1 (by decide) (by decide) rfl (by decide) ?_
    refine r_aload_n (pc := 63) C dX10_count_63 rfl rfl ?_
    refine r_getR (pc := 64) C kX10_24 h0 (by decide) dX10_count_64 ?_
    refine r_getR (pc := 67) C kX10_114 (xtk h0 (by decide) rfl rfl) (by decide) dX10_count_67 ?_
    refine r_getI (pc := 70) C kX10_118 (xtk (xtk h0 (by decide) rfl rfl) (by decide) rfl rfl) dX10_count_70 ?_
    exact r_iret (pc := 73) C R0 h dX10_count_73
  refine r_tb h (fun e7 h => ?_) (fun e7 h => ?_)
  · refine r_tabInE (pc := 1) (tgt := 74) e7 C dX10_count_1 (by decide) (by decide) rfl (by decide) ?_
    refine r_aload_n (pc := 74) C dX10_count_74 rfl rfl ?_
    refine r_getR (pc := 75) C kX10_24 h0 (by decide) dX10_count_75 ?_
    refine r_getR (pc := 78) C kX10_122 (xtk h0 (by decide) rfl rfl) (by decide) dX10_count_78 ?_
    refine r_getI (pc := 81) C kX10_125 (xtk (xtk h0 (by decide) rfl rfl) (by decide) rfl rfl) dX10_count_81 ?_
    exact r_iret (pc := 84) C R0 h dX10_count_84
  refine r_tb h (fun e8 h => ?_) (fun e8 h => ?_)
  · refine r_tabInE (pc := 1) (tgt := 85) e8 C dX10_count_1 (by decide) (by decide) rfl (by decide) ?_
    refine r_aload_n (pc := 85) C dX10_count_85 rfl rfl ?_
    refine r_getR (pc := 86) C kX10_24 h0 (by decide) dX10_count_86 ?_
    refine r_getR (pc := 89) C kX10_122 (xtk h0 (by decide) rfl rfl) (by decide) dX10_count_89 ?_
    refine r_getI (pc := 92) C kX10_128 (xtk (xtk h0 (by decide) rfl rfl) (by decide) rfl rfl) dX10_count_92 ?_
    exact r_iret (pc := 95) C R0 h dX10_count_95
  refine r_tb h (fun e9 h => ?_) (fun e9 h => ?_)
  · refine r_tabInE (pc := 1) (tgt := 96) e9 C dX10_count_1 (by decide) (by decide) rfl (by decide) ?_
    refine r_aload_n (pc := 96) C dX10_count_96 rfl rfl ?_
    refine r_getR (pc := 97) C kX10_40 h0 (by decide) dX10_count_97 ?_
    refine r_getI (pc := 100) C kX10_131 (xtk h0 (by decide) rfl rfl) dX10_count_100 ?_
    exact r_iret (pc := 103) C R0 h dX10_count_103
  refine r_tb h (fun e10 h => ?_) (fun e10 h => ?_)
  · refine r_tabInE (pc := 1) (tgt := 104) e10 C dX10_count_1 (by decide) (by decide) rfl (by decide) ?_
    refine r_aload_n (pc := 104) C dX10_count_104 rfl rfl ?_
    refine r_getR (pc := 105) C kX10_14 h0 (by decide) dX10_count_105 ?_
    refine r_vI0 (pc := 108) C (fun r M' e => zX6_size X.1 (xrf a0 0) (xtk h0 (by decide) rfl rfl) M r M' e) (xtk h0 (by decide) rfl rfl) (by decide) rfl mX6_size lX10_72 (by decide) (Nat.le_of_ble_eq_true rfl) dX10_count_108 h (fun r11 M12 h => ?_)
    exact r_iret (pc := 111) C R0 h dX10_count_111
  refine r_tb h (fun e13 h => ?_) (fun e13 h => ?_)
  · refine r_tabInE (pc := 1) (tgt := 112) e13 C dX10_count_1 (by decide) (by decide) rfl (by decide) ?_
    refine r_aload_n (pc := 112) C dX10_count_112 rfl rfl ?_
    refine r_getR (pc := 113) C kX10_18 h0 (by decide) dX10_count_113 ?_
    refine r_vI0 (pc := 116) C (fun r M' e => zX6_size X.1 (xrf a0 1) (xtk h0 (by decide) rfl rfl) M r M' e) (xtk h0 (by decide) rfl rfl) (by decide) rfl mX6_size lX10_72 (by decide) (Nat.le_of_ble_eq_true rfl) dX10_count_116 h (fun r14 M15 h => ?_)
    exact r_iret (pc := 119) C R0 h dX10_count_119
  refine r_tabOut (pc := 1) (tgt := 120) C dX10_count_1 (xtabout 0 7 (fun k hk hk2 => by rcases (show k = 0 ∨ k = 1 ∨ k = 2 ∨ k = 3 ∨ k = 4 ∨ k = 5 ∨ k = 6 ∨ k = 7 by omega) with rfl | rfl | rfl | rfl | rfl | rfl | rfl | rfl <;> assumption)) (by decide) ?_
  refine r_iconst (pc := 120) (v := (-1)) C dX10_count_120 (by decide) ?_
  exact r_iret (pc := 121) C R0 h dX10_count_121
theorem dX10_nameOnTape_0 : decode cX10_nameOnTape 0 = .ok (.aload_n 0, 1) := by decide +kernel
theorem dX10_nameOnTape_1 : decode cX10_nameOnTape 1 = .ok (.getfield 14, 3) := by decide +kernel
theorem dX10_nameOnTape_4 : decode cX10_nameOnTape 4 = .ok (.invokevirtual 72, 3) := by decide +kernel
theorem dX10_nameOnTape_7 : decode cX10_nameOnTape 7 = .ok (.istore_n 1, 1) := by decide +kernel
theorem dX10_nameOnTape_8 : decode cX10_nameOnTape 8 = .ok (.iload_n 1, 1) := by decide +kernel
theorem dX10_nameOnTape_9 : decode cX10_nameOnTape 9 = .ok (.iconst 1, 1) := by decide +kernel
theorem dX10_nameOnTape_10 : decode cX10_nameOnTape 10 = .ok (.if_icmp .lt 9, 3) := by decide +kernel
theorem dX10_nameOnTape_13 : decode cX10_nameOnTape 13 = .ok (.iload_n 1, 1) := by decide +kernel
theorem dX10_nameOnTape_14 : decode cX10_nameOnTape 14 = .ok (.bipush 6, 2) := by decide +kernel
theorem dX10_nameOnTape_16 : decode cX10_nameOnTape 16 = .ok (.if_icmp .le 5, 3) := by decide +kernel
theorem dX10_nameOnTape_19 : decode cX10_nameOnTape 19 = .ok (.iconst (-1), 1) := by decide +kernel
theorem dX10_nameOnTape_20 : decode cX10_nameOnTape 20 = .ok (.ireturn, 1) := by decide +kernel
theorem dX10_nameOnTape_21 : decode cX10_nameOnTape 21 = .ok (.iconst 0, 1) := by decide +kernel
theorem dX10_nameOnTape_22 : decode cX10_nameOnTape 22 = .ok (.istore_n 2, 1) := by decide +kernel
theorem dX10_nameOnTape_23 : decode cX10_nameOnTape 23 = .ok (.iconst 0, 1) := by decide +kernel
theorem dX10_nameOnTape_24 : decode cX10_nameOnTape 24 = .ok (.istore_n 3, 1) := by decide +kernel
theorem dX10_nameOnTape_25 : decode cX10_nameOnTape 25 = .ok (.iload_n 3, 1) := by decide +kernel
theorem dX10_nameOnTape_26 : decode cX10_nameOnTape 26 = .ok (.iload_n 1, 1) := by decide +kernel
theorem dX10_nameOnTape_27 : decode cX10_nameOnTape 27 = .ok (.if_icmp .ge 44, 3) := by decide +kernel
theorem dX10_nameOnTape_30 : decode cX10_nameOnTape 30 = .ok (.aload_n 0, 1) := by decide +kernel
theorem dX10_nameOnTape_31 : decode cX10_nameOnTape 31 = .ok (.getfield 14, 3) := by decide +kernel
theorem dX10_nameOnTape_34 : decode cX10_nameOnTape 34 = .ok (.iload_n 3, 1) := by decide +kernel
theorem dX10_nameOnTape_35 : decode cX10_nameOnTape 35 = .ok (.invokevirtual 142, 3) := by decide +kernel
theorem dX10_nameOnTape_38 : decode cX10_nameOnTape 38 = .ok (.invokestatic 145, 3) := by decide +kernel
theorem dX10_nameOnTape_41 : decode cX10_nameOnTape 41 = .ok (.iconst 1, 1) := by decide +kernel
theorem dX10_nameOnTape_42 : decode cX10_nameOnTape 42 = .ok (.if_icmp .eq 5, 3) := by decide +kernel
theorem dX10_nameOnTape_45 : decode cX10_nameOnTape 45 = .ok (.iconst (-1), 1) := by decide +kernel
theorem dX10_nameOnTape_46 : decode cX10_nameOnTape 46 = .ok (.ireturn, 1) := by decide +kernel
theorem dX10_nameOnTape_47 : decode cX10_nameOnTape 47 = .ok (.iload_n 2, 1) := by decide +kernel
theorem dX10_nameOnTape_48 : decode cX10_nameOnTape 48 = .ok (.iconst 5, 1) := by decide +kernel
theorem dX10_nameOnTape_49 : decode cX10_nameOnTape 49 = .ok (.ishl, 1) := by decide +kernel
theorem dX10_nameOnTape_50 : decode cX10_nameOnTape 50 = .ok (.aload_n 0, 1) := by decide +kernel
theorem dX10_nameOnTape_51 : decode cX10_nameOnTape 51 = .ok (.getfield 14, 3) := by decide +kernel
theorem dX10_nameOnTape_54 : decode cX10_nameOnTape 54 = .ok (.iload_n 3, 1) := by decide +kernel
theorem dX10_nameOnTape_55 : decode cX10_nameOnTape 55 = .ok (.invokevirtual 142, 3) := by decide +kernel
theorem dX10_nameOnTape_58 : decode cX10_nameOnTape 58 = .ok (.bipush 97, 2) := by decide +kernel
theorem dX10_nameOnTape_60 : decode cX10_nameOnTape 60 = .ok (.isub, 1) := by decide +kernel
theorem dX10_nameOnTape_61 : decode cX10_nameOnTape 61 = .ok (.iconst 1, 1) := by decide +kernel
theorem dX10_nameOnTape_62 : decode cX10_nameOnTape 62 = .ok (.iadd, 1) := by decide +kernel
theorem dX10_nameOnTape_63 : decode cX10_nameOnTape 63 = .ok (.ior, 1) := by decide +kernel
theorem dX10_nameOnTape_64 : decode cX10_nameOnTape 64 = .ok (.istore_n 2, 1) := by decide +kernel
theorem dX10_nameOnTape_65 : decode cX10_nameOnTape 65 = .ok (.iinc 3 1, 3) := by decide +kernel
theorem dX10_nameOnTape_68 : decode cX10_nameOnTape 68 = .ok (.goto (-43), 3) := by decide +kernel
theorem dX10_nameOnTape_71 : decode cX10_nameOnTape 71 = .ok (.iload_n 2, 1) := by decide +kernel
theorem dX10_nameOnTape_72 : decode cX10_nameOnTape 72 = .ok (.ireturn, 1) := by decide +kernel
def fX10_nameOnTape_l25 (p0 : Nat) (p1 : Int32) (K : Int32 → Int32 → xMem → Option (Int32 × xMem)) : Nat → Int32 → Int32 → xMem → Option (Int32 × xMem)
  | 0, _, _, _ => none
  | n + 1, v2, v3, M => if p1 ≤ v3 then (K v2 v3 M) else (xBn (fX6_at (xrf p0 0) v3 M) fun r3 M4 => xBn (fX3_kindOf r3 M4) fun r5 M6 => if r5 = (nI 1) then (xBn (fX6_at (xrf p0 0) v3 M6) fun r7 M8 => xLt ((v2 <<< ((nI 5) &&& 31)) ||| ((r7 - (nI 97)) + (nI 1))) fun x9 => xLt (v3 + nI 1) fun x10 => fX10_nameOnTape_l25 p0 p1 K n x9 x10 M8) else (some ((-1), M6)))
def fX10_nameOnTape (a0 : Nat) (M : xMem) : Option (Int32 × xMem) :=
  xBn (fX6_size (xrf a0 0) M) fun r1 M2 => if r1 < (nI 1) then (some ((-1), M2)) else (if r1 ≤ (nI 6) then (fX10_nameOnTape_l25 a0 r1 (fun (v11 : Int32) (v12 : Int32) (M13 : xMem) => some (v11, M13)) xFU (nI 0) (nI 0) M2) else (some ((-1), M2)))
set_option maxRecDepth 100000 in
set_option maxHeartbeats 4000000 in
theorem lX10_nameOnTape_25 {X : xCX} {r : Int32} {M' : xMem} (C : xCk X cX10_nameOnTape RX10 2) (R0 : xRk X (some .int) (some (.int r), M')) (hnL : X.2.2.2.2.2.2.2.2.2.2.2.2.2 = 4) (p0 : Nat) (hp0 : xkd p0 = 10) (p1 : Int32) (K : Int32 → Int32 → xMem → Option (Int32 × xMem)) (hK : ∀ (v2 : Int32) (v3 : Int32) (M : xMem), K v2 v3 M = some (r, M') → WW X 71 [some (vr X.1 p0), some (.int p1), some (.int v2), some (.int v3)] [] M) : ∀ (n : Nat) (v2 : Int32) (v3 : Int32) (M : xMem), fX10_nameOnTape_l25 p0 p1 K n v2 v3 M = some (r, M') → WW X 25 [some (vr X.1 p0), some (.int p1), some (.int v2), some (.int v3)] [] M := by
  have hn1 : 1 < X.2.2.2.2.2.2.2.2.2.2.2.2.2 := by rw [hnL]; decide
  have hn2 : 2 < X.2.2.2.2.2.2.2.2.2.2.2.2.2 := by rw [hnL]; decide
  have hn3 : 3 < X.2.2.2.2.2.2.2.2.2.2.2.2.2 := by rw [hnL]; decide
  intro n
  induction n with
  | zero =>
    intro v2 v3 M h
    cases (show (none : Option (Int32 × xMem)) = some (r, M') from h)
  | succ n ih =>
    intro v2 v3 M h
    rw [fX10_nameOnTape_l25.eq_2] at h
    refine r_iload_n (pc := 25) C dX10_nameOnTape_25 rfl rfl ?_
    refine r_iload_n (pc := 26) C dX10_nameOnTape_26 rfl rfl ?_
    refine r_icmp_ge (pc := 27) (tgt := 71) C dX10_nameOnTape_27 (by decide) h (fun _ h => ?_) (fun _ h => ?_)
    · exact hK v2 v3 M h
    · refine r_aload_n (pc := 30) C dX10_nameOnTape_30 rfl rfl ?_
      refine r_getR (pc := 31) C kX10_14 hp0 (by decide) dX10_nameOnTape_31 ?_
      refine r_iload_n (pc := 34) C dX10_nameOnTape_34 rfl rfl ?_
      refine r_vI1 (pc := 35) C (fun r M' e => zX6_at X.1 (xrf p0 0) (xtk hp0 (by decide) rfl rfl) v3 M r M' e) (xtk hp0 (by decide) rfl rfl) (by decide) rfl mX6_at lX10_142 (by decide) (Nat.le_of_ble_eq_true rfl) dX10_nameOnTape_35 h (fun r3 M4 h => ?_)
      refine r_sI1 (pc := 38) C (fun r M' e => zX3_kindOf X.1 r3 M4 r M' e) mX3_kindOf lX10_145 (by decide) (Nat.le_of_ble_eq_true rfl) dX10_nameOnTape_38 h (fun r5 M6 h => ?_)
      refine r_iconst (pc := 41) (v := (nI 1)) C dX10_nameOnTape_41 (by decide) ?_
      refine r_icmp_eq (pc := 42) (tgt := 47) C dX10_nameOnTape_42 (by decide) h (fun _ h => ?_) (fun _ h => ?_)
      · refine r_iload_n (pc := 47) C dX10_nameOnTape_47 rfl rfl ?_
        refine r_iconst (pc := 48) (v := (nI 5)) C dX10_nameOnTape_48 (by decide) ?_
        refine r_ishl (pc := 49) C dX10_nameOnTape_49 ?_
        refine r_aload_n (pc := 50) C dX10_nameOnTape_50 rfl rfl ?_
        refine r_getR (pc := 51) C kX10_14 hp0 (by decide) dX10_nameOnTape_51 ?_
        refine r_iload_n (pc := 54) C dX10_nameOnTape_54 rfl rfl ?_
        refine r_vI1 (pc := 55) C (fun r M' e => zX6_at X.1 (xrf p0 0) (xtk hp0 (by decide) rfl rfl) v3 M6 r M' e) (xtk hp0 (by decide) rfl rfl) (by decide) rfl mX6_at lX10_142 (by decide) (Nat.le_of_ble_eq_true rfl) dX10_nameOnTape_55 h (fun r7 M8 h => ?_)
        refine r_bipush (pc := 58) (v := (nI 97)) C dX10_nameOnTape_58 (by decide) ?_
        refine r_isub (pc := 60) C dX10_nameOnTape_60 ?_
        refine r_iconst (pc := 61) (v := (nI 1)) C dX10_nameOnTape_61 (by decide) ?_
        refine r_iadd (pc := 62) C dX10_nameOnTape_62 ?_
        refine r_ior (pc := 63) C dX10_nameOnTape_63 ?_
        refine r_letI h (fun x9 h => ?_)
        refine r_istore_n (pc := 64) (lv' := [_, _, _, _]) C dX10_nameOnTape_64 rfl hn2 rfl ?_
        refine r_iincL (pc := 65) (c := nI 1) C dX10_nameOnTape_65 rfl (by decide) hn3 h (fun x10 h => ?_)
        refine r_lvE (lv' := [_, _, _, _]) rfl ?_
        refine r_goto (pc := 68) (tgt := 25) C dX10_nameOnTape_68 (by decide) ?_
        exact ih x9 x10 M8 h
      · refine r_iconst (pc := 45) (v := (-1)) C dX10_nameOnTape_45 (by decide) ?_
        exact r_iret (pc := 46) C R0 h dX10_nameOnTape_46
set_option maxRecDepth 100000 in
set_option maxHeartbeats 4000000 in
theorem zX10_nameOnTape (G : xGX) (a0 : Nat) (h0 : xkd a0 = 10) (M : xMem) (r : Int32) (M' : xMem) (h : fX10_nameOnTape a0 M = some (r, M')) : xCt G yX10_nameOnTape cX10_nameOnTape 4 (some .int) 2 [vr G a0] M (some (.int r), M') := by
  refine xMet (lv := [some (vr G a0), none, none, none]) (by decide) (Nat.le_of_ble_eq_true rfl) rfl ?_
  intro X hG hnL C R0
  subst hG
  have C : xCk X cX10_nameOnTape RX10 2 := C
  have hn1 : 1 < X.2.2.2.2.2.2.2.2.2.2.2.2.2 := by rw [hnL]; decide
  have hn2 : 2 < X.2.2.2.2.2.2.2.2.2.2.2.2.2 := by rw [hnL]; decide
  have hn3 : 3 < X.2.2.2.2.2.2.2.2.2.2.2.2.2 := by rw [hnL]; decide
  unfold fX10_nameOnTape at h
  refine r_aload_n (pc := 0) C dX10_nameOnTape_0 rfl rfl ?_
  refine r_getR (pc := 1) C kX10_14 h0 (by decide) dX10_nameOnTape_1 ?_
  refine r_vI0 (pc := 4) C (fun r M' e => zX6_size X.1 (xrf a0 0) (xtk h0 (by decide) rfl rfl) M r M' e) (xtk h0 (by decide) rfl rfl) (by decide) rfl mX6_size lX10_72 (by decide) (Nat.le_of_ble_eq_true rfl) dX10_nameOnTape_4 h (fun r1 M2 h => ?_)
  refine r_istore_n (pc := 7) (lv' := [_, _, _, _]) C dX10_nameOnTape_7 rfl hn1 rfl ?_
  refine r_iload_n (pc := 8) C dX10_nameOnTape_8 rfl rfl ?_
  refine r_iconst (pc := 9) (v := (nI 1)) C dX10_nameOnTape_9 (by decide) ?_
  refine r_icmp_lt (pc := 10) (tgt := 19) C dX10_nameOnTape_10 (by decide) h (fun _ h => ?_) (fun _ h => ?_)
  · refine r_iconst (pc := 19) (v := (-1)) C dX10_nameOnTape_19 (by decide) ?_
    exact r_iret (pc := 20) C R0 h dX10_nameOnTape_20
  · refine r_iload_n (pc := 13) C dX10_nameOnTape_13 rfl rfl ?_
    refine r_bipush (pc := 14) (v := (nI 6)) C dX10_nameOnTape_14 (by decide) ?_
    refine r_icmp_le (pc := 16) (tgt := 21) C dX10_nameOnTape_16 (by decide) h (fun _ h => ?_) (fun _ h => ?_)
    · refine r_iconst (pc := 21) (v := (nI 0)) C dX10_nameOnTape_21 (by decide) ?_
      refine r_istore_n (pc := 22) (lv' := [_, _, _, _]) C dX10_nameOnTape_22 rfl hn2 rfl ?_
      refine r_iconst (pc := 23) (v := (nI 0)) C dX10_nameOnTape_23 (by decide) ?_
      refine r_istore_n (pc := 24) (lv' := [_, _, _, _]) C dX10_nameOnTape_24 rfl hn3 rfl ?_
      refine lX10_nameOnTape_25 C R0 hnL a0 h0 r1 _ (fun v11 v12 M13 h => ?_) _ _ _ _ h
      refine r_iload_n (pc := 71) C dX10_nameOnTape_71 rfl rfl ?_
      exact r_iret (pc := 72) C R0 h dX10_nameOnTape_72
    · refine r_iconst (pc := 19) (v := (-1)) C dX10_nameOnTape_19 (by decide) ?_
      exact r_iret (pc := 20) C R0 h dX10_nameOnTape_20
theorem dX10_find_0 : decode cX10_find 0 = .ok (.aload_n 0, 1) := by decide +kernel
theorem dX10_find_1 : decode cX10_find 1 = .ok (.invokevirtual 132, 3) := by decide +kernel
theorem dX10_find_4 : decode cX10_find 4 = .ok (.istore_n 1, 1) := by decide +kernel
theorem dX10_find_5 : decode cX10_find 5 = .ok (.aload_n 0, 1) := by decide +kernel
theorem dX10_find_6 : decode cX10_find 6 = .ok (.getfield 14, 3) := by decide +kernel
theorem dX10_find_9 : decode cX10_find 9 = .ok (.iconst 0, 1) := by decide +kernel
theorem dX10_find_10 : decode cX10_find 10 = .ok (.invokevirtual 79, 3) := by decide +kernel
theorem dX10_find_13 : decode cX10_find 13 = .ok (.aload_n 0, 1) := by decide +kernel
theorem dX10_find_14 : decode cX10_find 14 = .ok (.getfield 24, 3) := by decide +kernel
theorem dX10_find_17 : decode cX10_find 17 = .ok (.invokevirtual 135, 3) := by decide +kernel
theorem dX10_find_20 : decode cX10_find 20 = .ok (.ifCond .eq 25, 3) := by decide +kernel
theorem dX10_find_23 : decode cX10_find 23 = .ok (.iload_n 1, 1) := by decide +kernel
theorem dX10_find_24 : decode cX10_find 24 = .ok (.iconst (-1), 1) := by decide +kernel
theorem dX10_find_25 : decode cX10_find 25 = .ok (.if_icmp .eq 20, 3) := by decide +kernel
theorem dX10_find_28 : decode cX10_find 28 = .ok (.aload_n 0, 1) := by decide +kernel
theorem dX10_find_29 : decode cX10_find 29 = .ok (.getfield 24, 3) := by decide +kernel
theorem dX10_find_32 : decode cX10_find 32 = .ok (.getfield 82, 3) := by decide +kernel
theorem dX10_find_35 : decode cX10_find 35 = .ok (.getfield 104, 3) := by decide +kernel
theorem dX10_find_38 : decode cX10_find 38 = .ok (.iload_n 1, 1) := by decide +kernel
theorem dX10_find_39 : decode cX10_find 39 = .ok (.invokevirtual 139, 3) := by decide +kernel
theorem dX10_find_42 : decode cX10_find 42 = .ok (.goto 5, 3) := by decide +kernel
theorem dX10_find_45 : decode cX10_find 45 = .ok (.bipush (-2), 2) := by decide +kernel
theorem dX10_find_47 : decode cX10_find 47 = .ok (.ireturn, 1) := by decide +kernel
def fX10_find (a0 : Nat) (M : xMem) : Option (Int32 × xMem) :=
  xBn (fX10_nameOnTape a0 M) fun r1 M2 => xBv (fX6_cut (xrf a0 0) (nI 0) M2) fun M3 => xBn (fX2_isTold (xrf a0 2) M3) fun r4 M5 => if r4 = 0 then (some ((-2), M5)) else (if r1 = (-1) then (some ((-2), M5)) else (xBn (fX5_teamNamed (xrf (xrf (xrf a0 2) 0) 0) r1 M5) fun r6 M7 => some (r6, M7)))
set_option maxRecDepth 100000 in
set_option maxHeartbeats 4000000 in
theorem zX10_find (G : xGX) (a0 : Nat) (h0 : xkd a0 = 10) (M : xMem) (r : Int32) (M' : xMem) (h : fX10_find a0 M = some (r, M')) : xCt G yX10_find cX10_find 2 (some .int) 3 [vr G a0] M (some (.int r), M') := by
  refine xMet (lv := [some (vr G a0), none]) (by decide) (Nat.le_of_ble_eq_true rfl) rfl ?_
  intro X hG hnL C R0
  subst hG
  have C : xCk X cX10_find RX10 3 := C
  have hn1 : 1 < X.2.2.2.2.2.2.2.2.2.2.2.2.2 := by rw [hnL]; decide
  unfold fX10_find at h
  refine r_aload_n (pc := 0) C dX10_find_0 rfl rfl ?_
  refine r_vI0 (pc := 1) C (fun r M' e => zX10_nameOnTape X.1 a0 h0 M r M' e) h0 (by decide) rfl mX10_nameOnTape lX10_132 (by decide) (Nat.le_of_ble_eq_true rfl) dX10_find_1 h (fun r1 M2 h => ?_)
  refine r_istore_n (pc := 4) (lv' := [_, _]) C dX10_find_4 rfl hn1 rfl ?_
  refine r_aload_n (pc := 5) C dX10_find_5 rfl rfl ?_
  refine r_getR (pc := 6) C kX10_14 h0 (by decide) dX10_find_6 ?_
  refine r_iconst (pc := 9) (v := (nI 0)) C dX10_find_9 (by decide) ?_
  refine r_vV1 (pc := 10) C (fun M' e => zX6_cut X.1 (xrf a0 0) (xtk h0 (by decide) rfl rfl) (nI 0) M2 M' e) (xtk h0 (by decide) rfl rfl) (by decide) rfl mX6_cut lX10_79 (by decide) (Nat.le_of_ble_eq_true rfl) dX10_find_10 h (fun M3 h => ?_)
  refine r_aload_n (pc := 13) C dX10_find_13 rfl rfl ?_
  refine r_getR (pc := 14) C kX10_24 h0 (by decide) dX10_find_14 ?_
  refine r_vI0 (pc := 17) C (fun r M' e => zX2_isTold X.1 (xrf a0 2) (xtk h0 (by decide) rfl rfl) M3 r M' e) (xtk h0 (by decide) rfl rfl) (by decide) rfl mX2_isTold lX10_135 (by decide) (Nat.le_of_ble_eq_true rfl) dX10_find_17 h (fun r4 M5 h => ?_)
  refine r_if_eq (pc := 20) (tgt := 45) C dX10_find_20 (by decide) h (fun _ h => ?_) (fun _ h => ?_)
  · refine r_bipush (pc := 45) (v := (-2)) C dX10_find_45 (by decide) ?_
    exact r_iret (pc := 47) C R0 h dX10_find_47
  · refine r_iload_n (pc := 23) C dX10_find_23 rfl rfl ?_
    refine r_iconst (pc := 24) (v := (-1)) C dX10_find_24 (by decide) ?_
    refine r_icmp_eq (pc := 25) (tgt := 45) C dX10_find_25 (by decide) h (fun _ h => ?_) (fun _ h => ?_)
    · refine r_bipush (pc := 45) (v := (-2)) C dX10_find_45 (by decide) ?_
      exact r_iret (pc := 47) C R0 h dX10_find_47
    · refine r_aload_n (pc := 28) C dX10_find_28 rfl rfl ?_
      refine r_getR (pc := 29) C kX10_24 h0 (by decide) dX10_find_29 ?_
      refine r_getR (pc := 32) C kX10_82 (xtk h0 (by decide) rfl rfl) (by decide) dX10_find_32 ?_
      refine r_getR (pc := 35) C kX10_104 (xtk (xtk h0 (by decide) rfl rfl) (by decide) rfl rfl) (by decide) dX10_find_35 ?_
      refine r_iload_n (pc := 38) C dX10_find_38 rfl rfl ?_
      refine r_vI1 (pc := 39) C (fun r M' e => zX5_teamNamed X.1 (xrf (xrf (xrf a0 2) 0) 0) (xtk (xtk (xtk h0 (by decide) rfl rfl) (by decide) rfl rfl) (by decide) rfl rfl) r1 M5 r M' e) (xtk (xtk (xtk h0 (by decide) rfl rfl) (by decide) rfl rfl) (by decide) rfl rfl) (by decide) rfl mX5_teamNamed lX10_139 (by decide) (Nat.le_of_ble_eq_true rfl) dX10_find_39 h (fun r6 M7 h => ?_)
      refine r_goto (pc := 42) (tgt := 47) C dX10_find_42 (by decide) ?_
      exact r_iret (pc := 47) C R0 h dX10_find_47
theorem dX10_hasTeam_0 : decode cX10_hasTeam 0 = .ok (.aload_n 0, 1) := by decide +kernel
theorem dX10_hasTeam_1 : decode cX10_hasTeam 1 = .ok (.getfield 24, 3) := by decide +kernel
theorem dX10_hasTeam_4 : decode cX10_hasTeam 4 = .ok (.invokevirtual 135, 3) := by decide +kernel
theorem dX10_hasTeam_7 : decode cX10_hasTeam 7 = .ok (.ifCond .eq 16, 3) := by decide +kernel
theorem dX10_hasTeam_10 : decode cX10_hasTeam 10 = .ok (.iload_n 1, 1) := by decide +kernel
theorem dX10_hasTeam_11 : decode cX10_hasTeam 11 = .ok (.ifCond .eq 8, 3) := by decide +kernel
theorem dX10_hasTeam_14 : decode cX10_hasTeam 14 = .ok (.iload_n 1, 1) := by decide +kernel
theorem dX10_hasTeam_15 : decode cX10_hasTeam 15 = .ok (.iconst 1, 1) := by decide +kernel
theorem dX10_hasTeam_16 : decode cX10_hasTeam 16 = .ok (.if_icmp .ne 7, 3) := by decide +kernel
theorem dX10_hasTeam_19 : decode cX10_hasTeam 19 = .ok (.iconst 1, 1) := by decide +kernel
theorem dX10_hasTeam_20 : decode cX10_hasTeam 20 = .ok (.goto 4, 3) := by decide +kernel
theorem dX10_hasTeam_23 : decode cX10_hasTeam 23 = .ok (.iconst 0, 1) := by decide +kernel
theorem dX10_hasTeam_24 : decode cX10_hasTeam 24 = .ok (.ireturn, 1) := by decide +kernel
def fX10_hasTeam (a0 : Nat) (a1 : Int32) (M : xMem) : Option (Int32 × xMem) :=
  xBn (fX2_isTold (xrf a0 2) M) fun r1 M2 => if r1 = 0 then (some ((nI 0), M2)) else (if a1 = 0 then (some ((nI 1), M2)) else (if a1 = (nI 1) then (some ((nI 1), M2)) else (some ((nI 0), M2))))
set_option maxRecDepth 100000 in
set_option maxHeartbeats 4000000 in
theorem zX10_hasTeam (G : xGX) (a0 : Nat) (h0 : xkd a0 = 10) (a1 : Int32) (M : xMem) (r : Int32) (M' : xMem) (h : fX10_hasTeam a0 a1 M = some (r, M')) : xCt G yX10_hasTeam cX10_hasTeam 2 (some .boolean) 3 [vr G a0, .int a1] M (some (.int r), M') := by
  refine xMet (lv := [some (vr G a0), some (.int a1)]) (by decide) (Nat.le_of_ble_eq_true rfl) rfl ?_
  intro X hG hnL C R0
  subst hG
  have C : xCk X cX10_hasTeam RX10 3 := C
  unfold fX10_hasTeam at h
  refine r_aload_n (pc := 0) C dX10_hasTeam_0 rfl rfl ?_
  refine r_getR (pc := 1) C kX10_24 h0 (by decide) dX10_hasTeam_1 ?_
  refine r_vI0 (pc := 4) C (fun r M' e => zX2_isTold X.1 (xrf a0 2) (xtk h0 (by decide) rfl rfl) M r M' e) (xtk h0 (by decide) rfl rfl) (by decide) rfl mX2_isTold lX10_135 (by decide) (Nat.le_of_ble_eq_true rfl) dX10_hasTeam_4 h (fun r1 M2 h => ?_)
  refine r_if_eq (pc := 7) (tgt := 23) C dX10_hasTeam_7 (by decide) h (fun _ h => ?_) (fun _ h => ?_)
  · refine r_iconst (pc := 23) (v := (nI 0)) C dX10_hasTeam_23 (by decide) ?_
    exact r_zret (pc := 24) (Or.inl (by decide)) C R0 h dX10_hasTeam_24
  · refine r_iload_n (pc := 10) C dX10_hasTeam_10 rfl rfl ?_
    refine r_if_eq (pc := 11) (tgt := 19) C dX10_hasTeam_11 (by decide) h (fun _ h => ?_) (fun _ h => ?_)
    · refine r_iconst (pc := 19) (v := (nI 1)) C dX10_hasTeam_19 (by decide) ?_
      refine r_goto (pc := 20) (tgt := 24) C dX10_hasTeam_20 (by decide) ?_
      exact r_zret (pc := 24) (Or.inr (by decide)) C R0 h dX10_hasTeam_24
    · refine r_iload_n (pc := 14) C dX10_hasTeam_14 rfl rfl ?_
      refine r_iconst (pc := 15) (v := (nI 1)) C dX10_hasTeam_15 (by decide) ?_
      refine r_icmp_ne (pc := 16) (tgt := 23) C dX10_hasTeam_16 (by decide) h (fun _ h => ?_) (fun _ h => ?_)
      · refine r_iconst (pc := 23) (v := (nI 0)) C dX10_hasTeam_23 (by decide) ?_
        exact r_zret (pc := 24) (Or.inl (by decide)) C R0 h dX10_hasTeam_24
      · refine r_iconst (pc := 19) (v := (nI 1)) C dX10_hasTeam_19 (by decide) ?_
        refine r_goto (pc := 20) (tgt := 24) C dX10_hasTeam_20 (by decide) ?_
        exact r_zret (pc := 24) (Or.inr (by decide)) C R0 h dX10_hasTeam_24
theorem dX10_hasPlayer_0 : decode cX10_hasPlayer 0 = .ok (.aload_n 0, 1) := by decide +kernel
theorem dX10_hasPlayer_1 : decode cX10_hasPlayer 1 = .ok (.iload_n 1, 1) := by decide +kernel
theorem dX10_hasPlayer_2 : decode cX10_hasPlayer 2 = .ok (.invokevirtual 148, 3) := by decide +kernel
theorem dX10_hasPlayer_5 : decode cX10_hasPlayer 5 = .ok (.ifCond .eq 29, 3) := by decide +kernel
theorem dX10_hasPlayer_8 : decode cX10_hasPlayer 8 = .ok (.iload_n 2, 1) := by decide +kernel
theorem dX10_hasPlayer_9 : decode cX10_hasPlayer 9 = .ok (.ifCond .lt 25, 3) := by decide +kernel
theorem dX10_hasPlayer_12 : decode cX10_hasPlayer 12 = .ok (.iload_n 2, 1) := by decide +kernel
theorem dX10_hasPlayer_13 : decode cX10_hasPlayer 13 = .ok (.aload_n 0, 1) := by decide +kernel
theorem dX10_hasPlayer_14 : decode cX10_hasPlayer 14 = .ok (.getfield 24, 3) := by decide +kernel
theorem dX10_hasPlayer_17 : decode cX10_hasPlayer 17 = .ok (.getfield 82, 3) := by decide +kernel
theorem dX10_hasPlayer_20 : decode cX10_hasPlayer 20 = .ok (.getfield 104, 3) := by decide +kernel
theorem dX10_hasPlayer_23 : decode cX10_hasPlayer 23 = .ok (.iload_n 1, 1) := by decide +kernel
theorem dX10_hasPlayer_24 : decode cX10_hasPlayer 24 = .ok (.invokevirtual 108, 3) := by decide +kernel
theorem dX10_hasPlayer_27 : decode cX10_hasPlayer 27 = .ok (.if_icmp .ge 7, 3) := by decide +kernel
theorem dX10_hasPlayer_30 : decode cX10_hasPlayer 30 = .ok (.iconst 1, 1) := by decide +kernel
theorem dX10_hasPlayer_31 : decode cX10_hasPlayer 31 = .ok (.goto 4, 3) := by decide +kernel
theorem dX10_hasPlayer_34 : decode cX10_hasPlayer 34 = .ok (.iconst 0, 1) := by decide +kernel
theorem dX10_hasPlayer_35 : decode cX10_hasPlayer 35 = .ok (.ireturn, 1) := by decide +kernel
def fX10_hasPlayer (a0 : Nat) (a1 : Int32) (a2 : Int32) (M : xMem) : Option (Int32 × xMem) :=
  xBn (fX10_hasTeam a0 a1 M) fun r1 M2 => if r1 = 0 then (some ((nI 0), M2)) else (if a2 < 0 then (some ((nI 0), M2)) else (xBn (fX5_sizeOf (xrf (xrf (xrf a0 2) 0) 0) a1 M2) fun r3 M4 => if r3 ≤ a2 then (some ((nI 0), M4)) else (some ((nI 1), M4))))
set_option maxRecDepth 100000 in
set_option maxHeartbeats 4000000 in
theorem zX10_hasPlayer (G : xGX) (a0 : Nat) (h0 : xkd a0 = 10) (a1 : Int32) (a2 : Int32) (M : xMem) (r : Int32) (M' : xMem) (h : fX10_hasPlayer a0 a1 a2 M = some (r, M')) : xCt G yX10_hasPlayer cX10_hasPlayer 3 (some .boolean) 4 [vr G a0, .int a1, .int a2] M (some (.int r), M') := by
  refine xMet (lv := [some (vr G a0), some (.int a1), some (.int a2)]) (by decide) (Nat.le_of_ble_eq_true rfl) rfl ?_
  intro X hG hnL C R0
  subst hG
  have C : xCk X cX10_hasPlayer RX10 4 := C
  unfold fX10_hasPlayer at h
  refine r_aload_n (pc := 0) C dX10_hasPlayer_0 rfl rfl ?_
  refine r_iload_n (pc := 1) C dX10_hasPlayer_1 rfl rfl ?_
  refine r_vI1 (pc := 2) C (fun r M' e => zX10_hasTeam X.1 a0 h0 a1 M r M' e) h0 (by decide) rfl mX10_hasTeam lX10_148 (by decide) (Nat.le_of_ble_eq_true rfl) dX10_hasPlayer_2 h (fun r1 M2 h => ?_)
  refine r_if_eq (pc := 5) (tgt := 34) C dX10_hasPlayer_5 (by decide) h (fun _ h => ?_) (fun _ h => ?_)
  · refine r_iconst (pc := 34) (v := (nI 0)) C dX10_hasPlayer_34 (by decide) ?_
    exact r_zret (pc := 35) (Or.inl (by decide)) C R0 h dX10_hasPlayer_35
  · refine r_iload_n (pc := 8) C dX10_hasPlayer_8 rfl rfl ?_
    refine r_if_lt (pc := 9) (tgt := 34) C dX10_hasPlayer_9 (by decide) h (fun _ h => ?_) (fun _ h => ?_)
    · refine r_iconst (pc := 34) (v := (nI 0)) C dX10_hasPlayer_34 (by decide) ?_
      exact r_zret (pc := 35) (Or.inl (by decide)) C R0 h dX10_hasPlayer_35
    · refine r_iload_n (pc := 12) C dX10_hasPlayer_12 rfl rfl ?_
      refine r_aload_n (pc := 13) C dX10_hasPlayer_13 rfl rfl ?_
      refine r_getR (pc := 14) C kX10_24 h0 (by decide) dX10_hasPlayer_14 ?_
      refine r_getR (pc := 17) C kX10_82 (xtk h0 (by decide) rfl rfl) (by decide) dX10_hasPlayer_17 ?_
      refine r_getR (pc := 20) C kX10_104 (xtk (xtk h0 (by decide) rfl rfl) (by decide) rfl rfl) (by decide) dX10_hasPlayer_20 ?_
      refine r_iload_n (pc := 23) C dX10_hasPlayer_23 rfl rfl ?_
      refine r_vI1 (pc := 24) C (fun r M' e => zX5_sizeOf X.1 (xrf (xrf (xrf a0 2) 0) 0) (xtk (xtk (xtk h0 (by decide) rfl rfl) (by decide) rfl rfl) (by decide) rfl rfl) a1 M2 r M' e) (xtk (xtk (xtk h0 (by decide) rfl rfl) (by decide) rfl rfl) (by decide) rfl rfl) (by decide) rfl mX5_sizeOf lX10_108 (by decide) (Nat.le_of_ble_eq_true rfl) dX10_hasPlayer_24 h (fun r3 M4 h => ?_)
      refine r_icmp_ge (pc := 27) (tgt := 34) C dX10_hasPlayer_27 (by decide) h (fun _ h => ?_) (fun _ h => ?_)
      · refine r_iconst (pc := 34) (v := (nI 0)) C dX10_hasPlayer_34 (by decide) ?_
        exact r_zret (pc := 35) (Or.inl (by decide)) C R0 h dX10_hasPlayer_35
      · refine r_iconst (pc := 30) (v := (nI 1)) C dX10_hasPlayer_30 (by decide) ?_
        refine r_goto (pc := 31) (tgt := 35) C dX10_hasPlayer_31 (by decide) ?_
        exact r_zret (pc := 35) (Or.inr (by decide)) C R0 h dX10_hasPlayer_35
theorem dX10_letter_0 : decode cX10_letter 0 = .ok (.aload_n 0, 1) := by decide +kernel
theorem dX10_letter_1 : decode cX10_letter 1 = .ok (.iload_n 1, 1) := by decide +kernel
theorem dX10_letter_2 : decode cX10_letter 2 = .ok (.invokevirtual 148, 3) := by decide +kernel
theorem dX10_letter_5 : decode cX10_letter 5 = .ok (.ifCond .eq 12, 3) := by decide +kernel
theorem dX10_letter_8 : decode cX10_letter 8 = .ok (.iload_n 2, 1) := by decide +kernel
theorem dX10_letter_9 : decode cX10_letter 9 = .ok (.iconst 0, 1) := by decide +kernel
theorem dX10_letter_10 : decode cX10_letter 10 = .ok (.iconst 5, 1) := by decide +kernel
theorem dX10_letter_11 : decode cX10_letter 11 = .ok (.invokestatic 152, 3) := by decide +kernel
theorem dX10_letter_14 : decode cX10_letter 14 = .ok (.ifCond .ne 6, 3) := by decide +kernel
theorem dX10_letter_17 : decode cX10_letter 17 = .ok (.bipush (-2), 2) := by decide +kernel
theorem dX10_letter_19 : decode cX10_letter 19 = .ok (.ireturn, 1) := by decide +kernel
theorem dX10_letter_20 : decode cX10_letter 20 = .ok (.aload_n 0, 1) := by decide +kernel
theorem dX10_letter_21 : decode cX10_letter 21 = .ok (.getfield 24, 3) := by decide +kernel
theorem dX10_letter_24 : decode cX10_letter 24 = .ok (.getfield 82, 3) := by decide +kernel
theorem dX10_letter_27 : decode cX10_letter 27 = .ok (.getfield 104, 3) := by decide +kernel
theorem dX10_letter_30 : decode cX10_letter 30 = .ok (.iload_n 1, 1) := by decide +kernel
theorem dX10_letter_31 : decode cX10_letter 31 = .ok (.iload_n 2, 1) := by decide +kernel
theorem dX10_letter_32 : decode cX10_letter 32 = .ok (.invokevirtual 156, 3) := by decide +kernel
theorem dX10_letter_35 : decode cX10_letter 35 = .ok (.ireturn, 1) := by decide +kernel
def fX10_letter (a0 : Nat) (a1 : Int32) (a2 : Int32) (M : xMem) : Option (Int32 × xMem) :=
  xBn (fX10_hasTeam a0 a1 M) fun r1 M2 => if r1 = 0 then (some ((-2), M2)) else (xBn (fX10_isWithin a2 (nI 0) (nI 5) M2) fun r3 M4 => if r3 = 0 then (some ((-2), M4)) else (xBn (fX5_letterAt (xrf (xrf (xrf a0 2) 0) 0) a1 a2 M4) fun r5 M6 => some (r5, M6)))
set_option maxRecDepth 100000 in
set_option maxHeartbeats 4000000 in
theorem zX10_letter (G : xGX) (a0 : Nat) (h0 : xkd a0 = 10) (a1 : Int32) (a2 : Int32) (M : xMem) (r : Int32) (M' : xMem) (h : fX10_letter a0 a1 a2 M = some (r, M')) : xCt G yX10_letter cX10_letter 3 (some .int) 4 [vr G a0, .int a1, .int a2] M (some (.int r), M') := by
  refine xMet (lv := [some (vr G a0), some (.int a1), some (.int a2)]) (by decide) (Nat.le_of_ble_eq_true rfl) rfl ?_
  intro X hG hnL C R0
  subst hG
  have C : xCk X cX10_letter RX10 4 := C
  unfold fX10_letter at h
  refine r_aload_n (pc := 0) C dX10_letter_0 rfl rfl ?_
  refine r_iload_n (pc := 1) C dX10_letter_1 rfl rfl ?_
  refine r_vI1 (pc := 2) C (fun r M' e => zX10_hasTeam X.1 a0 h0 a1 M r M' e) h0 (by decide) rfl mX10_hasTeam lX10_148 (by decide) (Nat.le_of_ble_eq_true rfl) dX10_letter_2 h (fun r1 M2 h => ?_)
  refine r_if_eq (pc := 5) (tgt := 17) C dX10_letter_5 (by decide) h (fun _ h => ?_) (fun _ h => ?_)
  · refine r_bipush (pc := 17) (v := (-2)) C dX10_letter_17 (by decide) ?_
    exact r_iret (pc := 19) C R0 h dX10_letter_19
  · refine r_iload_n (pc := 8) C dX10_letter_8 rfl rfl ?_
    refine r_iconst (pc := 9) (v := (nI 0)) C dX10_letter_9 (by decide) ?_
    refine r_iconst (pc := 10) (v := (nI 5)) C dX10_letter_10 (by decide) ?_
    refine r_sI3 (pc := 11) C (fun r M' e => zX10_isWithin X.1 a2 (nI 0) (nI 5) M2 r M' e) mX10_isWithin lX10_152 (by decide) (Nat.le_of_ble_eq_true rfl) dX10_letter_11 h (fun r3 M4 h => ?_)
    refine r_if_ne (pc := 14) (tgt := 20) C dX10_letter_14 (by decide) h (fun _ h => ?_) (fun _ h => ?_)
    · refine r_aload_n (pc := 20) C dX10_letter_20 rfl rfl ?_
      refine r_getR (pc := 21) C kX10_24 h0 (by decide) dX10_letter_21 ?_
      refine r_getR (pc := 24) C kX10_82 (xtk h0 (by decide) rfl rfl) (by decide) dX10_letter_24 ?_
      refine r_getR (pc := 27) C kX10_104 (xtk (xtk h0 (by decide) rfl rfl) (by decide) rfl rfl) (by decide) dX10_letter_27 ?_
      refine r_iload_n (pc := 30) C dX10_letter_30 rfl rfl ?_
      refine r_iload_n (pc := 31) C dX10_letter_31 rfl rfl ?_
      refine r_vI2 (pc := 32) C (fun r M' e => zX5_letterAt X.1 (xrf (xrf (xrf a0 2) 0) 0) (xtk (xtk (xtk h0 (by decide) rfl rfl) (by decide) rfl rfl) (by decide) rfl rfl) a1 a2 M4 r M' e) (xtk (xtk (xtk h0 (by decide) rfl rfl) (by decide) rfl rfl) (by decide) rfl rfl) (by decide) rfl mX5_letterAt lX10_156 (by decide) (Nat.le_of_ble_eq_true rfl) dX10_letter_32 h (fun r5 M6 h => ?_)
      exact r_iret (pc := 35) C R0 h dX10_letter_35
    · refine r_bipush (pc := 17) (v := (-2)) C dX10_letter_17 (by decide) ?_
      exact r_iret (pc := 19) C R0 h dX10_letter_19
theorem dX10_shirt_0 : decode cX10_shirt 0 = .ok (.aload_n 0, 1) := by decide +kernel
theorem dX10_shirt_1 : decode cX10_shirt 1 = .ok (.iload_n 1, 1) := by decide +kernel
theorem dX10_shirt_2 : decode cX10_shirt 2 = .ok (.iload_n 2, 1) := by decide +kernel
theorem dX10_shirt_3 : decode cX10_shirt 3 = .ok (.invokevirtual 160, 3) := by decide +kernel
theorem dX10_shirt_6 : decode cX10_shirt 6 = .ok (.ifCond .eq 21, 3) := by decide +kernel
theorem dX10_shirt_9 : decode cX10_shirt 9 = .ok (.aload_n 0, 1) := by decide +kernel
theorem dX10_shirt_10 : decode cX10_shirt 10 = .ok (.getfield 24, 3) := by decide +kernel
theorem dX10_shirt_13 : decode cX10_shirt 13 = .ok (.getfield 82, 3) := by decide +kernel
theorem dX10_shirt_16 : decode cX10_shirt 16 = .ok (.getfield 104, 3) := by decide +kernel
theorem dX10_shirt_19 : decode cX10_shirt 19 = .ok (.iload_n 1, 1) := by decide +kernel
theorem dX10_shirt_20 : decode cX10_shirt 20 = .ok (.iload_n 2, 1) := by decide +kernel
theorem dX10_shirt_21 : decode cX10_shirt 21 = .ok (.invokevirtual 164, 3) := by decide +kernel
theorem dX10_shirt_24 : decode cX10_shirt 24 = .ok (.goto 5, 3) := by decide +kernel
theorem dX10_shirt_27 : decode cX10_shirt 27 = .ok (.bipush (-2), 2) := by decide +kernel
theorem dX10_shirt_29 : decode cX10_shirt 29 = .ok (.ireturn, 1) := by decide +kernel
def fX10_shirt (a0 : Nat) (a1 : Int32) (a2 : Int32) (M : xMem) : Option (Int32 × xMem) :=
  xBn (fX10_hasPlayer a0 a1 a2 M) fun r1 M2 => if r1 = 0 then (some ((-2), M2)) else (xBn (fX5_shirtOf (xrf (xrf (xrf a0 2) 0) 0) a1 a2 M2) fun r3 M4 => some (r3, M4))
set_option maxRecDepth 100000 in
set_option maxHeartbeats 4000000 in
theorem zX10_shirt (G : xGX) (a0 : Nat) (h0 : xkd a0 = 10) (a1 : Int32) (a2 : Int32) (M : xMem) (r : Int32) (M' : xMem) (h : fX10_shirt a0 a1 a2 M = some (r, M')) : xCt G yX10_shirt cX10_shirt 3 (some .int) 5 [vr G a0, .int a1, .int a2] M (some (.int r), M') := by
  refine xMet (lv := [some (vr G a0), some (.int a1), some (.int a2)]) (by decide) (Nat.le_of_ble_eq_true rfl) rfl ?_
  intro X hG hnL C R0
  subst hG
  have C : xCk X cX10_shirt RX10 5 := C
  unfold fX10_shirt at h
  refine r_aload_n (pc := 0) C dX10_shirt_0 rfl rfl ?_
  refine r_iload_n (pc := 1) C dX10_shirt_1 rfl rfl ?_
  refine r_iload_n (pc := 2) C dX10_shirt_2 rfl rfl ?_
  refine r_vI2 (pc := 3) C (fun r M' e => zX10_hasPlayer X.1 a0 h0 a1 a2 M r M' e) h0 (by decide) rfl mX10_hasPlayer lX10_160 (by decide) (Nat.le_of_ble_eq_true rfl) dX10_shirt_3 h (fun r1 M2 h => ?_)
  refine r_if_eq (pc := 6) (tgt := 27) C dX10_shirt_6 (by decide) h (fun _ h => ?_) (fun _ h => ?_)
  · refine r_bipush (pc := 27) (v := (-2)) C dX10_shirt_27 (by decide) ?_
    exact r_iret (pc := 29) C R0 h dX10_shirt_29
  · refine r_aload_n (pc := 9) C dX10_shirt_9 rfl rfl ?_
    refine r_getR (pc := 10) C kX10_24 h0 (by decide) dX10_shirt_10 ?_
    refine r_getR (pc := 13) C kX10_82 (xtk h0 (by decide) rfl rfl) (by decide) dX10_shirt_13 ?_
    refine r_getR (pc := 16) C kX10_104 (xtk (xtk h0 (by decide) rfl rfl) (by decide) rfl rfl) (by decide) dX10_shirt_16 ?_
    refine r_iload_n (pc := 19) C dX10_shirt_19 rfl rfl ?_
    refine r_iload_n (pc := 20) C dX10_shirt_20 rfl rfl ?_
    refine r_vI2 (pc := 21) C (fun r M' e => zX5_shirtOf X.1 (xrf (xrf (xrf a0 2) 0) 0) (xtk (xtk (xtk h0 (by decide) rfl rfl) (by decide) rfl rfl) (by decide) rfl rfl) a1 a2 M2 r M' e) (xtk (xtk (xtk h0 (by decide) rfl rfl) (by decide) rfl rfl) (by decide) rfl rfl) (by decide) rfl mX5_shirtOf lX10_164 (by decide) (Nat.le_of_ble_eq_true rfl) dX10_shirt_21 h (fun r3 M4 h => ?_)
    refine r_goto (pc := 24) (tgt := 29) C dX10_shirt_24 (by decide) ?_
    exact r_iret (pc := 29) C R0 h dX10_shirt_29
theorem dX10_who_0 : decode cX10_who 0 = .ok (.aload_n 0, 1) := by decide +kernel
theorem dX10_who_1 : decode cX10_who 1 = .ok (.iload_n 1, 1) := by decide +kernel
theorem dX10_who_2 : decode cX10_who 2 = .ok (.invokevirtual 148, 3) := by decide +kernel
theorem dX10_who_5 : decode cX10_who 5 = .ok (.ifCond .eq 13, 3) := by decide +kernel
theorem dX10_who_8 : decode cX10_who 8 = .ok (.iload_n 2, 1) := by decide +kernel
theorem dX10_who_9 : decode cX10_who 9 = .ok (.iconst 1, 1) := by decide +kernel
theorem dX10_who_10 : decode cX10_who 10 = .ok (.bipush 99, 2) := by decide +kernel
theorem dX10_who_12 : decode cX10_who 12 = .ok (.invokestatic 152, 3) := by decide +kernel
theorem dX10_who_15 : decode cX10_who 15 = .ok (.ifCond .ne 6, 3) := by decide +kernel
theorem dX10_who_18 : decode cX10_who 18 = .ok (.bipush (-2), 2) := by decide +kernel
theorem dX10_who_20 : decode cX10_who 20 = .ok (.ireturn, 1) := by decide +kernel
theorem dX10_who_21 : decode cX10_who 21 = .ok (.aload_n 0, 1) := by decide +kernel
theorem dX10_who_22 : decode cX10_who 22 = .ok (.getfield 24, 3) := by decide +kernel
theorem dX10_who_25 : decode cX10_who 25 = .ok (.getfield 82, 3) := by decide +kernel
theorem dX10_who_28 : decode cX10_who 28 = .ok (.getfield 104, 3) := by decide +kernel
theorem dX10_who_31 : decode cX10_who 31 = .ok (.iload_n 1, 1) := by decide +kernel
theorem dX10_who_32 : decode cX10_who 32 = .ok (.iload_n 2, 1) := by decide +kernel
theorem dX10_who_33 : decode cX10_who 33 = .ok (.invokevirtual 167, 3) := by decide +kernel
theorem dX10_who_36 : decode cX10_who 36 = .ok (.ireturn, 1) := by decide +kernel
def fX10_who (a0 : Nat) (a1 : Int32) (a2 : Int32) (M : xMem) : Option (Int32 × xMem) :=
  xBn (fX10_hasTeam a0 a1 M) fun r1 M2 => if r1 = 0 then (some ((-2), M2)) else (xBn (fX10_isWithin a2 (nI 1) (nI 99) M2) fun r3 M4 => if r3 = 0 then (some ((-2), M4)) else (xBn (fX5_playerWith (xrf (xrf (xrf a0 2) 0) 0) a1 a2 M4) fun r5 M6 => some (r5, M6)))
set_option maxRecDepth 100000 in
set_option maxHeartbeats 4000000 in
theorem zX10_who (G : xGX) (a0 : Nat) (h0 : xkd a0 = 10) (a1 : Int32) (a2 : Int32) (M : xMem) (r : Int32) (M' : xMem) (h : fX10_who a0 a1 a2 M = some (r, M')) : xCt G yX10_who cX10_who 3 (some .int) 4 [vr G a0, .int a1, .int a2] M (some (.int r), M') := by
  refine xMet (lv := [some (vr G a0), some (.int a1), some (.int a2)]) (by decide) (Nat.le_of_ble_eq_true rfl) rfl ?_
  intro X hG hnL C R0
  subst hG
  have C : xCk X cX10_who RX10 4 := C
  unfold fX10_who at h
  refine r_aload_n (pc := 0) C dX10_who_0 rfl rfl ?_
  refine r_iload_n (pc := 1) C dX10_who_1 rfl rfl ?_
  refine r_vI1 (pc := 2) C (fun r M' e => zX10_hasTeam X.1 a0 h0 a1 M r M' e) h0 (by decide) rfl mX10_hasTeam lX10_148 (by decide) (Nat.le_of_ble_eq_true rfl) dX10_who_2 h (fun r1 M2 h => ?_)
  refine r_if_eq (pc := 5) (tgt := 18) C dX10_who_5 (by decide) h (fun _ h => ?_) (fun _ h => ?_)
  · refine r_bipush (pc := 18) (v := (-2)) C dX10_who_18 (by decide) ?_
    exact r_iret (pc := 20) C R0 h dX10_who_20
  · refine r_iload_n (pc := 8) C dX10_who_8 rfl rfl ?_
    refine r_iconst (pc := 9) (v := (nI 1)) C dX10_who_9 (by decide) ?_
    refine r_bipush (pc := 10) (v := (nI 99)) C dX10_who_10 (by decide) ?_
    refine r_sI3 (pc := 12) C (fun r M' e => zX10_isWithin X.1 a2 (nI 1) (nI 99) M2 r M' e) mX10_isWithin lX10_152 (by decide) (Nat.le_of_ble_eq_true rfl) dX10_who_12 h (fun r3 M4 h => ?_)
    refine r_if_ne (pc := 15) (tgt := 21) C dX10_who_15 (by decide) h (fun _ h => ?_) (fun _ h => ?_)
    · refine r_aload_n (pc := 21) C dX10_who_21 rfl rfl ?_
      refine r_getR (pc := 22) C kX10_24 h0 (by decide) dX10_who_22 ?_
      refine r_getR (pc := 25) C kX10_82 (xtk h0 (by decide) rfl rfl) (by decide) dX10_who_25 ?_
      refine r_getR (pc := 28) C kX10_104 (xtk (xtk h0 (by decide) rfl rfl) (by decide) rfl rfl) (by decide) dX10_who_28 ?_
      refine r_iload_n (pc := 31) C dX10_who_31 rfl rfl ?_
      refine r_iload_n (pc := 32) C dX10_who_32 rfl rfl ?_
      refine r_vI2 (pc := 33) C (fun r M' e => zX5_playerWith X.1 (xrf (xrf (xrf a0 2) 0) 0) (xtk (xtk (xtk h0 (by decide) rfl rfl) (by decide) rfl rfl) (by decide) rfl rfl) a1 a2 M4 r M' e) (xtk (xtk (xtk h0 (by decide) rfl rfl) (by decide) rfl rfl) (by decide) rfl rfl) (by decide) rfl mX5_playerWith lX10_167 (by decide) (Nat.le_of_ble_eq_true rfl) dX10_who_33 h (fun r5 M6 h => ?_)
      exact r_iret (pc := 36) C R0 h dX10_who_36
    · refine r_bipush (pc := 18) (v := (-2)) C dX10_who_18 (by decide) ?_
      exact r_iret (pc := 20) C R0 h dX10_who_20
theorem dX10_is_0 : decode cX10_is 0 = .ok (.aload_n 0, 1) := by decide +kernel
theorem dX10_is_1 : decode cX10_is 1 = .ok (.iload_n 1, 1) := by decide +kernel
theorem dX10_is_2 : decode cX10_is 2 = .ok (.iload_n 2, 1) := by decide +kernel
theorem dX10_is_3 : decode cX10_is 3 = .ok (.invokevirtual 160, 3) := by decide +kernel
theorem dX10_is_6 : decode cX10_is 6 = .ok (.ifCond .eq 23, 3) := by decide +kernel
theorem dX10_is_9 : decode cX10_is 9 = .ok (.aload_n 0, 1) := by decide +kernel
theorem dX10_is_10 : decode cX10_is 10 = .ok (.getfield 24, 3) := by decide +kernel
theorem dX10_is_13 : decode cX10_is 13 = .ok (.getfield 122, 3) := by decide +kernel
theorem dX10_is_16 : decode cX10_is 16 = .ok (.getfield 170, 3) := by decide +kernel
theorem dX10_is_19 : decode cX10_is 19 = .ok (.iload_n 1, 1) := by decide +kernel
theorem dX10_is_20 : decode cX10_is 20 = .ok (.aaload, 1) := by decide +kernel
theorem dX10_is_21 : decode cX10_is 21 = .ok (.getfield 174, 3) := by decide +kernel
theorem dX10_is_24 : decode cX10_is 24 = .ok (.iload_n 2, 1) := by decide +kernel
theorem dX10_is_25 : decode cX10_is 25 = .ok (.iaload, 1) := by decide +kernel
theorem dX10_is_26 : decode cX10_is 26 = .ok (.goto 5, 3) := by decide +kernel
theorem dX10_is_29 : decode cX10_is 29 = .ok (.bipush (-2), 2) := by decide +kernel
theorem dX10_is_31 : decode cX10_is 31 = .ok (.ireturn, 1) := by decide +kernel
def fX10_is (a0 : Nat) (a1 : Int32) (a2 : Int32) (M : xMem) : Option (Int32 × xMem) :=
  xBn (fX10_hasPlayer a0 a1 a2 M) fun r1 M2 => if r1 = 0 then (some ((-2), M2)) else (xGb a1 (xln (xrf (xrf (xrf a0 2) 1) 0)) (xGb a2 (xln (xrf (xrf (xrf (xrf (xrf a0 2) 1) 0) (Int32.toNatClampNeg a1)) 0)) (some ((M2.1 (xrf (xrf (xrf (xrf (xrf a0 2) 1) 0) (Int32.toNatClampNeg a1)) 0) (Int32.toNatClampNeg a2)), M2))))
set_option maxRecDepth 100000 in
set_option maxHeartbeats 4000000 in
theorem zX10_is (G : xGX) (a0 : Nat) (h0 : xkd a0 = 10) (a1 : Int32) (a2 : Int32) (M : xMem) (r : Int32) (M' : xMem) (h : fX10_is a0 a1 a2 M = some (r, M')) : xCt G yX10_is cX10_is 3 (some .int) 5 [vr G a0, .int a1, .int a2] M (some (.int r), M') := by
  refine xMet (lv := [some (vr G a0), some (.int a1), some (.int a2)]) (by decide) (Nat.le_of_ble_eq_true rfl) rfl ?_
  intro X hG hnL C R0
  subst hG
  have C : xCk X cX10_is RX10 5 := C
  unfold fX10_is at h
  refine r_aload_n (pc := 0) C dX10_is_0 rfl rfl ?_
  refine r_iload_n (pc := 1) C dX10_is_1 rfl rfl ?_
  refine r_iload_n (pc := 2) C dX10_is_2 rfl rfl ?_
  refine r_vI2 (pc := 3) C (fun r M' e => zX10_hasPlayer X.1 a0 h0 a1 a2 M r M' e) h0 (by decide) rfl mX10_hasPlayer lX10_160 (by decide) (Nat.le_of_ble_eq_true rfl) dX10_is_3 h (fun r1 M2 h => ?_)
  refine r_if_eq (pc := 6) (tgt := 29) C dX10_is_6 (by decide) h (fun _ h => ?_) (fun _ h => ?_)
  · refine r_bipush (pc := 29) (v := (-2)) C dX10_is_29 (by decide) ?_
    exact r_iret (pc := 31) C R0 h dX10_is_31
  · refine r_aload_n (pc := 9) C dX10_is_9 rfl rfl ?_
    refine r_getR (pc := 10) C kX10_24 h0 (by decide) dX10_is_10 ?_
    refine r_getR (pc := 13) C kX10_122 (xtk h0 (by decide) rfl rfl) (by decide) dX10_is_13 ?_
    refine r_getR (pc := 16) C kX10_170 (xtk (xtk h0 (by decide) rfl rfl) (by decide) rfl rfl) (by decide) dX10_is_16 ?_
    refine r_iload_n (pc := 19) C dX10_is_19 rfl rfl ?_
    obtain ⟨g3, h⟩ := xGb_of h
    refine r_aaldS (pc := 20) C (xtk (xtk (xtk h0 (by decide) rfl rfl) (by decide) rfl rfl) (by decide) rfl rfl) g3 dX10_is_20 ?_
    refine r_getR (pc := 21) C kX10_174 (xkeS (xtk (xtk (xtk h0 (by decide) rfl rfl) (by decide) rfl rfl) (by decide) rfl rfl) (xin_lt g3)) (by decide) dX10_is_21 ?_
    refine r_iload_n (pc := 24) C dX10_is_24 rfl rfl ?_
    obtain ⟨g4, h⟩ := xGb_of h
    refine r_iald (pc := 25) C (xtk (xkeS (xtk (xtk (xtk h0 (by decide) rfl rfl) (by decide) rfl rfl) (by decide) rfl rfl) (xin_lt g3)) (by decide) rfl rfl) g4 dX10_is_25 ?_
    refine r_goto (pc := 26) (tgt := 31) C dX10_is_26 (by decide) ?_
    exact r_iret (pc := 31) C R0 h dX10_is_31
theorem dX10_those_0 : decode cX10_those 0 = .ok (.aload_n 0, 1) := by decide +kernel
theorem dX10_those_1 : decode cX10_those 1 = .ok (.iload_n 1, 1) := by decide +kernel
theorem dX10_those_2 : decode cX10_those 2 = .ok (.invokevirtual 148, 3) := by decide +kernel
theorem dX10_those_5 : decode cX10_those 5 = .ok (.ifCond .eq 12, 3) := by decide +kernel
theorem dX10_those_8 : decode cX10_those 8 = .ok (.iload_n 2, 1) := by decide +kernel
theorem dX10_those_9 : decode cX10_those 9 = .ok (.iconst 0, 1) := by decide +kernel
theorem dX10_those_10 : decode cX10_those 10 = .ok (.iconst 4, 1) := by decide +kernel
theorem dX10_those_11 : decode cX10_those 11 = .ok (.invokestatic 152, 3) := by decide +kernel
theorem dX10_those_14 : decode cX10_those 14 = .ok (.ifCond .ne 6, 3) := by decide +kernel
theorem dX10_those_17 : decode cX10_those 17 = .ok (.bipush (-2), 2) := by decide +kernel
theorem dX10_those_19 : decode cX10_those 19 = .ok (.ireturn, 1) := by decide +kernel
theorem dX10_those_20 : decode cX10_those 20 = .ok (.aload_n 0, 1) := by decide +kernel
theorem dX10_those_21 : decode cX10_those 21 = .ok (.getfield 24, 3) := by decide +kernel
theorem dX10_those_24 : decode cX10_those 24 = .ok (.getfield 122, 3) := by decide +kernel
theorem dX10_those_27 : decode cX10_those 27 = .ok (.getfield 170, 3) := by decide +kernel
theorem dX10_those_30 : decode cX10_those 30 = .ok (.iload_n 1, 1) := by decide +kernel
theorem dX10_those_31 : decode cX10_those 31 = .ok (.aaload, 1) := by decide +kernel
theorem dX10_those_32 : decode cX10_those 32 = .ok (.iload_n 2, 1) := by decide +kernel
theorem dX10_those_33 : decode cX10_those 33 = .ok (.invokevirtual 180, 3) := by decide +kernel
theorem dX10_those_36 : decode cX10_those 36 = .ok (.ireturn, 1) := by decide +kernel
def fX10_those (a0 : Nat) (a1 : Int32) (a2 : Int32) (M : xMem) : Option (Int32 × xMem) :=
  xBn (fX10_hasTeam a0 a1 M) fun r1 M2 => if r1 = 0 then (some ((-2), M2)) else (xBn (fX10_isWithin a2 (nI 0) (nI 4) M2) fun r3 M4 => if r3 = 0 then (some ((-2), M4)) else (xGb a1 (xln (xrf (xrf (xrf a0 2) 1) 0)) (xBn (fX7_maskOf (xrf (xrf (xrf (xrf a0 2) 1) 0) (Int32.toNatClampNeg a1)) a2 M4) fun r6 M7 => some (r6, M7))))
set_option maxRecDepth 100000 in
set_option maxHeartbeats 4000000 in
theorem zX10_those (G : xGX) (a0 : Nat) (h0 : xkd a0 = 10) (a1 : Int32) (a2 : Int32) (M : xMem) (r : Int32) (M' : xMem) (h : fX10_those a0 a1 a2 M = some (r, M')) : xCt G yX10_those cX10_those 3 (some .int) 4 [vr G a0, .int a1, .int a2] M (some (.int r), M') := by
  refine xMet (lv := [some (vr G a0), some (.int a1), some (.int a2)]) (by decide) (Nat.le_of_ble_eq_true rfl) rfl ?_
  intro X hG hnL C R0
  subst hG
  have C : xCk X cX10_those RX10 4 := C
  unfold fX10_those at h
  refine r_aload_n (pc := 0) C dX10_those_0 rfl rfl ?_
  refine r_iload_n (pc := 1) C dX10_those_1 rfl rfl ?_
  refine r_vI1 (pc := 2) C (fun r M' e => zX10_hasTeam X.1 a0 h0 a1 M r M' e) h0 (by decide) rfl mX10_hasTeam lX10_148 (by decide) (Nat.le_of_ble_eq_true rfl) dX10_those_2 h (fun r1 M2 h => ?_)
  refine r_if_eq (pc := 5) (tgt := 17) C dX10_those_5 (by decide) h (fun _ h => ?_) (fun _ h => ?_)
  · refine r_bipush (pc := 17) (v := (-2)) C dX10_those_17 (by decide) ?_
    exact r_iret (pc := 19) C R0 h dX10_those_19
  · refine r_iload_n (pc := 8) C dX10_those_8 rfl rfl ?_
    refine r_iconst (pc := 9) (v := (nI 0)) C dX10_those_9 (by decide) ?_
    refine r_iconst (pc := 10) (v := (nI 4)) C dX10_those_10 (by decide) ?_
    refine r_sI3 (pc := 11) C (fun r M' e => zX10_isWithin X.1 a2 (nI 0) (nI 4) M2 r M' e) mX10_isWithin lX10_152 (by decide) (Nat.le_of_ble_eq_true rfl) dX10_those_11 h (fun r3 M4 h => ?_)
    refine r_if_ne (pc := 14) (tgt := 20) C dX10_those_14 (by decide) h (fun _ h => ?_) (fun _ h => ?_)
    · refine r_aload_n (pc := 20) C dX10_those_20 rfl rfl ?_
      refine r_getR (pc := 21) C kX10_24 h0 (by decide) dX10_those_21 ?_
      refine r_getR (pc := 24) C kX10_122 (xtk h0 (by decide) rfl rfl) (by decide) dX10_those_24 ?_
      refine r_getR (pc := 27) C kX10_170 (xtk (xtk h0 (by decide) rfl rfl) (by decide) rfl rfl) (by decide) dX10_those_27 ?_
      refine r_iload_n (pc := 30) C dX10_those_30 rfl rfl ?_
      obtain ⟨g5, h⟩ := xGb_of h
      refine r_aaldS (pc := 31) C (xtk (xtk (xtk h0 (by decide) rfl rfl) (by decide) rfl rfl) (by decide) rfl rfl) g5 dX10_those_31 ?_
      refine r_iload_n (pc := 32) C dX10_those_32 rfl rfl ?_
      refine r_vI1 (pc := 33) C (fun r M' e => zX7_maskOf X.1 (xrf (xrf (xrf (xrf a0 2) 1) 0) (Int32.toNatClampNeg a1)) (xkeS (xtk (xtk (xtk h0 (by decide) rfl rfl) (by decide) rfl rfl) (by decide) rfl rfl) (xin_lt g5)) a2 M4 r M' e) (xkeS (xtk (xtk (xtk h0 (by decide) rfl rfl) (by decide) rfl rfl) (by decide) rfl rfl) (xin_lt g5)) (by decide) rfl mX7_maskOf lX10_180 (by decide) (Nat.le_of_ble_eq_true rfl) dX10_those_33 h (fun r6 M7 h => ?_)
      exact r_iret (pc := 36) C R0 h dX10_those_36
    · refine r_bipush (pc := 17) (v := (-2)) C dX10_those_17 (by decide) ?_
      exact r_iret (pc := 19) C R0 h dX10_those_19
theorem dX10_shirts_0 : decode cX10_shirts 0 = .ok (.aload_n 0, 1) := by decide +kernel
theorem dX10_shirts_1 : decode cX10_shirts 1 = .ok (.iload_n 1, 1) := by decide +kernel
theorem dX10_shirts_2 : decode cX10_shirts 2 = .ok (.invokevirtual 148, 3) := by decide +kernel
theorem dX10_shirts_5 : decode cX10_shirts 5 = .ok (.ifCond .eq 16, 3) := by decide +kernel
theorem dX10_shirts_8 : decode cX10_shirts 8 = .ok (.iload_n 2, 1) := by decide +kernel
theorem dX10_shirts_9 : decode cX10_shirts 9 = .ok (.iconst 0, 1) := by decide +kernel
theorem dX10_shirts_10 : decode cX10_shirts 10 = .ok (.iconst 4, 1) := by decide +kernel
theorem dX10_shirts_11 : decode cX10_shirts 11 = .ok (.invokestatic 152, 3) := by decide +kernel
theorem dX10_shirts_14 : decode cX10_shirts 14 = .ok (.ifCond .eq 7, 3) := by decide +kernel
theorem dX10_shirts_17 : decode cX10_shirts 17 = .ok (.iload_n 3, 1) := by decide +kernel
theorem dX10_shirts_18 : decode cX10_shirts 18 = .ok (.ifCond .ge 6, 3) := by decide +kernel
theorem dX10_shirts_21 : decode cX10_shirts 21 = .ok (.bipush (-2), 2) := by decide +kernel
theorem dX10_shirts_23 : decode cX10_shirts 23 = .ok (.ireturn, 1) := by decide +kernel
theorem dX10_shirts_24 : decode cX10_shirts 24 = .ok (.aload_n 0, 1) := by decide +kernel
theorem dX10_shirts_25 : decode cX10_shirts 25 = .ok (.getfield 24, 3) := by decide +kernel
theorem dX10_shirts_28 : decode cX10_shirts 28 = .ok (.getfield 122, 3) := by decide +kernel
theorem dX10_shirts_31 : decode cX10_shirts 31 = .ok (.getfield 170, 3) := by decide +kernel
theorem dX10_shirts_34 : decode cX10_shirts 34 = .ok (.iload_n 1, 1) := by decide +kernel
theorem dX10_shirts_35 : decode cX10_shirts 35 = .ok (.aaload, 1) := by decide +kernel
theorem dX10_shirts_36 : decode cX10_shirts 36 = .ok (.iload_n 2, 1) := by decide +kernel
theorem dX10_shirts_37 : decode cX10_shirts 37 = .ok (.invokevirtual 180, 3) := by decide +kernel
theorem dX10_shirts_40 : decode cX10_shirts 40 = .ok (.istore 4, 2) := by decide +kernel
theorem dX10_shirts_42 : decode cX10_shirts 42 = .ok (.iload_n 3, 1) := by decide +kernel
theorem dX10_shirts_43 : decode cX10_shirts 43 = .ok (.istore 5, 2) := by decide +kernel
theorem dX10_shirts_45 : decode cX10_shirts 45 = .ok (.iconst 1, 1) := by decide +kernel
theorem dX10_shirts_46 : decode cX10_shirts 46 = .ok (.istore 6, 2) := by decide +kernel
theorem dX10_shirts_48 : decode cX10_shirts 48 = .ok (.iload 6, 2) := by decide +kernel
theorem dX10_shirts_50 : decode cX10_shirts 50 = .ok (.bipush 99, 2) := by decide +kernel
theorem dX10_shirts_52 : decode cX10_shirts 52 = .ok (.if_icmp .gt 55, 3) := by decide +kernel
theorem dX10_shirts_55 : decode cX10_shirts 55 = .ok (.aload_n 0, 1) := by decide +kernel
theorem dX10_shirts_56 : decode cX10_shirts 56 = .ok (.getfield 24, 3) := by decide +kernel
theorem dX10_shirts_59 : decode cX10_shirts 59 = .ok (.getfield 82, 3) := by decide +kernel
theorem dX10_shirts_62 : decode cX10_shirts 62 = .ok (.getfield 104, 3) := by decide +kernel
theorem dX10_shirts_65 : decode cX10_shirts 65 = .ok (.iload_n 1, 1) := by decide +kernel
theorem dX10_shirts_66 : decode cX10_shirts 66 = .ok (.iload 6, 2) := by decide +kernel
theorem dX10_shirts_68 : decode cX10_shirts 68 = .ok (.invokevirtual 167, 3) := by decide +kernel
theorem dX10_shirts_71 : decode cX10_shirts 71 = .ok (.istore 7, 2) := by decide +kernel
theorem dX10_shirts_73 : decode cX10_shirts 73 = .ok (.iload 7, 2) := by decide +kernel
theorem dX10_shirts_75 : decode cX10_shirts 75 = .ok (.iconst (-1), 1) := by decide +kernel
theorem dX10_shirts_76 : decode cX10_shirts 76 = .ok (.if_icmp .eq 25, 3) := by decide +kernel
theorem dX10_shirts_79 : decode cX10_shirts 79 = .ok (.iload 4, 2) := by decide +kernel
theorem dX10_shirts_81 : decode cX10_shirts 81 = .ok (.iload 7, 2) := by decide +kernel
theorem dX10_shirts_83 : decode cX10_shirts 83 = .ok (.ishr, 1) := by decide +kernel
theorem dX10_shirts_84 : decode cX10_shirts 84 = .ok (.iconst 1, 1) := by decide +kernel
theorem dX10_shirts_85 : decode cX10_shirts 85 = .ok (.iand, 1) := by decide +kernel
theorem dX10_shirts_86 : decode cX10_shirts 86 = .ok (.iconst 1, 1) := by decide +kernel
theorem dX10_shirts_87 : decode cX10_shirts 87 = .ok (.if_icmp .ne 14, 3) := by decide +kernel
theorem dX10_shirts_90 : decode cX10_shirts 90 = .ok (.iload 5, 2) := by decide +kernel
theorem dX10_shirts_92 : decode cX10_shirts 92 = .ok (.ifCond .ne 6, 3) := by decide +kernel
theorem dX10_shirts_95 : decode cX10_shirts 95 = .ok (.iload 6, 2) := by decide +kernel
theorem dX10_shirts_97 : decode cX10_shirts 97 = .ok (.ireturn, 1) := by decide +kernel
theorem dX10_shirts_98 : decode cX10_shirts 98 = .ok (.iinc 5 (-1), 3) := by decide +kernel
theorem dX10_shirts_101 : decode cX10_shirts 101 = .ok (.iinc 6 1, 3) := by decide +kernel
theorem dX10_shirts_104 : decode cX10_shirts 104 = .ok (.goto (-56), 3) := by decide +kernel
theorem dX10_shirts_107 : decode cX10_shirts 107 = .ok (.iconst (-1), 1) := by decide +kernel
theorem dX10_shirts_108 : decode cX10_shirts 108 = .ok (.ireturn, 1) := by decide +kernel
def fX10_shirts_l48 (p0 : Nat) (p1 : Int32) (p2 : Int32) (p3 : Int32) (p4 : Int32) (K : Int32 → Int32 → xMem → Option (Int32 × xMem)) : Nat → Int32 → Int32 → xMem → Option (Int32 × xMem)
  | 0, _, _, _ => none
  | n + 1, v5, v6, M => if (nI 99) < v6 then (K v5 v6 M) else (xBn (fX5_playerWith (xrf (xrf (xrf p0 2) 0) 0) p1 v6 M) fun r8 M9 => if r8 = (-1) then (xLt (v6 + nI 1) fun x10 => fX10_shirts_l48 p0 p1 p2 p3 p4 K n v5 x10 M9) else (if ((p4 >>> (r8 &&& 31)) &&& (nI 1)) = (nI 1) then (if v5 = 0 then (some (v6, M9)) else (xLt (v5 + (-1)) fun x12 => xLt (v6 + nI 1) fun x13 => fX10_shirts_l48 p0 p1 p2 p3 p4 K n x12 x13 M9)) else (xLt (v6 + nI 1) fun x11 => fX10_shirts_l48 p0 p1 p2 p3 p4 K n v5 x11 M9)))
def fX10_shirts (a0 : Nat) (a1 : Int32) (a2 : Int32) (a3 : Int32) (M : xMem) : Option (Int32 × xMem) :=
  xBn (fX10_hasTeam a0 a1 M) fun r1 M2 => if r1 = 0 then (some ((-2), M2)) else (xBn (fX10_isWithin a2 (nI 0) (nI 4) M2) fun r3 M4 => if r3 = 0 then (some ((-2), M4)) else (if 0 ≤ a3 then (xGb a1 (xln (xrf (xrf (xrf a0 2) 1) 0)) (xBn (fX7_maskOf (xrf (xrf (xrf (xrf a0 2) 1) 0) (Int32.toNatClampNeg a1)) a2 M4) fun r6 M7 => fX10_shirts_l48 a0 a1 a2 a3 r6 (fun (v14 : Int32) (v15 : Int32) (M16 : xMem) => some ((-1), M16)) xFU a3 (nI 1) M7)) else (some ((-2), M4))))
set_option maxRecDepth 100000 in
set_option maxHeartbeats 4000000 in
theorem lX10_shirts_48 {X : xCX} {r : Int32} {M' : xMem} (C : xCk X cX10_shirts RX10 4) (R0 : xRk X (some .int) (some (.int r), M')) (hnL : X.2.2.2.2.2.2.2.2.2.2.2.2.2 = 8) (p0 : Nat) (hp0 : xkd p0 = 10) (p1 : Int32) (p2 : Int32) (p3 : Int32) (p4 : Int32) (K : Int32 → Int32 → xMem → Option (Int32 × xMem)) (hK : ∀ (v5 : Int32) (v6 : Int32) (M : xMem), K v5 v6 M = some (r, M') → WW X 107 [some (vr X.1 p0), some (.int p1), some (.int p2), some (.int p3), some (.int p4), some (.int v5), some (.int v6), none] [] M) : ∀ (n : Nat) (v5 : Int32) (v6 : Int32) (M : xMem), fX10_shirts_l48 p0 p1 p2 p3 p4 K n v5 v6 M = some (r, M') → WW X 48 [some (vr X.1 p0), some (.int p1), some (.int p2), some (.int p3), some (.int p4), some (.int v5), some (.int v6), none] [] M := by
  have hn4 : 4 < X.2.2.2.2.2.2.2.2.2.2.2.2.2 := by rw [hnL]; decide
  have hn5 : 5 < X.2.2.2.2.2.2.2.2.2.2.2.2.2 := by rw [hnL]; decide
  have hn6 : 6 < X.2.2.2.2.2.2.2.2.2.2.2.2.2 := by rw [hnL]; decide
  have hn7 : 7 < X.2.2.2.2.2.2.2.2.2.2.2.2.2 := by rw [hnL]; decide
  intro n
  induction n with
  | zero =>
    intro v5 v6 M h
    cases (show (none : Option (Int32 × xMem)) = some (r, M') from h)
  | succ n ih =>
    intro v5 v6 M h
    rw [fX10_shirts_l48.eq_2] at h
    refine r_iload (pc := 48) C dX10_shirts_48 rfl ?_
    refine r_bipush (pc := 50) (v := (nI 99)) C dX10_shirts_50 (by decide) ?_
    refine r_icmp_gt (pc := 52) (tgt := 107) C dX10_shirts_52 (by decide) h (fun _ h => ?_) (fun _ h => ?_)
    · exact hK v5 v6 M h
    · refine r_aload_n (pc := 55) C dX10_shirts_55 rfl rfl ?_
      refine r_getR (pc := 56) C kX10_24 hp0 (by decide) dX10_shirts_56 ?_
      refine r_getR (pc := 59) C kX10_82 (xtk hp0 (by decide) rfl rfl) (by decide) dX10_shirts_59 ?_
      refine r_getR (pc := 62) C kX10_104 (xtk (xtk hp0 (by decide) rfl rfl) (by decide) rfl rfl) (by decide) dX10_shirts_62 ?_
      refine r_iload_n (pc := 65) C dX10_shirts_65 rfl rfl ?_
      refine r_iload (pc := 66) C dX10_shirts_66 rfl ?_
      refine r_vI2 (pc := 68) C (fun r M' e => zX5_playerWith X.1 (xrf (xrf (xrf p0 2) 0) 0) (xtk (xtk (xtk hp0 (by decide) rfl rfl) (by decide) rfl rfl) (by decide) rfl rfl) p1 v6 M r M' e) (xtk (xtk (xtk hp0 (by decide) rfl rfl) (by decide) rfl rfl) (by decide) rfl rfl) (by decide) rfl mX5_playerWith lX10_167 (by decide) (Nat.le_of_ble_eq_true rfl) dX10_shirts_68 h (fun r8 M9 h => ?_)
      refine r_istore (pc := 71) (lv' := [_, _, _, _, _, _, _, _]) C dX10_shirts_71 hn7 rfl ?_
      refine r_iload (pc := 73) C dX10_shirts_73 rfl ?_
      refine r_iconst (pc := 75) (v := (-1)) C dX10_shirts_75 (by decide) ?_
      refine r_icmp_eq (pc := 76) (tgt := 101) C dX10_shirts_76 (by decide) h (fun _ h => ?_) (fun _ h => ?_)
      · refine r_iincL (pc := 101) (c := nI 1) C dX10_shirts_101 rfl (by decide) hn6 h (fun x10 h => ?_)
        refine r_lvE (lv' := [_, _, _, _, _, _, _, _]) rfl ?_
        refine r_goto (pc := 104) (tgt := 48) C dX10_shirts_104 (by decide) ?_
        exact r_lv (xle_at (xle_some rfl (xle_some rfl (xle_some rfl (xle_some rfl (xle_some rfl (xle_some rfl (xle_some rfl (xle_none xle_nil))))))))) (ih v5 x10 M9 h)
      · refine r_iload (pc := 79) C dX10_shirts_79 rfl ?_
        refine r_iload (pc := 81) C dX10_shirts_81 rfl ?_
        refine r_ishr (pc := 83) C dX10_shirts_83 ?_
        refine r_iconst (pc := 84) (v := (nI 1)) C dX10_shirts_84 (by decide) ?_
        refine r_iand (pc := 85) C dX10_shirts_85 ?_
        refine r_iconst (pc := 86) (v := (nI 1)) C dX10_shirts_86 (by decide) ?_
        refine r_icmp_ne (pc := 87) (tgt := 101) C dX10_shirts_87 (by decide) h (fun _ h => ?_) (fun _ h => ?_)
        · refine r_iincL (pc := 101) (c := nI 1) C dX10_shirts_101 rfl (by decide) hn6 h (fun x11 h => ?_)
          refine r_lvE (lv' := [_, _, _, _, _, _, _, _]) rfl ?_
          refine r_goto (pc := 104) (tgt := 48) C dX10_shirts_104 (by decide) ?_
          exact r_lv (xle_at (xle_some rfl (xle_some rfl (xle_some rfl (xle_some rfl (xle_some rfl (xle_some rfl (xle_some rfl (xle_none xle_nil))))))))) (ih v5 x11 M9 h)
        · refine r_iload (pc := 90) C dX10_shirts_90 rfl ?_
          refine r_if_ne (pc := 92) (tgt := 98) C dX10_shirts_92 (by decide) h (fun _ h => ?_) (fun _ h => ?_)
          · refine r_iincL (pc := 98) (c := (-1)) C dX10_shirts_98 rfl (by decide) hn5 h (fun x12 h => ?_)
            refine r_lvE (lv' := [_, _, _, _, _, _, _, _]) rfl ?_
            refine r_iincL (pc := 101) (c := nI 1) C dX10_shirts_101 rfl (by decide) hn6 h (fun x13 h => ?_)
            refine r_lvE (lv' := [_, _, _, _, _, _, _, _]) rfl ?_
            refine r_goto (pc := 104) (tgt := 48) C dX10_shirts_104 (by decide) ?_
            exact r_lv (xle_at (xle_some rfl (xle_some rfl (xle_some rfl (xle_some rfl (xle_some rfl (xle_some rfl (xle_some rfl (xle_none xle_nil))))))))) (ih x12 x13 M9 h)
          · refine r_iload (pc := 95) C dX10_shirts_95 rfl ?_
            exact r_iret (pc := 97) C R0 h dX10_shirts_97
set_option maxRecDepth 100000 in
set_option maxHeartbeats 4000000 in
theorem zX10_shirts (G : xGX) (a0 : Nat) (h0 : xkd a0 = 10) (a1 : Int32) (a2 : Int32) (a3 : Int32) (M : xMem) (r : Int32) (M' : xMem) (h : fX10_shirts a0 a1 a2 a3 M = some (r, M')) : xCt G yX10_shirts cX10_shirts 8 (some .int) 4 [vr G a0, .int a1, .int a2, .int a3] M (some (.int r), M') := by
  refine xMet (lv := [some (vr G a0), some (.int a1), some (.int a2), some (.int a3), none, none, none, none]) (by decide) (Nat.le_of_ble_eq_true rfl) rfl ?_
  intro X hG hnL C R0
  subst hG
  have C : xCk X cX10_shirts RX10 4 := C
  have hn4 : 4 < X.2.2.2.2.2.2.2.2.2.2.2.2.2 := by rw [hnL]; decide
  have hn5 : 5 < X.2.2.2.2.2.2.2.2.2.2.2.2.2 := by rw [hnL]; decide
  have hn6 : 6 < X.2.2.2.2.2.2.2.2.2.2.2.2.2 := by rw [hnL]; decide
  have hn7 : 7 < X.2.2.2.2.2.2.2.2.2.2.2.2.2 := by rw [hnL]; decide
  unfold fX10_shirts at h
  refine r_aload_n (pc := 0) C dX10_shirts_0 rfl rfl ?_
  refine r_iload_n (pc := 1) C dX10_shirts_1 rfl rfl ?_
  refine r_vI1 (pc := 2) C (fun r M' e => zX10_hasTeam X.1 a0 h0 a1 M r M' e) h0 (by decide) rfl mX10_hasTeam lX10_148 (by decide) (Nat.le_of_ble_eq_true rfl) dX10_shirts_2 h (fun r1 M2 h => ?_)
  refine r_if_eq (pc := 5) (tgt := 21) C dX10_shirts_5 (by decide) h (fun _ h => ?_) (fun _ h => ?_)
  · refine r_bipush (pc := 21) (v := (-2)) C dX10_shirts_21 (by decide) ?_
    exact r_iret (pc := 23) C R0 h dX10_shirts_23
  · refine r_iload_n (pc := 8) C dX10_shirts_8 rfl rfl ?_
    refine r_iconst (pc := 9) (v := (nI 0)) C dX10_shirts_9 (by decide) ?_
    refine r_iconst (pc := 10) (v := (nI 4)) C dX10_shirts_10 (by decide) ?_
    refine r_sI3 (pc := 11) C (fun r M' e => zX10_isWithin X.1 a2 (nI 0) (nI 4) M2 r M' e) mX10_isWithin lX10_152 (by decide) (Nat.le_of_ble_eq_true rfl) dX10_shirts_11 h (fun r3 M4 h => ?_)
    refine r_if_eq (pc := 14) (tgt := 21) C dX10_shirts_14 (by decide) h (fun _ h => ?_) (fun _ h => ?_)
    · refine r_bipush (pc := 21) (v := (-2)) C dX10_shirts_21 (by decide) ?_
      exact r_iret (pc := 23) C R0 h dX10_shirts_23
    · refine r_iload_n (pc := 17) C dX10_shirts_17 rfl rfl ?_
      refine r_if_ge (pc := 18) (tgt := 24) C dX10_shirts_18 (by decide) h (fun _ h => ?_) (fun _ h => ?_)
      · refine r_aload_n (pc := 24) C dX10_shirts_24 rfl rfl ?_
        refine r_getR (pc := 25) C kX10_24 h0 (by decide) dX10_shirts_25 ?_
        refine r_getR (pc := 28) C kX10_122 (xtk h0 (by decide) rfl rfl) (by decide) dX10_shirts_28 ?_
        refine r_getR (pc := 31) C kX10_170 (xtk (xtk h0 (by decide) rfl rfl) (by decide) rfl rfl) (by decide) dX10_shirts_31 ?_
        refine r_iload_n (pc := 34) C dX10_shirts_34 rfl rfl ?_
        obtain ⟨g5, h⟩ := xGb_of h
        refine r_aaldS (pc := 35) C (xtk (xtk (xtk h0 (by decide) rfl rfl) (by decide) rfl rfl) (by decide) rfl rfl) g5 dX10_shirts_35 ?_
        refine r_iload_n (pc := 36) C dX10_shirts_36 rfl rfl ?_
        refine r_vI1 (pc := 37) C (fun r M' e => zX7_maskOf X.1 (xrf (xrf (xrf (xrf a0 2) 1) 0) (Int32.toNatClampNeg a1)) (xkeS (xtk (xtk (xtk h0 (by decide) rfl rfl) (by decide) rfl rfl) (by decide) rfl rfl) (xin_lt g5)) a2 M4 r M' e) (xkeS (xtk (xtk (xtk h0 (by decide) rfl rfl) (by decide) rfl rfl) (by decide) rfl rfl) (xin_lt g5)) (by decide) rfl mX7_maskOf lX10_180 (by decide) (Nat.le_of_ble_eq_true rfl) dX10_shirts_37 h (fun r6 M7 h => ?_)
        refine r_istore (pc := 40) (lv' := [_, _, _, _, _, _, _, _]) C dX10_shirts_40 hn4 rfl ?_
        refine r_iload_n (pc := 42) C dX10_shirts_42 rfl rfl ?_
        refine r_istore (pc := 43) (lv' := [_, _, _, _, _, _, _, _]) C dX10_shirts_43 hn5 rfl ?_
        refine r_iconst (pc := 45) (v := (nI 1)) C dX10_shirts_45 (by decide) ?_
        refine r_istore (pc := 46) (lv' := [_, _, _, _, _, _, _, _]) C dX10_shirts_46 hn6 rfl ?_
        refine lX10_shirts_48 C R0 hnL a0 h0 a1 a2 a3 r6 _ (fun v14 v15 M16 h => ?_) _ _ _ _ h
        refine r_iconst (pc := 107) (v := (-1)) C dX10_shirts_107 (by decide) ?_
        exact r_iret (pc := 108) C R0 h dX10_shirts_108
      · refine r_bipush (pc := 21) (v := (-2)) C dX10_shirts_21 (by decide) ?_
        exact r_iret (pc := 23) C R0 h dX10_shirts_23
theorem dX10_outs_0 : decode cX10_outs 0 = .ok (.aload_n 0, 1) := by decide +kernel
theorem dX10_outs_1 : decode cX10_outs 1 = .ok (.iload_n 1, 1) := by decide +kernel
theorem dX10_outs_2 : decode cX10_outs 2 = .ok (.invokevirtual 148, 3) := by decide +kernel
theorem dX10_outs_5 : decode cX10_outs 5 = .ok (.ifCond .eq 7, 3) := by decide +kernel
theorem dX10_outs_8 : decode cX10_outs 8 = .ok (.iload_n 2, 1) := by decide +kernel
theorem dX10_outs_9 : decode cX10_outs 9 = .ok (.ifCond .ge 6, 3) := by decide +kernel
theorem dX10_outs_12 : decode cX10_outs 12 = .ok (.bipush (-2), 2) := by decide +kernel
theorem dX10_outs_14 : decode cX10_outs 14 = .ok (.ireturn, 1) := by decide +kernel
theorem dX10_outs_15 : decode cX10_outs 15 = .ok (.aload_n 0, 1) := by decide +kernel
theorem dX10_outs_16 : decode cX10_outs 16 = .ok (.getfield 24, 3) := by decide +kernel
theorem dX10_outs_19 : decode cX10_outs 19 = .ok (.getfield 122, 3) := by decide +kernel
theorem dX10_outs_22 : decode cX10_outs 22 = .ok (.getfield 170, 3) := by decide +kernel
theorem dX10_outs_25 : decode cX10_outs 25 = .ok (.iload_n 1, 1) := by decide +kernel
theorem dX10_outs_26 : decode cX10_outs 26 = .ok (.aaload, 1) := by decide +kernel
theorem dX10_outs_27 : decode cX10_outs 27 = .ok (.astore_n 3, 1) := by decide +kernel
theorem dX10_outs_28 : decode cX10_outs 28 = .ok (.iload_n 2, 1) := by decide +kernel
theorem dX10_outs_29 : decode cX10_outs 29 = .ok (.aload_n 3, 1) := by decide +kernel
theorem dX10_outs_30 : decode cX10_outs 30 = .ok (.getfield 183, 3) := by decide +kernel
theorem dX10_outs_33 : decode cX10_outs 33 = .ok (.if_icmp .ge 12, 3) := by decide +kernel
theorem dX10_outs_36 : decode cX10_outs 36 = .ok (.aload_n 3, 1) := by decide +kernel
theorem dX10_outs_37 : decode cX10_outs 37 = .ok (.getfield 186, 3) := by decide +kernel
theorem dX10_outs_40 : decode cX10_outs 40 = .ok (.iload_n 2, 1) := by decide +kernel
theorem dX10_outs_41 : decode cX10_outs 41 = .ok (.iaload, 1) := by decide +kernel
theorem dX10_outs_42 : decode cX10_outs 42 = .ok (.goto 4, 3) := by decide +kernel
theorem dX10_outs_45 : decode cX10_outs 45 = .ok (.iconst (-1), 1) := by decide +kernel
theorem dX10_outs_46 : decode cX10_outs 46 = .ok (.ireturn, 1) := by decide +kernel
def fX10_outs (a0 : Nat) (a1 : Int32) (a2 : Int32) (M : xMem) : Option (Int32 × xMem) :=
  xBn (fX10_hasTeam a0 a1 M) fun r1 M2 => if r1 = 0 then (some ((-2), M2)) else (if 0 ≤ a2 then (xGb a1 (xln (xrf (xrf (xrf a0 2) 1) 0)) (if (M2.1 (xrf (xrf (xrf (xrf a0 2) 1) 0) (Int32.toNatClampNeg a1)) 5) ≤ a2 then (some ((-1), M2)) else (xGb a2 (xln (xrf (xrf (xrf (xrf (xrf a0 2) 1) 0) (Int32.toNatClampNeg a1)) 3)) (some ((M2.1 (xrf (xrf (xrf (xrf (xrf a0 2) 1) 0) (Int32.toNatClampNeg a1)) 3) (Int32.toNatClampNeg a2)), M2))))) else (some ((-2), M2)))
set_option maxRecDepth 100000 in
set_option maxHeartbeats 4000000 in
theorem zX10_outs (G : xGX) (a0 : Nat) (h0 : xkd a0 = 10) (a1 : Int32) (a2 : Int32) (M : xMem) (r : Int32) (M' : xMem) (h : fX10_outs a0 a1 a2 M = some (r, M')) : xCt G yX10_outs cX10_outs 4 (some .int) 4 [vr G a0, .int a1, .int a2] M (some (.int r), M') := by
  refine xMet (lv := [some (vr G a0), some (.int a1), some (.int a2), none]) (by decide) (Nat.le_of_ble_eq_true rfl) rfl ?_
  intro X hG hnL C R0
  subst hG
  have C : xCk X cX10_outs RX10 4 := C
  have hn3 : 3 < X.2.2.2.2.2.2.2.2.2.2.2.2.2 := by rw [hnL]; decide
  unfold fX10_outs at h
  refine r_aload_n (pc := 0) C dX10_outs_0 rfl rfl ?_
  refine r_iload_n (pc := 1) C dX10_outs_1 rfl rfl ?_
  refine r_vI1 (pc := 2) C (fun r M' e => zX10_hasTeam X.1 a0 h0 a1 M r M' e) h0 (by decide) rfl mX10_hasTeam lX10_148 (by decide) (Nat.le_of_ble_eq_true rfl) dX10_outs_2 h (fun r1 M2 h => ?_)
  refine r_if_eq (pc := 5) (tgt := 12) C dX10_outs_5 (by decide) h (fun _ h => ?_) (fun _ h => ?_)
  · refine r_bipush (pc := 12) (v := (-2)) C dX10_outs_12 (by decide) ?_
    exact r_iret (pc := 14) C R0 h dX10_outs_14
  · refine r_iload_n (pc := 8) C dX10_outs_8 rfl rfl ?_
    refine r_if_ge (pc := 9) (tgt := 15) C dX10_outs_9 (by decide) h (fun _ h => ?_) (fun _ h => ?_)
    · refine r_aload_n (pc := 15) C dX10_outs_15 rfl rfl ?_
      refine r_getR (pc := 16) C kX10_24 h0 (by decide) dX10_outs_16 ?_
      refine r_getR (pc := 19) C kX10_122 (xtk h0 (by decide) rfl rfl) (by decide) dX10_outs_19 ?_
      refine r_getR (pc := 22) C kX10_170 (xtk (xtk h0 (by decide) rfl rfl) (by decide) rfl rfl) (by decide) dX10_outs_22 ?_
      refine r_iload_n (pc := 25) C dX10_outs_25 rfl rfl ?_
      obtain ⟨g3, h⟩ := xGb_of h
      refine r_aaldS (pc := 26) C (xtk (xtk (xtk h0 (by decide) rfl rfl) (by decide) rfl rfl) (by decide) rfl rfl) g3 dX10_outs_26 ?_
      refine r_astore_n (pc := 27) (lv' := [_, _, _, _]) C dX10_outs_27 rfl hn3 rfl ?_
      refine r_iload_n (pc := 28) C dX10_outs_28 rfl rfl ?_
      refine r_aload_n (pc := 29) C dX10_outs_29 rfl rfl ?_
      refine r_getI (pc := 30) C kX10_183 (xkeS (xtk (xtk (xtk h0 (by decide) rfl rfl) (by decide) rfl rfl) (by decide) rfl rfl) (xin_lt g3)) dX10_outs_30 ?_
      refine r_icmp_ge (pc := 33) (tgt := 45) C dX10_outs_33 (by decide) h (fun _ h => ?_) (fun _ h => ?_)
      · refine r_iconst (pc := 45) (v := (-1)) C dX10_outs_45 (by decide) ?_
        exact r_iret (pc := 46) C R0 h dX10_outs_46
      · refine r_aload_n (pc := 36) C dX10_outs_36 rfl rfl ?_
        refine r_getR (pc := 37) C kX10_186 (xkeS (xtk (xtk (xtk h0 (by decide) rfl rfl) (by decide) rfl rfl) (by decide) rfl rfl) (xin_lt g3)) (by decide) dX10_outs_37 ?_
        refine r_iload_n (pc := 40) C dX10_outs_40 rfl rfl ?_
        obtain ⟨g4, h⟩ := xGb_of h
        refine r_iald (pc := 41) C (xtk (xkeS (xtk (xtk (xtk h0 (by decide) rfl rfl) (by decide) rfl rfl) (by decide) rfl rfl) (xin_lt g3)) (by decide) rfl rfl) g4 dX10_outs_41 ?_
        refine r_goto (pc := 42) (tgt := 46) C dX10_outs_42 (by decide) ?_
        exact r_iret (pc := 46) C R0 h dX10_outs_46
    · refine r_bipush (pc := 12) (v := (-2)) C dX10_outs_12 (by decide) ?_
      exact r_iret (pc := 14) C R0 h dX10_outs_14
theorem dX10_wait_0 : decode cX10_wait 0 = .ok (.aload_n 0, 1) := by decide +kernel
theorem dX10_wait_1 : decode cX10_wait 1 = .ok (.iload_n 1, 1) := by decide +kernel
theorem dX10_wait_2 : decode cX10_wait 2 = .ok (.iload_n 2, 1) := by decide +kernel
theorem dX10_wait_3 : decode cX10_wait 3 = .ok (.invokevirtual 160, 3) := by decide +kernel
theorem dX10_wait_6 : decode cX10_wait 6 = .ok (.ifCond .eq 23, 3) := by decide +kernel
theorem dX10_wait_9 : decode cX10_wait 9 = .ok (.aload_n 0, 1) := by decide +kernel
theorem dX10_wait_10 : decode cX10_wait 10 = .ok (.getfield 24, 3) := by decide +kernel
theorem dX10_wait_13 : decode cX10_wait 13 = .ok (.getfield 122, 3) := by decide +kernel
theorem dX10_wait_16 : decode cX10_wait 16 = .ok (.getfield 170, 3) := by decide +kernel
theorem dX10_wait_19 : decode cX10_wait 19 = .ok (.iload_n 1, 1) := by decide +kernel
theorem dX10_wait_20 : decode cX10_wait 20 = .ok (.aaload, 1) := by decide +kernel
theorem dX10_wait_21 : decode cX10_wait 21 = .ok (.getfield 189, 3) := by decide +kernel
theorem dX10_wait_24 : decode cX10_wait 24 = .ok (.iload_n 2, 1) := by decide +kernel
theorem dX10_wait_25 : decode cX10_wait 25 = .ok (.iaload, 1) := by decide +kernel
theorem dX10_wait_26 : decode cX10_wait 26 = .ok (.goto 5, 3) := by decide +kernel
theorem dX10_wait_29 : decode cX10_wait 29 = .ok (.bipush (-2), 2) := by decide +kernel
theorem dX10_wait_31 : decode cX10_wait 31 = .ok (.ireturn, 1) := by decide +kernel
def fX10_wait (a0 : Nat) (a1 : Int32) (a2 : Int32) (M : xMem) : Option (Int32 × xMem) :=
  xBn (fX10_hasPlayer a0 a1 a2 M) fun r1 M2 => if r1 = 0 then (some ((-2), M2)) else (xGb a1 (xln (xrf (xrf (xrf a0 2) 1) 0)) (xGb a2 (xln (xrf (xrf (xrf (xrf (xrf a0 2) 1) 0) (Int32.toNatClampNeg a1)) 1)) (some ((M2.1 (xrf (xrf (xrf (xrf (xrf a0 2) 1) 0) (Int32.toNatClampNeg a1)) 1) (Int32.toNatClampNeg a2)), M2))))
set_option maxRecDepth 100000 in
set_option maxHeartbeats 4000000 in
theorem zX10_wait (G : xGX) (a0 : Nat) (h0 : xkd a0 = 10) (a1 : Int32) (a2 : Int32) (M : xMem) (r : Int32) (M' : xMem) (h : fX10_wait a0 a1 a2 M = some (r, M')) : xCt G yX10_wait cX10_wait 3 (some .int) 5 [vr G a0, .int a1, .int a2] M (some (.int r), M') := by
  refine xMet (lv := [some (vr G a0), some (.int a1), some (.int a2)]) (by decide) (Nat.le_of_ble_eq_true rfl) rfl ?_
  intro X hG hnL C R0
  subst hG
  have C : xCk X cX10_wait RX10 5 := C
  unfold fX10_wait at h
  refine r_aload_n (pc := 0) C dX10_wait_0 rfl rfl ?_
  refine r_iload_n (pc := 1) C dX10_wait_1 rfl rfl ?_
  refine r_iload_n (pc := 2) C dX10_wait_2 rfl rfl ?_
  refine r_vI2 (pc := 3) C (fun r M' e => zX10_hasPlayer X.1 a0 h0 a1 a2 M r M' e) h0 (by decide) rfl mX10_hasPlayer lX10_160 (by decide) (Nat.le_of_ble_eq_true rfl) dX10_wait_3 h (fun r1 M2 h => ?_)
  refine r_if_eq (pc := 6) (tgt := 29) C dX10_wait_6 (by decide) h (fun _ h => ?_) (fun _ h => ?_)
  · refine r_bipush (pc := 29) (v := (-2)) C dX10_wait_29 (by decide) ?_
    exact r_iret (pc := 31) C R0 h dX10_wait_31
  · refine r_aload_n (pc := 9) C dX10_wait_9 rfl rfl ?_
    refine r_getR (pc := 10) C kX10_24 h0 (by decide) dX10_wait_10 ?_
    refine r_getR (pc := 13) C kX10_122 (xtk h0 (by decide) rfl rfl) (by decide) dX10_wait_13 ?_
    refine r_getR (pc := 16) C kX10_170 (xtk (xtk h0 (by decide) rfl rfl) (by decide) rfl rfl) (by decide) dX10_wait_16 ?_
    refine r_iload_n (pc := 19) C dX10_wait_19 rfl rfl ?_
    obtain ⟨g3, h⟩ := xGb_of h
    refine r_aaldS (pc := 20) C (xtk (xtk (xtk h0 (by decide) rfl rfl) (by decide) rfl rfl) (by decide) rfl rfl) g3 dX10_wait_20 ?_
    refine r_getR (pc := 21) C kX10_189 (xkeS (xtk (xtk (xtk h0 (by decide) rfl rfl) (by decide) rfl rfl) (by decide) rfl rfl) (xin_lt g3)) (by decide) dX10_wait_21 ?_
    refine r_iload_n (pc := 24) C dX10_wait_24 rfl rfl ?_
    obtain ⟨g4, h⟩ := xGb_of h
    refine r_iald (pc := 25) C (xtk (xkeS (xtk (xtk (xtk h0 (by decide) rfl rfl) (by decide) rfl rfl) (by decide) rfl rfl) (xin_lt g3)) (by decide) rfl rfl) g4 dX10_wait_25 ?_
    refine r_goto (pc := 26) (tgt := 31) C dX10_wait_26 (by decide) ?_
    exact r_iret (pc := 31) C R0 h dX10_wait_31
theorem dX10_score_0 : decode cX10_score 0 = .ok (.aload_n 0, 1) := by decide +kernel
theorem dX10_score_1 : decode cX10_score 1 = .ok (.iload_n 1, 1) := by decide +kernel
theorem dX10_score_2 : decode cX10_score 2 = .ok (.invokevirtual 148, 3) := by decide +kernel
theorem dX10_score_5 : decode cX10_score 5 = .ok (.ifCond .eq 21, 3) := by decide +kernel
theorem dX10_score_8 : decode cX10_score 8 = .ok (.aload_n 0, 1) := by decide +kernel
theorem dX10_score_9 : decode cX10_score 9 = .ok (.getfield 24, 3) := by decide +kernel
theorem dX10_score_12 : decode cX10_score 12 = .ok (.getfield 122, 3) := by decide +kernel
theorem dX10_score_15 : decode cX10_score 15 = .ok (.getfield 170, 3) := by decide +kernel
theorem dX10_score_18 : decode cX10_score 18 = .ok (.iload_n 1, 1) := by decide +kernel
theorem dX10_score_19 : decode cX10_score 19 = .ok (.aaload, 1) := by decide +kernel
theorem dX10_score_20 : decode cX10_score 20 = .ok (.getfield 192, 3) := by decide +kernel
theorem dX10_score_23 : decode cX10_score 23 = .ok (.goto 5, 3) := by decide +kernel
theorem dX10_score_26 : decode cX10_score 26 = .ok (.bipush (-2), 2) := by decide +kernel
theorem dX10_score_28 : decode cX10_score 28 = .ok (.ireturn, 1) := by decide +kernel
def fX10_score (a0 : Nat) (a1 : Int32) (M : xMem) : Option (Int32 × xMem) :=
  xBn (fX10_hasTeam a0 a1 M) fun r1 M2 => if r1 = 0 then (some ((-2), M2)) else (xGb a1 (xln (xrf (xrf (xrf a0 2) 1) 0)) (some ((M2.1 (xrf (xrf (xrf (xrf a0 2) 1) 0) (Int32.toNatClampNeg a1)) 6), M2)))
set_option maxRecDepth 100000 in
set_option maxHeartbeats 4000000 in
theorem zX10_score (G : xGX) (a0 : Nat) (h0 : xkd a0 = 10) (a1 : Int32) (M : xMem) (r : Int32) (M' : xMem) (h : fX10_score a0 a1 M = some (r, M')) : xCt G yX10_score cX10_score 2 (some .int) 4 [vr G a0, .int a1] M (some (.int r), M') := by
  refine xMet (lv := [some (vr G a0), some (.int a1)]) (by decide) (Nat.le_of_ble_eq_true rfl) rfl ?_
  intro X hG hnL C R0
  subst hG
  have C : xCk X cX10_score RX10 4 := C
  unfold fX10_score at h
  refine r_aload_n (pc := 0) C dX10_score_0 rfl rfl ?_
  refine r_iload_n (pc := 1) C dX10_score_1 rfl rfl ?_
  refine r_vI1 (pc := 2) C (fun r M' e => zX10_hasTeam X.1 a0 h0 a1 M r M' e) h0 (by decide) rfl mX10_hasTeam lX10_148 (by decide) (Nat.le_of_ble_eq_true rfl) dX10_score_2 h (fun r1 M2 h => ?_)
  refine r_if_eq (pc := 5) (tgt := 26) C dX10_score_5 (by decide) h (fun _ h => ?_) (fun _ h => ?_)
  · refine r_bipush (pc := 26) (v := (-2)) C dX10_score_26 (by decide) ?_
    exact r_iret (pc := 28) C R0 h dX10_score_28
  · refine r_aload_n (pc := 8) C dX10_score_8 rfl rfl ?_
    refine r_getR (pc := 9) C kX10_24 h0 (by decide) dX10_score_9 ?_
    refine r_getR (pc := 12) C kX10_122 (xtk h0 (by decide) rfl rfl) (by decide) dX10_score_12 ?_
    refine r_getR (pc := 15) C kX10_170 (xtk (xtk h0 (by decide) rfl rfl) (by decide) rfl rfl) (by decide) dX10_score_15 ?_
    refine r_iload_n (pc := 18) C dX10_score_18 rfl rfl ?_
    obtain ⟨g3, h⟩ := xGb_of h
    refine r_aaldS (pc := 19) C (xtk (xtk (xtk h0 (by decide) rfl rfl) (by decide) rfl rfl) (by decide) rfl rfl) g3 dX10_score_19 ?_
    refine r_getI (pc := 20) C kX10_192 (xkeS (xtk (xtk (xtk h0 (by decide) rfl rfl) (by decide) rfl rfl) (by decide) rfl rfl) (xin_lt g3)) dX10_score_20 ?_
    refine r_goto (pc := 23) (tgt := 28) C dX10_score_23 (by decide) ?_
    exact r_iret (pc := 28) C R0 h dX10_score_28
theorem dX10_turn_0 : decode cX10_turn 0 = .ok (.aload_n 0, 1) := by decide +kernel
theorem dX10_turn_1 : decode cX10_turn 1 = .ok (.getfield 24, 3) := by decide +kernel
theorem dX10_turn_4 : decode cX10_turn 4 = .ok (.invokevirtual 135, 3) := by decide +kernel
theorem dX10_turn_7 : decode cX10_turn 7 = .ok (.ifCond .ne 6, 3) := by decide +kernel
theorem dX10_turn_10 : decode cX10_turn 10 = .ok (.bipush (-2), 2) := by decide +kernel
theorem dX10_turn_12 : decode cX10_turn 12 = .ok (.ireturn, 1) := by decide +kernel
theorem dX10_turn_13 : decode cX10_turn 13 = .ok (.aload_n 0, 1) := by decide +kernel
theorem dX10_turn_14 : decode cX10_turn 14 = .ok (.getfield 24, 3) := by decide +kernel
theorem dX10_turn_17 : decode cX10_turn 17 = .ok (.getfield 122, 3) := by decide +kernel
theorem dX10_turn_20 : decode cX10_turn 20 = .ok (.invokevirtual 195, 3) := by decide +kernel
theorem dX10_turn_23 : decode cX10_turn 23 = .ok (.ifCond .eq 7, 3) := by decide +kernel
theorem dX10_turn_26 : decode cX10_turn 26 = .ok (.iconst (-1), 1) := by decide +kernel
theorem dX10_turn_27 : decode cX10_turn 27 = .ok (.goto 13, 3) := by decide +kernel
theorem dX10_turn_30 : decode cX10_turn 30 = .ok (.aload_n 0, 1) := by decide +kernel
theorem dX10_turn_31 : decode cX10_turn 31 = .ok (.getfield 24, 3) := by decide +kernel
theorem dX10_turn_34 : decode cX10_turn 34 = .ok (.getfield 122, 3) := by decide +kernel
theorem dX10_turn_37 : decode cX10_turn 37 = .ok (.getfield 198, 3) := by decide +kernel
theorem dX10_turn_40 : decode cX10_turn 40 = .ok (.ireturn, 1) := by decide +kernel
def fX10_turn (a0 : Nat) (M : xMem) : Option (Int32 × xMem) :=
  xBn (fX2_isTold (xrf a0 2) M) fun r1 M2 => if r1 = 0 then (some ((-2), M2)) else (xBn (fX8_isOver (xrf (xrf a0 2) 1) M2) fun r3 M4 => if r3 = 0 then (some ((M4.1 (xrf (xrf a0 2) 1) 1), M4)) else (some ((-1), M4)))
set_option maxRecDepth 100000 in
set_option maxHeartbeats 4000000 in
theorem zX10_turn (G : xGX) (a0 : Nat) (h0 : xkd a0 = 10) (M : xMem) (r : Int32) (M' : xMem) (h : fX10_turn a0 M = some (r, M')) : xCt G yX10_turn cX10_turn 1 (some .int) 3 [vr G a0] M (some (.int r), M') := by
  refine xMet (lv := [some (vr G a0)]) (by decide) (Nat.le_of_ble_eq_true rfl) rfl ?_
  intro X hG hnL C R0
  subst hG
  have C : xCk X cX10_turn RX10 3 := C
  unfold fX10_turn at h
  refine r_aload_n (pc := 0) C dX10_turn_0 rfl rfl ?_
  refine r_getR (pc := 1) C kX10_24 h0 (by decide) dX10_turn_1 ?_
  refine r_vI0 (pc := 4) C (fun r M' e => zX2_isTold X.1 (xrf a0 2) (xtk h0 (by decide) rfl rfl) M r M' e) (xtk h0 (by decide) rfl rfl) (by decide) rfl mX2_isTold lX10_135 (by decide) (Nat.le_of_ble_eq_true rfl) dX10_turn_4 h (fun r1 M2 h => ?_)
  refine r_if_ne (pc := 7) (tgt := 13) C dX10_turn_7 (by decide) h (fun _ h => ?_) (fun _ h => ?_)
  · refine r_aload_n (pc := 13) C dX10_turn_13 rfl rfl ?_
    refine r_getR (pc := 14) C kX10_24 h0 (by decide) dX10_turn_14 ?_
    refine r_getR (pc := 17) C kX10_122 (xtk h0 (by decide) rfl rfl) (by decide) dX10_turn_17 ?_
    refine r_vI0 (pc := 20) C (fun r M' e => zX8_isOver X.1 (xrf (xrf a0 2) 1) (xtk (xtk h0 (by decide) rfl rfl) (by decide) rfl rfl) M2 r M' e) (xtk (xtk h0 (by decide) rfl rfl) (by decide) rfl rfl) (by decide) rfl mX8_isOver lX10_195 (by decide) (Nat.le_of_ble_eq_true rfl) dX10_turn_20 h (fun r3 M4 h => ?_)
    refine r_if_eq (pc := 23) (tgt := 30) C dX10_turn_23 (by decide) h (fun _ h => ?_) (fun _ h => ?_)
    · refine r_aload_n (pc := 30) C dX10_turn_30 rfl rfl ?_
      refine r_getR (pc := 31) C kX10_24 h0 (by decide) dX10_turn_31 ?_
      refine r_getR (pc := 34) C kX10_122 (xtk h0 (by decide) rfl rfl) (by decide) dX10_turn_34 ?_
      refine r_getI (pc := 37) C kX10_198 (xtk (xtk h0 (by decide) rfl rfl) (by decide) rfl rfl) dX10_turn_37 ?_
      exact r_iret (pc := 40) C R0 h dX10_turn_40
    · refine r_iconst (pc := 26) (v := (-1)) C dX10_turn_26 (by decide) ?_
      refine r_goto (pc := 27) (tgt := 40) C dX10_turn_27 (by decide) ?_
      exact r_iret (pc := 40) C R0 h dX10_turn_40
  · refine r_bipush (pc := 10) (v := (-2)) C dX10_turn_10 (by decide) ?_
    exact r_iret (pc := 12) C R0 h dX10_turn_12
theorem dX10_empties_0 : decode cX10_empties 0 = .ok (.aload_n 0, 1) := by decide +kernel
theorem dX10_empties_1 : decode cX10_empties 1 = .ok (.iload_n 1, 1) := by decide +kernel
theorem dX10_empties_2 : decode cX10_empties 2 = .ok (.invokevirtual 148, 3) := by decide +kernel
theorem dX10_empties_5 : decode cX10_empties 5 = .ok (.ifCond .eq 21, 3) := by decide +kernel
theorem dX10_empties_8 : decode cX10_empties 8 = .ok (.aload_n 0, 1) := by decide +kernel
theorem dX10_empties_9 : decode cX10_empties 9 = .ok (.getfield 24, 3) := by decide +kernel
theorem dX10_empties_12 : decode cX10_empties 12 = .ok (.getfield 122, 3) := by decide +kernel
theorem dX10_empties_15 : decode cX10_empties 15 = .ok (.getfield 170, 3) := by decide +kernel
theorem dX10_empties_18 : decode cX10_empties 18 = .ok (.iload_n 1, 1) := by decide +kernel
theorem dX10_empties_19 : decode cX10_empties 19 = .ok (.aaload, 1) := by decide +kernel
theorem dX10_empties_20 : decode cX10_empties 20 = .ok (.getfield 201, 3) := by decide +kernel
theorem dX10_empties_23 : decode cX10_empties 23 = .ok (.goto 5, 3) := by decide +kernel
theorem dX10_empties_26 : decode cX10_empties 26 = .ok (.bipush (-2), 2) := by decide +kernel
theorem dX10_empties_28 : decode cX10_empties 28 = .ok (.ireturn, 1) := by decide +kernel
def fX10_empties (a0 : Nat) (a1 : Int32) (M : xMem) : Option (Int32 × xMem) :=
  xBn (fX10_hasTeam a0 a1 M) fun r1 M2 => if r1 = 0 then (some ((-2), M2)) else (xGb a1 (xln (xrf (xrf (xrf a0 2) 1) 0)) (some ((M2.1 (xrf (xrf (xrf (xrf a0 2) 1) 0) (Int32.toNatClampNeg a1)) 7), M2)))
set_option maxRecDepth 100000 in
set_option maxHeartbeats 4000000 in
theorem zX10_empties (G : xGX) (a0 : Nat) (h0 : xkd a0 = 10) (a1 : Int32) (M : xMem) (r : Int32) (M' : xMem) (h : fX10_empties a0 a1 M = some (r, M')) : xCt G yX10_empties cX10_empties 2 (some .int) 4 [vr G a0, .int a1] M (some (.int r), M') := by
  refine xMet (lv := [some (vr G a0), some (.int a1)]) (by decide) (Nat.le_of_ble_eq_true rfl) rfl ?_
  intro X hG hnL C R0
  subst hG
  have C : xCk X cX10_empties RX10 4 := C
  unfold fX10_empties at h
  refine r_aload_n (pc := 0) C dX10_empties_0 rfl rfl ?_
  refine r_iload_n (pc := 1) C dX10_empties_1 rfl rfl ?_
  refine r_vI1 (pc := 2) C (fun r M' e => zX10_hasTeam X.1 a0 h0 a1 M r M' e) h0 (by decide) rfl mX10_hasTeam lX10_148 (by decide) (Nat.le_of_ble_eq_true rfl) dX10_empties_2 h (fun r1 M2 h => ?_)
  refine r_if_eq (pc := 5) (tgt := 26) C dX10_empties_5 (by decide) h (fun _ h => ?_) (fun _ h => ?_)
  · refine r_bipush (pc := 26) (v := (-2)) C dX10_empties_26 (by decide) ?_
    exact r_iret (pc := 28) C R0 h dX10_empties_28
  · refine r_aload_n (pc := 8) C dX10_empties_8 rfl rfl ?_
    refine r_getR (pc := 9) C kX10_24 h0 (by decide) dX10_empties_9 ?_
    refine r_getR (pc := 12) C kX10_122 (xtk h0 (by decide) rfl rfl) (by decide) dX10_empties_12 ?_
    refine r_getR (pc := 15) C kX10_170 (xtk (xtk h0 (by decide) rfl rfl) (by decide) rfl rfl) (by decide) dX10_empties_15 ?_
    refine r_iload_n (pc := 18) C dX10_empties_18 rfl rfl ?_
    obtain ⟨g3, h⟩ := xGb_of h
    refine r_aaldS (pc := 19) C (xtk (xtk (xtk h0 (by decide) rfl rfl) (by decide) rfl rfl) (by decide) rfl rfl) g3 dX10_empties_19 ?_
    refine r_getI (pc := 20) C kX10_201 (xkeS (xtk (xtk (xtk h0 (by decide) rfl rfl) (by decide) rfl rfl) (by decide) rfl rfl) (xin_lt g3)) dX10_empties_20 ?_
    refine r_goto (pc := 23) (tgt := 28) C dX10_empties_23 (by decide) ?_
    exact r_iret (pc := 28) C R0 h dX10_empties_28
theorem dX10_bonus_0 : decode cX10_bonus 0 = .ok (.aload_n 0, 1) := by decide +kernel
theorem dX10_bonus_1 : decode cX10_bonus 1 = .ok (.getfield 24, 3) := by decide +kernel
theorem dX10_bonus_4 : decode cX10_bonus 4 = .ok (.invokevirtual 135, 3) := by decide +kernel
theorem dX10_bonus_7 : decode cX10_bonus 7 = .ok (.ifCond .ne 6, 3) := by decide +kernel
theorem dX10_bonus_10 : decode cX10_bonus 10 = .ok (.bipush (-2), 2) := by decide +kernel
theorem dX10_bonus_12 : decode cX10_bonus 12 = .ok (.ireturn, 1) := by decide +kernel
theorem dX10_bonus_13 : decode cX10_bonus 13 = .ok (.aload_n 0, 1) := by decide +kernel
theorem dX10_bonus_14 : decode cX10_bonus 14 = .ok (.getfield 24, 3) := by decide +kernel
theorem dX10_bonus_17 : decode cX10_bonus 17 = .ok (.getfield 122, 3) := by decide +kernel
theorem dX10_bonus_20 : decode cX10_bonus 20 = .ok (.invokevirtual 195, 3) := by decide +kernel
theorem dX10_bonus_23 : decode cX10_bonus 23 = .ok (.ifCond .eq 5, 3) := by decide +kernel
theorem dX10_bonus_26 : decode cX10_bonus 26 = .ok (.iconst (-1), 1) := by decide +kernel
theorem dX10_bonus_27 : decode cX10_bonus 27 = .ok (.ireturn, 1) := by decide +kernel
theorem dX10_bonus_28 : decode cX10_bonus 28 = .ok (.aload_n 0, 1) := by decide +kernel
theorem dX10_bonus_29 : decode cX10_bonus 29 = .ok (.getfield 24, 3) := by decide +kernel
theorem dX10_bonus_32 : decode cX10_bonus 32 = .ok (.getfield 122, 3) := by decide +kernel
theorem dX10_bonus_35 : decode cX10_bonus 35 = .ok (.invokevirtual 204, 3) := by decide +kernel
theorem dX10_bonus_38 : decode cX10_bonus 38 = .ok (.ifCond .eq 7, 3) := by decide +kernel
theorem dX10_bonus_41 : decode cX10_bonus 41 = .ok (.iconst 1, 1) := by decide +kernel
theorem dX10_bonus_42 : decode cX10_bonus 42 = .ok (.goto 4, 3) := by decide +kernel
theorem dX10_bonus_45 : decode cX10_bonus 45 = .ok (.iconst 0, 1) := by decide +kernel
theorem dX10_bonus_46 : decode cX10_bonus 46 = .ok (.ireturn, 1) := by decide +kernel
def fX10_bonus (a0 : Nat) (M : xMem) : Option (Int32 × xMem) :=
  xBn (fX2_isTold (xrf a0 2) M) fun r1 M2 => if r1 = 0 then (some ((-2), M2)) else (xBn (fX8_isOver (xrf (xrf a0 2) 1) M2) fun r3 M4 => if r3 = 0 then (xBn (fX8_isBonusOpen (xrf (xrf a0 2) 1) M4) fun r5 M6 => if r5 = 0 then (some ((nI 0), M6)) else (some ((nI 1), M6))) else (some ((-1), M4)))
set_option maxRecDepth 100000 in
set_option maxHeartbeats 4000000 in
theorem zX10_bonus (G : xGX) (a0 : Nat) (h0 : xkd a0 = 10) (M : xMem) (r : Int32) (M' : xMem) (h : fX10_bonus a0 M = some (r, M')) : xCt G yX10_bonus cX10_bonus 1 (some .int) 3 [vr G a0] M (some (.int r), M') := by
  refine xMet (lv := [some (vr G a0)]) (by decide) (Nat.le_of_ble_eq_true rfl) rfl ?_
  intro X hG hnL C R0
  subst hG
  have C : xCk X cX10_bonus RX10 3 := C
  unfold fX10_bonus at h
  refine r_aload_n (pc := 0) C dX10_bonus_0 rfl rfl ?_
  refine r_getR (pc := 1) C kX10_24 h0 (by decide) dX10_bonus_1 ?_
  refine r_vI0 (pc := 4) C (fun r M' e => zX2_isTold X.1 (xrf a0 2) (xtk h0 (by decide) rfl rfl) M r M' e) (xtk h0 (by decide) rfl rfl) (by decide) rfl mX2_isTold lX10_135 (by decide) (Nat.le_of_ble_eq_true rfl) dX10_bonus_4 h (fun r1 M2 h => ?_)
  refine r_if_ne (pc := 7) (tgt := 13) C dX10_bonus_7 (by decide) h (fun _ h => ?_) (fun _ h => ?_)
  · refine r_aload_n (pc := 13) C dX10_bonus_13 rfl rfl ?_
    refine r_getR (pc := 14) C kX10_24 h0 (by decide) dX10_bonus_14 ?_
    refine r_getR (pc := 17) C kX10_122 (xtk h0 (by decide) rfl rfl) (by decide) dX10_bonus_17 ?_
    refine r_vI0 (pc := 20) C (fun r M' e => zX8_isOver X.1 (xrf (xrf a0 2) 1) (xtk (xtk h0 (by decide) rfl rfl) (by decide) rfl rfl) M2 r M' e) (xtk (xtk h0 (by decide) rfl rfl) (by decide) rfl rfl) (by decide) rfl mX8_isOver lX10_195 (by decide) (Nat.le_of_ble_eq_true rfl) dX10_bonus_20 h (fun r3 M4 h => ?_)
    refine r_if_eq (pc := 23) (tgt := 28) C dX10_bonus_23 (by decide) h (fun _ h => ?_) (fun _ h => ?_)
    · refine r_aload_n (pc := 28) C dX10_bonus_28 rfl rfl ?_
      refine r_getR (pc := 29) C kX10_24 h0 (by decide) dX10_bonus_29 ?_
      refine r_getR (pc := 32) C kX10_122 (xtk h0 (by decide) rfl rfl) (by decide) dX10_bonus_32 ?_
      refine r_vI0 (pc := 35) C (fun r M' e => zX8_isBonusOpen X.1 (xrf (xrf a0 2) 1) (xtk (xtk h0 (by decide) rfl rfl) (by decide) rfl rfl) M4 r M' e) (xtk (xtk h0 (by decide) rfl rfl) (by decide) rfl rfl) (by decide) rfl mX8_isBonusOpen lX10_204 (by decide) (Nat.le_of_ble_eq_true rfl) dX10_bonus_35 h (fun r5 M6 h => ?_)
      refine r_if_eq (pc := 38) (tgt := 45) C dX10_bonus_38 (by decide) h (fun _ h => ?_) (fun _ h => ?_)
      · refine r_iconst (pc := 45) (v := (nI 0)) C dX10_bonus_45 (by decide) ?_
        exact r_iret (pc := 46) C R0 h dX10_bonus_46
      · refine r_iconst (pc := 41) (v := (nI 1)) C dX10_bonus_41 (by decide) ?_
        refine r_goto (pc := 42) (tgt := 46) C dX10_bonus_42 (by decide) ?_
        exact r_iret (pc := 46) C R0 h dX10_bonus_46
    · refine r_iconst (pc := 26) (v := (-1)) C dX10_bonus_26 (by decide) ?_
      exact r_iret (pc := 27) C R0 h dX10_bonus_27
  · refine r_bipush (pc := 10) (v := (-2)) C dX10_bonus_10 (by decide) ?_
    exact r_iret (pc := 12) C R0 h dX10_bonus_12
theorem dX10_of_0 : decode cX10_of 0 = .ok (.aload_n 0, 1) := by decide +kernel
theorem dX10_of_1 : decode cX10_of 1 = .ok (.iload_n 1, 1) := by decide +kernel
theorem dX10_of_2 : decode cX10_of 2 = .ok (.iload_n 2, 1) := by decide +kernel
theorem dX10_of_3 : decode cX10_of 3 = .ok (.invokevirtual 160, 3) := by decide +kernel
theorem dX10_of_6 : decode cX10_of 6 = .ok (.ifCond .eq 13, 3) := by decide +kernel
theorem dX10_of_9 : decode cX10_of 9 = .ok (.iload_n 3, 1) := by decide +kernel
theorem dX10_of_10 : decode cX10_of 10 = .ok (.iconst 0, 1) := by decide +kernel
theorem dX10_of_11 : decode cX10_of 11 = .ok (.bipush 7, 2) := by decide +kernel
theorem dX10_of_13 : decode cX10_of 13 = .ok (.invokestatic 152, 3) := by decide +kernel
theorem dX10_of_16 : decode cX10_of 16 = .ok (.ifCond .ne 6, 3) := by decide +kernel
theorem dX10_of_19 : decode cX10_of 19 = .ok (.bipush (-2), 2) := by decide +kernel
theorem dX10_of_21 : decode cX10_of 21 = .ok (.ireturn, 1) := by decide +kernel
theorem dX10_of_22 : decode cX10_of 22 = .ok (.aload_n 0, 1) := by decide +kernel
theorem dX10_of_23 : decode cX10_of 23 = .ok (.getfield 24, 3) := by decide +kernel
theorem dX10_of_26 : decode cX10_of 26 = .ok (.iload_n 1, 1) := by decide +kernel
theorem dX10_of_27 : decode cX10_of 27 = .ok (.iload_n 2, 1) := by decide +kernel
theorem dX10_of_28 : decode cX10_of 28 = .ok (.iload_n 3, 1) := by decide +kernel
theorem dX10_of_29 : decode cX10_of 29 = .ok (.invokevirtual 207, 3) := by decide +kernel
theorem dX10_of_32 : decode cX10_of 32 = .ok (.ireturn, 1) := by decide +kernel
def fX10_of (a0 : Nat) (a1 : Int32) (a2 : Int32) (a3 : Int32) (M : xMem) : Option (Int32 × xMem) :=
  xBn (fX10_hasPlayer a0 a1 a2 M) fun r1 M2 => if r1 = 0 then (some ((-2), M2)) else (xBn (fX10_isWithin a3 (nI 0) (nI 7) M2) fun r3 M4 => if r3 = 0 then (some ((-2), M4)) else (xBn (fX2_tallyOf (xrf a0 2) a1 a2 a3 M4) fun r5 M6 => some (r5, M6)))
set_option maxRecDepth 100000 in
set_option maxHeartbeats 4000000 in
theorem zX10_of (G : xGX) (a0 : Nat) (h0 : xkd a0 = 10) (a1 : Int32) (a2 : Int32) (a3 : Int32) (M : xMem) (r : Int32) (M' : xMem) (h : fX10_of a0 a1 a2 a3 M = some (r, M')) : xCt G yX10_of cX10_of 4 (some .int) 5 [vr G a0, .int a1, .int a2, .int a3] M (some (.int r), M') := by
  refine xMet (lv := [some (vr G a0), some (.int a1), some (.int a2), some (.int a3)]) (by decide) (Nat.le_of_ble_eq_true rfl) rfl ?_
  intro X hG hnL C R0
  subst hG
  have C : xCk X cX10_of RX10 5 := C
  unfold fX10_of at h
  refine r_aload_n (pc := 0) C dX10_of_0 rfl rfl ?_
  refine r_iload_n (pc := 1) C dX10_of_1 rfl rfl ?_
  refine r_iload_n (pc := 2) C dX10_of_2 rfl rfl ?_
  refine r_vI2 (pc := 3) C (fun r M' e => zX10_hasPlayer X.1 a0 h0 a1 a2 M r M' e) h0 (by decide) rfl mX10_hasPlayer lX10_160 (by decide) (Nat.le_of_ble_eq_true rfl) dX10_of_3 h (fun r1 M2 h => ?_)
  refine r_if_eq (pc := 6) (tgt := 19) C dX10_of_6 (by decide) h (fun _ h => ?_) (fun _ h => ?_)
  · refine r_bipush (pc := 19) (v := (-2)) C dX10_of_19 (by decide) ?_
    exact r_iret (pc := 21) C R0 h dX10_of_21
  · refine r_iload_n (pc := 9) C dX10_of_9 rfl rfl ?_
    refine r_iconst (pc := 10) (v := (nI 0)) C dX10_of_10 (by decide) ?_
    refine r_bipush (pc := 11) (v := (nI 7)) C dX10_of_11 (by decide) ?_
    refine r_sI3 (pc := 13) C (fun r M' e => zX10_isWithin X.1 a3 (nI 0) (nI 7) M2 r M' e) mX10_isWithin lX10_152 (by decide) (Nat.le_of_ble_eq_true rfl) dX10_of_13 h (fun r3 M4 h => ?_)
    refine r_if_ne (pc := 16) (tgt := 22) C dX10_of_16 (by decide) h (fun _ h => ?_) (fun _ h => ?_)
    · refine r_aload_n (pc := 22) C dX10_of_22 rfl rfl ?_
      refine r_getR (pc := 23) C kX10_24 h0 (by decide) dX10_of_23 ?_
      refine r_iload_n (pc := 26) C dX10_of_26 rfl rfl ?_
      refine r_iload_n (pc := 27) C dX10_of_27 rfl rfl ?_
      refine r_iload_n (pc := 28) C dX10_of_28 rfl rfl ?_
      refine r_vI3 (pc := 29) C (fun r M' e => zX2_tallyOf X.1 (xrf a0 2) (xtk h0 (by decide) rfl rfl) a1 a2 a3 M4 r M' e) (xtk h0 (by decide) rfl rfl) (by decide) rfl mX2_tallyOf lX10_207 (by decide) (Nat.le_of_ble_eq_true rfl) dX10_of_29 h (fun r5 M6 h => ?_)
      exact r_iret (pc := 32) C R0 h dX10_of_32
    · refine r_bipush (pc := 19) (v := (-2)) C dX10_of_19 (by decide) ?_
      exact r_iret (pc := 21) C R0 h dX10_of_21
theorem dX10_some_0 : decode cX10_some 0 = .ok (.aload_n 0, 1) := by decide +kernel
theorem dX10_some_1 : decode cX10_some 1 = .ok (.iload_n 1, 1) := by decide +kernel
theorem dX10_some_2 : decode cX10_some 2 = .ok (.invokevirtual 148, 3) := by decide +kernel
theorem dX10_some_5 : decode cX10_some 5 = .ok (.ifCond .eq 13, 3) := by decide +kernel
theorem dX10_some_8 : decode cX10_some 8 = .ok (.iload_n 2, 1) := by decide +kernel
theorem dX10_some_9 : decode cX10_some 9 = .ok (.iconst 0, 1) := by decide +kernel
theorem dX10_some_10 : decode cX10_some 10 = .ok (.bipush 7, 2) := by decide +kernel
theorem dX10_some_12 : decode cX10_some 12 = .ok (.invokestatic 152, 3) := by decide +kernel
theorem dX10_some_15 : decode cX10_some 15 = .ok (.ifCond .ne 6, 3) := by decide +kernel
theorem dX10_some_18 : decode cX10_some 18 = .ok (.bipush (-2), 2) := by decide +kernel
theorem dX10_some_20 : decode cX10_some 20 = .ok (.ireturn, 1) := by decide +kernel
theorem dX10_some_21 : decode cX10_some 21 = .ok (.iconst 0, 1) := by decide +kernel
theorem dX10_some_22 : decode cX10_some 22 = .ok (.istore_n 3, 1) := by decide +kernel
theorem dX10_some_23 : decode cX10_some 23 = .ok (.iconst 0, 1) := by decide +kernel
theorem dX10_some_24 : decode cX10_some 24 = .ok (.istore 4, 2) := by decide +kernel
theorem dX10_some_26 : decode cX10_some 26 = .ok (.iload 4, 2) := by decide +kernel
theorem dX10_some_28 : decode cX10_some 28 = .ok (.aload_n 0, 1) := by decide +kernel
theorem dX10_some_29 : decode cX10_some 29 = .ok (.getfield 24, 3) := by decide +kernel
theorem dX10_some_32 : decode cX10_some 32 = .ok (.getfield 82, 3) := by decide +kernel
theorem dX10_some_35 : decode cX10_some 35 = .ok (.getfield 104, 3) := by decide +kernel
theorem dX10_some_38 : decode cX10_some 38 = .ok (.iload_n 1, 1) := by decide +kernel
theorem dX10_some_39 : decode cX10_some 39 = .ok (.invokevirtual 108, 3) := by decide +kernel
theorem dX10_some_42 : decode cX10_some 42 = .ok (.if_icmp .ge 30, 3) := by decide +kernel
theorem dX10_some_45 : decode cX10_some 45 = .ok (.aload_n 0, 1) := by decide +kernel
theorem dX10_some_46 : decode cX10_some 46 = .ok (.getfield 24, 3) := by decide +kernel
theorem dX10_some_49 : decode cX10_some 49 = .ok (.iload_n 1, 1) := by decide +kernel
theorem dX10_some_50 : decode cX10_some 50 = .ok (.iload 4, 2) := by decide +kernel
theorem dX10_some_52 : decode cX10_some 52 = .ok (.iload_n 2, 1) := by decide +kernel
theorem dX10_some_53 : decode cX10_some 53 = .ok (.invokevirtual 207, 3) := by decide +kernel
theorem dX10_some_56 : decode cX10_some 56 = .ok (.ifCond .le 10, 3) := by decide +kernel
theorem dX10_some_59 : decode cX10_some 59 = .ok (.iload_n 3, 1) := by decide +kernel
theorem dX10_some_60 : decode cX10_some 60 = .ok (.iconst 1, 1) := by decide +kernel
theorem dX10_some_61 : decode cX10_some 61 = .ok (.iload 4, 2) := by decide +kernel
theorem dX10_some_63 : decode cX10_some 63 = .ok (.ishl, 1) := by decide +kernel
theorem dX10_some_64 : decode cX10_some 64 = .ok (.ior, 1) := by decide +kernel
theorem dX10_some_65 : decode cX10_some 65 = .ok (.istore_n 3, 1) := by decide +kernel
theorem dX10_some_66 : decode cX10_some 66 = .ok (.iinc 4 1, 3) := by decide +kernel
theorem dX10_some_69 : decode cX10_some 69 = .ok (.goto (-43), 3) := by decide +kernel
theorem dX10_some_72 : decode cX10_some 72 = .ok (.iload_n 3, 1) := by decide +kernel
theorem dX10_some_73 : decode cX10_some 73 = .ok (.ireturn, 1) := by decide +kernel
def fX10_some_l26 (p0 : Nat) (p1 : Int32) (p2 : Int32) (K : Int32 → Int32 → xMem → Option (Int32 × xMem)) : Nat → Int32 → Int32 → xMem → Option (Int32 × xMem)
  | 0, _, _, _ => none
  | n + 1, v3, v4, M => xBn (fX5_sizeOf (xrf (xrf (xrf p0 2) 0) 0) p1 M) fun r5 M6 => if r5 ≤ v4 then (K v3 v4 M6) else (xBn (fX2_tallyOf (xrf p0 2) p1 v4 p2 M6) fun r7 M8 => if r7 ≤ 0 then (xLt (v4 + nI 1) fun x9 => fX10_some_l26 p0 p1 p2 K n v3 x9 M8) else (xLt (v3 ||| ((nI 1) <<< (v4 &&& 31))) fun x10 => xLt (v4 + nI 1) fun x11 => fX10_some_l26 p0 p1 p2 K n x10 x11 M8))
def fX10_some (a0 : Nat) (a1 : Int32) (a2 : Int32) (M : xMem) : Option (Int32 × xMem) :=
  xBn (fX10_hasTeam a0 a1 M) fun r1 M2 => if r1 = 0 then (some ((-2), M2)) else (xBn (fX10_isWithin a2 (nI 0) (nI 7) M2) fun r3 M4 => if r3 = 0 then (some ((-2), M4)) else (fX10_some_l26 a0 a1 a2 (fun (v12 : Int32) (v13 : Int32) (M14 : xMem) => some (v12, M14)) xFU (nI 0) (nI 0) M4))
set_option maxRecDepth 100000 in
set_option maxHeartbeats 4000000 in
theorem lX10_some_26 {X : xCX} {r : Int32} {M' : xMem} (C : xCk X cX10_some RX10 4) (R0 : xRk X (some .int) (some (.int r), M')) (hnL : X.2.2.2.2.2.2.2.2.2.2.2.2.2 = 5) (p0 : Nat) (hp0 : xkd p0 = 10) (p1 : Int32) (p2 : Int32) (K : Int32 → Int32 → xMem → Option (Int32 × xMem)) (hK : ∀ (v3 : Int32) (v4 : Int32) (M : xMem), K v3 v4 M = some (r, M') → WW X 72 [some (vr X.1 p0), some (.int p1), some (.int p2), some (.int v3), some (.int v4)] [] M) : ∀ (n : Nat) (v3 : Int32) (v4 : Int32) (M : xMem), fX10_some_l26 p0 p1 p2 K n v3 v4 M = some (r, M') → WW X 26 [some (vr X.1 p0), some (.int p1), some (.int p2), some (.int v3), some (.int v4)] [] M := by
  have hn3 : 3 < X.2.2.2.2.2.2.2.2.2.2.2.2.2 := by rw [hnL]; decide
  have hn4 : 4 < X.2.2.2.2.2.2.2.2.2.2.2.2.2 := by rw [hnL]; decide
  intro n
  induction n with
  | zero =>
    intro v3 v4 M h
    cases (show (none : Option (Int32 × xMem)) = some (r, M') from h)
  | succ n ih =>
    intro v3 v4 M h
    rw [fX10_some_l26.eq_2] at h
    refine r_iload (pc := 26) C dX10_some_26 rfl ?_
    refine r_aload_n (pc := 28) C dX10_some_28 rfl rfl ?_
    refine r_getR (pc := 29) C kX10_24 hp0 (by decide) dX10_some_29 ?_
    refine r_getR (pc := 32) C kX10_82 (xtk hp0 (by decide) rfl rfl) (by decide) dX10_some_32 ?_
    refine r_getR (pc := 35) C kX10_104 (xtk (xtk hp0 (by decide) rfl rfl) (by decide) rfl rfl) (by decide) dX10_some_35 ?_
    refine r_iload_n (pc := 38) C dX10_some_38 rfl rfl ?_
    refine r_vI1 (pc := 39) C (fun r M' e => zX5_sizeOf X.1 (xrf (xrf (xrf p0 2) 0) 0) (xtk (xtk (xtk hp0 (by decide) rfl rfl) (by decide) rfl rfl) (by decide) rfl rfl) p1 M r M' e) (xtk (xtk (xtk hp0 (by decide) rfl rfl) (by decide) rfl rfl) (by decide) rfl rfl) (by decide) rfl mX5_sizeOf lX10_108 (by decide) (Nat.le_of_ble_eq_true rfl) dX10_some_39 h (fun r5 M6 h => ?_)
    refine r_icmp_ge (pc := 42) (tgt := 72) C dX10_some_42 (by decide) h (fun _ h => ?_) (fun _ h => ?_)
    · exact hK v3 v4 M6 h
    · refine r_aload_n (pc := 45) C dX10_some_45 rfl rfl ?_
      refine r_getR (pc := 46) C kX10_24 hp0 (by decide) dX10_some_46 ?_
      refine r_iload_n (pc := 49) C dX10_some_49 rfl rfl ?_
      refine r_iload (pc := 50) C dX10_some_50 rfl ?_
      refine r_iload_n (pc := 52) C dX10_some_52 rfl rfl ?_
      refine r_vI3 (pc := 53) C (fun r M' e => zX2_tallyOf X.1 (xrf p0 2) (xtk hp0 (by decide) rfl rfl) p1 v4 p2 M6 r M' e) (xtk hp0 (by decide) rfl rfl) (by decide) rfl mX2_tallyOf lX10_207 (by decide) (Nat.le_of_ble_eq_true rfl) dX10_some_53 h (fun r7 M8 h => ?_)
      refine r_if_le (pc := 56) (tgt := 66) C dX10_some_56 (by decide) h (fun _ h => ?_) (fun _ h => ?_)
      · refine r_iincL (pc := 66) (c := nI 1) C dX10_some_66 rfl (by decide) hn4 h (fun x9 h => ?_)
        refine r_lvE (lv' := [_, _, _, _, _]) rfl ?_
        refine r_goto (pc := 69) (tgt := 26) C dX10_some_69 (by decide) ?_
        exact ih v3 x9 M8 h
      · refine r_iload_n (pc := 59) C dX10_some_59 rfl rfl ?_
        refine r_iconst (pc := 60) (v := (nI 1)) C dX10_some_60 (by decide) ?_
        refine r_iload (pc := 61) C dX10_some_61 rfl ?_
        refine r_ishl (pc := 63) C dX10_some_63 ?_
        refine r_ior (pc := 64) C dX10_some_64 ?_
        refine r_letI h (fun x10 h => ?_)
        refine r_istore_n (pc := 65) (lv' := [_, _, _, _, _]) C dX10_some_65 rfl hn3 rfl ?_
        refine r_iincL (pc := 66) (c := nI 1) C dX10_some_66 rfl (by decide) hn4 h (fun x11 h => ?_)
        refine r_lvE (lv' := [_, _, _, _, _]) rfl ?_
        refine r_goto (pc := 69) (tgt := 26) C dX10_some_69 (by decide) ?_
        exact ih x10 x11 M8 h
set_option maxRecDepth 100000 in
set_option maxHeartbeats 4000000 in
theorem zX10_some (G : xGX) (a0 : Nat) (h0 : xkd a0 = 10) (a1 : Int32) (a2 : Int32) (M : xMem) (r : Int32) (M' : xMem) (h : fX10_some a0 a1 a2 M = some (r, M')) : xCt G yX10_some cX10_some 5 (some .int) 4 [vr G a0, .int a1, .int a2] M (some (.int r), M') := by
  refine xMet (lv := [some (vr G a0), some (.int a1), some (.int a2), none, none]) (by decide) (Nat.le_of_ble_eq_true rfl) rfl ?_
  intro X hG hnL C R0
  subst hG
  have C : xCk X cX10_some RX10 4 := C
  have hn3 : 3 < X.2.2.2.2.2.2.2.2.2.2.2.2.2 := by rw [hnL]; decide
  have hn4 : 4 < X.2.2.2.2.2.2.2.2.2.2.2.2.2 := by rw [hnL]; decide
  unfold fX10_some at h
  refine r_aload_n (pc := 0) C dX10_some_0 rfl rfl ?_
  refine r_iload_n (pc := 1) C dX10_some_1 rfl rfl ?_
  refine r_vI1 (pc := 2) C (fun r M' e => zX10_hasTeam X.1 a0 h0 a1 M r M' e) h0 (by decide) rfl mX10_hasTeam lX10_148 (by decide) (Nat.le_of_ble_eq_true rfl) dX10_some_2 h (fun r1 M2 h => ?_)
  refine r_if_eq (pc := 5) (tgt := 18) C dX10_some_5 (by decide) h (fun _ h => ?_) (fun _ h => ?_)
  · refine r_bipush (pc := 18) (v := (-2)) C dX10_some_18 (by decide) ?_
    exact r_iret (pc := 20) C R0 h dX10_some_20
  · refine r_iload_n (pc := 8) C dX10_some_8 rfl rfl ?_
    refine r_iconst (pc := 9) (v := (nI 0)) C dX10_some_9 (by decide) ?_
    refine r_bipush (pc := 10) (v := (nI 7)) C dX10_some_10 (by decide) ?_
    refine r_sI3 (pc := 12) C (fun r M' e => zX10_isWithin X.1 a2 (nI 0) (nI 7) M2 r M' e) mX10_isWithin lX10_152 (by decide) (Nat.le_of_ble_eq_true rfl) dX10_some_12 h (fun r3 M4 h => ?_)
    refine r_if_ne (pc := 15) (tgt := 21) C dX10_some_15 (by decide) h (fun _ h => ?_) (fun _ h => ?_)
    · refine r_iconst (pc := 21) (v := (nI 0)) C dX10_some_21 (by decide) ?_
      refine r_istore_n (pc := 22) (lv' := [_, _, _, _, _]) C dX10_some_22 rfl hn3 rfl ?_
      refine r_iconst (pc := 23) (v := (nI 0)) C dX10_some_23 (by decide) ?_
      refine r_istore (pc := 24) (lv' := [_, _, _, _, _]) C dX10_some_24 hn4 rfl ?_
      refine lX10_some_26 C R0 hnL a0 h0 a1 a2 _ (fun v12 v13 M14 h => ?_) _ _ _ _ h
      refine r_iload_n (pc := 72) C dX10_some_72 rfl rfl ?_
      exact r_iret (pc := 73) C R0 h dX10_some_73
    · refine r_bipush (pc := 18) (v := (-2)) C dX10_some_18 (by decide) ?_
      exact r_iret (pc := 20) C R0 h dX10_some_20
theorem dX10_sum_0 : decode cX10_sum 0 = .ok (.aload_n 0, 1) := by decide +kernel
theorem dX10_sum_1 : decode cX10_sum 1 = .ok (.iload_n 1, 1) := by decide +kernel
theorem dX10_sum_2 : decode cX10_sum 2 = .ok (.invokevirtual 148, 3) := by decide +kernel
theorem dX10_sum_5 : decode cX10_sum 5 = .ok (.ifCond .eq 13, 3) := by decide +kernel
theorem dX10_sum_8 : decode cX10_sum 8 = .ok (.iload_n 2, 1) := by decide +kernel
theorem dX10_sum_9 : decode cX10_sum 9 = .ok (.iconst 0, 1) := by decide +kernel
theorem dX10_sum_10 : decode cX10_sum 10 = .ok (.bipush 7, 2) := by decide +kernel
theorem dX10_sum_12 : decode cX10_sum 12 = .ok (.invokestatic 152, 3) := by decide +kernel
theorem dX10_sum_15 : decode cX10_sum 15 = .ok (.ifCond .ne 6, 3) := by decide +kernel
theorem dX10_sum_18 : decode cX10_sum 18 = .ok (.bipush (-2), 2) := by decide +kernel
theorem dX10_sum_20 : decode cX10_sum 20 = .ok (.ireturn, 1) := by decide +kernel
theorem dX10_sum_21 : decode cX10_sum 21 = .ok (.iconst 0, 1) := by decide +kernel
theorem dX10_sum_22 : decode cX10_sum 22 = .ok (.istore_n 3, 1) := by decide +kernel
theorem dX10_sum_23 : decode cX10_sum 23 = .ok (.iconst 0, 1) := by decide +kernel
theorem dX10_sum_24 : decode cX10_sum 24 = .ok (.istore 4, 2) := by decide +kernel
theorem dX10_sum_26 : decode cX10_sum 26 = .ok (.iload 4, 2) := by decide +kernel
theorem dX10_sum_28 : decode cX10_sum 28 = .ok (.aload_n 0, 1) := by decide +kernel
theorem dX10_sum_29 : decode cX10_sum 29 = .ok (.getfield 24, 3) := by decide +kernel
theorem dX10_sum_32 : decode cX10_sum 32 = .ok (.getfield 82, 3) := by decide +kernel
theorem dX10_sum_35 : decode cX10_sum 35 = .ok (.getfield 104, 3) := by decide +kernel
theorem dX10_sum_38 : decode cX10_sum 38 = .ok (.iload_n 1, 1) := by decide +kernel
theorem dX10_sum_39 : decode cX10_sum 39 = .ok (.invokevirtual 108, 3) := by decide +kernel
theorem dX10_sum_42 : decode cX10_sum 42 = .ok (.if_icmp .ge 23, 3) := by decide +kernel
theorem dX10_sum_45 : decode cX10_sum 45 = .ok (.iload_n 3, 1) := by decide +kernel
theorem dX10_sum_46 : decode cX10_sum 46 = .ok (.aload_n 0, 1) := by decide +kernel
theorem dX10_sum_47 : decode cX10_sum 47 = .ok (.getfield 24, 3) := by decide +kernel
theorem dX10_sum_50 : decode cX10_sum 50 = .ok (.iload_n 1, 1) := by decide +kernel
theorem dX10_sum_51 : decode cX10_sum 51 = .ok (.iload 4, 2) := by decide +kernel
theorem dX10_sum_53 : decode cX10_sum 53 = .ok (.iload_n 2, 1) := by decide +kernel
theorem dX10_sum_54 : decode cX10_sum 54 = .ok (.invokevirtual 207, 3) := by decide +kernel
theorem dX10_sum_57 : decode cX10_sum 57 = .ok (.iadd, 1) := by decide +kernel
theorem dX10_sum_58 : decode cX10_sum 58 = .ok (.istore_n 3, 1) := by decide +kernel
theorem dX10_sum_59 : decode cX10_sum 59 = .ok (.iinc 4 1, 3) := by decide +kernel
theorem dX10_sum_62 : decode cX10_sum 62 = .ok (.goto (-36), 3) := by decide +kernel
theorem dX10_sum_65 : decode cX10_sum 65 = .ok (.iload_n 3, 1) := by decide +kernel
theorem dX10_sum_66 : decode cX10_sum 66 = .ok (.ireturn, 1) := by decide +kernel
def fX10_sum_l26 (p0 : Nat) (p1 : Int32) (p2 : Int32) (K : Int32 → Int32 → xMem → Option (Int32 × xMem)) : Nat → Int32 → Int32 → xMem → Option (Int32 × xMem)
  | 0, _, _, _ => none
  | n + 1, v3, v4, M => xBn (fX5_sizeOf (xrf (xrf (xrf p0 2) 0) 0) p1 M) fun r5 M6 => if r5 ≤ v4 then (K v3 v4 M6) else (xBn (fX2_tallyOf (xrf p0 2) p1 v4 p2 M6) fun r7 M8 => xLt (v3 + r7) fun x9 => xLt (v4 + nI 1) fun x10 => fX10_sum_l26 p0 p1 p2 K n x9 x10 M8)
def fX10_sum (a0 : Nat) (a1 : Int32) (a2 : Int32) (M : xMem) : Option (Int32 × xMem) :=
  xBn (fX10_hasTeam a0 a1 M) fun r1 M2 => if r1 = 0 then (some ((-2), M2)) else (xBn (fX10_isWithin a2 (nI 0) (nI 7) M2) fun r3 M4 => if r3 = 0 then (some ((-2), M4)) else (fX10_sum_l26 a0 a1 a2 (fun (v11 : Int32) (v12 : Int32) (M13 : xMem) => some (v11, M13)) xFU (nI 0) (nI 0) M4))
set_option maxRecDepth 100000 in
set_option maxHeartbeats 4000000 in
theorem lX10_sum_26 {X : xCX} {r : Int32} {M' : xMem} (C : xCk X cX10_sum RX10 4) (R0 : xRk X (some .int) (some (.int r), M')) (hnL : X.2.2.2.2.2.2.2.2.2.2.2.2.2 = 5) (p0 : Nat) (hp0 : xkd p0 = 10) (p1 : Int32) (p2 : Int32) (K : Int32 → Int32 → xMem → Option (Int32 × xMem)) (hK : ∀ (v3 : Int32) (v4 : Int32) (M : xMem), K v3 v4 M = some (r, M') → WW X 65 [some (vr X.1 p0), some (.int p1), some (.int p2), some (.int v3), some (.int v4)] [] M) : ∀ (n : Nat) (v3 : Int32) (v4 : Int32) (M : xMem), fX10_sum_l26 p0 p1 p2 K n v3 v4 M = some (r, M') → WW X 26 [some (vr X.1 p0), some (.int p1), some (.int p2), some (.int v3), some (.int v4)] [] M := by
  have hn3 : 3 < X.2.2.2.2.2.2.2.2.2.2.2.2.2 := by rw [hnL]; decide
  have hn4 : 4 < X.2.2.2.2.2.2.2.2.2.2.2.2.2 := by rw [hnL]; decide
  intro n
  induction n with
  | zero =>
    intro v3 v4 M h
    cases (show (none : Option (Int32 × xMem)) = some (r, M') from h)
  | succ n ih =>
    intro v3 v4 M h
    rw [fX10_sum_l26.eq_2] at h
    refine r_iload (pc := 26) C dX10_sum_26 rfl ?_
    refine r_aload_n (pc := 28) C dX10_sum_28 rfl rfl ?_
    refine r_getR (pc := 29) C kX10_24 hp0 (by decide) dX10_sum_29 ?_
    refine r_getR (pc := 32) C kX10_82 (xtk hp0 (by decide) rfl rfl) (by decide) dX10_sum_32 ?_
    refine r_getR (pc := 35) C kX10_104 (xtk (xtk hp0 (by decide) rfl rfl) (by decide) rfl rfl) (by decide) dX10_sum_35 ?_
    refine r_iload_n (pc := 38) C dX10_sum_38 rfl rfl ?_
    refine r_vI1 (pc := 39) C (fun r M' e => zX5_sizeOf X.1 (xrf (xrf (xrf p0 2) 0) 0) (xtk (xtk (xtk hp0 (by decide) rfl rfl) (by decide) rfl rfl) (by decide) rfl rfl) p1 M r M' e) (xtk (xtk (xtk hp0 (by decide) rfl rfl) (by decide) rfl rfl) (by decide) rfl rfl) (by decide) rfl mX5_sizeOf lX10_108 (by decide) (Nat.le_of_ble_eq_true rfl) dX10_sum_39 h (fun r5 M6 h => ?_)
    refine r_icmp_ge (pc := 42) (tgt := 65) C dX10_sum_42 (by decide) h (fun _ h => ?_) (fun _ h => ?_)
    · exact hK v3 v4 M6 h
    · refine r_iload_n (pc := 45) C dX10_sum_45 rfl rfl ?_
      refine r_aload_n (pc := 46) C dX10_sum_46 rfl rfl ?_
      refine r_getR (pc := 47) C kX10_24 hp0 (by decide) dX10_sum_47 ?_
      refine r_iload_n (pc := 50) C dX10_sum_50 rfl rfl ?_
      refine r_iload (pc := 51) C dX10_sum_51 rfl ?_
      refine r_iload_n (pc := 53) C dX10_sum_53 rfl rfl ?_
      refine r_vI3 (pc := 54) C (fun r M' e => zX2_tallyOf X.1 (xrf p0 2) (xtk hp0 (by decide) rfl rfl) p1 v4 p2 M6 r M' e) (xtk hp0 (by decide) rfl rfl) (by decide) rfl mX2_tallyOf lX10_207 (by decide) (Nat.le_of_ble_eq_true rfl) dX10_sum_54 h (fun r7 M8 h => ?_)
      refine r_iadd (pc := 57) C dX10_sum_57 ?_
      refine r_letI h (fun x9 h => ?_)
      refine r_istore_n (pc := 58) (lv' := [_, _, _, _, _]) C dX10_sum_58 rfl hn3 rfl ?_
      refine r_iincL (pc := 59) (c := nI 1) C dX10_sum_59 rfl (by decide) hn4 h (fun x10 h => ?_)
      refine r_lvE (lv' := [_, _, _, _, _]) rfl ?_
      refine r_goto (pc := 62) (tgt := 26) C dX10_sum_62 (by decide) ?_
      exact ih x9 x10 M8 h
set_option maxRecDepth 100000 in
set_option maxHeartbeats 4000000 in
theorem zX10_sum (G : xGX) (a0 : Nat) (h0 : xkd a0 = 10) (a1 : Int32) (a2 : Int32) (M : xMem) (r : Int32) (M' : xMem) (h : fX10_sum a0 a1 a2 M = some (r, M')) : xCt G yX10_sum cX10_sum 5 (some .int) 4 [vr G a0, .int a1, .int a2] M (some (.int r), M') := by
  refine xMet (lv := [some (vr G a0), some (.int a1), some (.int a2), none, none]) (by decide) (Nat.le_of_ble_eq_true rfl) rfl ?_
  intro X hG hnL C R0
  subst hG
  have C : xCk X cX10_sum RX10 4 := C
  have hn3 : 3 < X.2.2.2.2.2.2.2.2.2.2.2.2.2 := by rw [hnL]; decide
  have hn4 : 4 < X.2.2.2.2.2.2.2.2.2.2.2.2.2 := by rw [hnL]; decide
  unfold fX10_sum at h
  refine r_aload_n (pc := 0) C dX10_sum_0 rfl rfl ?_
  refine r_iload_n (pc := 1) C dX10_sum_1 rfl rfl ?_
  refine r_vI1 (pc := 2) C (fun r M' e => zX10_hasTeam X.1 a0 h0 a1 M r M' e) h0 (by decide) rfl mX10_hasTeam lX10_148 (by decide) (Nat.le_of_ble_eq_true rfl) dX10_sum_2 h (fun r1 M2 h => ?_)
  refine r_if_eq (pc := 5) (tgt := 18) C dX10_sum_5 (by decide) h (fun _ h => ?_) (fun _ h => ?_)
  · refine r_bipush (pc := 18) (v := (-2)) C dX10_sum_18 (by decide) ?_
    exact r_iret (pc := 20) C R0 h dX10_sum_20
  · refine r_iload_n (pc := 8) C dX10_sum_8 rfl rfl ?_
    refine r_iconst (pc := 9) (v := (nI 0)) C dX10_sum_9 (by decide) ?_
    refine r_bipush (pc := 10) (v := (nI 7)) C dX10_sum_10 (by decide) ?_
    refine r_sI3 (pc := 12) C (fun r M' e => zX10_isWithin X.1 a2 (nI 0) (nI 7) M2 r M' e) mX10_isWithin lX10_152 (by decide) (Nat.le_of_ble_eq_true rfl) dX10_sum_12 h (fun r3 M4 h => ?_)
    refine r_if_ne (pc := 15) (tgt := 21) C dX10_sum_15 (by decide) h (fun _ h => ?_) (fun _ h => ?_)
    · refine r_iconst (pc := 21) (v := (nI 0)) C dX10_sum_21 (by decide) ?_
      refine r_istore_n (pc := 22) (lv' := [_, _, _, _, _]) C dX10_sum_22 rfl hn3 rfl ?_
      refine r_iconst (pc := 23) (v := (nI 0)) C dX10_sum_23 (by decide) ?_
      refine r_istore (pc := 24) (lv' := [_, _, _, _, _]) C dX10_sum_24 hn4 rfl ?_
      refine lX10_sum_26 C R0 hnL a0 h0 a1 a2 _ (fun v11 v12 M13 h => ?_) _ _ _ _ h
      refine r_iload_n (pc := 65) C dX10_sum_65 rfl rfl ?_
      exact r_iret (pc := 66) C R0 h dX10_sum_66
    · refine r_bipush (pc := 18) (v := (-2)) C dX10_sum_18 (by decide) ?_
      exact r_iret (pc := 20) C R0 h dX10_sum_20
theorem dX10_parts_0 : decode cX10_parts 0 = .ok (.aload_n 0, 1) := by decide +kernel
theorem dX10_parts_1 : decode cX10_parts 1 = .ok (.iload_n 1, 1) := by decide +kernel
theorem dX10_parts_2 : decode cX10_parts 2 = .ok (.invokevirtual 148, 3) := by decide +kernel
theorem dX10_parts_5 : decode cX10_parts 5 = .ok (.ifCond .eq 12, 3) := by decide +kernel
theorem dX10_parts_8 : decode cX10_parts 8 = .ok (.iload_n 2, 1) := by decide +kernel
theorem dX10_parts_9 : decode cX10_parts 9 = .ok (.iconst 0, 1) := by decide +kernel
theorem dX10_parts_10 : decode cX10_parts 10 = .ok (.iconst 5, 1) := by decide +kernel
theorem dX10_parts_11 : decode cX10_parts 11 = .ok (.invokestatic 152, 3) := by decide +kernel
theorem dX10_parts_14 : decode cX10_parts 14 = .ok (.ifCond .ne 6, 3) := by decide +kernel
theorem dX10_parts_17 : decode cX10_parts 17 = .ok (.bipush (-2), 2) := by decide +kernel
theorem dX10_parts_19 : decode cX10_parts 19 = .ok (.ireturn, 1) := by decide +kernel
theorem dX10_parts_20 : decode cX10_parts 20 = .ok (.aload_n 0, 1) := by decide +kernel
theorem dX10_parts_21 : decode cX10_parts 21 = .ok (.getfield 24, 3) := by decide +kernel
theorem dX10_parts_24 : decode cX10_parts 24 = .ok (.getfield 114, 3) := by decide +kernel
theorem dX10_parts_27 : decode cX10_parts 27 = .ok (.iload_n 1, 1) := by decide +kernel
theorem dX10_parts_28 : decode cX10_parts 28 = .ok (.iload_n 2, 1) := by decide +kernel
theorem dX10_parts_29 : decode cX10_parts 29 = .ok (.invokevirtual 211, 3) := by decide +kernel
theorem dX10_parts_32 : decode cX10_parts 32 = .ok (.ireturn, 1) := by decide +kernel
def fX10_parts (a0 : Nat) (a1 : Int32) (a2 : Int32) (M : xMem) : Option (Int32 × xMem) :=
  xBn (fX10_hasTeam a0 a1 M) fun r1 M2 => if r1 = 0 then (some ((-2), M2)) else (xBn (fX10_isWithin a2 (nI 0) (nI 5) M2) fun r3 M4 => if r3 = 0 then (some ((-2), M4)) else (xBn (fX1_partOf (xrf (xrf a0 2) 2) a1 a2 M4) fun r5 M6 => some (r5, M6)))
set_option maxRecDepth 100000 in
set_option maxHeartbeats 4000000 in
theorem zX10_parts (G : xGX) (a0 : Nat) (h0 : xkd a0 = 10) (a1 : Int32) (a2 : Int32) (M : xMem) (r : Int32) (M' : xMem) (h : fX10_parts a0 a1 a2 M = some (r, M')) : xCt G yX10_parts cX10_parts 3 (some .int) 4 [vr G a0, .int a1, .int a2] M (some (.int r), M') := by
  refine xMet (lv := [some (vr G a0), some (.int a1), some (.int a2)]) (by decide) (Nat.le_of_ble_eq_true rfl) rfl ?_
  intro X hG hnL C R0
  subst hG
  have C : xCk X cX10_parts RX10 4 := C
  unfold fX10_parts at h
  refine r_aload_n (pc := 0) C dX10_parts_0 rfl rfl ?_
  refine r_iload_n (pc := 1) C dX10_parts_1 rfl rfl ?_
  refine r_vI1 (pc := 2) C (fun r M' e => zX10_hasTeam X.1 a0 h0 a1 M r M' e) h0 (by decide) rfl mX10_hasTeam lX10_148 (by decide) (Nat.le_of_ble_eq_true rfl) dX10_parts_2 h (fun r1 M2 h => ?_)
  refine r_if_eq (pc := 5) (tgt := 17) C dX10_parts_5 (by decide) h (fun _ h => ?_) (fun _ h => ?_)
  · refine r_bipush (pc := 17) (v := (-2)) C dX10_parts_17 (by decide) ?_
    exact r_iret (pc := 19) C R0 h dX10_parts_19
  · refine r_iload_n (pc := 8) C dX10_parts_8 rfl rfl ?_
    refine r_iconst (pc := 9) (v := (nI 0)) C dX10_parts_9 (by decide) ?_
    refine r_iconst (pc := 10) (v := (nI 5)) C dX10_parts_10 (by decide) ?_
    refine r_sI3 (pc := 11) C (fun r M' e => zX10_isWithin X.1 a2 (nI 0) (nI 5) M2 r M' e) mX10_isWithin lX10_152 (by decide) (Nat.le_of_ble_eq_true rfl) dX10_parts_11 h (fun r3 M4 h => ?_)
    refine r_if_ne (pc := 14) (tgt := 20) C dX10_parts_14 (by decide) h (fun _ h => ?_) (fun _ h => ?_)
    · refine r_aload_n (pc := 20) C dX10_parts_20 rfl rfl ?_
      refine r_getR (pc := 21) C kX10_24 h0 (by decide) dX10_parts_21 ?_
      refine r_getR (pc := 24) C kX10_114 (xtk h0 (by decide) rfl rfl) (by decide) dX10_parts_24 ?_
      refine r_iload_n (pc := 27) C dX10_parts_27 rfl rfl ?_
      refine r_iload_n (pc := 28) C dX10_parts_28 rfl rfl ?_
      refine r_vI2 (pc := 29) C (fun r M' e => zX1_partOf X.1 (xrf (xrf a0 2) 2) (xtk (xtk h0 (by decide) rfl rfl) (by decide) rfl rfl) a1 a2 M4 r M' e) (xtk (xtk h0 (by decide) rfl rfl) (by decide) rfl rfl) (by decide) rfl mX1_partOf lX10_211 (by decide) (Nat.le_of_ble_eq_true rfl) dX10_parts_29 h (fun r5 M6 h => ?_)
      exact r_iret (pc := 32) C R0 h dX10_parts_32
    · refine r_bipush (pc := 17) (v := (-2)) C dX10_parts_17 (by decide) ?_
      exact r_iret (pc := 19) C R0 h dX10_parts_19
theorem dX10_best_0 : decode cX10_best 0 = .ok (.aload_n 0, 1) := by decide +kernel
theorem dX10_best_1 : decode cX10_best 1 = .ok (.getfield 24, 3) := by decide +kernel
theorem dX10_best_4 : decode cX10_best 4 = .ok (.invokevirtual 135, 3) := by decide +kernel
theorem dX10_best_7 : decode cX10_best 7 = .ok (.ifCond .eq 17, 3) := by decide +kernel
theorem dX10_best_10 : decode cX10_best 10 = .ok (.iload_n 1, 1) := by decide +kernel
theorem dX10_best_11 : decode cX10_best 11 = .ok (.iconst 0, 1) := by decide +kernel
theorem dX10_best_12 : decode cX10_best 12 = .ok (.bipush 6, 2) := by decide +kernel
theorem dX10_best_14 : decode cX10_best 14 = .ok (.invokestatic 152, 3) := by decide +kernel
theorem dX10_best_17 : decode cX10_best 17 = .ok (.ifCond .eq 7, 3) := by decide +kernel
theorem dX10_best_20 : decode cX10_best 20 = .ok (.iload_n 2, 1) := by decide +kernel
theorem dX10_best_21 : decode cX10_best 21 = .ok (.ifCond .ge 6, 3) := by decide +kernel
theorem dX10_best_24 : decode cX10_best 24 = .ok (.bipush (-2), 2) := by decide +kernel
theorem dX10_best_26 : decode cX10_best 26 = .ok (.ireturn, 1) := by decide +kernel
theorem dX10_best_27 : decode cX10_best 27 = .ok (.iconst 0, 1) := by decide +kernel
theorem dX10_best_28 : decode cX10_best 28 = .ok (.istore_n 3, 1) := by decide +kernel
theorem dX10_best_29 : decode cX10_best 29 = .ok (.iload_n 3, 1) := by decide +kernel
theorem dX10_best_30 : decode cX10_best 30 = .ok (.bipush 20, 2) := by decide +kernel
theorem dX10_best_32 : decode cX10_best 32 = .ok (.if_icmp .ge 35, 3) := by decide +kernel
theorem dX10_best_35 : decode cX10_best 35 = .ok (.aload_n 0, 1) := by decide +kernel
theorem dX10_best_36 : decode cX10_best 36 = .ok (.getfield 24, 3) := by decide +kernel
theorem dX10_best_39 : decode cX10_best 39 = .ok (.iload_n 3, 1) := by decide +kernel
theorem dX10_best_40 : decode cX10_best 40 = .ok (.invokevirtual 214, 3) := by decide +kernel
theorem dX10_best_43 : decode cX10_best 43 = .ok (.ifCond .eq 18, 3) := by decide +kernel
theorem dX10_best_46 : decode cX10_best 46 = .ok (.aload_n 0, 1) := by decide +kernel
theorem dX10_best_47 : decode cX10_best 47 = .ok (.getfield 24, 3) := by decide +kernel
theorem dX10_best_50 : decode cX10_best 50 = .ok (.iload_n 3, 1) := by decide +kernel
theorem dX10_best_51 : decode cX10_best 51 = .ok (.iload_n 1, 1) := by decide +kernel
theorem dX10_best_52 : decode cX10_best 52 = .ok (.invokevirtual 217, 3) := by decide +kernel
theorem dX10_best_55 : decode cX10_best 55 = .ok (.iload_n 2, 1) := by decide +kernel
theorem dX10_best_56 : decode cX10_best 56 = .ok (.if_icmp .ne 5, 3) := by decide +kernel
theorem dX10_best_59 : decode cX10_best 59 = .ok (.iload_n 3, 1) := by decide +kernel
theorem dX10_best_60 : decode cX10_best 60 = .ok (.ireturn, 1) := by decide +kernel
theorem dX10_best_61 : decode cX10_best 61 = .ok (.iinc 3 1, 3) := by decide +kernel
theorem dX10_best_64 : decode cX10_best 64 = .ok (.goto (-35), 3) := by decide +kernel
theorem dX10_best_67 : decode cX10_best 67 = .ok (.iconst (-1), 1) := by decide +kernel
theorem dX10_best_68 : decode cX10_best 68 = .ok (.ireturn, 1) := by decide +kernel
def fX10_best_l29 (p0 : Nat) (p1 : Int32) (p2 : Int32) (K : Int32 → xMem → Option (Int32 × xMem)) : Nat → Int32 → xMem → Option (Int32 × xMem)
  | 0, _, _ => none
  | n + 1, v3, M => if (nI 20) ≤ v3 then (K v3 M) else (xBn (fX2_hasNumber (xrf p0 2) v3 M) fun r5 M6 => if r5 = 0 then (xLt (v3 + nI 1) fun x7 => fX10_best_l29 p0 p1 p2 K n x7 M6) else (xBn (fX2_aheadOf (xrf p0 2) v3 p1 M6) fun r8 M9 => if r8 = p2 then (some (v3, M9)) else (xLt (v3 + nI 1) fun x10 => fX10_best_l29 p0 p1 p2 K n x10 M9)))
def fX10_best (a0 : Nat) (a1 : Int32) (a2 : Int32) (M : xMem) : Option (Int32 × xMem) :=
  xBn (fX2_isTold (xrf a0 2) M) fun r1 M2 => if r1 = 0 then (some ((-2), M2)) else (xBn (fX10_isWithin a1 (nI 0) (nI 6) M2) fun r3 M4 => if r3 = 0 then (some ((-2), M4)) else (if 0 ≤ a2 then (fX10_best_l29 a0 a1 a2 (fun (v11 : Int32) (M12 : xMem) => some ((-1), M12)) xFU (nI 0) M4) else (some ((-2), M4))))
set_option maxRecDepth 100000 in
set_option maxHeartbeats 4000000 in
theorem lX10_best_29 {X : xCX} {r : Int32} {M' : xMem} (C : xCk X cX10_best RX10 4) (R0 : xRk X (some .int) (some (.int r), M')) (hnL : X.2.2.2.2.2.2.2.2.2.2.2.2.2 = 4) (p0 : Nat) (hp0 : xkd p0 = 10) (p1 : Int32) (p2 : Int32) (K : Int32 → xMem → Option (Int32 × xMem)) (hK : ∀ (v3 : Int32) (M : xMem), K v3 M = some (r, M') → WW X 67 [some (vr X.1 p0), some (.int p1), some (.int p2), some (.int v3)] [] M) : ∀ (n : Nat) (v3 : Int32) (M : xMem), fX10_best_l29 p0 p1 p2 K n v3 M = some (r, M') → WW X 29 [some (vr X.1 p0), some (.int p1), some (.int p2), some (.int v3)] [] M := by
  have hn3 : 3 < X.2.2.2.2.2.2.2.2.2.2.2.2.2 := by rw [hnL]; decide
  intro n
  induction n with
  | zero =>
    intro v3 M h
    cases (show (none : Option (Int32 × xMem)) = some (r, M') from h)
  | succ n ih =>
    intro v3 M h
    rw [fX10_best_l29.eq_2] at h
    refine r_iload_n (pc := 29) C dX10_best_29 rfl rfl ?_
    refine r_bipush (pc := 30) (v := (nI 20)) C dX10_best_30 (by decide) ?_
    refine r_icmp_ge (pc := 32) (tgt := 67) C dX10_best_32 (by decide) h (fun _ h => ?_) (fun _ h => ?_)
    · exact hK v3 M h
    · refine r_aload_n (pc := 35) C dX10_best_35 rfl rfl ?_
      refine r_getR (pc := 36) C kX10_24 hp0 (by decide) dX10_best_36 ?_
      refine r_iload_n (pc := 39) C dX10_best_39 rfl rfl ?_
      refine r_vI1 (pc := 40) C (fun r M' e => zX2_hasNumber X.1 (xrf p0 2) (xtk hp0 (by decide) rfl rfl) v3 M r M' e) (xtk hp0 (by decide) rfl rfl) (by decide) rfl mX2_hasNumber lX10_214 (by decide) (Nat.le_of_ble_eq_true rfl) dX10_best_40 h (fun r5 M6 h => ?_)
      refine r_if_eq (pc := 43) (tgt := 61) C dX10_best_43 (by decide) h (fun _ h => ?_) (fun _ h => ?_)
      · refine r_iincL (pc := 61) (c := nI 1) C dX10_best_61 rfl (by decide) hn3 h (fun x7 h => ?_)
        refine r_lvE (lv' := [_, _, _, _]) rfl ?_
        refine r_goto (pc := 64) (tgt := 29) C dX10_best_64 (by decide) ?_
        exact ih x7 M6 h
      · refine r_aload_n (pc := 46) C dX10_best_46 rfl rfl ?_
        refine r_getR (pc := 47) C kX10_24 hp0 (by decide) dX10_best_47 ?_
        refine r_iload_n (pc := 50) C dX10_best_50 rfl rfl ?_
        refine r_iload_n (pc := 51) C dX10_best_51 rfl rfl ?_
        refine r_vI2 (pc := 52) C (fun r M' e => zX2_aheadOf X.1 (xrf p0 2) (xtk hp0 (by decide) rfl rfl) v3 p1 M6 r M' e) (xtk hp0 (by decide) rfl rfl) (by decide) rfl mX2_aheadOf lX10_217 (by decide) (Nat.le_of_ble_eq_true rfl) dX10_best_52 h (fun r8 M9 h => ?_)
        refine r_iload_n (pc := 55) C dX10_best_55 rfl rfl ?_
        refine r_icmp_ne (pc := 56) (tgt := 61) C dX10_best_56 (by decide) h (fun _ h => ?_) (fun _ h => ?_)
        · refine r_iincL (pc := 61) (c := nI 1) C dX10_best_61 rfl (by decide) hn3 h (fun x10 h => ?_)
          refine r_lvE (lv' := [_, _, _, _]) rfl ?_
          refine r_goto (pc := 64) (tgt := 29) C dX10_best_64 (by decide) ?_
          exact ih x10 M9 h
        · refine r_iload_n (pc := 59) C dX10_best_59 rfl rfl ?_
          exact r_iret (pc := 60) C R0 h dX10_best_60
set_option maxRecDepth 100000 in
set_option maxHeartbeats 4000000 in
theorem zX10_best (G : xGX) (a0 : Nat) (h0 : xkd a0 = 10) (a1 : Int32) (a2 : Int32) (M : xMem) (r : Int32) (M' : xMem) (h : fX10_best a0 a1 a2 M = some (r, M')) : xCt G yX10_best cX10_best 4 (some .int) 4 [vr G a0, .int a1, .int a2] M (some (.int r), M') := by
  refine xMet (lv := [some (vr G a0), some (.int a1), some (.int a2), none]) (by decide) (Nat.le_of_ble_eq_true rfl) rfl ?_
  intro X hG hnL C R0
  subst hG
  have C : xCk X cX10_best RX10 4 := C
  have hn3 : 3 < X.2.2.2.2.2.2.2.2.2.2.2.2.2 := by rw [hnL]; decide
  unfold fX10_best at h
  refine r_aload_n (pc := 0) C dX10_best_0 rfl rfl ?_
  refine r_getR (pc := 1) C kX10_24 h0 (by decide) dX10_best_1 ?_
  refine r_vI0 (pc := 4) C (fun r M' e => zX2_isTold X.1 (xrf a0 2) (xtk h0 (by decide) rfl rfl) M r M' e) (xtk h0 (by decide) rfl rfl) (by decide) rfl mX2_isTold lX10_135 (by decide) (Nat.le_of_ble_eq_true rfl) dX10_best_4 h (fun r1 M2 h => ?_)
  refine r_if_eq (pc := 7) (tgt := 24) C dX10_best_7 (by decide) h (fun _ h => ?_) (fun _ h => ?_)
  · refine r_bipush (pc := 24) (v := (-2)) C dX10_best_24 (by decide) ?_
    exact r_iret (pc := 26) C R0 h dX10_best_26
  · refine r_iload_n (pc := 10) C dX10_best_10 rfl rfl ?_
    refine r_iconst (pc := 11) (v := (nI 0)) C dX10_best_11 (by decide) ?_
    refine r_bipush (pc := 12) (v := (nI 6)) C dX10_best_12 (by decide) ?_
    refine r_sI3 (pc := 14) C (fun r M' e => zX10_isWithin X.1 a1 (nI 0) (nI 6) M2 r M' e) mX10_isWithin lX10_152 (by decide) (Nat.le_of_ble_eq_true rfl) dX10_best_14 h (fun r3 M4 h => ?_)
    refine r_if_eq (pc := 17) (tgt := 24) C dX10_best_17 (by decide) h (fun _ h => ?_) (fun _ h => ?_)
    · refine r_bipush (pc := 24) (v := (-2)) C dX10_best_24 (by decide) ?_
      exact r_iret (pc := 26) C R0 h dX10_best_26
    · refine r_iload_n (pc := 20) C dX10_best_20 rfl rfl ?_
      refine r_if_ge (pc := 21) (tgt := 27) C dX10_best_21 (by decide) h (fun _ h => ?_) (fun _ h => ?_)
      · refine r_iconst (pc := 27) (v := (nI 0)) C dX10_best_27 (by decide) ?_
        refine r_istore_n (pc := 28) (lv' := [_, _, _, _]) C dX10_best_28 rfl hn3 rfl ?_
        refine lX10_best_29 C R0 hnL a0 h0 a1 a2 _ (fun v11 M12 h => ?_) _ _ _ h
        refine r_iconst (pc := 67) (v := (-1)) C dX10_best_67 (by decide) ?_
        exact r_iret (pc := 68) C R0 h dX10_best_68
      · refine r_bipush (pc := 24) (v := (-2)) C dX10_best_24 (by decide) ?_
        exact r_iret (pc := 26) C R0 h dX10_best_26
theorem dX10_rate_0 : decode cX10_rate 0 = .ok (.aload_n 0, 1) := by decide +kernel
theorem dX10_rate_1 : decode cX10_rate 1 = .ok (.iload_n 1, 1) := by decide +kernel
theorem dX10_rate_2 : decode cX10_rate 2 = .ok (.iload_n 2, 1) := by decide +kernel
theorem dX10_rate_3 : decode cX10_rate 3 = .ok (.invokevirtual 160, 3) := by decide +kernel
theorem dX10_rate_6 : decode cX10_rate 6 = .ok (.ifCond .eq 13, 3) := by decide +kernel
theorem dX10_rate_9 : decode cX10_rate 9 = .ok (.iload_n 3, 1) := by decide +kernel
theorem dX10_rate_10 : decode cX10_rate 10 = .ok (.iconst 0, 1) := by decide +kernel
theorem dX10_rate_11 : decode cX10_rate 11 = .ok (.bipush 6, 2) := by decide +kernel
theorem dX10_rate_13 : decode cX10_rate 13 = .ok (.invokestatic 152, 3) := by decide +kernel
theorem dX10_rate_16 : decode cX10_rate 16 = .ok (.ifCond .ne 6, 3) := by decide +kernel
theorem dX10_rate_19 : decode cX10_rate 19 = .ok (.bipush (-2), 2) := by decide +kernel
theorem dX10_rate_21 : decode cX10_rate 21 = .ok (.ireturn, 1) := by decide +kernel
theorem dX10_rate_22 : decode cX10_rate 22 = .ok (.aload_n 0, 1) := by decide +kernel
theorem dX10_rate_23 : decode cX10_rate 23 = .ok (.getfield 24, 3) := by decide +kernel
theorem dX10_rate_26 : decode cX10_rate 26 = .ok (.iload_n 1, 1) := by decide +kernel
theorem dX10_rate_27 : decode cX10_rate 27 = .ok (.iload_n 2, 1) := by decide +kernel
theorem dX10_rate_28 : decode cX10_rate 28 = .ok (.iconst 0, 1) := by decide +kernel
theorem dX10_rate_29 : decode cX10_rate 29 = .ok (.invokevirtual 207, 3) := by decide +kernel
theorem dX10_rate_32 : decode cX10_rate 32 = .ok (.istore 5, 2) := by decide +kernel
theorem dX10_rate_34 : decode cX10_rate 34 = .ok (.aload_n 0, 1) := by decide +kernel
theorem dX10_rate_35 : decode cX10_rate 35 = .ok (.getfield 24, 3) := by decide +kernel
theorem dX10_rate_38 : decode cX10_rate 38 = .ok (.iload_n 1, 1) := by decide +kernel
theorem dX10_rate_39 : decode cX10_rate 39 = .ok (.iload_n 2, 1) := by decide +kernel
theorem dX10_rate_40 : decode cX10_rate 40 = .ok (.iload_n 3, 1) := by decide +kernel
theorem dX10_rate_41 : decode cX10_rate 41 = .ok (.invokevirtual 207, 3) := by decide +kernel
theorem dX10_rate_44 : decode cX10_rate 44 = .ok (.i2l, 1) := by decide +kernel
theorem dX10_rate_45 : decode cX10_rate 45 = .ok (.iload 4, 2) := by decide +kernel
theorem dX10_rate_47 : decode cX10_rate 47 = .ok (.i2l, 1) := by decide +kernel
theorem dX10_rate_48 : decode cX10_rate 48 = .ok (.lmul, 1) := by decide +kernel
theorem dX10_rate_49 : decode cX10_rate 49 = .ok (.lstore 6, 2) := by decide +kernel
theorem dX10_rate_51 : decode cX10_rate 51 = .ok (.iload 5, 2) := by decide +kernel
theorem dX10_rate_53 : decode cX10_rate 53 = .ok (.ifCond .le 13, 3) := by decide +kernel
theorem dX10_rate_56 : decode cX10_rate 56 = .ok (.lload 6, 2) := by decide +kernel
theorem dX10_rate_58 : decode cX10_rate 58 = .ok (.lload 6, 2) := by decide +kernel
theorem dX10_rate_60 : decode cX10_rate 60 = .ok (.l2i, 1) := by decide +kernel
theorem dX10_rate_61 : decode cX10_rate 61 = .ok (.i2l, 1) := by decide +kernel
theorem dX10_rate_62 : decode cX10_rate 62 = .ok (.lcmp, 1) := by decide +kernel
theorem dX10_rate_63 : decode cX10_rate 63 = .ok (.ifCond .eq 5, 3) := by decide +kernel
theorem dX10_rate_66 : decode cX10_rate 66 = .ok (.iconst (-1), 1) := by decide +kernel
theorem dX10_rate_67 : decode cX10_rate 67 = .ok (.ireturn, 1) := by decide +kernel
theorem dX10_rate_68 : decode cX10_rate 68 = .ok (.lload 6, 2) := by decide +kernel
theorem dX10_rate_70 : decode cX10_rate 70 = .ok (.iload 5, 2) := by decide +kernel
theorem dX10_rate_72 : decode cX10_rate 72 = .ok (.i2l, 1) := by decide +kernel
theorem dX10_rate_73 : decode cX10_rate 73 = .ok (.ldiv, 1) := by decide +kernel
theorem dX10_rate_74 : decode cX10_rate 74 = .ok (.l2i, 1) := by decide +kernel
theorem dX10_rate_75 : decode cX10_rate 75 = .ok (.ireturn, 1) := by decide +kernel
def fX10_rate (a0 : Nat) (a1 : Int32) (a2 : Int32) (a3 : Int32) (a4 : Int32) (M : xMem) : Option (Int32 × xMem) :=
  xBn (fX10_hasPlayer a0 a1 a2 M) fun r1 M2 => if r1 = 0 then (some ((-2), M2)) else (xBn (fX10_isWithin a3 (nI 0) (nI 6) M2) fun r3 M4 => if r3 = 0 then (some ((-2), M4)) else (xBn (fX2_tallyOf (xrf a0 2) a1 a2 (nI 0) M4) fun r5 M6 => xBn (fX2_tallyOf (xrf a0 2) a1 a2 a3 M6) fun r7 M8 => xLt ((Int32.toInt64 r7) * (Int32.toInt64 a4)) fun x9 => if r5 ≤ 0 then (some ((-1), M8)) else (if (lg_cmp x9 (Int32.toInt64 (Int64.toInt32 x9))) = 0 then (xGd (¬ (Int32.toInt64 r5) = 0) (some ((Int64.toInt32 (x9 / (Int32.toInt64 r5))), M8))) else (some ((-1), M8)))))
set_option maxRecDepth 100000 in
set_option maxHeartbeats 4000000 in
theorem zX10_rate (G : xGX) (a0 : Nat) (h0 : xkd a0 = 10) (a1 : Int32) (a2 : Int32) (a3 : Int32) (a4 : Int32) (M : xMem) (r : Int32) (M' : xMem) (h : fX10_rate a0 a1 a2 a3 a4 M = some (r, M')) : xCt G yX10_rate cX10_rate 8 (some .int) 5 [vr G a0, .int a1, .int a2, .int a3, .int a4] M (some (.int r), M') := by
  refine xMet (lv := [some (vr G a0), some (.int a1), some (.int a2), some (.int a3), some (.int a4), none, none, none]) (by decide) (Nat.le_of_ble_eq_true rfl) rfl ?_
  intro X hG hnL C R0
  subst hG
  have C : xCk X cX10_rate RX10 5 := C
  have hn5 : 5 < X.2.2.2.2.2.2.2.2.2.2.2.2.2 := by rw [hnL]; decide
  have hn6 : 6 + 1 < X.2.2.2.2.2.2.2.2.2.2.2.2.2 := by rw [hnL]; decide
  unfold fX10_rate at h
  refine r_aload_n (pc := 0) C dX10_rate_0 rfl rfl ?_
  refine r_iload_n (pc := 1) C dX10_rate_1 rfl rfl ?_
  refine r_iload_n (pc := 2) C dX10_rate_2 rfl rfl ?_
  refine r_vI2 (pc := 3) C (fun r M' e => zX10_hasPlayer X.1 a0 h0 a1 a2 M r M' e) h0 (by decide) rfl mX10_hasPlayer lX10_160 (by decide) (Nat.le_of_ble_eq_true rfl) dX10_rate_3 h (fun r1 M2 h => ?_)
  refine r_if_eq (pc := 6) (tgt := 19) C dX10_rate_6 (by decide) h (fun _ h => ?_) (fun _ h => ?_)
  · refine r_bipush (pc := 19) (v := (-2)) C dX10_rate_19 (by decide) ?_
    exact r_iret (pc := 21) C R0 h dX10_rate_21
  · refine r_iload_n (pc := 9) C dX10_rate_9 rfl rfl ?_
    refine r_iconst (pc := 10) (v := (nI 0)) C dX10_rate_10 (by decide) ?_
    refine r_bipush (pc := 11) (v := (nI 6)) C dX10_rate_11 (by decide) ?_
    refine r_sI3 (pc := 13) C (fun r M' e => zX10_isWithin X.1 a3 (nI 0) (nI 6) M2 r M' e) mX10_isWithin lX10_152 (by decide) (Nat.le_of_ble_eq_true rfl) dX10_rate_13 h (fun r3 M4 h => ?_)
    refine r_if_ne (pc := 16) (tgt := 22) C dX10_rate_16 (by decide) h (fun _ h => ?_) (fun _ h => ?_)
    · refine r_aload_n (pc := 22) C dX10_rate_22 rfl rfl ?_
      refine r_getR (pc := 23) C kX10_24 h0 (by decide) dX10_rate_23 ?_
      refine r_iload_n (pc := 26) C dX10_rate_26 rfl rfl ?_
      refine r_iload_n (pc := 27) C dX10_rate_27 rfl rfl ?_
      refine r_iconst (pc := 28) (v := (nI 0)) C dX10_rate_28 (by decide) ?_
      refine r_vI3 (pc := 29) C (fun r M' e => zX2_tallyOf X.1 (xrf a0 2) (xtk h0 (by decide) rfl rfl) a1 a2 (nI 0) M4 r M' e) (xtk h0 (by decide) rfl rfl) (by decide) rfl mX2_tallyOf lX10_207 (by decide) (Nat.le_of_ble_eq_true rfl) dX10_rate_29 h (fun r5 M6 h => ?_)
      refine r_istore (pc := 32) (lv' := [_, _, _, _, _, _, _, _]) C dX10_rate_32 hn5 rfl ?_
      refine r_aload_n (pc := 34) C dX10_rate_34 rfl rfl ?_
      refine r_getR (pc := 35) C kX10_24 h0 (by decide) dX10_rate_35 ?_
      refine r_iload_n (pc := 38) C dX10_rate_38 rfl rfl ?_
      refine r_iload_n (pc := 39) C dX10_rate_39 rfl rfl ?_
      refine r_iload_n (pc := 40) C dX10_rate_40 rfl rfl ?_
      refine r_vI3 (pc := 41) C (fun r M' e => zX2_tallyOf X.1 (xrf a0 2) (xtk h0 (by decide) rfl rfl) a1 a2 a3 M6 r M' e) (xtk h0 (by decide) rfl rfl) (by decide) rfl mX2_tallyOf lX10_207 (by decide) (Nat.le_of_ble_eq_true rfl) dX10_rate_41 h (fun r7 M8 h => ?_)
      refine r_i2l (pc := 44) C dX10_rate_44 ?_
      refine r_iload (pc := 45) C dX10_rate_45 rfl ?_
      refine r_i2l (pc := 47) C dX10_rate_47 ?_
      refine r_lmul (pc := 48) C dX10_rate_48 ?_
      refine r_letL h (fun x9 h => ?_)
      refine r_lstore (pc := 49) (lv' := [_, _, _, _, _, _, _, _]) C dX10_rate_49 hn6 rfl ?_
      refine r_iload (pc := 51) C dX10_rate_51 rfl ?_
      refine r_if_le (pc := 53) (tgt := 66) C dX10_rate_53 (by decide) h (fun _ h => ?_) (fun _ h => ?_)
      · refine r_iconst (pc := 66) (v := (-1)) C dX10_rate_66 (by decide) ?_
        exact r_iret (pc := 67) C R0 h dX10_rate_67
      · refine r_lload (pc := 56) C dX10_rate_56 rfl ?_
        refine r_lload (pc := 58) C dX10_rate_58 rfl ?_
        refine r_l2i (pc := 60) C dX10_rate_60 ?_
        refine r_i2l (pc := 61) C dX10_rate_61 ?_
        refine r_lcmp (pc := 62) C dX10_rate_62 ?_
        refine r_if_eq (pc := 63) (tgt := 68) C dX10_rate_63 (by decide) h (fun _ h => ?_) (fun _ h => ?_)
        · refine r_lload (pc := 68) C dX10_rate_68 rfl ?_
          refine r_iload (pc := 70) C dX10_rate_70 rfl ?_
          refine r_i2l (pc := 72) C dX10_rate_72 ?_
          obtain ⟨g10, h⟩ := xGd_of h
          refine r_ldiv (pc := 73) C g10 dX10_rate_73 ?_
          refine r_l2i (pc := 74) C dX10_rate_74 ?_
          exact r_iret (pc := 75) C R0 h dX10_rate_75
        · refine r_iconst (pc := 66) (v := (-1)) C dX10_rate_66 (by decide) ?_
          exact r_iret (pc := 67) C R0 h dX10_rate_67
    · refine r_bipush (pc := 19) (v := (-2)) C dX10_rate_19 (by decide) ?_
      exact r_iret (pc := 21) C R0 h dX10_rate_21
theorem dX10_share_0 : decode cX10_share 0 = .ok (.aload_n 0, 1) := by decide +kernel
theorem dX10_share_1 : decode cX10_share 1 = .ok (.iload_n 1, 1) := by decide +kernel
theorem dX10_share_2 : decode cX10_share 2 = .ok (.iload_n 2, 1) := by decide +kernel
theorem dX10_share_3 : decode cX10_share 3 = .ok (.invokevirtual 160, 3) := by decide +kernel
theorem dX10_share_6 : decode cX10_share 6 = .ok (.ifCond .ne 6, 3) := by decide +kernel
theorem dX10_share_9 : decode cX10_share 9 = .ok (.bipush (-2), 2) := by decide +kernel
theorem dX10_share_11 : decode cX10_share 11 = .ok (.ireturn, 1) := by decide +kernel
theorem dX10_share_12 : decode cX10_share 12 = .ok (.iconst 0, 1) := by decide +kernel
theorem dX10_share_13 : decode cX10_share 13 = .ok (.istore_n 3, 1) := by decide +kernel
theorem dX10_share_14 : decode cX10_share 14 = .ok (.iconst 0, 1) := by decide +kernel
theorem dX10_share_15 : decode cX10_share 15 = .ok (.istore 4, 2) := by decide +kernel
theorem dX10_share_17 : decode cX10_share 17 = .ok (.iload 4, 2) := by decide +kernel
theorem dX10_share_19 : decode cX10_share 19 = .ok (.iconst 3, 1) := by decide +kernel
theorem dX10_share_20 : decode cX10_share 20 = .ok (.if_icmp .gt 25, 3) := by decide +kernel
theorem dX10_share_23 : decode cX10_share 23 = .ok (.iload_n 3, 1) := by decide +kernel
theorem dX10_share_24 : decode cX10_share 24 = .ok (.aload_n 0, 1) := by decide +kernel
theorem dX10_share_25 : decode cX10_share 25 = .ok (.getfield 24, 3) := by decide +kernel
theorem dX10_share_28 : decode cX10_share 28 = .ok (.getfield 114, 3) := by decide +kernel
theorem dX10_share_31 : decode cX10_share 31 = .ok (.iload_n 1, 1) := by decide +kernel
theorem dX10_share_32 : decode cX10_share 32 = .ok (.iload 4, 2) := by decide +kernel
theorem dX10_share_34 : decode cX10_share 34 = .ok (.invokevirtual 211, 3) := by decide +kernel
theorem dX10_share_37 : decode cX10_share 37 = .ok (.iadd, 1) := by decide +kernel
theorem dX10_share_38 : decode cX10_share 38 = .ok (.istore_n 3, 1) := by decide +kernel
theorem dX10_share_39 : decode cX10_share 39 = .ok (.iinc 4 1, 3) := by decide +kernel
theorem dX10_share_42 : decode cX10_share 42 = .ok (.goto (-25), 3) := by decide +kernel
theorem dX10_share_45 : decode cX10_share 45 = .ok (.iload_n 3, 1) := by decide +kernel
theorem dX10_share_46 : decode cX10_share 46 = .ok (.ifCond .gt 5, 3) := by decide +kernel
theorem dX10_share_49 : decode cX10_share 49 = .ok (.iconst (-1), 1) := by decide +kernel
theorem dX10_share_50 : decode cX10_share 50 = .ok (.ireturn, 1) := by decide +kernel
theorem dX10_share_51 : decode cX10_share 51 = .ok (.aload_n 0, 1) := by decide +kernel
theorem dX10_share_52 : decode cX10_share 52 = .ok (.getfield 24, 3) := by decide +kernel
theorem dX10_share_55 : decode cX10_share 55 = .ok (.iload_n 1, 1) := by decide +kernel
theorem dX10_share_56 : decode cX10_share 56 = .ok (.iload_n 2, 1) := by decide +kernel
theorem dX10_share_57 : decode cX10_share 57 = .ok (.iconst 1, 1) := by decide +kernel
theorem dX10_share_58 : decode cX10_share 58 = .ok (.invokevirtual 207, 3) := by decide +kernel
theorem dX10_share_61 : decode cX10_share 61 = .ok (.aload_n 0, 1) := by decide +kernel
theorem dX10_share_62 : decode cX10_share 62 = .ok (.getfield 24, 3) := by decide +kernel
theorem dX10_share_65 : decode cX10_share 65 = .ok (.iload_n 1, 1) := by decide +kernel
theorem dX10_share_66 : decode cX10_share 66 = .ok (.iload_n 2, 1) := by decide +kernel
theorem dX10_share_67 : decode cX10_share 67 = .ok (.iconst 4, 1) := by decide +kernel
theorem dX10_share_68 : decode cX10_share 68 = .ok (.invokevirtual 207, 3) := by decide +kernel
theorem dX10_share_71 : decode cX10_share 71 = .ok (.iadd, 1) := by decide +kernel
theorem dX10_share_72 : decode cX10_share 72 = .ok (.istore 4, 2) := by decide +kernel
theorem dX10_share_74 : decode cX10_share 74 = .ok (.iload 4, 2) := by decide +kernel
theorem dX10_share_76 : decode cX10_share 76 = .ok (.bipush 100, 2) := by decide +kernel
theorem dX10_share_78 : decode cX10_share 78 = .ok (.imul, 1) := by decide +kernel
theorem dX10_share_79 : decode cX10_share 79 = .ok (.iload_n 3, 1) := by decide +kernel
theorem dX10_share_80 : decode cX10_share 80 = .ok (.idiv, 1) := by decide +kernel
theorem dX10_share_81 : decode cX10_share 81 = .ok (.ireturn, 1) := by decide +kernel
def fX10_share_l17 (p0 : Nat) (p1 : Int32) (p2 : Int32) (K : Int32 → Int32 → xMem → Option (Int32 × xMem)) : Nat → Int32 → Int32 → xMem → Option (Int32 × xMem)
  | 0, _, _, _ => none
  | n + 1, v3, v4, M => if (nI 3) < v4 then (K v3 v4 M) else (xBn (fX1_partOf (xrf (xrf p0 2) 2) p1 v4 M) fun r3 M4 => xLt (v3 + r3) fun x5 => xLt (v4 + nI 1) fun x6 => fX10_share_l17 p0 p1 p2 K n x5 x6 M4)
def fX10_share (a0 : Nat) (a1 : Int32) (a2 : Int32) (M : xMem) : Option (Int32 × xMem) :=
  xBn (fX10_hasPlayer a0 a1 a2 M) fun r1 M2 => if r1 = 0 then (some ((-2), M2)) else (fX10_share_l17 a0 a1 a2 (fun (v7 : Int32) (v8 : Int32) (M9 : xMem) => if 0 < v7 then (xBn (fX2_tallyOf (xrf a0 2) a1 a2 (nI 1) M9) fun r10 M11 => xBn (fX2_tallyOf (xrf a0 2) a1 a2 (nI 4) M11) fun r12 M13 => xLt (r10 + r12) fun x14 => xGd (¬ v7 = 0) (some (((x14 * (nI 100)) / v7), M13))) else (some ((-1), M9))) xFU (nI 0) (nI 0) M2)
set_option maxRecDepth 100000 in
set_option maxHeartbeats 4000000 in
theorem lX10_share_17 {X : xCX} {r : Int32} {M' : xMem} (C : xCk X cX10_share RX10 5) (R0 : xRk X (some .int) (some (.int r), M')) (hnL : X.2.2.2.2.2.2.2.2.2.2.2.2.2 = 5) (p0 : Nat) (hp0 : xkd p0 = 10) (p1 : Int32) (p2 : Int32) (K : Int32 → Int32 → xMem → Option (Int32 × xMem)) (hK : ∀ (v3 : Int32) (v4 : Int32) (M : xMem), K v3 v4 M = some (r, M') → WW X 45 [some (vr X.1 p0), some (.int p1), some (.int p2), some (.int v3), some (.int v4)] [] M) : ∀ (n : Nat) (v3 : Int32) (v4 : Int32) (M : xMem), fX10_share_l17 p0 p1 p2 K n v3 v4 M = some (r, M') → WW X 17 [some (vr X.1 p0), some (.int p1), some (.int p2), some (.int v3), some (.int v4)] [] M := by
  have hn3 : 3 < X.2.2.2.2.2.2.2.2.2.2.2.2.2 := by rw [hnL]; decide
  have hn4 : 4 < X.2.2.2.2.2.2.2.2.2.2.2.2.2 := by rw [hnL]; decide
  intro n
  induction n with
  | zero =>
    intro v3 v4 M h
    cases (show (none : Option (Int32 × xMem)) = some (r, M') from h)
  | succ n ih =>
    intro v3 v4 M h
    rw [fX10_share_l17.eq_2] at h
    refine r_iload (pc := 17) C dX10_share_17 rfl ?_
    refine r_iconst (pc := 19) (v := (nI 3)) C dX10_share_19 (by decide) ?_
    refine r_icmp_gt (pc := 20) (tgt := 45) C dX10_share_20 (by decide) h (fun _ h => ?_) (fun _ h => ?_)
    · exact hK v3 v4 M h
    · refine r_iload_n (pc := 23) C dX10_share_23 rfl rfl ?_
      refine r_aload_n (pc := 24) C dX10_share_24 rfl rfl ?_
      refine r_getR (pc := 25) C kX10_24 hp0 (by decide) dX10_share_25 ?_
      refine r_getR (pc := 28) C kX10_114 (xtk hp0 (by decide) rfl rfl) (by decide) dX10_share_28 ?_
      refine r_iload_n (pc := 31) C dX10_share_31 rfl rfl ?_
      refine r_iload (pc := 32) C dX10_share_32 rfl ?_
      refine r_vI2 (pc := 34) C (fun r M' e => zX1_partOf X.1 (xrf (xrf p0 2) 2) (xtk (xtk hp0 (by decide) rfl rfl) (by decide) rfl rfl) p1 v4 M r M' e) (xtk (xtk hp0 (by decide) rfl rfl) (by decide) rfl rfl) (by decide) rfl mX1_partOf lX10_211 (by decide) (Nat.le_of_ble_eq_true rfl) dX10_share_34 h (fun r3 M4 h => ?_)
      refine r_iadd (pc := 37) C dX10_share_37 ?_
      refine r_letI h (fun x5 h => ?_)
      refine r_istore_n (pc := 38) (lv' := [_, _, _, _, _]) C dX10_share_38 rfl hn3 rfl ?_
      refine r_iincL (pc := 39) (c := nI 1) C dX10_share_39 rfl (by decide) hn4 h (fun x6 h => ?_)
      refine r_lvE (lv' := [_, _, _, _, _]) rfl ?_
      refine r_goto (pc := 42) (tgt := 17) C dX10_share_42 (by decide) ?_
      exact ih x5 x6 M4 h
set_option maxRecDepth 100000 in
set_option maxHeartbeats 4000000 in
theorem zX10_share (G : xGX) (a0 : Nat) (h0 : xkd a0 = 10) (a1 : Int32) (a2 : Int32) (M : xMem) (r : Int32) (M' : xMem) (h : fX10_share a0 a1 a2 M = some (r, M')) : xCt G yX10_share cX10_share 5 (some .int) 5 [vr G a0, .int a1, .int a2] M (some (.int r), M') := by
  refine xMet (lv := [some (vr G a0), some (.int a1), some (.int a2), none, none]) (by decide) (Nat.le_of_ble_eq_true rfl) rfl ?_
  intro X hG hnL C R0
  subst hG
  have C : xCk X cX10_share RX10 5 := C
  have hn3 : 3 < X.2.2.2.2.2.2.2.2.2.2.2.2.2 := by rw [hnL]; decide
  have hn4 : 4 < X.2.2.2.2.2.2.2.2.2.2.2.2.2 := by rw [hnL]; decide
  unfold fX10_share at h
  refine r_aload_n (pc := 0) C dX10_share_0 rfl rfl ?_
  refine r_iload_n (pc := 1) C dX10_share_1 rfl rfl ?_
  refine r_iload_n (pc := 2) C dX10_share_2 rfl rfl ?_
  refine r_vI2 (pc := 3) C (fun r M' e => zX10_hasPlayer X.1 a0 h0 a1 a2 M r M' e) h0 (by decide) rfl mX10_hasPlayer lX10_160 (by decide) (Nat.le_of_ble_eq_true rfl) dX10_share_3 h (fun r1 M2 h => ?_)
  refine r_if_ne (pc := 6) (tgt := 12) C dX10_share_6 (by decide) h (fun _ h => ?_) (fun _ h => ?_)
  · refine r_iconst (pc := 12) (v := (nI 0)) C dX10_share_12 (by decide) ?_
    refine r_istore_n (pc := 13) (lv' := [_, _, _, _, _]) C dX10_share_13 rfl hn3 rfl ?_
    refine r_iconst (pc := 14) (v := (nI 0)) C dX10_share_14 (by decide) ?_
    refine r_istore (pc := 15) (lv' := [_, _, _, _, _]) C dX10_share_15 hn4 rfl ?_
    refine lX10_share_17 C R0 hnL a0 h0 a1 a2 _ (fun v7 v8 M9 h => ?_) _ _ _ _ h
    refine r_iload_n (pc := 45) C dX10_share_45 rfl rfl ?_
    refine r_if_gt (pc := 46) (tgt := 51) C dX10_share_46 (by decide) h (fun _ h => ?_) (fun _ h => ?_)
    · refine r_aload_n (pc := 51) C dX10_share_51 rfl rfl ?_
      refine r_getR (pc := 52) C kX10_24 h0 (by decide) dX10_share_52 ?_
      refine r_iload_n (pc := 55) C dX10_share_55 rfl rfl ?_
      refine r_iload_n (pc := 56) C dX10_share_56 rfl rfl ?_
      refine r_iconst (pc := 57) (v := (nI 1)) C dX10_share_57 (by decide) ?_
      refine r_vI3 (pc := 58) C (fun r M' e => zX2_tallyOf X.1 (xrf a0 2) (xtk h0 (by decide) rfl rfl) a1 a2 (nI 1) M9 r M' e) (xtk h0 (by decide) rfl rfl) (by decide) rfl mX2_tallyOf lX10_207 (by decide) (Nat.le_of_ble_eq_true rfl) dX10_share_58 h (fun r10 M11 h => ?_)
      refine r_aload_n (pc := 61) C dX10_share_61 rfl rfl ?_
      refine r_getR (pc := 62) C kX10_24 h0 (by decide) dX10_share_62 ?_
      refine r_iload_n (pc := 65) C dX10_share_65 rfl rfl ?_
      refine r_iload_n (pc := 66) C dX10_share_66 rfl rfl ?_
      refine r_iconst (pc := 67) (v := (nI 4)) C dX10_share_67 (by decide) ?_
      refine r_vI3 (pc := 68) C (fun r M' e => zX2_tallyOf X.1 (xrf a0 2) (xtk h0 (by decide) rfl rfl) a1 a2 (nI 4) M11 r M' e) (xtk h0 (by decide) rfl rfl) (by decide) rfl mX2_tallyOf lX10_207 (by decide) (Nat.le_of_ble_eq_true rfl) dX10_share_68 h (fun r12 M13 h => ?_)
      refine r_iadd (pc := 71) C dX10_share_71 ?_
      refine r_letI h (fun x14 h => ?_)
      refine r_istore (pc := 72) (lv' := [_, _, _, _, _]) C dX10_share_72 hn4 rfl ?_
      refine r_iload (pc := 74) C dX10_share_74 rfl ?_
      refine r_bipush (pc := 76) (v := (nI 100)) C dX10_share_76 (by decide) ?_
      refine r_imul (pc := 78) C dX10_share_78 ?_
      refine r_iload_n (pc := 79) C dX10_share_79 rfl rfl ?_
      obtain ⟨g15, h⟩ := xGd_of h
      refine r_idiv (pc := 80) C g15 dX10_share_80 ?_
      exact r_iret (pc := 81) C R0 h dX10_share_81
    · refine r_iconst (pc := 49) (v := (-1)) C dX10_share_49 (by decide) ?_
      exact r_iret (pc := 50) C R0 h dX10_share_50
  · refine r_bipush (pc := 9) (v := (-2)) C dX10_share_9 (by decide) ?_
    exact r_iret (pc := 11) C R0 h dX10_share_11
theorem dX10_met_0 : decode cX10_met 0 = .ok (.aload_n 0, 1) := by decide +kernel
theorem dX10_met_1 : decode cX10_met 1 = .ok (.iload_n 1, 1) := by decide +kernel
theorem dX10_met_2 : decode cX10_met 2 = .ok (.iload_n 2, 1) := by decide +kernel
theorem dX10_met_3 : decode cX10_met 3 = .ok (.invokevirtual 160, 3) := by decide +kernel
theorem dX10_met_6 : decode cX10_met 6 = .ok (.ifCond .eq 24, 3) := by decide +kernel
theorem dX10_met_9 : decode cX10_met 9 = .ok (.aload_n 0, 1) := by decide +kernel
theorem dX10_met_10 : decode cX10_met 10 = .ok (.iconst 1, 1) := by decide +kernel
theorem dX10_met_11 : decode cX10_met 11 = .ok (.iload_n 1, 1) := by decide +kernel
theorem dX10_met_12 : decode cX10_met 12 = .ok (.isub, 1) := by decide +kernel
theorem dX10_met_13 : decode cX10_met 13 = .ok (.iload_n 3, 1) := by decide +kernel
theorem dX10_met_14 : decode cX10_met 14 = .ok (.invokevirtual 160, 3) := by decide +kernel
theorem dX10_met_17 : decode cX10_met 17 = .ok (.ifCond .eq 13, 3) := by decide +kernel
theorem dX10_met_20 : decode cX10_met 20 = .ok (.iload 4, 2) := by decide +kernel
theorem dX10_met_22 : decode cX10_met 22 = .ok (.iconst 0, 1) := by decide +kernel
theorem dX10_met_23 : decode cX10_met 23 = .ok (.iconst 1, 1) := by decide +kernel
theorem dX10_met_24 : decode cX10_met 24 = .ok (.invokestatic 152, 3) := by decide +kernel
theorem dX10_met_27 : decode cX10_met 27 = .ok (.ifCond .ne 6, 3) := by decide +kernel
theorem dX10_met_30 : decode cX10_met 30 = .ok (.bipush (-2), 2) := by decide +kernel
theorem dX10_met_32 : decode cX10_met 32 = .ok (.ireturn, 1) := by decide +kernel
theorem dX10_met_33 : decode cX10_met 33 = .ok (.aload_n 0, 1) := by decide +kernel
theorem dX10_met_34 : decode cX10_met 34 = .ok (.getfield 24, 3) := by decide +kernel
theorem dX10_met_37 : decode cX10_met 37 = .ok (.getfield 114, 3) := by decide +kernel
theorem dX10_met_40 : decode cX10_met 40 = .ok (.iload_n 1, 1) := by decide +kernel
theorem dX10_met_41 : decode cX10_met 41 = .ok (.iload_n 2, 1) := by decide +kernel
theorem dX10_met_42 : decode cX10_met 42 = .ok (.iload_n 3, 1) := by decide +kernel
theorem dX10_met_43 : decode cX10_met 43 = .ok (.iload 4, 2) := by decide +kernel
theorem dX10_met_45 : decode cX10_met 45 = .ok (.ifCond .ne 7, 3) := by decide +kernel
theorem dX10_met_48 : decode cX10_met 48 = .ok (.iconst 1, 1) := by decide +kernel
theorem dX10_met_49 : decode cX10_met 49 = .ok (.goto 4, 3) := by decide +kernel
theorem dX10_met_52 : decode cX10_met 52 = .ok (.iconst 3, 1) := by decide +kernel
theorem dX10_met_53 : decode cX10_met 53 = .ok (.invokevirtual 220, 3) := by decide +kernel
theorem dX10_met_56 : decode cX10_met 56 = .ok (.ireturn, 1) := by decide +kernel
def fX10_met (a0 : Nat) (a1 : Int32) (a2 : Int32) (a3 : Int32) (a4 : Int32) (M : xMem) : Option (Int32 × xMem) :=
  xBn (fX10_hasPlayer a0 a1 a2 M) fun r1 M2 => if r1 = 0 then (some ((-2), M2)) else (xBn (fX10_hasPlayer a0 ((nI 1) - a1) a3 M2) fun r3 M4 => if r3 = 0 then (some ((-2), M4)) else (xBn (fX10_isWithin a4 (nI 0) (nI 1) M4) fun r5 M6 => if r5 = 0 then (some ((-2), M6)) else (xLt (fun (s7 : Int32) (M8 : xMem) => (xBn (fX1_meetings (xrf (xrf a0 2) 2) a1 a2 a3 s7 M8) fun r9 M10 => some (r9, M10) : Option (Int32 × xMem))) fun J53 => if a4 = 0 then (J53 (nI 1) M6) else (J53 (nI 3) M6))))
set_option maxRecDepth 100000 in
set_option maxHeartbeats 4000000 in
theorem zX10_met (G : xGX) (a0 : Nat) (h0 : xkd a0 = 10) (a1 : Int32) (a2 : Int32) (a3 : Int32) (a4 : Int32) (M : xMem) (r : Int32) (M' : xMem) (h : fX10_met a0 a1 a2 a3 a4 M = some (r, M')) : xCt G yX10_met cX10_met 5 (some .int) 5 [vr G a0, .int a1, .int a2, .int a3, .int a4] M (some (.int r), M') := by
  refine xMet (lv := [some (vr G a0), some (.int a1), some (.int a2), some (.int a3), some (.int a4)]) (by decide) (Nat.le_of_ble_eq_true rfl) rfl ?_
  intro X hG hnL C R0
  subst hG
  have C : xCk X cX10_met RX10 5 := C
  unfold fX10_met at h
  refine r_aload_n (pc := 0) C dX10_met_0 rfl rfl ?_
  refine r_iload_n (pc := 1) C dX10_met_1 rfl rfl ?_
  refine r_iload_n (pc := 2) C dX10_met_2 rfl rfl ?_
  refine r_vI2 (pc := 3) C (fun r M' e => zX10_hasPlayer X.1 a0 h0 a1 a2 M r M' e) h0 (by decide) rfl mX10_hasPlayer lX10_160 (by decide) (Nat.le_of_ble_eq_true rfl) dX10_met_3 h (fun r1 M2 h => ?_)
  refine r_if_eq (pc := 6) (tgt := 30) C dX10_met_6 (by decide) h (fun _ h => ?_) (fun _ h => ?_)
  · refine r_bipush (pc := 30) (v := (-2)) C dX10_met_30 (by decide) ?_
    exact r_iret (pc := 32) C R0 h dX10_met_32
  · refine r_aload_n (pc := 9) C dX10_met_9 rfl rfl ?_
    refine r_iconst (pc := 10) (v := (nI 1)) C dX10_met_10 (by decide) ?_
    refine r_iload_n (pc := 11) C dX10_met_11 rfl rfl ?_
    refine r_isub (pc := 12) C dX10_met_12 ?_
    refine r_iload_n (pc := 13) C dX10_met_13 rfl rfl ?_
    refine r_vI2 (pc := 14) C (fun r M' e => zX10_hasPlayer X.1 a0 h0 ((nI 1) - a1) a3 M2 r M' e) h0 (by decide) rfl mX10_hasPlayer lX10_160 (by decide) (Nat.le_of_ble_eq_true rfl) dX10_met_14 h (fun r3 M4 h => ?_)
    refine r_if_eq (pc := 17) (tgt := 30) C dX10_met_17 (by decide) h (fun _ h => ?_) (fun _ h => ?_)
    · refine r_bipush (pc := 30) (v := (-2)) C dX10_met_30 (by decide) ?_
      exact r_iret (pc := 32) C R0 h dX10_met_32
    · refine r_iload (pc := 20) C dX10_met_20 rfl ?_
      refine r_iconst (pc := 22) (v := (nI 0)) C dX10_met_22 (by decide) ?_
      refine r_iconst (pc := 23) (v := (nI 1)) C dX10_met_23 (by decide) ?_
      refine r_sI3 (pc := 24) C (fun r M' e => zX10_isWithin X.1 a4 (nI 0) (nI 1) M4 r M' e) mX10_isWithin lX10_152 (by decide) (Nat.le_of_ble_eq_true rfl) dX10_met_24 h (fun r5 M6 h => ?_)
      refine r_if_ne (pc := 27) (tgt := 33) C dX10_met_27 (by decide) h (fun _ h => ?_) (fun _ h => ?_)
      · refine r_aload_n (pc := 33) C dX10_met_33 rfl rfl ?_
        refine r_getR (pc := 34) C kX10_24 h0 (by decide) dX10_met_34 ?_
        refine r_getR (pc := 37) C kX10_114 (xtk h0 (by decide) rfl rfl) (by decide) dX10_met_37 ?_
        refine r_iload_n (pc := 40) C dX10_met_40 rfl rfl ?_
        refine r_iload_n (pc := 41) C dX10_met_41 rfl rfl ?_
        refine r_iload_n (pc := 42) C dX10_met_42 rfl rfl ?_
        refine r_iload (pc := 43) C dX10_met_43 rfl ?_
        refine r_jn (fun J => ∀ (s7 : Int32) (M8 : xMem) , J s7 M8 = some (r, M') → WW X 53 [some (vr X.1 a0), some (.int a1), some (.int a2), some (.int a3), some (.int a4)] [.int s7, .int a3, .int a2, .int a1, vr X.1 (xrf (xrf a0 2) 2)] M8) h (fun s7 M8  h => ?_) (fun J53 hJ53 h => ?_)
        · refine r_vI4 (pc := 53) C (fun r M' e => zX1_meetings X.1 (xrf (xrf a0 2) 2) (xtk (xtk h0 (by decide) rfl rfl) (by decide) rfl rfl) a1 a2 a3 s7 M8 r M' e) (xtk (xtk h0 (by decide) rfl rfl) (by decide) rfl rfl) (by decide) rfl mX1_meetings lX10_220 (by decide) (Nat.le_of_ble_eq_true rfl) dX10_met_53 h (fun r9 M10 h => ?_)
          exact r_iret (pc := 56) C R0 h dX10_met_56
        refine r_if_ne (pc := 45) (tgt := 52) C dX10_met_45 (by decide) h (fun _ h => ?_) (fun _ h => ?_)
        · refine r_iconst (pc := 52) (v := (nI 3)) C dX10_met_52 (by decide) ?_
          exact hJ53 (nI 3) M6  h
        · refine r_iconst (pc := 48) (v := (nI 1)) C dX10_met_48 (by decide) ?_
          refine r_goto (pc := 49) (tgt := 53) C dX10_met_49 (by decide) ?_
          exact hJ53 (nI 1) M6  h
      · refine r_bipush (pc := 30) (v := (-2)) C dX10_met_30 (by decide) ?_
        exact r_iret (pc := 32) C R0 h dX10_met_32
theorem dX10_lasted_0 : decode cX10_lasted 0 = .ok (.aload_n 0, 1) := by decide +kernel
theorem dX10_lasted_1 : decode cX10_lasted 1 = .ok (.iload_n 1, 1) := by decide +kernel
theorem dX10_lasted_2 : decode cX10_lasted 2 = .ok (.iload_n 2, 1) := by decide +kernel
theorem dX10_lasted_3 : decode cX10_lasted 3 = .ok (.invokevirtual 160, 3) := by decide +kernel
theorem dX10_lasted_6 : decode cX10_lasted 6 = .ok (.ifCond .eq 18, 3) := by decide +kernel
theorem dX10_lasted_9 : decode cX10_lasted 9 = .ok (.aload_n 0, 1) := by decide +kernel
theorem dX10_lasted_10 : decode cX10_lasted 10 = .ok (.getfield 24, 3) := by decide +kernel
theorem dX10_lasted_13 : decode cX10_lasted 13 = .ok (.getfield 114, 3) := by decide +kernel
theorem dX10_lasted_16 : decode cX10_lasted 16 = .ok (.iload_n 1, 1) := by decide +kernel
theorem dX10_lasted_17 : decode cX10_lasted 17 = .ok (.iload_n 2, 1) := by decide +kernel
theorem dX10_lasted_18 : decode cX10_lasted 18 = .ok (.invokevirtual 224, 3) := by decide +kernel
theorem dX10_lasted_21 : decode cX10_lasted 21 = .ok (.goto 5, 3) := by decide +kernel
theorem dX10_lasted_24 : decode cX10_lasted 24 = .ok (.bipush (-2), 2) := by decide +kernel
theorem dX10_lasted_26 : decode cX10_lasted 26 = .ok (.ireturn, 1) := by decide +kernel
def fX10_lasted (a0 : Nat) (a1 : Int32) (a2 : Int32) (M : xMem) : Option (Int32 × xMem) :=
  xBn (fX10_hasPlayer a0 a1 a2 M) fun r1 M2 => if r1 = 0 then (some ((-2), M2)) else (xBn (fX1_raidsOn (xrf (xrf a0 2) 2) a1 a2 M2) fun r3 M4 => some (r3, M4))
set_option maxRecDepth 100000 in
set_option maxHeartbeats 4000000 in
theorem zX10_lasted (G : xGX) (a0 : Nat) (h0 : xkd a0 = 10) (a1 : Int32) (a2 : Int32) (M : xMem) (r : Int32) (M' : xMem) (h : fX10_lasted a0 a1 a2 M = some (r, M')) : xCt G yX10_lasted cX10_lasted 3 (some .int) 5 [vr G a0, .int a1, .int a2] M (some (.int r), M') := by
  refine xMet (lv := [some (vr G a0), some (.int a1), some (.int a2)]) (by decide) (Nat.le_of_ble_eq_true rfl) rfl ?_
  intro X hG hnL C R0
  subst hG
  have C : xCk X cX10_lasted RX10 5 := C
  unfold fX10_lasted at h
  refine r_aload_n (pc := 0) C dX10_lasted_0 rfl rfl ?_
  refine r_iload_n (pc := 1) C dX10_lasted_1 rfl rfl ?_
  refine r_iload_n (pc := 2) C dX10_lasted_2 rfl rfl ?_
  refine r_vI2 (pc := 3) C (fun r M' e => zX10_hasPlayer X.1 a0 h0 a1 a2 M r M' e) h0 (by decide) rfl mX10_hasPlayer lX10_160 (by decide) (Nat.le_of_ble_eq_true rfl) dX10_lasted_3 h (fun r1 M2 h => ?_)
  refine r_if_eq (pc := 6) (tgt := 24) C dX10_lasted_6 (by decide) h (fun _ h => ?_) (fun _ h => ?_)
  · refine r_bipush (pc := 24) (v := (-2)) C dX10_lasted_24 (by decide) ?_
    exact r_iret (pc := 26) C R0 h dX10_lasted_26
  · refine r_aload_n (pc := 9) C dX10_lasted_9 rfl rfl ?_
    refine r_getR (pc := 10) C kX10_24 h0 (by decide) dX10_lasted_10 ?_
    refine r_getR (pc := 13) C kX10_114 (xtk h0 (by decide) rfl rfl) (by decide) dX10_lasted_13 ?_
    refine r_iload_n (pc := 16) C dX10_lasted_16 rfl rfl ?_
    refine r_iload_n (pc := 17) C dX10_lasted_17 rfl rfl ?_
    refine r_vI2 (pc := 18) C (fun r M' e => zX1_raidsOn X.1 (xrf (xrf a0 2) 2) (xtk (xtk h0 (by decide) rfl rfl) (by decide) rfl rfl) a1 a2 M2 r M' e) (xtk (xtk h0 (by decide) rfl rfl) (by decide) rfl rfl) (by decide) rfl mX1_raidsOn lX10_224 (by decide) (Nat.le_of_ble_eq_true rfl) dX10_lasted_18 h (fun r3 M4 h => ?_)
    refine r_goto (pc := 21) (tgt := 26) C dX10_lasted_21 (by decide) ?_
    exact r_iret (pc := 26) C R0 h dX10_lasted_26
theorem dX10_first_0 : decode cX10_first 0 = .ok (.aload_n 0, 1) := by decide +kernel
theorem dX10_first_1 : decode cX10_first 1 = .ok (.iload_n 1, 1) := by decide +kernel
theorem dX10_first_2 : decode cX10_first 2 = .ok (.iload_n 2, 1) := by decide +kernel
theorem dX10_first_3 : decode cX10_first 3 = .ok (.invokevirtual 160, 3) := by decide +kernel
theorem dX10_first_6 : decode cX10_first 6 = .ok (.ifCond .eq 12, 3) := by decide +kernel
theorem dX10_first_9 : decode cX10_first 9 = .ok (.iload_n 3, 1) := by decide +kernel
theorem dX10_first_10 : decode cX10_first 10 = .ok (.iconst 0, 1) := by decide +kernel
theorem dX10_first_11 : decode cX10_first 11 = .ok (.iconst 1, 1) := by decide +kernel
theorem dX10_first_12 : decode cX10_first 12 = .ok (.invokestatic 152, 3) := by decide +kernel
theorem dX10_first_15 : decode cX10_first 15 = .ok (.ifCond .ne 6, 3) := by decide +kernel
theorem dX10_first_18 : decode cX10_first 18 = .ok (.bipush (-2), 2) := by decide +kernel
theorem dX10_first_20 : decode cX10_first 20 = .ok (.ireturn, 1) := by decide +kernel
theorem dX10_first_21 : decode cX10_first 21 = .ok (.iload_n 3, 1) := by decide +kernel
theorem dX10_first_22 : decode cX10_first 22 = .ok (.ifCond .ne 18, 3) := by decide +kernel
theorem dX10_first_25 : decode cX10_first 25 = .ok (.aload_n 0, 1) := by decide +kernel
theorem dX10_first_26 : decode cX10_first 26 = .ok (.getfield 24, 3) := by decide +kernel
theorem dX10_first_29 : decode cX10_first 29 = .ok (.getfield 114, 3) := by decide +kernel
theorem dX10_first_32 : decode cX10_first 32 = .ok (.iload_n 1, 1) := by decide +kernel
theorem dX10_first_33 : decode cX10_first 33 = .ok (.iload_n 2, 1) := by decide +kernel
theorem dX10_first_34 : decode cX10_first 34 = .ok (.invokevirtual 227, 3) := by decide +kernel
theorem dX10_first_37 : decode cX10_first 37 = .ok (.goto 15, 3) := by decide +kernel
theorem dX10_first_40 : decode cX10_first 40 = .ok (.aload_n 0, 1) := by decide +kernel
theorem dX10_first_41 : decode cX10_first 41 = .ok (.getfield 24, 3) := by decide +kernel
theorem dX10_first_44 : decode cX10_first 44 = .ok (.getfield 114, 3) := by decide +kernel
theorem dX10_first_47 : decode cX10_first 47 = .ok (.iload_n 1, 1) := by decide +kernel
theorem dX10_first_48 : decode cX10_first 48 = .ok (.iload_n 2, 1) := by decide +kernel
theorem dX10_first_49 : decode cX10_first 49 = .ok (.invokevirtual 230, 3) := by decide +kernel
theorem dX10_first_52 : decode cX10_first 52 = .ok (.ireturn, 1) := by decide +kernel
def fX10_first (a0 : Nat) (a1 : Int32) (a2 : Int32) (a3 : Int32) (M : xMem) : Option (Int32 × xMem) :=
  xBn (fX10_hasPlayer a0 a1 a2 M) fun r1 M2 => if r1 = 0 then (some ((-2), M2)) else (xBn (fX10_isWithin a3 (nI 0) (nI 1) M2) fun r3 M4 => if r3 = 0 then (some ((-2), M4)) else (if a3 = 0 then (xBn (fX1_firstScored (xrf (xrf a0 2) 2) a1 a2 M4) fun r7 M8 => some (r7, M8)) else (xBn (fX1_firstTackle (xrf (xrf a0 2) 2) a1 a2 M4) fun r5 M6 => some (r5, M6))))
set_option maxRecDepth 100000 in
set_option maxHeartbeats 4000000 in
theorem zX10_first (G : xGX) (a0 : Nat) (h0 : xkd a0 = 10) (a1 : Int32) (a2 : Int32) (a3 : Int32) (M : xMem) (r : Int32) (M' : xMem) (h : fX10_first a0 a1 a2 a3 M = some (r, M')) : xCt G yX10_first cX10_first 4 (some .int) 5 [vr G a0, .int a1, .int a2, .int a3] M (some (.int r), M') := by
  refine xMet (lv := [some (vr G a0), some (.int a1), some (.int a2), some (.int a3)]) (by decide) (Nat.le_of_ble_eq_true rfl) rfl ?_
  intro X hG hnL C R0
  subst hG
  have C : xCk X cX10_first RX10 5 := C
  unfold fX10_first at h
  refine r_aload_n (pc := 0) C dX10_first_0 rfl rfl ?_
  refine r_iload_n (pc := 1) C dX10_first_1 rfl rfl ?_
  refine r_iload_n (pc := 2) C dX10_first_2 rfl rfl ?_
  refine r_vI2 (pc := 3) C (fun r M' e => zX10_hasPlayer X.1 a0 h0 a1 a2 M r M' e) h0 (by decide) rfl mX10_hasPlayer lX10_160 (by decide) (Nat.le_of_ble_eq_true rfl) dX10_first_3 h (fun r1 M2 h => ?_)
  refine r_if_eq (pc := 6) (tgt := 18) C dX10_first_6 (by decide) h (fun _ h => ?_) (fun _ h => ?_)
  · refine r_bipush (pc := 18) (v := (-2)) C dX10_first_18 (by decide) ?_
    exact r_iret (pc := 20) C R0 h dX10_first_20
  · refine r_iload_n (pc := 9) C dX10_first_9 rfl rfl ?_
    refine r_iconst (pc := 10) (v := (nI 0)) C dX10_first_10 (by decide) ?_
    refine r_iconst (pc := 11) (v := (nI 1)) C dX10_first_11 (by decide) ?_
    refine r_sI3 (pc := 12) C (fun r M' e => zX10_isWithin X.1 a3 (nI 0) (nI 1) M2 r M' e) mX10_isWithin lX10_152 (by decide) (Nat.le_of_ble_eq_true rfl) dX10_first_12 h (fun r3 M4 h => ?_)
    refine r_if_ne (pc := 15) (tgt := 21) C dX10_first_15 (by decide) h (fun _ h => ?_) (fun _ h => ?_)
    · refine r_iload_n (pc := 21) C dX10_first_21 rfl rfl ?_
      refine r_if_ne (pc := 22) (tgt := 40) C dX10_first_22 (by decide) h (fun _ h => ?_) (fun _ h => ?_)
      · refine r_aload_n (pc := 40) C dX10_first_40 rfl rfl ?_
        refine r_getR (pc := 41) C kX10_24 h0 (by decide) dX10_first_41 ?_
        refine r_getR (pc := 44) C kX10_114 (xtk h0 (by decide) rfl rfl) (by decide) dX10_first_44 ?_
        refine r_iload_n (pc := 47) C dX10_first_47 rfl rfl ?_
        refine r_iload_n (pc := 48) C dX10_first_48 rfl rfl ?_
        refine r_vI2 (pc := 49) C (fun r M' e => zX1_firstTackle X.1 (xrf (xrf a0 2) 2) (xtk (xtk h0 (by decide) rfl rfl) (by decide) rfl rfl) a1 a2 M4 r M' e) (xtk (xtk h0 (by decide) rfl rfl) (by decide) rfl rfl) (by decide) rfl mX1_firstTackle lX10_230 (by decide) (Nat.le_of_ble_eq_true rfl) dX10_first_49 h (fun r5 M6 h => ?_)
        exact r_iret (pc := 52) C R0 h dX10_first_52
      · refine r_aload_n (pc := 25) C dX10_first_25 rfl rfl ?_
        refine r_getR (pc := 26) C kX10_24 h0 (by decide) dX10_first_26 ?_
        refine r_getR (pc := 29) C kX10_114 (xtk h0 (by decide) rfl rfl) (by decide) dX10_first_29 ?_
        refine r_iload_n (pc := 32) C dX10_first_32 rfl rfl ?_
        refine r_iload_n (pc := 33) C dX10_first_33 rfl rfl ?_
        refine r_vI2 (pc := 34) C (fun r M' e => zX1_firstScored X.1 (xrf (xrf a0 2) 2) (xtk (xtk h0 (by decide) rfl rfl) (by decide) rfl rfl) a1 a2 M4 r M' e) (xtk (xtk h0 (by decide) rfl rfl) (by decide) rfl rfl) (by decide) rfl mX1_firstScored lX10_227 (by decide) (Nat.le_of_ble_eq_true rfl) dX10_first_34 h (fun r7 M8 h => ?_)
        refine r_goto (pc := 37) (tgt := 52) C dX10_first_37 (by decide) ?_
        exact r_iret (pc := 52) C R0 h dX10_first_52
    · refine r_bipush (pc := 18) (v := (-2)) C dX10_first_18 (by decide) ?_
      exact r_iret (pc := 20) C R0 h dX10_first_20
theorem dX10_streak_0 : decode cX10_streak 0 = .ok (.aload_n 0, 1) := by decide +kernel
theorem dX10_streak_1 : decode cX10_streak 1 = .ok (.iload_n 1, 1) := by decide +kernel
theorem dX10_streak_2 : decode cX10_streak 2 = .ok (.iload_n 2, 1) := by decide +kernel
theorem dX10_streak_3 : decode cX10_streak 3 = .ok (.invokevirtual 160, 3) := by decide +kernel
theorem dX10_streak_6 : decode cX10_streak 6 = .ok (.ifCond .eq 18, 3) := by decide +kernel
theorem dX10_streak_9 : decode cX10_streak 9 = .ok (.aload_n 0, 1) := by decide +kernel
theorem dX10_streak_10 : decode cX10_streak 10 = .ok (.getfield 24, 3) := by decide +kernel
theorem dX10_streak_13 : decode cX10_streak 13 = .ok (.getfield 114, 3) := by decide +kernel
theorem dX10_streak_16 : decode cX10_streak 16 = .ok (.iload_n 1, 1) := by decide +kernel
theorem dX10_streak_17 : decode cX10_streak 17 = .ok (.iload_n 2, 1) := by decide +kernel
theorem dX10_streak_18 : decode cX10_streak 18 = .ok (.invokevirtual 233, 3) := by decide +kernel
theorem dX10_streak_21 : decode cX10_streak 21 = .ok (.goto 5, 3) := by decide +kernel
theorem dX10_streak_24 : decode cX10_streak 24 = .ok (.bipush (-2), 2) := by decide +kernel
theorem dX10_streak_26 : decode cX10_streak 26 = .ok (.ireturn, 1) := by decide +kernel
def fX10_streak (a0 : Nat) (a1 : Int32) (a2 : Int32) (M : xMem) : Option (Int32 × xMem) :=
  xBn (fX10_hasPlayer a0 a1 a2 M) fun r1 M2 => if r1 = 0 then (some ((-2), M2)) else (xBn (fX1_streakOf (xrf (xrf a0 2) 2) a1 a2 M2) fun r3 M4 => some (r3, M4))
set_option maxRecDepth 100000 in
set_option maxHeartbeats 4000000 in
theorem zX10_streak (G : xGX) (a0 : Nat) (h0 : xkd a0 = 10) (a1 : Int32) (a2 : Int32) (M : xMem) (r : Int32) (M' : xMem) (h : fX10_streak a0 a1 a2 M = some (r, M')) : xCt G yX10_streak cX10_streak 3 (some .int) 5 [vr G a0, .int a1, .int a2] M (some (.int r), M') := by
  refine xMet (lv := [some (vr G a0), some (.int a1), some (.int a2)]) (by decide) (Nat.le_of_ble_eq_true rfl) rfl ?_
  intro X hG hnL C R0
  subst hG
  have C : xCk X cX10_streak RX10 5 := C
  unfold fX10_streak at h
  refine r_aload_n (pc := 0) C dX10_streak_0 rfl rfl ?_
  refine r_iload_n (pc := 1) C dX10_streak_1 rfl rfl ?_
  refine r_iload_n (pc := 2) C dX10_streak_2 rfl rfl ?_
  refine r_vI2 (pc := 3) C (fun r M' e => zX10_hasPlayer X.1 a0 h0 a1 a2 M r M' e) h0 (by decide) rfl mX10_hasPlayer lX10_160 (by decide) (Nat.le_of_ble_eq_true rfl) dX10_streak_3 h (fun r1 M2 h => ?_)
  refine r_if_eq (pc := 6) (tgt := 24) C dX10_streak_6 (by decide) h (fun _ h => ?_) (fun _ h => ?_)
  · refine r_bipush (pc := 24) (v := (-2)) C dX10_streak_24 (by decide) ?_
    exact r_iret (pc := 26) C R0 h dX10_streak_26
  · refine r_aload_n (pc := 9) C dX10_streak_9 rfl rfl ?_
    refine r_getR (pc := 10) C kX10_24 h0 (by decide) dX10_streak_10 ?_
    refine r_getR (pc := 13) C kX10_114 (xtk h0 (by decide) rfl rfl) (by decide) dX10_streak_13 ?_
    refine r_iload_n (pc := 16) C dX10_streak_16 rfl rfl ?_
    refine r_iload_n (pc := 17) C dX10_streak_17 rfl rfl ?_
    refine r_vI2 (pc := 18) C (fun r M' e => zX1_streakOf X.1 (xrf (xrf a0 2) 2) (xtk (xtk h0 (by decide) rfl rfl) (by decide) rfl rfl) a1 a2 M2 r M' e) (xtk (xtk h0 (by decide) rfl rfl) (by decide) rfl rfl) (by decide) rfl mX1_streakOf lX10_233 (by decide) (Nat.le_of_ble_eq_true rfl) dX10_streak_18 h (fun r3 M4 h => ?_)
    refine r_goto (pc := 21) (tgt := 26) C dX10_streak_21 (by decide) ?_
    exact r_iret (pc := 26) C R0 h dX10_streak_26
theorem dX10_last_0 : decode cX10_last 0 = .ok (.aload_n 0, 1) := by decide +kernel
theorem dX10_last_1 : decode cX10_last 1 = .ok (.iload_n 1, 1) := by decide +kernel
theorem dX10_last_2 : decode cX10_last 2 = .ok (.iload_n 2, 1) := by decide +kernel
theorem dX10_last_3 : decode cX10_last 3 = .ok (.invokevirtual 160, 3) := by decide +kernel
theorem dX10_last_6 : decode cX10_last 6 = .ok (.ifCond .eq 18, 3) := by decide +kernel
theorem dX10_last_9 : decode cX10_last 9 = .ok (.aload_n 0, 1) := by decide +kernel
theorem dX10_last_10 : decode cX10_last 10 = .ok (.getfield 24, 3) := by decide +kernel
theorem dX10_last_13 : decode cX10_last 13 = .ok (.getfield 114, 3) := by decide +kernel
theorem dX10_last_16 : decode cX10_last 16 = .ok (.iload_n 1, 1) := by decide +kernel
theorem dX10_last_17 : decode cX10_last 17 = .ok (.iload_n 2, 1) := by decide +kernel
theorem dX10_last_18 : decode cX10_last 18 = .ok (.invokevirtual 236, 3) := by decide +kernel
theorem dX10_last_21 : decode cX10_last 21 = .ok (.goto 5, 3) := by decide +kernel
theorem dX10_last_24 : decode cX10_last 24 = .ok (.bipush (-2), 2) := by decide +kernel
theorem dX10_last_26 : decode cX10_last 26 = .ok (.ireturn, 1) := by decide +kernel
def fX10_last (a0 : Nat) (a1 : Int32) (a2 : Int32) (M : xMem) : Option (Int32 × xMem) :=
  xBn (fX10_hasPlayer a0 a1 a2 M) fun r1 M2 => if r1 = 0 then (some ((-2), M2)) else (xBn (fX1_lastRaid (xrf (xrf a0 2) 2) a1 a2 M2) fun r3 M4 => some (r3, M4))
set_option maxRecDepth 100000 in
set_option maxHeartbeats 4000000 in
theorem zX10_last (G : xGX) (a0 : Nat) (h0 : xkd a0 = 10) (a1 : Int32) (a2 : Int32) (M : xMem) (r : Int32) (M' : xMem) (h : fX10_last a0 a1 a2 M = some (r, M')) : xCt G yX10_last cX10_last 3 (some .int) 5 [vr G a0, .int a1, .int a2] M (some (.int r), M') := by
  refine xMet (lv := [some (vr G a0), some (.int a1), some (.int a2)]) (by decide) (Nat.le_of_ble_eq_true rfl) rfl ?_
  intro X hG hnL C R0
  subst hG
  have C : xCk X cX10_last RX10 5 := C
  unfold fX10_last at h
  refine r_aload_n (pc := 0) C dX10_last_0 rfl rfl ?_
  refine r_iload_n (pc := 1) C dX10_last_1 rfl rfl ?_
  refine r_iload_n (pc := 2) C dX10_last_2 rfl rfl ?_
  refine r_vI2 (pc := 3) C (fun r M' e => zX10_hasPlayer X.1 a0 h0 a1 a2 M r M' e) h0 (by decide) rfl mX10_hasPlayer lX10_160 (by decide) (Nat.le_of_ble_eq_true rfl) dX10_last_3 h (fun r1 M2 h => ?_)
  refine r_if_eq (pc := 6) (tgt := 24) C dX10_last_6 (by decide) h (fun _ h => ?_) (fun _ h => ?_)
  · refine r_bipush (pc := 24) (v := (-2)) C dX10_last_24 (by decide) ?_
    exact r_iret (pc := 26) C R0 h dX10_last_26
  · refine r_aload_n (pc := 9) C dX10_last_9 rfl rfl ?_
    refine r_getR (pc := 10) C kX10_24 h0 (by decide) dX10_last_10 ?_
    refine r_getR (pc := 13) C kX10_114 (xtk h0 (by decide) rfl rfl) (by decide) dX10_last_13 ?_
    refine r_iload_n (pc := 16) C dX10_last_16 rfl rfl ?_
    refine r_iload_n (pc := 17) C dX10_last_17 rfl rfl ?_
    refine r_vI2 (pc := 18) C (fun r M' e => zX1_lastRaid X.1 (xrf (xrf a0 2) 2) (xtk (xtk h0 (by decide) rfl rfl) (by decide) rfl rfl) a1 a2 M2 r M' e) (xtk (xtk h0 (by decide) rfl rfl) (by decide) rfl rfl) (by decide) rfl mX1_lastRaid lX10_236 (by decide) (Nat.le_of_ble_eq_true rfl) dX10_last_18 h (fun r3 M4 h => ?_)
    refine r_goto (pc := 21) (tgt := 26) C dX10_last_21 (by decide) ?_
    exact r_iret (pc := 26) C R0 h dX10_last_26
theorem dX10_raidOf_0 : decode cX10_raidOf 0 = .ok (.aload_n 0, 1) := by decide +kernel
theorem dX10_raidOf_1 : decode cX10_raidOf 1 = .ok (.getfield 24, 3) := by decide +kernel
theorem dX10_raidOf_4 : decode cX10_raidOf 4 = .ok (.invokevirtual 135, 3) := by decide +kernel
theorem dX10_raidOf_7 : decode cX10_raidOf 7 = .ok (.ifCond .eq 17, 3) := by decide +kernel
theorem dX10_raidOf_10 : decode cX10_raidOf 10 = .ok (.iload_n 1, 1) := by decide +kernel
theorem dX10_raidOf_11 : decode cX10_raidOf 11 = .ok (.ifCond .lt 13, 3) := by decide +kernel
theorem dX10_raidOf_14 : decode cX10_raidOf 14 = .ok (.iload_n 2, 1) := by decide +kernel
theorem dX10_raidOf_15 : decode cX10_raidOf 15 = .ok (.iconst 0, 1) := by decide +kernel
theorem dX10_raidOf_16 : decode cX10_raidOf 16 = .ok (.bipush 8, 2) := by decide +kernel
theorem dX10_raidOf_18 : decode cX10_raidOf 18 = .ok (.invokestatic 152, 3) := by decide +kernel
theorem dX10_raidOf_21 : decode cX10_raidOf 21 = .ok (.ifCond .ne 6, 3) := by decide +kernel
theorem dX10_raidOf_24 : decode cX10_raidOf 24 = .ok (.bipush (-2), 2) := by decide +kernel
theorem dX10_raidOf_26 : decode cX10_raidOf 26 = .ok (.ireturn, 1) := by decide +kernel
theorem dX10_raidOf_27 : decode cX10_raidOf 27 = .ok (.iload_n 1, 1) := by decide +kernel
theorem dX10_raidOf_28 : decode cX10_raidOf 28 = .ok (.aload_n 0, 1) := by decide +kernel
theorem dX10_raidOf_29 : decode cX10_raidOf 29 = .ok (.getfield 24, 3) := by decide +kernel
theorem dX10_raidOf_32 : decode cX10_raidOf 32 = .ok (.getfield 114, 3) := by decide +kernel
theorem dX10_raidOf_35 : decode cX10_raidOf 35 = .ok (.getfield 118, 3) := by decide +kernel
theorem dX10_raidOf_38 : decode cX10_raidOf 38 = .ok (.if_icmp .ge 20, 3) := by decide +kernel
theorem dX10_raidOf_41 : decode cX10_raidOf 41 = .ok (.aload_n 0, 1) := by decide +kernel
theorem dX10_raidOf_42 : decode cX10_raidOf 42 = .ok (.getfield 24, 3) := by decide +kernel
theorem dX10_raidOf_45 : decode cX10_raidOf 45 = .ok (.getfield 114, 3) := by decide +kernel
theorem dX10_raidOf_48 : decode cX10_raidOf 48 = .ok (.getfield 239, 3) := by decide +kernel
theorem dX10_raidOf_51 : decode cX10_raidOf 51 = .ok (.iload_n 2, 1) := by decide +kernel
theorem dX10_raidOf_52 : decode cX10_raidOf 52 = .ok (.aaload, 1) := by decide +kernel
theorem dX10_raidOf_53 : decode cX10_raidOf 53 = .ok (.iload_n 1, 1) := by decide +kernel
theorem dX10_raidOf_54 : decode cX10_raidOf 54 = .ok (.iaload, 1) := by decide +kernel
theorem dX10_raidOf_55 : decode cX10_raidOf 55 = .ok (.goto 4, 3) := by decide +kernel
theorem dX10_raidOf_58 : decode cX10_raidOf 58 = .ok (.iconst (-1), 1) := by decide +kernel
theorem dX10_raidOf_59 : decode cX10_raidOf 59 = .ok (.ireturn, 1) := by decide +kernel
def fX10_raidOf (a0 : Nat) (a1 : Int32) (a2 : Int32) (M : xMem) : Option (Int32 × xMem) :=
  xBn (fX2_isTold (xrf a0 2) M) fun r1 M2 => if r1 = 0 then (some ((-2), M2)) else (if a1 < 0 then (some ((-2), M2)) else (xBn (fX10_isWithin a2 (nI 0) (nI 8) M2) fun r3 M4 => if r3 = 0 then (some ((-2), M4)) else (if (M4.1 (xrf (xrf a0 2) 2) 5) ≤ a1 then (some ((-1), M4)) else (xGb a2 (xln (xrf (xrf (xrf a0 2) 2) 0)) (xGb a1 (xln (xrf (xrf (xrf (xrf a0 2) 2) 0) (Int32.toNatClampNeg a2))) (some ((M4.1 (xrf (xrf (xrf (xrf a0 2) 2) 0) (Int32.toNatClampNeg a2)) (Int32.toNatClampNeg a1)), M4)))))))
set_option maxRecDepth 100000 in
set_option maxHeartbeats 4000000 in
theorem zX10_raidOf (G : xGX) (a0 : Nat) (h0 : xkd a0 = 10) (a1 : Int32) (a2 : Int32) (M : xMem) (r : Int32) (M' : xMem) (h : fX10_raidOf a0 a1 a2 M = some (r, M')) : xCt G yX10_raidOf cX10_raidOf 3 (some .int) 3 [vr G a0, .int a1, .int a2] M (some (.int r), M') := by
  refine xMet (lv := [some (vr G a0), some (.int a1), some (.int a2)]) (by decide) (Nat.le_of_ble_eq_true rfl) rfl ?_
  intro X hG hnL C R0
  subst hG
  have C : xCk X cX10_raidOf RX10 3 := C
  unfold fX10_raidOf at h
  refine r_aload_n (pc := 0) C dX10_raidOf_0 rfl rfl ?_
  refine r_getR (pc := 1) C kX10_24 h0 (by decide) dX10_raidOf_1 ?_
  refine r_vI0 (pc := 4) C (fun r M' e => zX2_isTold X.1 (xrf a0 2) (xtk h0 (by decide) rfl rfl) M r M' e) (xtk h0 (by decide) rfl rfl) (by decide) rfl mX2_isTold lX10_135 (by decide) (Nat.le_of_ble_eq_true rfl) dX10_raidOf_4 h (fun r1 M2 h => ?_)
  refine r_if_eq (pc := 7) (tgt := 24) C dX10_raidOf_7 (by decide) h (fun _ h => ?_) (fun _ h => ?_)
  · refine r_bipush (pc := 24) (v := (-2)) C dX10_raidOf_24 (by decide) ?_
    exact r_iret (pc := 26) C R0 h dX10_raidOf_26
  · refine r_iload_n (pc := 10) C dX10_raidOf_10 rfl rfl ?_
    refine r_if_lt (pc := 11) (tgt := 24) C dX10_raidOf_11 (by decide) h (fun _ h => ?_) (fun _ h => ?_)
    · refine r_bipush (pc := 24) (v := (-2)) C dX10_raidOf_24 (by decide) ?_
      exact r_iret (pc := 26) C R0 h dX10_raidOf_26
    · refine r_iload_n (pc := 14) C dX10_raidOf_14 rfl rfl ?_
      refine r_iconst (pc := 15) (v := (nI 0)) C dX10_raidOf_15 (by decide) ?_
      refine r_bipush (pc := 16) (v := (nI 8)) C dX10_raidOf_16 (by decide) ?_
      refine r_sI3 (pc := 18) C (fun r M' e => zX10_isWithin X.1 a2 (nI 0) (nI 8) M2 r M' e) mX10_isWithin lX10_152 (by decide) (Nat.le_of_ble_eq_true rfl) dX10_raidOf_18 h (fun r3 M4 h => ?_)
      refine r_if_ne (pc := 21) (tgt := 27) C dX10_raidOf_21 (by decide) h (fun _ h => ?_) (fun _ h => ?_)
      · refine r_iload_n (pc := 27) C dX10_raidOf_27 rfl rfl ?_
        refine r_aload_n (pc := 28) C dX10_raidOf_28 rfl rfl ?_
        refine r_getR (pc := 29) C kX10_24 h0 (by decide) dX10_raidOf_29 ?_
        refine r_getR (pc := 32) C kX10_114 (xtk h0 (by decide) rfl rfl) (by decide) dX10_raidOf_32 ?_
        refine r_getI (pc := 35) C kX10_118 (xtk (xtk h0 (by decide) rfl rfl) (by decide) rfl rfl) dX10_raidOf_35 ?_
        refine r_icmp_ge (pc := 38) (tgt := 58) C dX10_raidOf_38 (by decide) h (fun _ h => ?_) (fun _ h => ?_)
        · refine r_iconst (pc := 58) (v := (-1)) C dX10_raidOf_58 (by decide) ?_
          exact r_iret (pc := 59) C R0 h dX10_raidOf_59
        · refine r_aload_n (pc := 41) C dX10_raidOf_41 rfl rfl ?_
          refine r_getR (pc := 42) C kX10_24 h0 (by decide) dX10_raidOf_42 ?_
          refine r_getR (pc := 45) C kX10_114 (xtk h0 (by decide) rfl rfl) (by decide) dX10_raidOf_45 ?_
          refine r_getR (pc := 48) C kX10_239 (xtk (xtk h0 (by decide) rfl rfl) (by decide) rfl rfl) (by decide) dX10_raidOf_48 ?_
          refine r_iload_n (pc := 51) C dX10_raidOf_51 rfl rfl ?_
          obtain ⟨g5, h⟩ := xGb_of h
          refine r_aaldI (pc := 52) C (xtk (xtk (xtk h0 (by decide) rfl rfl) (by decide) rfl rfl) (by decide) rfl rfl) g5 dX10_raidOf_52 ?_
          refine r_iload_n (pc := 53) C dX10_raidOf_53 rfl rfl ?_
          obtain ⟨g6, h⟩ := xGb_of h
          refine r_iald (pc := 54) C (xkeI (xtk (xtk (xtk h0 (by decide) rfl rfl) (by decide) rfl rfl) (by decide) rfl rfl) (xin_lt g5)) g6 dX10_raidOf_54 ?_
          refine r_goto (pc := 55) (tgt := 59) C dX10_raidOf_55 (by decide) ?_
          exact r_iret (pc := 59) C R0 h dX10_raidOf_59
      · refine r_bipush (pc := 24) (v := (-2)) C dX10_raidOf_24 (by decide) ?_
        exact r_iret (pc := 26) C R0 h dX10_raidOf_26
