theorem dX10_lead_0 : decode cX10_lead 0 = .ok (.aload_n 0, 1) := by decide +kernel
theorem dX10_lead_1 : decode cX10_lead 1 = .ok (.getfield 24, 3) := by decide +kernel
theorem dX10_lead_4 : decode cX10_lead 4 = .ok (.invokevirtual 135, 3) := by decide +kernel
theorem dX10_lead_7 : decode cX10_lead 7 = .ok (.ifCond .eq 21, 3) := by decide +kernel
theorem dX10_lead_10 : decode cX10_lead 10 = .ok (.iload_n 1, 1) := by decide +kernel
theorem dX10_lead_11 : decode cX10_lead 11 = .ok (.iconst 0, 1) := by decide +kernel
theorem dX10_lead_12 : decode cX10_lead 12 = .ok (.aload_n 0, 1) := by decide +kernel
theorem dX10_lead_13 : decode cX10_lead 13 = .ok (.getfield 24, 3) := by decide +kernel
theorem dX10_lead_16 : decode cX10_lead 16 = .ok (.getfield 114, 3) := by decide +kernel
theorem dX10_lead_19 : decode cX10_lead 19 = .ok (.getfield 118, 3) := by decide +kernel
theorem dX10_lead_22 : decode cX10_lead 22 = .ok (.invokestatic 152, 3) := by decide +kernel
theorem dX10_lead_25 : decode cX10_lead 25 = .ok (.ifCond .ne 7, 3) := by decide +kernel
theorem dX10_lead_28 : decode cX10_lead 28 = .ok (.sipush (-1000), 3) := by decide +kernel
theorem dX10_lead_31 : decode cX10_lead 31 = .ok (.ireturn, 1) := by decide +kernel
theorem dX10_lead_32 : decode cX10_lead 32 = .ok (.aload_n 0, 1) := by decide +kernel
theorem dX10_lead_33 : decode cX10_lead 33 = .ok (.getfield 24, 3) := by decide +kernel
theorem dX10_lead_36 : decode cX10_lead 36 = .ok (.getfield 114, 3) := by decide +kernel
theorem dX10_lead_39 : decode cX10_lead 39 = .ok (.getfield 243, 3) := by decide +kernel
theorem dX10_lead_42 : decode cX10_lead 42 = .ok (.iload_n 1, 1) := by decide +kernel
theorem dX10_lead_43 : decode cX10_lead 43 = .ok (.iaload, 1) := by decide +kernel
theorem dX10_lead_44 : decode cX10_lead 44 = .ok (.ireturn, 1) := by decide +kernel
def fX10_lead (a0 : Nat) (a1 : Int32) (M : xMem) : Option (Int32 × xMem) :=
  xBn (fX2_isTold (xrf a0 2) M) fun r1 M2 => if r1 = 0 then (some ((-1000), M2)) else (xBn (fX10_isWithin a1 (nI 0) (M2.1 (xrf (xrf a0 2) 2) 5) M2) fun r3 M4 => if r3 = 0 then (some ((-1000), M4)) else (xGb a1 (xln (xrf (xrf (xrf a0 2) 2) 2)) (some ((M4.1 (xrf (xrf (xrf a0 2) 2) 2) (Int32.toNatClampNeg a1)), M4))))
set_option maxRecDepth 100000 in
set_option maxHeartbeats 4000000 in
theorem zX10_lead (G : xGX) (a0 : Nat) (h0 : xkd a0 = 10) (a1 : Int32) (M : xMem) (r : Int32) (M' : xMem) (h : fX10_lead a0 a1 M = some (r, M')) : xCt G yX10_lead cX10_lead 2 (some .int) 3 [vr G a0, .int a1] M (some (.int r), M') := by
  refine xMet (lv := [some (vr G a0), some (.int a1)]) (by decide) (Nat.le_of_ble_eq_true rfl) rfl ?_
  intro X hG hnL C R0
  subst hG
  have C : xCk X cX10_lead RX10 3 := C
  unfold fX10_lead at h
  refine r_aload_n (pc := 0) C dX10_lead_0 rfl rfl ?_
  refine r_getR (pc := 1) C kX10_24 h0 (by decide) dX10_lead_1 ?_
  refine r_vI0 (pc := 4) C (fun r M' e => zX2_isTold X.1 (xrf a0 2) (xtk h0 (by decide) rfl rfl) M r M' e) (xtk h0 (by decide) rfl rfl) (by decide) rfl mX2_isTold lX10_135 (by decide) (Nat.le_of_ble_eq_true rfl) dX10_lead_4 h (fun r1 M2 h => ?_)
  refine r_if_eq (pc := 7) (tgt := 28) C dX10_lead_7 (by decide) h (fun _ h => ?_) (fun _ h => ?_)
  · refine r_sipush (pc := 28) (v := (-1000)) C dX10_lead_28 (by decide) ?_
    exact r_iret (pc := 31) C R0 h dX10_lead_31
  · refine r_iload_n (pc := 10) C dX10_lead_10 rfl rfl ?_
    refine r_iconst (pc := 11) (v := (nI 0)) C dX10_lead_11 (by decide) ?_
    refine r_aload_n (pc := 12) C dX10_lead_12 rfl rfl ?_
    refine r_getR (pc := 13) C kX10_24 h0 (by decide) dX10_lead_13 ?_
    refine r_getR (pc := 16) C kX10_114 (xtk h0 (by decide) rfl rfl) (by decide) dX10_lead_16 ?_
    refine r_getI (pc := 19) C kX10_118 (xtk (xtk h0 (by decide) rfl rfl) (by decide) rfl rfl) dX10_lead_19 ?_
    refine r_sI3 (pc := 22) C (fun r M' e => zX10_isWithin X.1 a1 (nI 0) (M2.1 (xrf (xrf a0 2) 2) 5) M2 r M' e) mX10_isWithin lX10_152 (by decide) (Nat.le_of_ble_eq_true rfl) dX10_lead_22 h (fun r3 M4 h => ?_)
    refine r_if_ne (pc := 25) (tgt := 32) C dX10_lead_25 (by decide) h (fun _ h => ?_) (fun _ h => ?_)
    · refine r_aload_n (pc := 32) C dX10_lead_32 rfl rfl ?_
      refine r_getR (pc := 33) C kX10_24 h0 (by decide) dX10_lead_33 ?_
      refine r_getR (pc := 36) C kX10_114 (xtk h0 (by decide) rfl rfl) (by decide) dX10_lead_36 ?_
      refine r_getR (pc := 39) C kX10_243 (xtk (xtk h0 (by decide) rfl rfl) (by decide) rfl rfl) (by decide) dX10_lead_39 ?_
      refine r_iload_n (pc := 42) C dX10_lead_42 rfl rfl ?_
      obtain ⟨g5, h⟩ := xGb_of h
      refine r_iald (pc := 43) C (xtk (xtk (xtk h0 (by decide) rfl rfl) (by decide) rfl rfl) (by decide) rfl rfl) g5 dX10_lead_43 ?_
      exact r_iret (pc := 44) C R0 h dX10_lead_44
    · refine r_sipush (pc := 28) (v := (-1000)) C dX10_lead_28 (by decide) ?_
      exact r_iret (pc := 31) C R0 h dX10_lead_31
theorem dX10_changes_0 : decode cX10_changes 0 = .ok (.aload_n 0, 1) := by decide +kernel
theorem dX10_changes_1 : decode cX10_changes 1 = .ok (.getfield 24, 3) := by decide +kernel
theorem dX10_changes_4 : decode cX10_changes 4 = .ok (.invokevirtual 135, 3) := by decide +kernel
theorem dX10_changes_7 : decode cX10_changes 7 = .ok (.ifCond .eq 16, 3) := by decide +kernel
theorem dX10_changes_10 : decode cX10_changes 10 = .ok (.aload_n 0, 1) := by decide +kernel
theorem dX10_changes_11 : decode cX10_changes 11 = .ok (.getfield 24, 3) := by decide +kernel
theorem dX10_changes_14 : decode cX10_changes 14 = .ok (.getfield 114, 3) := by decide +kernel
theorem dX10_changes_17 : decode cX10_changes 17 = .ok (.invokevirtual 246, 3) := by decide +kernel
theorem dX10_changes_20 : decode cX10_changes 20 = .ok (.goto 5, 3) := by decide +kernel
theorem dX10_changes_23 : decode cX10_changes 23 = .ok (.bipush (-2), 2) := by decide +kernel
theorem dX10_changes_25 : decode cX10_changes 25 = .ok (.ireturn, 1) := by decide +kernel
def fX10_changes (a0 : Nat) (M : xMem) : Option (Int32 × xMem) :=
  xBn (fX2_isTold (xrf a0 2) M) fun r1 M2 => if r1 = 0 then (some ((-2), M2)) else (xBn (fX1_leadChanges (xrf (xrf a0 2) 2) M2) fun r3 M4 => some (r3, M4))
set_option maxRecDepth 100000 in
set_option maxHeartbeats 4000000 in
theorem zX10_changes (G : xGX) (a0 : Nat) (h0 : xkd a0 = 10) (M : xMem) (r : Int32) (M' : xMem) (h : fX10_changes a0 M = some (r, M')) : xCt G yX10_changes cX10_changes 1 (some .int) 3 [vr G a0] M (some (.int r), M') := by
  refine xMet (lv := [some (vr G a0)]) (by decide) (Nat.le_of_ble_eq_true rfl) rfl ?_
  intro X hG hnL C R0
  subst hG
  have C : xCk X cX10_changes RX10 3 := C
  unfold fX10_changes at h
  refine r_aload_n (pc := 0) C dX10_changes_0 rfl rfl ?_
  refine r_getR (pc := 1) C kX10_24 h0 (by decide) dX10_changes_1 ?_
  refine r_vI0 (pc := 4) C (fun r M' e => zX2_isTold X.1 (xrf a0 2) (xtk h0 (by decide) rfl rfl) M r M' e) (xtk h0 (by decide) rfl rfl) (by decide) rfl mX2_isTold lX10_135 (by decide) (Nat.le_of_ble_eq_true rfl) dX10_changes_4 h (fun r1 M2 h => ?_)
  refine r_if_eq (pc := 7) (tgt := 23) C dX10_changes_7 (by decide) h (fun _ h => ?_) (fun _ h => ?_)
  · refine r_bipush (pc := 23) (v := (-2)) C dX10_changes_23 (by decide) ?_
    exact r_iret (pc := 25) C R0 h dX10_changes_25
  · refine r_aload_n (pc := 10) C dX10_changes_10 rfl rfl ?_
    refine r_getR (pc := 11) C kX10_24 h0 (by decide) dX10_changes_11 ?_
    refine r_getR (pc := 14) C kX10_114 (xtk h0 (by decide) rfl rfl) (by decide) dX10_changes_14 ?_
    refine r_vI0 (pc := 17) C (fun r M' e => zX1_leadChanges X.1 (xrf (xrf a0 2) 2) (xtk (xtk h0 (by decide) rfl rfl) (by decide) rfl rfl) M2 r M' e) (xtk (xtk h0 (by decide) rfl rfl) (by decide) rfl rfl) (by decide) rfl mX1_leadChanges lX10_246 (by decide) (Nat.le_of_ble_eq_true rfl) dX10_changes_17 h (fun r3 M4 h => ?_)
    refine r_goto (pc := 20) (tgt := 25) C dX10_changes_20 (by decide) ?_
    exact r_iret (pc := 25) C R0 h dX10_changes_25
theorem dX10_draws_0 : decode cX10_draws 0 = .ok (.aload_n 0, 1) := by decide +kernel
theorem dX10_draws_1 : decode cX10_draws 1 = .ok (.getfield 24, 3) := by decide +kernel
theorem dX10_draws_4 : decode cX10_draws 4 = .ok (.invokevirtual 135, 3) := by decide +kernel
theorem dX10_draws_7 : decode cX10_draws 7 = .ok (.ifCond .eq 16, 3) := by decide +kernel
theorem dX10_draws_10 : decode cX10_draws 10 = .ok (.aload_n 0, 1) := by decide +kernel
theorem dX10_draws_11 : decode cX10_draws 11 = .ok (.getfield 24, 3) := by decide +kernel
theorem dX10_draws_14 : decode cX10_draws 14 = .ok (.getfield 114, 3) := by decide +kernel
theorem dX10_draws_17 : decode cX10_draws 17 = .ok (.invokevirtual 249, 3) := by decide +kernel
theorem dX10_draws_20 : decode cX10_draws 20 = .ok (.goto 5, 3) := by decide +kernel
theorem dX10_draws_23 : decode cX10_draws 23 = .ok (.bipush (-2), 2) := by decide +kernel
theorem dX10_draws_25 : decode cX10_draws 25 = .ok (.ireturn, 1) := by decide +kernel
def fX10_draws (a0 : Nat) (M : xMem) : Option (Int32 × xMem) :=
  xBn (fX2_isTold (xrf a0 2) M) fun r1 M2 => if r1 = 0 then (some ((-2), M2)) else (xBn (fX1_drawCount (xrf (xrf a0 2) 2) M2) fun r3 M4 => some (r3, M4))
set_option maxRecDepth 100000 in
set_option maxHeartbeats 4000000 in
theorem zX10_draws (G : xGX) (a0 : Nat) (h0 : xkd a0 = 10) (M : xMem) (r : Int32) (M' : xMem) (h : fX10_draws a0 M = some (r, M')) : xCt G yX10_draws cX10_draws 1 (some .int) 3 [vr G a0] M (some (.int r), M') := by
  refine xMet (lv := [some (vr G a0)]) (by decide) (Nat.le_of_ble_eq_true rfl) rfl ?_
  intro X hG hnL C R0
  subst hG
  have C : xCk X cX10_draws RX10 3 := C
  unfold fX10_draws at h
  refine r_aload_n (pc := 0) C dX10_draws_0 rfl rfl ?_
  refine r_getR (pc := 1) C kX10_24 h0 (by decide) dX10_draws_1 ?_
  refine r_vI0 (pc := 4) C (fun r M' e => zX2_isTold X.1 (xrf a0 2) (xtk h0 (by decide) rfl rfl) M r M' e) (xtk h0 (by decide) rfl rfl) (by decide) rfl mX2_isTold lX10_135 (by decide) (Nat.le_of_ble_eq_true rfl) dX10_draws_4 h (fun r1 M2 h => ?_)
  refine r_if_eq (pc := 7) (tgt := 23) C dX10_draws_7 (by decide) h (fun _ h => ?_) (fun _ h => ?_)
  · refine r_bipush (pc := 23) (v := (-2)) C dX10_draws_23 (by decide) ?_
    exact r_iret (pc := 25) C R0 h dX10_draws_25
  · refine r_aload_n (pc := 10) C dX10_draws_10 rfl rfl ?_
    refine r_getR (pc := 11) C kX10_24 h0 (by decide) dX10_draws_11 ?_
    refine r_getR (pc := 14) C kX10_114 (xtk h0 (by decide) rfl rfl) (by decide) dX10_draws_14 ?_
    refine r_vI0 (pc := 17) C (fun r M' e => zX1_drawCount X.1 (xrf (xrf a0 2) 2) (xtk (xtk h0 (by decide) rfl rfl) (by decide) rfl rfl) M2 r M' e) (xtk (xtk h0 (by decide) rfl rfl) (by decide) rfl rfl) (by decide) rfl mX1_drawCount lX10_249 (by decide) (Nat.le_of_ble_eq_true rfl) dX10_draws_17 h (fun r3 M4 h => ?_)
    refine r_goto (pc := 20) (tgt := 25) C dX10_draws_20 (by decide) ?_
    exact r_iret (pc := 25) C R0 h dX10_draws_25
theorem dX10_behind_0 : decode cX10_behind 0 = .ok (.aload_n 0, 1) := by decide +kernel
theorem dX10_behind_1 : decode cX10_behind 1 = .ok (.iload_n 1, 1) := by decide +kernel
theorem dX10_behind_2 : decode cX10_behind 2 = .ok (.invokevirtual 148, 3) := by decide +kernel
theorem dX10_behind_5 : decode cX10_behind 5 = .ok (.ifCond .eq 17, 3) := by decide +kernel
theorem dX10_behind_8 : decode cX10_behind 8 = .ok (.aload_n 0, 1) := by decide +kernel
theorem dX10_behind_9 : decode cX10_behind 9 = .ok (.getfield 24, 3) := by decide +kernel
theorem dX10_behind_12 : decode cX10_behind 12 = .ok (.getfield 114, 3) := by decide +kernel
theorem dX10_behind_15 : decode cX10_behind 15 = .ok (.iload_n 1, 1) := by decide +kernel
theorem dX10_behind_16 : decode cX10_behind 16 = .ok (.invokevirtual 252, 3) := by decide +kernel
theorem dX10_behind_19 : decode cX10_behind 19 = .ok (.goto 5, 3) := by decide +kernel
theorem dX10_behind_22 : decode cX10_behind 22 = .ok (.bipush (-2), 2) := by decide +kernel
theorem dX10_behind_24 : decode cX10_behind 24 = .ok (.ireturn, 1) := by decide +kernel
def fX10_behind (a0 : Nat) (a1 : Int32) (M : xMem) : Option (Int32 × xMem) :=
  xBn (fX10_hasTeam a0 a1 M) fun r1 M2 => if r1 = 0 then (some ((-2), M2)) else (xBn (fX1_mostBehind (xrf (xrf a0 2) 2) a1 M2) fun r3 M4 => some (r3, M4))
set_option maxRecDepth 100000 in
set_option maxHeartbeats 4000000 in
theorem zX10_behind (G : xGX) (a0 : Nat) (h0 : xkd a0 = 10) (a1 : Int32) (M : xMem) (r : Int32) (M' : xMem) (h : fX10_behind a0 a1 M = some (r, M')) : xCt G yX10_behind cX10_behind 2 (some .int) 4 [vr G a0, .int a1] M (some (.int r), M') := by
  refine xMet (lv := [some (vr G a0), some (.int a1)]) (by decide) (Nat.le_of_ble_eq_true rfl) rfl ?_
  intro X hG hnL C R0
  subst hG
  have C : xCk X cX10_behind RX10 4 := C
  unfold fX10_behind at h
  refine r_aload_n (pc := 0) C dX10_behind_0 rfl rfl ?_
  refine r_iload_n (pc := 1) C dX10_behind_1 rfl rfl ?_
  refine r_vI1 (pc := 2) C (fun r M' e => zX10_hasTeam X.1 a0 h0 a1 M r M' e) h0 (by decide) rfl mX10_hasTeam lX10_148 (by decide) (Nat.le_of_ble_eq_true rfl) dX10_behind_2 h (fun r1 M2 h => ?_)
  refine r_if_eq (pc := 5) (tgt := 22) C dX10_behind_5 (by decide) h (fun _ h => ?_) (fun _ h => ?_)
  · refine r_bipush (pc := 22) (v := (-2)) C dX10_behind_22 (by decide) ?_
    exact r_iret (pc := 24) C R0 h dX10_behind_24
  · refine r_aload_n (pc := 8) C dX10_behind_8 rfl rfl ?_
    refine r_getR (pc := 9) C kX10_24 h0 (by decide) dX10_behind_9 ?_
    refine r_getR (pc := 12) C kX10_114 (xtk h0 (by decide) rfl rfl) (by decide) dX10_behind_12 ?_
    refine r_iload_n (pc := 15) C dX10_behind_15 rfl rfl ?_
    refine r_vI1 (pc := 16) C (fun r M' e => zX1_mostBehind X.1 (xrf (xrf a0 2) 2) (xtk (xtk h0 (by decide) rfl rfl) (by decide) rfl rfl) a1 M2 r M' e) (xtk (xtk h0 (by decide) rfl rfl) (by decide) rfl rfl) (by decide) rfl mX1_mostBehind lX10_252 (by decide) (Nat.le_of_ble_eq_true rfl) dX10_behind_16 h (fun r3 M4 h => ?_)
    refine r_goto (pc := 19) (tgt := 24) C dX10_behind_19 (by decide) ?_
    exact r_iret (pc := 24) C R0 h dX10_behind_24
theorem dX10_run_0 : decode cX10_run 0 = .ok (.aload_n 0, 1) := by decide +kernel
theorem dX10_run_1 : decode cX10_run 1 = .ok (.iload_n 1, 1) := by decide +kernel
theorem dX10_run_2 : decode cX10_run 2 = .ok (.invokevirtual 148, 3) := by decide +kernel
theorem dX10_run_5 : decode cX10_run 5 = .ok (.ifCond .eq 17, 3) := by decide +kernel
theorem dX10_run_8 : decode cX10_run 8 = .ok (.aload_n 0, 1) := by decide +kernel
theorem dX10_run_9 : decode cX10_run 9 = .ok (.getfield 24, 3) := by decide +kernel
theorem dX10_run_12 : decode cX10_run 12 = .ok (.getfield 114, 3) := by decide +kernel
theorem dX10_run_15 : decode cX10_run 15 = .ok (.iload_n 1, 1) := by decide +kernel
theorem dX10_run_16 : decode cX10_run 16 = .ok (.invokevirtual 255, 3) := by decide +kernel
theorem dX10_run_19 : decode cX10_run 19 = .ok (.goto 5, 3) := by decide +kernel
theorem dX10_run_22 : decode cX10_run 22 = .ok (.bipush (-2), 2) := by decide +kernel
theorem dX10_run_24 : decode cX10_run 24 = .ok (.ireturn, 1) := by decide +kernel
def fX10_run (a0 : Nat) (a1 : Int32) (M : xMem) : Option (Int32 × xMem) :=
  xBn (fX10_hasTeam a0 a1 M) fun r1 M2 => if r1 = 0 then (some ((-2), M2)) else (xBn (fX1_longestRun (xrf (xrf a0 2) 2) a1 M2) fun r3 M4 => some (r3, M4))
set_option maxRecDepth 100000 in
set_option maxHeartbeats 4000000 in
theorem zX10_run (G : xGX) (a0 : Nat) (h0 : xkd a0 = 10) (a1 : Int32) (M : xMem) (r : Int32) (M' : xMem) (h : fX10_run a0 a1 M = some (r, M')) : xCt G yX10_run cX10_run 2 (some .int) 4 [vr G a0, .int a1] M (some (.int r), M') := by
  refine xMet (lv := [some (vr G a0), some (.int a1)]) (by decide) (Nat.le_of_ble_eq_true rfl) rfl ?_
  intro X hG hnL C R0
  subst hG
  have C : xCk X cX10_run RX10 4 := C
  unfold fX10_run at h
  refine r_aload_n (pc := 0) C dX10_run_0 rfl rfl ?_
  refine r_iload_n (pc := 1) C dX10_run_1 rfl rfl ?_
  refine r_vI1 (pc := 2) C (fun r M' e => zX10_hasTeam X.1 a0 h0 a1 M r M' e) h0 (by decide) rfl mX10_hasTeam lX10_148 (by decide) (Nat.le_of_ble_eq_true rfl) dX10_run_2 h (fun r1 M2 h => ?_)
  refine r_if_eq (pc := 5) (tgt := 22) C dX10_run_5 (by decide) h (fun _ h => ?_) (fun _ h => ?_)
  · refine r_bipush (pc := 22) (v := (-2)) C dX10_run_22 (by decide) ?_
    exact r_iret (pc := 24) C R0 h dX10_run_24
  · refine r_aload_n (pc := 8) C dX10_run_8 rfl rfl ?_
    refine r_getR (pc := 9) C kX10_24 h0 (by decide) dX10_run_9 ?_
    refine r_getR (pc := 12) C kX10_114 (xtk h0 (by decide) rfl rfl) (by decide) dX10_run_12 ?_
    refine r_iload_n (pc := 15) C dX10_run_15 rfl rfl ?_
    refine r_vI1 (pc := 16) C (fun r M' e => zX1_longestRun X.1 (xrf (xrf a0 2) 2) (xtk (xtk h0 (by decide) rfl rfl) (by decide) rfl rfl) a1 M2 r M' e) (xtk (xtk h0 (by decide) rfl rfl) (by decide) rfl rfl) (by decide) rfl mX1_longestRun lX10_255 (by decide) (Nat.le_of_ble_eq_true rfl) dX10_run_16 h (fun r3 M4 h => ?_)
    refine r_goto (pc := 19) (tgt := 24) C dX10_run_19 (by decide) ?_
    exact r_iret (pc := 24) C R0 h dX10_run_24
theorem dX10_longest_0 : decode cX10_longest 0 = .ok (.aload_n 0, 1) := by decide +kernel
theorem dX10_longest_1 : decode cX10_longest 1 = .ok (.iload_n 1, 1) := by decide +kernel
theorem dX10_longest_2 : decode cX10_longest 2 = .ok (.invokevirtual 148, 3) := by decide +kernel
theorem dX10_longest_5 : decode cX10_longest 5 = .ok (.ifCond .eq 17, 3) := by decide +kernel
theorem dX10_longest_8 : decode cX10_longest 8 = .ok (.aload_n 0, 1) := by decide +kernel
theorem dX10_longest_9 : decode cX10_longest 9 = .ok (.getfield 24, 3) := by decide +kernel
theorem dX10_longest_12 : decode cX10_longest 12 = .ok (.getfield 114, 3) := by decide +kernel
theorem dX10_longest_15 : decode cX10_longest 15 = .ok (.iload_n 1, 1) := by decide +kernel
theorem dX10_longest_16 : decode cX10_longest 16 = .ok (.invokevirtual 258, 3) := by decide +kernel
theorem dX10_longest_19 : decode cX10_longest 19 = .ok (.goto 5, 3) := by decide +kernel
theorem dX10_longest_22 : decode cX10_longest 22 = .ok (.bipush (-2), 2) := by decide +kernel
theorem dX10_longest_24 : decode cX10_longest 24 = .ok (.ireturn, 1) := by decide +kernel
def fX10_longest (a0 : Nat) (a1 : Int32) (M : xMem) : Option (Int32 × xMem) :=
  xBn (fX10_hasTeam a0 a1 M) fun r1 M2 => if r1 = 0 then (some ((-2), M2)) else (xBn (fX1_longestOwn (xrf (xrf a0 2) 2) a1 M2) fun r3 M4 => some (r3, M4))
set_option maxRecDepth 100000 in
set_option maxHeartbeats 4000000 in
theorem zX10_longest (G : xGX) (a0 : Nat) (h0 : xkd a0 = 10) (a1 : Int32) (M : xMem) (r : Int32) (M' : xMem) (h : fX10_longest a0 a1 M = some (r, M')) : xCt G yX10_longest cX10_longest 2 (some .int) 4 [vr G a0, .int a1] M (some (.int r), M') := by
  refine xMet (lv := [some (vr G a0), some (.int a1)]) (by decide) (Nat.le_of_ble_eq_true rfl) rfl ?_
  intro X hG hnL C R0
  subst hG
  have C : xCk X cX10_longest RX10 4 := C
  unfold fX10_longest at h
  refine r_aload_n (pc := 0) C dX10_longest_0 rfl rfl ?_
  refine r_iload_n (pc := 1) C dX10_longest_1 rfl rfl ?_
  refine r_vI1 (pc := 2) C (fun r M' e => zX10_hasTeam X.1 a0 h0 a1 M r M' e) h0 (by decide) rfl mX10_hasTeam lX10_148 (by decide) (Nat.le_of_ble_eq_true rfl) dX10_longest_2 h (fun r1 M2 h => ?_)
  refine r_if_eq (pc := 5) (tgt := 22) C dX10_longest_5 (by decide) h (fun _ h => ?_) (fun _ h => ?_)
  · refine r_bipush (pc := 22) (v := (-2)) C dX10_longest_22 (by decide) ?_
    exact r_iret (pc := 24) C R0 h dX10_longest_24
  · refine r_aload_n (pc := 8) C dX10_longest_8 rfl rfl ?_
    refine r_getR (pc := 9) C kX10_24 h0 (by decide) dX10_longest_9 ?_
    refine r_getR (pc := 12) C kX10_114 (xtk h0 (by decide) rfl rfl) (by decide) dX10_longest_12 ?_
    refine r_iload_n (pc := 15) C dX10_longest_15 rfl rfl ?_
    refine r_vI1 (pc := 16) C (fun r M' e => zX1_longestOwn X.1 (xrf (xrf a0 2) 2) (xtk (xtk h0 (by decide) rfl rfl) (by decide) rfl rfl) a1 M2 r M' e) (xtk (xtk h0 (by decide) rfl rfl) (by decide) rfl rfl) (by decide) rfl mX1_longestOwn lX10_258 (by decide) (Nat.le_of_ble_eq_true rfl) dX10_longest_16 h (fun r3 M4 h => ?_)
    refine r_goto (pc := 19) (tgt := 24) C dX10_longest_19 (by decide) ?_
    exact r_iret (pc := 24) C R0 h dX10_longest_24
theorem dX10_great_0 : decode cX10_great 0 = .ok (.aload_n 0, 1) := by decide +kernel
theorem dX10_great_1 : decode cX10_great 1 = .ok (.iload_n 1, 1) := by decide +kernel
theorem dX10_great_2 : decode cX10_great 2 = .ok (.invokevirtual 148, 3) := by decide +kernel
theorem dX10_great_5 : decode cX10_great 5 = .ok (.ifCond .eq 17, 3) := by decide +kernel
theorem dX10_great_8 : decode cX10_great 8 = .ok (.aload_n 0, 1) := by decide +kernel
theorem dX10_great_9 : decode cX10_great 9 = .ok (.getfield 24, 3) := by decide +kernel
theorem dX10_great_12 : decode cX10_great 12 = .ok (.getfield 114, 3) := by decide +kernel
theorem dX10_great_15 : decode cX10_great 15 = .ok (.iload_n 1, 1) := by decide +kernel
theorem dX10_great_16 : decode cX10_great 16 = .ok (.invokevirtual 261, 3) := by decide +kernel
theorem dX10_great_19 : decode cX10_great 19 = .ok (.goto 5, 3) := by decide +kernel
theorem dX10_great_22 : decode cX10_great 22 = .ok (.bipush (-2), 2) := by decide +kernel
theorem dX10_great_24 : decode cX10_great 24 = .ok (.ireturn, 1) := by decide +kernel
def fX10_great (a0 : Nat) (a1 : Int32) (M : xMem) : Option (Int32 × xMem) :=
  xBn (fX10_hasTeam a0 a1 M) fun r1 M2 => if r1 = 0 then (some ((-2), M2)) else (xBn (fX1_greatCount (xrf (xrf a0 2) 2) a1 M2) fun r3 M4 => some (r3, M4))
set_option maxRecDepth 100000 in
set_option maxHeartbeats 4000000 in
theorem zX10_great (G : xGX) (a0 : Nat) (h0 : xkd a0 = 10) (a1 : Int32) (M : xMem) (r : Int32) (M' : xMem) (h : fX10_great a0 a1 M = some (r, M')) : xCt G yX10_great cX10_great 2 (some .int) 4 [vr G a0, .int a1] M (some (.int r), M') := by
  refine xMet (lv := [some (vr G a0), some (.int a1)]) (by decide) (Nat.le_of_ble_eq_true rfl) rfl ?_
  intro X hG hnL C R0
  subst hG
  have C : xCk X cX10_great RX10 4 := C
  unfold fX10_great at h
  refine r_aload_n (pc := 0) C dX10_great_0 rfl rfl ?_
  refine r_iload_n (pc := 1) C dX10_great_1 rfl rfl ?_
  refine r_vI1 (pc := 2) C (fun r M' e => zX10_hasTeam X.1 a0 h0 a1 M r M' e) h0 (by decide) rfl mX10_hasTeam lX10_148 (by decide) (Nat.le_of_ble_eq_true rfl) dX10_great_2 h (fun r1 M2 h => ?_)
  refine r_if_eq (pc := 5) (tgt := 22) C dX10_great_5 (by decide) h (fun _ h => ?_) (fun _ h => ?_)
  · refine r_bipush (pc := 22) (v := (-2)) C dX10_great_22 (by decide) ?_
    exact r_iret (pc := 24) C R0 h dX10_great_24
  · refine r_aload_n (pc := 8) C dX10_great_8 rfl rfl ?_
    refine r_getR (pc := 9) C kX10_24 h0 (by decide) dX10_great_9 ?_
    refine r_getR (pc := 12) C kX10_114 (xtk h0 (by decide) rfl rfl) (by decide) dX10_great_12 ?_
    refine r_iload_n (pc := 15) C dX10_great_15 rfl rfl ?_
    refine r_vI1 (pc := 16) C (fun r M' e => zX1_greatCount X.1 (xrf (xrf a0 2) 2) (xtk (xtk h0 (by decide) rfl rfl) (by decide) rfl rfl) a1 M2 r M' e) (xtk (xtk h0 (by decide) rfl rfl) (by decide) rfl rfl) (by decide) rfl mX1_greatCount lX10_261 (by decide) (Nat.le_of_ble_eq_true rfl) dX10_great_16 h (fun r3 M4 h => ?_)
    refine r_goto (pc := 19) (tgt := 24) C dX10_great_19 (by decide) ?_
    exact r_iret (pc := 24) C R0 h dX10_great_24
theorem dX10_pressed_0 : decode cX10_pressed 0 = .ok (.aload_n 0, 1) := by decide +kernel
theorem dX10_pressed_1 : decode cX10_pressed 1 = .ok (.iload_n 1, 1) := by decide +kernel
theorem dX10_pressed_2 : decode cX10_pressed 2 = .ok (.invokevirtual 148, 3) := by decide +kernel
theorem dX10_pressed_5 : decode cX10_pressed 5 = .ok (.ifCond .eq 12, 3) := by decide +kernel
theorem dX10_pressed_8 : decode cX10_pressed 8 = .ok (.iload_n 2, 1) := by decide +kernel
theorem dX10_pressed_9 : decode cX10_pressed 9 = .ok (.iconst 0, 1) := by decide +kernel
theorem dX10_pressed_10 : decode cX10_pressed 10 = .ok (.iconst 1, 1) := by decide +kernel
theorem dX10_pressed_11 : decode cX10_pressed 11 = .ok (.invokestatic 152, 3) := by decide +kernel
theorem dX10_pressed_14 : decode cX10_pressed 14 = .ok (.ifCond .ne 6, 3) := by decide +kernel
theorem dX10_pressed_17 : decode cX10_pressed 17 = .ok (.bipush (-2), 2) := by decide +kernel
theorem dX10_pressed_19 : decode cX10_pressed 19 = .ok (.ireturn, 1) := by decide +kernel
theorem dX10_pressed_20 : decode cX10_pressed 20 = .ok (.aload_n 0, 1) := by decide +kernel
theorem dX10_pressed_21 : decode cX10_pressed 21 = .ok (.getfield 24, 3) := by decide +kernel
theorem dX10_pressed_24 : decode cX10_pressed 24 = .ok (.getfield 114, 3) := by decide +kernel
theorem dX10_pressed_27 : decode cX10_pressed 27 = .ok (.iload_n 1, 1) := by decide +kernel
theorem dX10_pressed_28 : decode cX10_pressed 28 = .ok (.iload_n 2, 1) := by decide +kernel
theorem dX10_pressed_29 : decode cX10_pressed 29 = .ok (.invokevirtual 264, 3) := by decide +kernel
theorem dX10_pressed_32 : decode cX10_pressed 32 = .ok (.ireturn, 1) := by decide +kernel
def fX10_pressed (a0 : Nat) (a1 : Int32) (a2 : Int32) (M : xMem) : Option (Int32 × xMem) :=
  xBn (fX10_hasTeam a0 a1 M) fun r1 M2 => if r1 = 0 then (some ((-2), M2)) else (xBn (fX10_isWithin a2 (nI 0) (nI 1) M2) fun r3 M4 => if r3 = 0 then (some ((-2), M4)) else (xBn (fX1_pressedCount (xrf (xrf a0 2) 2) a1 a2 M4) fun r5 M6 => some (r5, M6)))
set_option maxRecDepth 100000 in
set_option maxHeartbeats 4000000 in
theorem zX10_pressed (G : xGX) (a0 : Nat) (h0 : xkd a0 = 10) (a1 : Int32) (a2 : Int32) (M : xMem) (r : Int32) (M' : xMem) (h : fX10_pressed a0 a1 a2 M = some (r, M')) : xCt G yX10_pressed cX10_pressed 3 (some .int) 4 [vr G a0, .int a1, .int a2] M (some (.int r), M') := by
  refine xMet (lv := [some (vr G a0), some (.int a1), some (.int a2)]) (by decide) (Nat.le_of_ble_eq_true rfl) rfl ?_
  intro X hG hnL C R0
  subst hG
  have C : xCk X cX10_pressed RX10 4 := C
  unfold fX10_pressed at h
  refine r_aload_n (pc := 0) C dX10_pressed_0 rfl rfl ?_
  refine r_iload_n (pc := 1) C dX10_pressed_1 rfl rfl ?_
  refine r_vI1 (pc := 2) C (fun r M' e => zX10_hasTeam X.1 a0 h0 a1 M r M' e) h0 (by decide) rfl mX10_hasTeam lX10_148 (by decide) (Nat.le_of_ble_eq_true rfl) dX10_pressed_2 h (fun r1 M2 h => ?_)
  refine r_if_eq (pc := 5) (tgt := 17) C dX10_pressed_5 (by decide) h (fun _ h => ?_) (fun _ h => ?_)
  · refine r_bipush (pc := 17) (v := (-2)) C dX10_pressed_17 (by decide) ?_
    exact r_iret (pc := 19) C R0 h dX10_pressed_19
  · refine r_iload_n (pc := 8) C dX10_pressed_8 rfl rfl ?_
    refine r_iconst (pc := 9) (v := (nI 0)) C dX10_pressed_9 (by decide) ?_
    refine r_iconst (pc := 10) (v := (nI 1)) C dX10_pressed_10 (by decide) ?_
    refine r_sI3 (pc := 11) C (fun r M' e => zX10_isWithin X.1 a2 (nI 0) (nI 1) M2 r M' e) mX10_isWithin lX10_152 (by decide) (Nat.le_of_ble_eq_true rfl) dX10_pressed_11 h (fun r3 M4 h => ?_)
    refine r_if_ne (pc := 14) (tgt := 20) C dX10_pressed_14 (by decide) h (fun _ h => ?_) (fun _ h => ?_)
    · refine r_aload_n (pc := 20) C dX10_pressed_20 rfl rfl ?_
      refine r_getR (pc := 21) C kX10_24 h0 (by decide) dX10_pressed_21 ?_
      refine r_getR (pc := 24) C kX10_114 (xtk h0 (by decide) rfl rfl) (by decide) dX10_pressed_24 ?_
      refine r_iload_n (pc := 27) C dX10_pressed_27 rfl rfl ?_
      refine r_iload_n (pc := 28) C dX10_pressed_28 rfl rfl ?_
      refine r_vI2 (pc := 29) C (fun r M' e => zX1_pressedCount X.1 (xrf (xrf a0 2) 2) (xtk (xtk h0 (by decide) rfl rfl) (by decide) rfl rfl) a1 a2 M4 r M' e) (xtk (xtk h0 (by decide) rfl rfl) (by decide) rfl rfl) (by decide) rfl mX1_pressedCount lX10_264 (by decide) (Nat.le_of_ble_eq_true rfl) dX10_pressed_29 h (fun r5 M6 h => ?_)
      exact r_iret (pc := 32) C R0 h dX10_pressed_32
    · refine r_bipush (pc := 17) (v := (-2)) C dX10_pressed_17 (by decide) ?_
      exact r_iret (pc := 19) C R0 h dX10_pressed_19
theorem dX10_gained_0 : decode cX10_gained 0 = .ok (.aload_n 0, 1) := by decide +kernel
theorem dX10_gained_1 : decode cX10_gained 1 = .ok (.iload_n 1, 1) := by decide +kernel
theorem dX10_gained_2 : decode cX10_gained 2 = .ok (.invokevirtual 148, 3) := by decide +kernel
theorem dX10_gained_5 : decode cX10_gained 5 = .ok (.ifCond .eq 26, 3) := by decide +kernel
theorem dX10_gained_8 : decode cX10_gained 8 = .ok (.iload_n 2, 1) := by decide +kernel
theorem dX10_gained_9 : decode cX10_gained 9 = .ok (.ifCond .lt 22, 3) := by decide +kernel
theorem dX10_gained_12 : decode cX10_gained 12 = .ok (.iload_n 3, 1) := by decide +kernel
theorem dX10_gained_13 : decode cX10_gained 13 = .ok (.iload_n 2, 1) := by decide +kernel
theorem dX10_gained_14 : decode cX10_gained 14 = .ok (.if_icmp .lt 17, 3) := by decide +kernel
theorem dX10_gained_17 : decode cX10_gained 17 = .ok (.iload_n 3, 1) := by decide +kernel
theorem dX10_gained_18 : decode cX10_gained 18 = .ok (.aload_n 0, 1) := by decide +kernel
theorem dX10_gained_19 : decode cX10_gained 19 = .ok (.getfield 24, 3) := by decide +kernel
theorem dX10_gained_22 : decode cX10_gained 22 = .ok (.getfield 114, 3) := by decide +kernel
theorem dX10_gained_25 : decode cX10_gained 25 = .ok (.getfield 118, 3) := by decide +kernel
theorem dX10_gained_28 : decode cX10_gained 28 = .ok (.if_icmp .le 6, 3) := by decide +kernel
theorem dX10_gained_31 : decode cX10_gained 31 = .ok (.bipush (-2), 2) := by decide +kernel
theorem dX10_gained_33 : decode cX10_gained 33 = .ok (.ireturn, 1) := by decide +kernel
theorem dX10_gained_34 : decode cX10_gained 34 = .ok (.iconst 0, 1) := by decide +kernel
theorem dX10_gained_35 : decode cX10_gained 35 = .ok (.istore 4, 2) := by decide +kernel
theorem dX10_gained_37 : decode cX10_gained 37 = .ok (.iload_n 2, 1) := by decide +kernel
theorem dX10_gained_38 : decode cX10_gained 38 = .ok (.istore 5, 2) := by decide +kernel
theorem dX10_gained_40 : decode cX10_gained 40 = .ok (.iload 5, 2) := by decide +kernel
theorem dX10_gained_42 : decode cX10_gained 42 = .ok (.iload_n 3, 1) := by decide +kernel
theorem dX10_gained_43 : decode cX10_gained 43 = .ok (.if_icmp .ge 27, 3) := by decide +kernel
theorem dX10_gained_46 : decode cX10_gained 46 = .ok (.iload 4, 2) := by decide +kernel
theorem dX10_gained_48 : decode cX10_gained 48 = .ok (.aload_n 0, 1) := by decide +kernel
theorem dX10_gained_49 : decode cX10_gained 49 = .ok (.getfield 24, 3) := by decide +kernel
theorem dX10_gained_52 : decode cX10_gained 52 = .ok (.getfield 114, 3) := by decide +kernel
theorem dX10_gained_55 : decode cX10_gained 55 = .ok (.iload_n 1, 1) := by decide +kernel
theorem dX10_gained_56 : decode cX10_gained 56 = .ok (.iload 5, 2) := by decide +kernel
theorem dX10_gained_58 : decode cX10_gained 58 = .ok (.invokevirtual 267, 3) := by decide +kernel
theorem dX10_gained_61 : decode cX10_gained 61 = .ok (.iadd, 1) := by decide +kernel
theorem dX10_gained_62 : decode cX10_gained 62 = .ok (.istore 4, 2) := by decide +kernel
theorem dX10_gained_64 : decode cX10_gained 64 = .ok (.iinc 5 1, 3) := by decide +kernel
theorem dX10_gained_67 : decode cX10_gained 67 = .ok (.goto (-27), 3) := by decide +kernel
theorem dX10_gained_70 : decode cX10_gained 70 = .ok (.iload 4, 2) := by decide +kernel
theorem dX10_gained_72 : decode cX10_gained 72 = .ok (.ireturn, 1) := by decide +kernel
def fX10_gained_l40 (p0 : Nat) (p1 : Int32) (p2 : Int32) (p3 : Int32) (K : Int32 → Int32 → xMem → Option (Int32 × xMem)) : Nat → Int32 → Int32 → xMem → Option (Int32 × xMem)
  | 0, _, _, _ => none
  | n + 1, v4, v5, M => if p3 ≤ v5 then (K v4 v5 M) else (xBn (fX1_pointsOf (xrf (xrf p0 2) 2) p1 v5 M) fun r3 M4 => xLt (v4 + r3) fun x5 => xLt (v5 + nI 1) fun x6 => fX10_gained_l40 p0 p1 p2 p3 K n x5 x6 M4)
def fX10_gained (a0 : Nat) (a1 : Int32) (a2 : Int32) (a3 : Int32) (M : xMem) : Option (Int32 × xMem) :=
  xBn (fX10_hasTeam a0 a1 M) fun r1 M2 => if r1 = 0 then (some ((-2), M2)) else (if a2 < 0 then (some ((-2), M2)) else (if a3 < a2 then (some ((-2), M2)) else (if a3 ≤ (M2.1 (xrf (xrf a0 2) 2) 5) then (fX10_gained_l40 a0 a1 a2 a3 (fun (v7 : Int32) (v8 : Int32) (M9 : xMem) => some (v7, M9)) xFU (nI 0) a2 M2) else (some ((-2), M2)))))
set_option maxRecDepth 100000 in
set_option maxHeartbeats 4000000 in
theorem lX10_gained_40 {X : xCX} {r : Int32} {M' : xMem} (C : xCk X cX10_gained RX10 4) (R0 : xRk X (some .int) (some (.int r), M')) (hnL : X.2.2.2.2.2.2.2.2.2.2.2.2.2 = 6) (p0 : Nat) (hp0 : xkd p0 = 10) (p1 : Int32) (p2 : Int32) (p3 : Int32) (K : Int32 → Int32 → xMem → Option (Int32 × xMem)) (hK : ∀ (v4 : Int32) (v5 : Int32) (M : xMem), K v4 v5 M = some (r, M') → WW X 70 [some (vr X.1 p0), some (.int p1), some (.int p2), some (.int p3), some (.int v4), some (.int v5)] [] M) : ∀ (n : Nat) (v4 : Int32) (v5 : Int32) (M : xMem), fX10_gained_l40 p0 p1 p2 p3 K n v4 v5 M = some (r, M') → WW X 40 [some (vr X.1 p0), some (.int p1), some (.int p2), some (.int p3), some (.int v4), some (.int v5)] [] M := by
  have hn4 : 4 < X.2.2.2.2.2.2.2.2.2.2.2.2.2 := by rw [hnL]; decide
  have hn5 : 5 < X.2.2.2.2.2.2.2.2.2.2.2.2.2 := by rw [hnL]; decide
  intro n
  induction n with
  | zero =>
    intro v4 v5 M h
    cases (show (none : Option (Int32 × xMem)) = some (r, M') from h)
  | succ n ih =>
    intro v4 v5 M h
    rw [fX10_gained_l40.eq_2] at h
    refine r_iload (pc := 40) C dX10_gained_40 rfl ?_
    refine r_iload_n (pc := 42) C dX10_gained_42 rfl rfl ?_
    refine r_icmp_ge (pc := 43) (tgt := 70) C dX10_gained_43 (by decide) h (fun _ h => ?_) (fun _ h => ?_)
    · exact hK v4 v5 M h
    · refine r_iload (pc := 46) C dX10_gained_46 rfl ?_
      refine r_aload_n (pc := 48) C dX10_gained_48 rfl rfl ?_
      refine r_getR (pc := 49) C kX10_24 hp0 (by decide) dX10_gained_49 ?_
      refine r_getR (pc := 52) C kX10_114 (xtk hp0 (by decide) rfl rfl) (by decide) dX10_gained_52 ?_
      refine r_iload_n (pc := 55) C dX10_gained_55 rfl rfl ?_
      refine r_iload (pc := 56) C dX10_gained_56 rfl ?_
      refine r_vI2 (pc := 58) C (fun r M' e => zX1_pointsOf X.1 (xrf (xrf p0 2) 2) (xtk (xtk hp0 (by decide) rfl rfl) (by decide) rfl rfl) p1 v5 M r M' e) (xtk (xtk hp0 (by decide) rfl rfl) (by decide) rfl rfl) (by decide) rfl mX1_pointsOf lX10_267 (by decide) (Nat.le_of_ble_eq_true rfl) dX10_gained_58 h (fun r3 M4 h => ?_)
      refine r_iadd (pc := 61) C dX10_gained_61 ?_
      refine r_letI h (fun x5 h => ?_)
      refine r_istore (pc := 62) (lv' := [_, _, _, _, _, _]) C dX10_gained_62 hn4 rfl ?_
      refine r_iincL (pc := 64) (c := nI 1) C dX10_gained_64 rfl (by decide) hn5 h (fun x6 h => ?_)
      refine r_lvE (lv' := [_, _, _, _, _, _]) rfl ?_
      refine r_goto (pc := 67) (tgt := 40) C dX10_gained_67 (by decide) ?_
      exact ih x5 x6 M4 h
set_option maxRecDepth 100000 in
set_option maxHeartbeats 4000000 in
theorem zX10_gained (G : xGX) (a0 : Nat) (h0 : xkd a0 = 10) (a1 : Int32) (a2 : Int32) (a3 : Int32) (M : xMem) (r : Int32) (M' : xMem) (h : fX10_gained a0 a1 a2 a3 M = some (r, M')) : xCt G yX10_gained cX10_gained 6 (some .int) 4 [vr G a0, .int a1, .int a2, .int a3] M (some (.int r), M') := by
  refine xMet (lv := [some (vr G a0), some (.int a1), some (.int a2), some (.int a3), none, none]) (by decide) (Nat.le_of_ble_eq_true rfl) rfl ?_
  intro X hG hnL C R0
  subst hG
  have C : xCk X cX10_gained RX10 4 := C
  have hn4 : 4 < X.2.2.2.2.2.2.2.2.2.2.2.2.2 := by rw [hnL]; decide
  have hn5 : 5 < X.2.2.2.2.2.2.2.2.2.2.2.2.2 := by rw [hnL]; decide
  unfold fX10_gained at h
  refine r_aload_n (pc := 0) C dX10_gained_0 rfl rfl ?_
  refine r_iload_n (pc := 1) C dX10_gained_1 rfl rfl ?_
  refine r_vI1 (pc := 2) C (fun r M' e => zX10_hasTeam X.1 a0 h0 a1 M r M' e) h0 (by decide) rfl mX10_hasTeam lX10_148 (by decide) (Nat.le_of_ble_eq_true rfl) dX10_gained_2 h (fun r1 M2 h => ?_)
  refine r_if_eq (pc := 5) (tgt := 31) C dX10_gained_5 (by decide) h (fun _ h => ?_) (fun _ h => ?_)
  · refine r_bipush (pc := 31) (v := (-2)) C dX10_gained_31 (by decide) ?_
    exact r_iret (pc := 33) C R0 h dX10_gained_33
  · refine r_iload_n (pc := 8) C dX10_gained_8 rfl rfl ?_
    refine r_if_lt (pc := 9) (tgt := 31) C dX10_gained_9 (by decide) h (fun _ h => ?_) (fun _ h => ?_)
    · refine r_bipush (pc := 31) (v := (-2)) C dX10_gained_31 (by decide) ?_
      exact r_iret (pc := 33) C R0 h dX10_gained_33
    · refine r_iload_n (pc := 12) C dX10_gained_12 rfl rfl ?_
      refine r_iload_n (pc := 13) C dX10_gained_13 rfl rfl ?_
      refine r_icmp_lt (pc := 14) (tgt := 31) C dX10_gained_14 (by decide) h (fun _ h => ?_) (fun _ h => ?_)
      · refine r_bipush (pc := 31) (v := (-2)) C dX10_gained_31 (by decide) ?_
        exact r_iret (pc := 33) C R0 h dX10_gained_33
      · refine r_iload_n (pc := 17) C dX10_gained_17 rfl rfl ?_
        refine r_aload_n (pc := 18) C dX10_gained_18 rfl rfl ?_
        refine r_getR (pc := 19) C kX10_24 h0 (by decide) dX10_gained_19 ?_
        refine r_getR (pc := 22) C kX10_114 (xtk h0 (by decide) rfl rfl) (by decide) dX10_gained_22 ?_
        refine r_getI (pc := 25) C kX10_118 (xtk (xtk h0 (by decide) rfl rfl) (by decide) rfl rfl) dX10_gained_25 ?_
        refine r_icmp_le (pc := 28) (tgt := 34) C dX10_gained_28 (by decide) h (fun _ h => ?_) (fun _ h => ?_)
        · refine r_iconst (pc := 34) (v := (nI 0)) C dX10_gained_34 (by decide) ?_
          refine r_istore (pc := 35) (lv' := [_, _, _, _, _, _]) C dX10_gained_35 hn4 rfl ?_
          refine r_iload_n (pc := 37) C dX10_gained_37 rfl rfl ?_
          refine r_istore (pc := 38) (lv' := [_, _, _, _, _, _]) C dX10_gained_38 hn5 rfl ?_
          refine lX10_gained_40 C R0 hnL a0 h0 a1 a2 a3 _ (fun v7 v8 M9 h => ?_) _ _ _ _ h
          refine r_iload (pc := 70) C dX10_gained_70 rfl ?_
          exact r_iret (pc := 72) C R0 h dX10_gained_72
        · refine r_bipush (pc := 31) (v := (-2)) C dX10_gained_31 (by decide) ?_
          exact r_iret (pc := 33) C R0 h dX10_gained_33
theorem dX10_stood_0 : decode cX10_stood 0 = .ok (.aload_n 0, 1) := by decide +kernel
theorem dX10_stood_1 : decode cX10_stood 1 = .ok (.iload_n 1, 1) := by decide +kernel
theorem dX10_stood_2 : decode cX10_stood 2 = .ok (.invokevirtual 148, 3) := by decide +kernel
theorem dX10_stood_5 : decode cX10_stood 5 = .ok (.ifCond .eq 7, 3) := by decide +kernel
theorem dX10_stood_8 : decode cX10_stood 8 = .ok (.iload_n 2, 1) := by decide +kernel
theorem dX10_stood_9 : decode cX10_stood 9 = .ok (.ifCond .ge 6, 3) := by decide +kernel
theorem dX10_stood_12 : decode cX10_stood 12 = .ok (.bipush (-2), 2) := by decide +kernel
theorem dX10_stood_14 : decode cX10_stood 14 = .ok (.ireturn, 1) := by decide +kernel
theorem dX10_stood_15 : decode cX10_stood 15 = .ok (.iload_n 2, 1) := by decide +kernel
theorem dX10_stood_16 : decode cX10_stood 16 = .ok (.aload_n 0, 1) := by decide +kernel
theorem dX10_stood_17 : decode cX10_stood 17 = .ok (.getfield 24, 3) := by decide +kernel
theorem dX10_stood_20 : decode cX10_stood 20 = .ok (.getfield 114, 3) := by decide +kernel
theorem dX10_stood_23 : decode cX10_stood 23 = .ok (.getfield 118, 3) := by decide +kernel
theorem dX10_stood_26 : decode cX10_stood 26 = .ok (.if_icmp .ge 21, 3) := by decide +kernel
theorem dX10_stood_29 : decode cX10_stood 29 = .ok (.aload_n 0, 1) := by decide +kernel
theorem dX10_stood_30 : decode cX10_stood 30 = .ok (.getfield 24, 3) := by decide +kernel
theorem dX10_stood_33 : decode cX10_stood 33 = .ok (.getfield 114, 3) := by decide +kernel
theorem dX10_stood_36 : decode cX10_stood 36 = .ok (.iload_n 1, 1) := by decide +kernel
theorem dX10_stood_37 : decode cX10_stood 37 = .ok (.iload_n 2, 1) := by decide +kernel
theorem dX10_stood_38 : decode cX10_stood 38 = .ok (.invokevirtual 270, 3) := by decide +kernel
theorem dX10_stood_41 : decode cX10_stood 41 = .ok (.invokestatic 273, 3) := by decide +kernel
theorem dX10_stood_44 : decode cX10_stood 44 = .ok (.goto 4, 3) := by decide +kernel
theorem dX10_stood_47 : decode cX10_stood 47 = .ok (.iconst (-1), 1) := by decide +kernel
theorem dX10_stood_48 : decode cX10_stood 48 = .ok (.ireturn, 1) := by decide +kernel
def fX10_stood (a0 : Nat) (a1 : Int32) (a2 : Int32) (M : xMem) : Option (Int32 × xMem) :=
  xBn (fX10_hasTeam a0 a1 M) fun r1 M2 => if r1 = 0 then (some ((-2), M2)) else (if 0 ≤ a2 then (if (M2.1 (xrf (xrf a0 2) 2) 5) ≤ a2 then (some ((-1), M2)) else (xBn (fX1_onAt (xrf (xrf a0 2) 2) a1 a2 M2) fun r3 M4 => xBn (fJ6_bitCount_0f7a4 r3 M4) fun r5 M6 => some (r5, M6))) else (some ((-2), M2)))
set_option maxRecDepth 100000 in
set_option maxHeartbeats 4000000 in
theorem zX10_stood (G : xGX) (a0 : Nat) (h0 : xkd a0 = 10) (a1 : Int32) (a2 : Int32) (M : xMem) (r : Int32) (M' : xMem) (h : fX10_stood a0 a1 a2 M = some (r, M')) : xCt G yX10_stood cX10_stood 3 (some .int) 4 [vr G a0, .int a1, .int a2] M (some (.int r), M') := by
  refine xMet (lv := [some (vr G a0), some (.int a1), some (.int a2)]) (by decide) (Nat.le_of_ble_eq_true rfl) rfl ?_
  intro X hG hnL C R0
  subst hG
  have C : xCk X cX10_stood RX10 4 := C
  unfold fX10_stood at h
  refine r_aload_n (pc := 0) C dX10_stood_0 rfl rfl ?_
  refine r_iload_n (pc := 1) C dX10_stood_1 rfl rfl ?_
  refine r_vI1 (pc := 2) C (fun r M' e => zX10_hasTeam X.1 a0 h0 a1 M r M' e) h0 (by decide) rfl mX10_hasTeam lX10_148 (by decide) (Nat.le_of_ble_eq_true rfl) dX10_stood_2 h (fun r1 M2 h => ?_)
  refine r_if_eq (pc := 5) (tgt := 12) C dX10_stood_5 (by decide) h (fun _ h => ?_) (fun _ h => ?_)
  · refine r_bipush (pc := 12) (v := (-2)) C dX10_stood_12 (by decide) ?_
    exact r_iret (pc := 14) C R0 h dX10_stood_14
  · refine r_iload_n (pc := 8) C dX10_stood_8 rfl rfl ?_
    refine r_if_ge (pc := 9) (tgt := 15) C dX10_stood_9 (by decide) h (fun _ h => ?_) (fun _ h => ?_)
    · refine r_iload_n (pc := 15) C dX10_stood_15 rfl rfl ?_
      refine r_aload_n (pc := 16) C dX10_stood_16 rfl rfl ?_
      refine r_getR (pc := 17) C kX10_24 h0 (by decide) dX10_stood_17 ?_
      refine r_getR (pc := 20) C kX10_114 (xtk h0 (by decide) rfl rfl) (by decide) dX10_stood_20 ?_
      refine r_getI (pc := 23) C kX10_118 (xtk (xtk h0 (by decide) rfl rfl) (by decide) rfl rfl) dX10_stood_23 ?_
      refine r_icmp_ge (pc := 26) (tgt := 47) C dX10_stood_26 (by decide) h (fun _ h => ?_) (fun _ h => ?_)
      · refine r_iconst (pc := 47) (v := (-1)) C dX10_stood_47 (by decide) ?_
        exact r_iret (pc := 48) C R0 h dX10_stood_48
      · refine r_aload_n (pc := 29) C dX10_stood_29 rfl rfl ?_
        refine r_getR (pc := 30) C kX10_24 h0 (by decide) dX10_stood_30 ?_
        refine r_getR (pc := 33) C kX10_114 (xtk h0 (by decide) rfl rfl) (by decide) dX10_stood_33 ?_
        refine r_iload_n (pc := 36) C dX10_stood_36 rfl rfl ?_
        refine r_iload_n (pc := 37) C dX10_stood_37 rfl rfl ?_
        refine r_vI2 (pc := 38) C (fun r M' e => zX1_onAt X.1 (xrf (xrf a0 2) 2) (xtk (xtk h0 (by decide) rfl rfl) (by decide) rfl rfl) a1 a2 M2 r M' e) (xtk (xtk h0 (by decide) rfl rfl) (by decide) rfl rfl) (by decide) rfl mX1_onAt lX10_270 (by decide) (Nat.le_of_ble_eq_true rfl) dX10_stood_38 h (fun r3 M4 h => ?_)
        refine r_sI1 (pc := 41) C (fun r M' e => zJ6_bitCount_0f7a4 X.1 r3 M4 r M' e) mJ6_bitCount_0f7a4 lX10_273 (by decide) (Nat.le_of_ble_eq_true rfl) dX10_stood_41 h (fun r5 M6 h => ?_)
        refine r_goto (pc := 44) (tgt := 48) C dX10_stood_44 (by decide) ?_
        exact r_iret (pc := 48) C R0 h dX10_stood_48
    · refine r_bipush (pc := 12) (v := (-2)) C dX10_stood_12 (by decide) ?_
      exact r_iret (pc := 14) C R0 h dX10_stood_14
theorem dX10_lives_0 : decode cX10_lives 0 = .ok (.aload_n 0, 1) := by decide +kernel
theorem dX10_lives_1 : decode cX10_lives 1 = .ok (.iload_n 1, 1) := by decide +kernel
theorem dX10_lives_2 : decode cX10_lives 2 = .ok (.invokevirtual 148, 3) := by decide +kernel
theorem dX10_lives_5 : decode cX10_lives 5 = .ok (.ifCond .eq 17, 3) := by decide +kernel
theorem dX10_lives_8 : decode cX10_lives 8 = .ok (.aload_n 0, 1) := by decide +kernel
theorem dX10_lives_9 : decode cX10_lives 9 = .ok (.getfield 24, 3) := by decide +kernel
theorem dX10_lives_12 : decode cX10_lives 12 = .ok (.getfield 114, 3) := by decide +kernel
theorem dX10_lives_15 : decode cX10_lives 15 = .ok (.iload_n 1, 1) := by decide +kernel
theorem dX10_lives_16 : decode cX10_lives 16 = .ok (.invokevirtual 278, 3) := by decide +kernel
theorem dX10_lives_19 : decode cX10_lives 19 = .ok (.goto 5, 3) := by decide +kernel
theorem dX10_lives_22 : decode cX10_lives 22 = .ok (.bipush (-2), 2) := by decide +kernel
theorem dX10_lives_24 : decode cX10_lives 24 = .ok (.ireturn, 1) := by decide +kernel
def fX10_lives (a0 : Nat) (a1 : Int32) (M : xMem) : Option (Int32 × xMem) :=
  xBn (fX10_hasTeam a0 a1 M) fun r1 M2 => if r1 = 0 then (some ((-2), M2)) else (xBn (fX1_fullCount (xrf (xrf a0 2) 2) a1 M2) fun r3 M4 => some (r3, M4))
set_option maxRecDepth 100000 in
set_option maxHeartbeats 4000000 in
theorem zX10_lives (G : xGX) (a0 : Nat) (h0 : xkd a0 = 10) (a1 : Int32) (M : xMem) (r : Int32) (M' : xMem) (h : fX10_lives a0 a1 M = some (r, M')) : xCt G yX10_lives cX10_lives 2 (some .int) 4 [vr G a0, .int a1] M (some (.int r), M') := by
  refine xMet (lv := [some (vr G a0), some (.int a1)]) (by decide) (Nat.le_of_ble_eq_true rfl) rfl ?_
  intro X hG hnL C R0
  subst hG
  have C : xCk X cX10_lives RX10 4 := C
  unfold fX10_lives at h
  refine r_aload_n (pc := 0) C dX10_lives_0 rfl rfl ?_
  refine r_iload_n (pc := 1) C dX10_lives_1 rfl rfl ?_
  refine r_vI1 (pc := 2) C (fun r M' e => zX10_hasTeam X.1 a0 h0 a1 M r M' e) h0 (by decide) rfl mX10_hasTeam lX10_148 (by decide) (Nat.le_of_ble_eq_true rfl) dX10_lives_2 h (fun r1 M2 h => ?_)
  refine r_if_eq (pc := 5) (tgt := 22) C dX10_lives_5 (by decide) h (fun _ h => ?_) (fun _ h => ?_)
  · refine r_bipush (pc := 22) (v := (-2)) C dX10_lives_22 (by decide) ?_
    exact r_iret (pc := 24) C R0 h dX10_lives_24
  · refine r_aload_n (pc := 8) C dX10_lives_8 rfl rfl ?_
    refine r_getR (pc := 9) C kX10_24 h0 (by decide) dX10_lives_9 ?_
    refine r_getR (pc := 12) C kX10_114 (xtk h0 (by decide) rfl rfl) (by decide) dX10_lives_12 ?_
    refine r_iload_n (pc := 15) C dX10_lives_15 rfl rfl ?_
    refine r_vI1 (pc := 16) C (fun r M' e => zX1_fullCount X.1 (xrf (xrf a0 2) 2) (xtk (xtk h0 (by decide) rfl rfl) (by decide) rfl rfl) a1 M2 r M' e) (xtk (xtk h0 (by decide) rfl rfl) (by decide) rfl rfl) (by decide) rfl mX1_fullCount lX10_278 (by decide) (Nat.le_of_ble_eq_true rfl) dX10_lives_16 h (fun r3 M4 h => ?_)
    refine r_goto (pc := 19) (tgt := 24) C dX10_lives_19 (by decide) ?_
    exact r_iret (pc := 24) C R0 h dX10_lives_24
theorem dX10_allOut_0 : decode cX10_allOut 0 = .ok (.aload_n 0, 1) := by decide +kernel
theorem dX10_allOut_1 : decode cX10_allOut 1 = .ok (.iload_n 1, 1) := by decide +kernel
theorem dX10_allOut_2 : decode cX10_allOut 2 = .ok (.invokevirtual 148, 3) := by decide +kernel
theorem dX10_allOut_5 : decode cX10_allOut 5 = .ok (.ifCond .eq 7, 3) := by decide +kernel
theorem dX10_allOut_8 : decode cX10_allOut 8 = .ok (.iload_n 2, 1) := by decide +kernel
theorem dX10_allOut_9 : decode cX10_allOut 9 = .ok (.ifCond .ge 6, 3) := by decide +kernel
theorem dX10_allOut_12 : decode cX10_allOut 12 = .ok (.bipush (-2), 2) := by decide +kernel
theorem dX10_allOut_14 : decode cX10_allOut 14 = .ok (.ireturn, 1) := by decide +kernel
theorem dX10_allOut_15 : decode cX10_allOut 15 = .ok (.aload_n 0, 1) := by decide +kernel
theorem dX10_allOut_16 : decode cX10_allOut 16 = .ok (.getfield 24, 3) := by decide +kernel
theorem dX10_allOut_19 : decode cX10_allOut 19 = .ok (.getfield 114, 3) := by decide +kernel
theorem dX10_allOut_22 : decode cX10_allOut 22 = .ok (.iload_n 1, 1) := by decide +kernel
theorem dX10_allOut_23 : decode cX10_allOut 23 = .ok (.iload_n 2, 1) := by decide +kernel
theorem dX10_allOut_24 : decode cX10_allOut 24 = .ok (.invokevirtual 281, 3) := by decide +kernel
theorem dX10_allOut_27 : decode cX10_allOut 27 = .ok (.ireturn, 1) := by decide +kernel
def fX10_allOut (a0 : Nat) (a1 : Int32) (a2 : Int32) (M : xMem) : Option (Int32 × xMem) :=
  xBn (fX10_hasTeam a0 a1 M) fun r1 M2 => if r1 = 0 then (some ((-2), M2)) else (if 0 ≤ a2 then (xBn (fX1_allOutRaid (xrf (xrf a0 2) 2) a1 a2 M2) fun r3 M4 => some (r3, M4)) else (some ((-2), M2)))
set_option maxRecDepth 100000 in
set_option maxHeartbeats 4000000 in
theorem zX10_allOut (G : xGX) (a0 : Nat) (h0 : xkd a0 = 10) (a1 : Int32) (a2 : Int32) (M : xMem) (r : Int32) (M' : xMem) (h : fX10_allOut a0 a1 a2 M = some (r, M')) : xCt G yX10_allOut cX10_allOut 3 (some .int) 4 [vr G a0, .int a1, .int a2] M (some (.int r), M') := by
  refine xMet (lv := [some (vr G a0), some (.int a1), some (.int a2)]) (by decide) (Nat.le_of_ble_eq_true rfl) rfl ?_
  intro X hG hnL C R0
  subst hG
  have C : xCk X cX10_allOut RX10 4 := C
  unfold fX10_allOut at h
  refine r_aload_n (pc := 0) C dX10_allOut_0 rfl rfl ?_
  refine r_iload_n (pc := 1) C dX10_allOut_1 rfl rfl ?_
  refine r_vI1 (pc := 2) C (fun r M' e => zX10_hasTeam X.1 a0 h0 a1 M r M' e) h0 (by decide) rfl mX10_hasTeam lX10_148 (by decide) (Nat.le_of_ble_eq_true rfl) dX10_allOut_2 h (fun r1 M2 h => ?_)
  refine r_if_eq (pc := 5) (tgt := 12) C dX10_allOut_5 (by decide) h (fun _ h => ?_) (fun _ h => ?_)
  · refine r_bipush (pc := 12) (v := (-2)) C dX10_allOut_12 (by decide) ?_
    exact r_iret (pc := 14) C R0 h dX10_allOut_14
  · refine r_iload_n (pc := 8) C dX10_allOut_8 rfl rfl ?_
    refine r_if_ge (pc := 9) (tgt := 15) C dX10_allOut_9 (by decide) h (fun _ h => ?_) (fun _ h => ?_)
    · refine r_aload_n (pc := 15) C dX10_allOut_15 rfl rfl ?_
      refine r_getR (pc := 16) C kX10_24 h0 (by decide) dX10_allOut_16 ?_
      refine r_getR (pc := 19) C kX10_114 (xtk h0 (by decide) rfl rfl) (by decide) dX10_allOut_19 ?_
      refine r_iload_n (pc := 22) C dX10_allOut_22 rfl rfl ?_
      refine r_iload_n (pc := 23) C dX10_allOut_23 rfl rfl ?_
      refine r_vI2 (pc := 24) C (fun r M' e => zX1_allOutRaid X.1 (xrf (xrf a0 2) 2) (xtk (xtk h0 (by decide) rfl rfl) (by decide) rfl rfl) a1 a2 M2 r M' e) (xtk (xtk h0 (by decide) rfl rfl) (by decide) rfl rfl) (by decide) rfl mX1_allOutRaid lX10_281 (by decide) (Nat.le_of_ble_eq_true rfl) dX10_allOut_24 h (fun r3 M4 h => ?_)
      exact r_iret (pc := 27) C R0 h dX10_allOut_27
    · refine r_bipush (pc := 12) (v := (-2)) C dX10_allOut_12 (by decide) ?_
      exact r_iret (pc := 14) C R0 h dX10_allOut_14
theorem dX10_isSetAsTold_0 : decode cX10_isSetAsTold 0 = .ok (.aload_n 0, 1) := by decide +kernel
theorem dX10_isSetAsTold_1 : decode cX10_isSetAsTold 1 = .ok (.getfield 24, 3) := by decide +kernel
theorem dX10_isSetAsTold_4 : decode cX10_isSetAsTold 4 = .ok (.getfield 82, 3) := by decide +kernel
theorem dX10_isSetAsTold_7 : decode cX10_isSetAsTold 7 = .ok (.getfield 104, 3) := by decide +kernel
theorem dX10_isSetAsTold_10 : decode cX10_isSetAsTold 10 = .ok (.iconst 1, 1) := by decide +kernel
theorem dX10_isSetAsTold_11 : decode cX10_isSetAsTold 11 = .ok (.aload_n 0, 1) := by decide +kernel
theorem dX10_isSetAsTold_12 : decode cX10_isSetAsTold 12 = .ok (.getfield 24, 3) := by decide +kernel
theorem dX10_isSetAsTold_15 : decode cX10_isSetAsTold 15 = .ok (.getfield 122, 3) := by decide +kernel
theorem dX10_isSetAsTold_18 : decode cX10_isSetAsTold 18 = .ok (.getfield 198, 3) := by decide +kernel
theorem dX10_isSetAsTold_21 : decode cX10_isSetAsTold 21 = .ok (.isub, 1) := by decide +kernel
theorem dX10_isSetAsTold_22 : decode cX10_isSetAsTold 22 = .ok (.invokevirtual 108, 3) := by decide +kernel
theorem dX10_isSetAsTold_25 : decode cX10_isSetAsTold 25 = .ok (.istore_n 3, 1) := by decide +kernel
theorem dX10_isSetAsTold_26 : decode cX10_isSetAsTold 26 = .ok (.iload_n 1, 1) := by decide +kernel
theorem dX10_isSetAsTold_27 : decode cX10_isSetAsTold 27 = .ok (.iconst 1, 1) := by decide +kernel
theorem dX10_isSetAsTold_28 : decode cX10_isSetAsTold 28 = .ok (.if_icmp .ne 14, 3) := by decide +kernel
theorem dX10_isSetAsTold_31 : decode cX10_isSetAsTold 31 = .ok (.iload_n 2, 1) := by decide +kernel
theorem dX10_isSetAsTold_32 : decode cX10_isSetAsTold 32 = .ok (.iconst 1, 1) := by decide +kernel
theorem dX10_isSetAsTold_33 : decode cX10_isSetAsTold 33 = .ok (.iconst 1, 1) := by decide +kernel
theorem dX10_isSetAsTold_34 : decode cX10_isSetAsTold 34 = .ok (.iload_n 3, 1) := by decide +kernel
theorem dX10_isSetAsTold_35 : decode cX10_isSetAsTold 35 = .ok (.ishl, 1) := by decide +kernel
theorem dX10_isSetAsTold_36 : decode cX10_isSetAsTold 36 = .ok (.iconst 1, 1) := by decide +kernel
theorem dX10_isSetAsTold_37 : decode cX10_isSetAsTold 37 = .ok (.isub, 1) := by decide +kernel
theorem dX10_isSetAsTold_38 : decode cX10_isSetAsTold 38 = .ok (.invokestatic 152, 3) := by decide +kernel
theorem dX10_isSetAsTold_41 : decode cX10_isSetAsTold 41 = .ok (.ireturn, 1) := by decide +kernel
theorem dX10_isSetAsTold_42 : decode cX10_isSetAsTold 42 = .ok (.iload_n 1, 1) := by decide +kernel
theorem dX10_isSetAsTold_43 : decode cX10_isSetAsTold 43 = .ok (.iconst 3, 1) := by decide +kernel
theorem dX10_isSetAsTold_44 : decode cX10_isSetAsTold 44 = .ok (.if_icmp .ne 14, 3) := by decide +kernel
theorem dX10_isSetAsTold_47 : decode cX10_isSetAsTold 47 = .ok (.iload_n 2, 1) := by decide +kernel
theorem dX10_isSetAsTold_48 : decode cX10_isSetAsTold 48 = .ok (.iconst 0, 1) := by decide +kernel
theorem dX10_isSetAsTold_49 : decode cX10_isSetAsTold 49 = .ok (.iload_n 3, 1) := by decide +kernel
theorem dX10_isSetAsTold_50 : decode cX10_isSetAsTold 50 = .ok (.iconst 1, 1) := by decide +kernel
theorem dX10_isSetAsTold_51 : decode cX10_isSetAsTold 51 = .ok (.isub, 1) := by decide +kernel
theorem dX10_isSetAsTold_52 : decode cX10_isSetAsTold 52 = .ok (.invokestatic 152, 3) := by decide +kernel
theorem dX10_isSetAsTold_55 : decode cX10_isSetAsTold 55 = .ok (.goto 12, 3) := by decide +kernel
theorem dX10_isSetAsTold_58 : decode cX10_isSetAsTold 58 = .ok (.iload_n 2, 1) := by decide +kernel
theorem dX10_isSetAsTold_59 : decode cX10_isSetAsTold 59 = .ok (.ifCond .ne 7, 3) := by decide +kernel
theorem dX10_isSetAsTold_62 : decode cX10_isSetAsTold 62 = .ok (.iconst 1, 1) := by decide +kernel
theorem dX10_isSetAsTold_63 : decode cX10_isSetAsTold 63 = .ok (.goto 4, 3) := by decide +kernel
theorem dX10_isSetAsTold_66 : decode cX10_isSetAsTold 66 = .ok (.iconst 0, 1) := by decide +kernel
theorem dX10_isSetAsTold_67 : decode cX10_isSetAsTold 67 = .ok (.ireturn, 1) := by decide +kernel
def fX10_isSetAsTold (a0 : Nat) (a1 : Int32) (a2 : Int32) (M : xMem) : Option (Int32 × xMem) :=
  xBn (fX5_sizeOf (xrf (xrf (xrf a0 2) 0) 0) ((nI 1) - (M.1 (xrf (xrf a0 2) 1) 1)) M) fun r1 M2 => if a1 = (nI 1) then (xBn (fX10_isWithin a2 (nI 1) (((nI 1) <<< (r1 &&& 31)) - (nI 1)) M2) fun r6 M7 => xGd (r6 = 0 ∨ r6 = 1) (some (r6, M7))) else (if a1 = (nI 3) then (xBn (fX10_isWithin a2 (nI 0) (r1 - (nI 1)) M2) fun r3 M4 => xGd (r3 = 0 ∨ r3 = 1) (some (r3, M4))) else (if a2 = 0 then (some ((nI 1), M2)) else (some ((nI 0), M2))))
set_option maxRecDepth 100000 in
set_option maxHeartbeats 4000000 in
theorem zX10_isSetAsTold (G : xGX) (a0 : Nat) (h0 : xkd a0 = 10) (a1 : Int32) (a2 : Int32) (M : xMem) (r : Int32) (M' : xMem) (h : fX10_isSetAsTold a0 a1 a2 M = some (r, M')) : xCt G yX10_isSetAsTold cX10_isSetAsTold 4 (some .boolean) 2 [vr G a0, .int a1, .int a2] M (some (.int r), M') := by
  refine xMet (lv := [some (vr G a0), some (.int a1), some (.int a2), none]) (by decide) (Nat.le_of_ble_eq_true rfl) rfl ?_
  intro X hG hnL C R0
  subst hG
  have C : xCk X cX10_isSetAsTold RX10 2 := C
  have hn3 : 3 < X.2.2.2.2.2.2.2.2.2.2.2.2.2 := by rw [hnL]; decide
  unfold fX10_isSetAsTold at h
  refine r_aload_n (pc := 0) C dX10_isSetAsTold_0 rfl rfl ?_
  refine r_getR (pc := 1) C kX10_24 h0 (by decide) dX10_isSetAsTold_1 ?_
  refine r_getR (pc := 4) C kX10_82 (xtk h0 (by decide) rfl rfl) (by decide) dX10_isSetAsTold_4 ?_
  refine r_getR (pc := 7) C kX10_104 (xtk (xtk h0 (by decide) rfl rfl) (by decide) rfl rfl) (by decide) dX10_isSetAsTold_7 ?_
  refine r_iconst (pc := 10) (v := (nI 1)) C dX10_isSetAsTold_10 (by decide) ?_
  refine r_aload_n (pc := 11) C dX10_isSetAsTold_11 rfl rfl ?_
  refine r_getR (pc := 12) C kX10_24 h0 (by decide) dX10_isSetAsTold_12 ?_
  refine r_getR (pc := 15) C kX10_122 (xtk h0 (by decide) rfl rfl) (by decide) dX10_isSetAsTold_15 ?_
  refine r_getI (pc := 18) C kX10_198 (xtk (xtk h0 (by decide) rfl rfl) (by decide) rfl rfl) dX10_isSetAsTold_18 ?_
  refine r_isub (pc := 21) C dX10_isSetAsTold_21 ?_
  refine r_vI1 (pc := 22) C (fun r M' e => zX5_sizeOf X.1 (xrf (xrf (xrf a0 2) 0) 0) (xtk (xtk (xtk h0 (by decide) rfl rfl) (by decide) rfl rfl) (by decide) rfl rfl) ((nI 1) - (M.1 (xrf (xrf a0 2) 1) 1)) M r M' e) (xtk (xtk (xtk h0 (by decide) rfl rfl) (by decide) rfl rfl) (by decide) rfl rfl) (by decide) rfl mX5_sizeOf lX10_108 (by decide) (Nat.le_of_ble_eq_true rfl) dX10_isSetAsTold_22 h (fun r1 M2 h => ?_)
  refine r_istore_n (pc := 25) (lv' := [_, _, _, _]) C dX10_isSetAsTold_25 rfl hn3 rfl ?_
  refine r_iload_n (pc := 26) C dX10_isSetAsTold_26 rfl rfl ?_
  refine r_iconst (pc := 27) (v := (nI 1)) C dX10_isSetAsTold_27 (by decide) ?_
  refine r_icmp_ne (pc := 28) (tgt := 42) C dX10_isSetAsTold_28 (by decide) h (fun _ h => ?_) (fun _ h => ?_)
  · refine r_iload_n (pc := 42) C dX10_isSetAsTold_42 rfl rfl ?_
    refine r_iconst (pc := 43) (v := (nI 3)) C dX10_isSetAsTold_43 (by decide) ?_
    refine r_icmp_ne (pc := 44) (tgt := 58) C dX10_isSetAsTold_44 (by decide) h (fun _ h => ?_) (fun _ h => ?_)
    · refine r_iload_n (pc := 58) C dX10_isSetAsTold_58 rfl rfl ?_
      refine r_if_ne (pc := 59) (tgt := 66) C dX10_isSetAsTold_59 (by decide) h (fun _ h => ?_) (fun _ h => ?_)
      · refine r_iconst (pc := 66) (v := (nI 0)) C dX10_isSetAsTold_66 (by decide) ?_
        exact r_zret (pc := 67) (Or.inl (by decide)) C R0 h dX10_isSetAsTold_67
      · refine r_iconst (pc := 62) (v := (nI 1)) C dX10_isSetAsTold_62 (by decide) ?_
        refine r_goto (pc := 63) (tgt := 67) C dX10_isSetAsTold_63 (by decide) ?_
        exact r_zret (pc := 67) (Or.inr (by decide)) C R0 h dX10_isSetAsTold_67
    · refine r_iload_n (pc := 47) C dX10_isSetAsTold_47 rfl rfl ?_
      refine r_iconst (pc := 48) (v := (nI 0)) C dX10_isSetAsTold_48 (by decide) ?_
      refine r_iload_n (pc := 49) C dX10_isSetAsTold_49 rfl rfl ?_
      refine r_iconst (pc := 50) (v := (nI 1)) C dX10_isSetAsTold_50 (by decide) ?_
      refine r_isub (pc := 51) C dX10_isSetAsTold_51 ?_
      refine r_sI3 (pc := 52) C (fun r M' e => zX10_isWithin X.1 a2 (nI 0) (r1 - (nI 1)) M2 r M' e) mX10_isWithin lX10_152 (by decide) (Nat.le_of_ble_eq_true rfl) dX10_isSetAsTold_52 h (fun r3 M4 h => ?_)
      refine r_goto (pc := 55) (tgt := 67) C dX10_isSetAsTold_55 (by decide) ?_
      obtain ⟨g5, h⟩ := xGd_of h
      exact r_zret (pc := 67) g5 C R0 h dX10_isSetAsTold_67
  · refine r_iload_n (pc := 31) C dX10_isSetAsTold_31 rfl rfl ?_
    refine r_iconst (pc := 32) (v := (nI 1)) C dX10_isSetAsTold_32 (by decide) ?_
    refine r_iconst (pc := 33) (v := (nI 1)) C dX10_isSetAsTold_33 (by decide) ?_
    refine r_iload_n (pc := 34) C dX10_isSetAsTold_34 rfl rfl ?_
    refine r_ishl (pc := 35) C dX10_isSetAsTold_35 ?_
    refine r_iconst (pc := 36) (v := (nI 1)) C dX10_isSetAsTold_36 (by decide) ?_
    refine r_isub (pc := 37) C dX10_isSetAsTold_37 ?_
    refine r_sI3 (pc := 38) C (fun r M' e => zX10_isWithin X.1 a2 (nI 1) (((nI 1) <<< (r1 &&& 31)) - (nI 1)) M2 r M' e) mX10_isWithin lX10_152 (by decide) (Nat.le_of_ble_eq_true rfl) dX10_isSetAsTold_38 h (fun r6 M7 h => ?_)
    obtain ⟨g8, h⟩ := xGd_of h
    exact r_zret (pc := 41) g8 C R0 h dX10_isSetAsTold_41
theorem dX10_planRaid_0 : decode cX10_planRaid 0 = .ok (.aload_n 0, 1) := by decide +kernel
theorem dX10_planRaid_1 : decode cX10_planRaid 1 = .ok (.getfield 24, 3) := by decide +kernel
theorem dX10_planRaid_4 : decode cX10_planRaid 4 = .ok (.invokevirtual 135, 3) := by decide +kernel
theorem dX10_planRaid_7 : decode cX10_planRaid 7 = .ok (.ifCond .ne 6, 3) := by decide +kernel
theorem dX10_planRaid_10 : decode cX10_planRaid 10 = .ok (.bipush (-2), 2) := by decide +kernel
theorem dX10_planRaid_12 : decode cX10_planRaid 12 = .ok (.ireturn, 1) := by decide +kernel
theorem dX10_planRaid_13 : decode cX10_planRaid 13 = .ok (.aload_n 0, 1) := by decide +kernel
theorem dX10_planRaid_14 : decode cX10_planRaid 14 = .ok (.getfield 24, 3) := by decide +kernel
theorem dX10_planRaid_17 : decode cX10_planRaid 17 = .ok (.getfield 122, 3) := by decide +kernel
theorem dX10_planRaid_20 : decode cX10_planRaid 20 = .ok (.astore 5, 2) := by decide +kernel
theorem dX10_planRaid_22 : decode cX10_planRaid 22 = .ok (.aload_n 0, 1) := by decide +kernel
theorem dX10_planRaid_23 : decode cX10_planRaid 23 = .ok (.aload 5, 2) := by decide +kernel
theorem dX10_planRaid_25 : decode cX10_planRaid 25 = .ok (.getfield 198, 3) := by decide +kernel
theorem dX10_planRaid_28 : decode cX10_planRaid 28 = .ok (.iload_n 1, 1) := by decide +kernel
theorem dX10_planRaid_29 : decode cX10_planRaid 29 = .ok (.invokevirtual 160, 3) := by decide +kernel
theorem dX10_planRaid_32 : decode cX10_planRaid 32 = .ok (.ifCond .eq 12, 3) := by decide +kernel
theorem dX10_planRaid_35 : decode cX10_planRaid 35 = .ok (.iload_n 2, 1) := by decide +kernel
theorem dX10_planRaid_36 : decode cX10_planRaid 36 = .ok (.iconst 0, 1) := by decide +kernel
theorem dX10_planRaid_37 : decode cX10_planRaid 37 = .ok (.iconst 4, 1) := by decide +kernel
theorem dX10_planRaid_38 : decode cX10_planRaid 38 = .ok (.invokestatic 152, 3) := by decide +kernel
theorem dX10_planRaid_41 : decode cX10_planRaid 41 = .ok (.ifCond .ne 6, 3) := by decide +kernel
theorem dX10_planRaid_44 : decode cX10_planRaid 44 = .ok (.bipush (-2), 2) := by decide +kernel
theorem dX10_planRaid_46 : decode cX10_planRaid 46 = .ok (.ireturn, 1) := by decide +kernel
theorem dX10_planRaid_47 : decode cX10_planRaid 47 = .ok (.iload_n 2, 1) := by decide +kernel
theorem dX10_planRaid_48 : decode cX10_planRaid 48 = .ok (.iconst 1, 1) := by decide +kernel
theorem dX10_planRaid_49 : decode cX10_planRaid 49 = .ok (.if_icmp .eq 8, 3) := by decide +kernel
theorem dX10_planRaid_52 : decode cX10_planRaid 52 = .ok (.iload_n 2, 1) := by decide +kernel
theorem dX10_planRaid_53 : decode cX10_planRaid 53 = .ok (.iconst 3, 1) := by decide +kernel
theorem dX10_planRaid_54 : decode cX10_planRaid 54 = .ok (.if_icmp .ne 7, 3) := by decide +kernel
theorem dX10_planRaid_57 : decode cX10_planRaid 57 = .ok (.iconst 1, 1) := by decide +kernel
theorem dX10_planRaid_58 : decode cX10_planRaid 58 = .ok (.goto 4, 3) := by decide +kernel
theorem dX10_planRaid_61 : decode cX10_planRaid 61 = .ok (.iconst 0, 1) := by decide +kernel
theorem dX10_planRaid_62 : decode cX10_planRaid 62 = .ok (.istore 6, 2) := by decide +kernel
theorem dX10_planRaid_64 : decode cX10_planRaid 64 = .ok (.aload_n 0, 1) := by decide +kernel
theorem dX10_planRaid_65 : decode cX10_planRaid 65 = .ok (.iload_n 2, 1) := by decide +kernel
theorem dX10_planRaid_66 : decode cX10_planRaid 66 = .ok (.iload_n 3, 1) := by decide +kernel
theorem dX10_planRaid_67 : decode cX10_planRaid 67 = .ok (.invokevirtual 338, 3) := by decide +kernel
theorem dX10_planRaid_70 : decode cX10_planRaid 70 = .ok (.ifCond .eq 14, 3) := by decide +kernel
theorem dX10_planRaid_73 : decode cX10_planRaid 73 = .ok (.iload 4, 2) := by decide +kernel
theorem dX10_planRaid_75 : decode cX10_planRaid 75 = .ok (.iconst 0, 1) := by decide +kernel
theorem dX10_planRaid_76 : decode cX10_planRaid 76 = .ok (.iload 6, 2) := by decide +kernel
theorem dX10_planRaid_78 : decode cX10_planRaid 78 = .ok (.invokestatic 152, 3) := by decide +kernel
theorem dX10_planRaid_81 : decode cX10_planRaid 81 = .ok (.ifCond .ne 6, 3) := by decide +kernel
theorem dX10_planRaid_84 : decode cX10_planRaid 84 = .ok (.bipush (-2), 2) := by decide +kernel
theorem dX10_planRaid_86 : decode cX10_planRaid 86 = .ok (.ireturn, 1) := by decide +kernel
theorem dX10_planRaid_87 : decode cX10_planRaid 87 = .ok (.aload_n 0, 1) := by decide +kernel
theorem dX10_planRaid_88 : decode cX10_planRaid 88 = .ok (.getfield 24, 3) := by decide +kernel
theorem dX10_planRaid_91 : decode cX10_planRaid 91 = .ok (.invokevirtual 306, 3) := by decide +kernel
theorem dX10_planRaid_94 : decode cX10_planRaid 94 = .ok (.ifCond .eq 12, 3) := by decide +kernel
theorem dX10_planRaid_97 : decode cX10_planRaid 97 = .ok (.aload 5, 2) := by decide +kernel
theorem dX10_planRaid_99 : decode cX10_planRaid 99 = .ok (.iload_n 1, 1) := by decide +kernel
theorem dX10_planRaid_100 : decode cX10_planRaid 100 = .ok (.invokevirtual 341, 3) := by decide +kernel
theorem dX10_planRaid_103 : decode cX10_planRaid 103 = .ok (.ifCond .ne 6, 3) := by decide +kernel
theorem dX10_planRaid_106 : decode cX10_planRaid 106 = .ok (.bipush (-6), 2) := by decide +kernel
theorem dX10_planRaid_108 : decode cX10_planRaid 108 = .ok (.ireturn, 1) := by decide +kernel
theorem dX10_planRaid_109 : decode cX10_planRaid 109 = .ok (.iload_n 2, 1) := by decide +kernel
theorem dX10_planRaid_110 : decode cX10_planRaid 110 = .ok (.iconst 2, 1) := by decide +kernel
theorem dX10_planRaid_111 : decode cX10_planRaid 111 = .ok (.if_icmp .eq 9, 3) := by decide +kernel
theorem dX10_planRaid_114 : decode cX10_planRaid 114 = .ok (.iload 4, 2) := by decide +kernel
theorem dX10_planRaid_116 : decode cX10_planRaid 116 = .ok (.iconst 1, 1) := by decide +kernel
theorem dX10_planRaid_117 : decode cX10_planRaid 117 = .ok (.if_icmp .ne 14, 3) := by decide +kernel
theorem dX10_planRaid_120 : decode cX10_planRaid 120 = .ok (.aload 5, 2) := by decide +kernel
theorem dX10_planRaid_122 : decode cX10_planRaid 122 = .ok (.invokevirtual 204, 3) := by decide +kernel
theorem dX10_planRaid_125 : decode cX10_planRaid 125 = .ok (.ifCond .ne 6, 3) := by decide +kernel
theorem dX10_planRaid_128 : decode cX10_planRaid 128 = .ok (.bipush (-6), 2) := by decide +kernel
theorem dX10_planRaid_130 : decode cX10_planRaid 130 = .ok (.ireturn, 1) := by decide +kernel
theorem dX10_planRaid_131 : decode cX10_planRaid 131 = .ok (.aload 5, 2) := by decide +kernel
theorem dX10_planRaid_133 : decode cX10_planRaid 133 = .ok (.invokevirtual 320, 3) := by decide +kernel
theorem dX10_planRaid_136 : decode cX10_planRaid 136 = .ok (.iconst 0, 1) := by decide +kernel
theorem dX10_planRaid_137 : decode cX10_planRaid 137 = .ok (.invokevirtual 180, 3) := by decide +kernel
theorem dX10_planRaid_140 : decode cX10_planRaid 140 = .ok (.istore 7, 2) := by decide +kernel
theorem dX10_planRaid_142 : decode cX10_planRaid 142 = .ok (.aload_n 0, 1) := by decide +kernel
theorem dX10_planRaid_143 : decode cX10_planRaid 143 = .ok (.getfield 61, 3) := by decide +kernel
theorem dX10_planRaid_146 : decode cX10_planRaid 146 = .ok (.iload_n 1, 1) := by decide +kernel
theorem dX10_planRaid_147 : decode cX10_planRaid 147 = .ok (.iload_n 2, 1) := by decide +kernel
theorem dX10_planRaid_148 : decode cX10_planRaid 148 = .ok (.invokevirtual 316, 3) := by decide +kernel
theorem dX10_planRaid_151 : decode cX10_planRaid 151 = .ok (.aload_n 0, 1) := by decide +kernel
theorem dX10_planRaid_152 : decode cX10_planRaid 152 = .ok (.getfield 61, 3) := by decide +kernel
theorem dX10_planRaid_155 : decode cX10_planRaid 155 = .ok (.iload 4, 2) := by decide +kernel
theorem dX10_planRaid_157 : decode cX10_planRaid 157 = .ok (.putfield 327, 3) := by decide +kernel
theorem dX10_planRaid_160 : decode cX10_planRaid 160 = .ok (.iload_n 2, 1) := by decide +kernel
theorem dX10_planRaid_161 : decode cX10_planRaid 161 = .ok (.iconst 1, 1) := by decide +kernel
theorem dX10_planRaid_162 : decode cX10_planRaid 162 = .ok (.if_icmp .ne 27, 3) := by decide +kernel
theorem dX10_planRaid_165 : decode cX10_planRaid 165 = .ok (.aload_n 0, 1) := by decide +kernel
theorem dX10_planRaid_166 : decode cX10_planRaid 166 = .ok (.getfield 61, 3) := by decide +kernel
theorem dX10_planRaid_169 : decode cX10_planRaid 169 = .ok (.iload_n 3, 1) := by decide +kernel
theorem dX10_planRaid_170 : decode cX10_planRaid 170 = .ok (.invokevirtual 324, 3) := by decide +kernel
theorem dX10_planRaid_173 : decode cX10_planRaid 173 = .ok (.iload_n 3, 1) := by decide +kernel
theorem dX10_planRaid_174 : decode cX10_planRaid 174 = .ok (.iload 7, 2) := by decide +kernel
theorem dX10_planRaid_176 : decode cX10_planRaid 176 = .ok (.iconst (-1), 1) := by decide +kernel
theorem dX10_planRaid_177 : decode cX10_planRaid 177 = .ok (.ixor, 1) := by decide +kernel
theorem dX10_planRaid_178 : decode cX10_planRaid 178 = .ok (.iand, 1) := by decide +kernel
theorem dX10_planRaid_179 : decode cX10_planRaid 179 = .ok (.ifCond .ne 7, 3) := by decide +kernel
theorem dX10_planRaid_182 : decode cX10_planRaid 182 = .ok (.iconst 0, 1) := by decide +kernel
theorem dX10_planRaid_183 : decode cX10_planRaid 183 = .ok (.goto 5, 3) := by decide +kernel
theorem dX10_planRaid_186 : decode cX10_planRaid 186 = .ok (.bipush (-6), 2) := by decide +kernel
theorem dX10_planRaid_188 : decode cX10_planRaid 188 = .ok (.ireturn, 1) := by decide +kernel
theorem dX10_planRaid_189 : decode cX10_planRaid 189 = .ok (.aload_n 0, 1) := by decide +kernel
theorem dX10_planRaid_190 : decode cX10_planRaid 190 = .ok (.getfield 61, 3) := by decide +kernel
theorem dX10_planRaid_193 : decode cX10_planRaid 193 = .ok (.iload_n 3, 1) := by decide +kernel
theorem dX10_planRaid_194 : decode cX10_planRaid 194 = .ok (.putfield 344, 3) := by decide +kernel
theorem dX10_planRaid_197 : decode cX10_planRaid 197 = .ok (.iload_n 2, 1) := by decide +kernel
theorem dX10_planRaid_198 : decode cX10_planRaid 198 = .ok (.iconst 3, 1) := by decide +kernel
theorem dX10_planRaid_199 : decode cX10_planRaid 199 = .ok (.if_icmp .ne 17, 3) := by decide +kernel
theorem dX10_planRaid_202 : decode cX10_planRaid 202 = .ok (.iload 7, 2) := by decide +kernel
theorem dX10_planRaid_204 : decode cX10_planRaid 204 = .ok (.iload_n 3, 1) := by decide +kernel
theorem dX10_planRaid_205 : decode cX10_planRaid 205 = .ok (.ishr, 1) := by decide +kernel
theorem dX10_planRaid_206 : decode cX10_planRaid 206 = .ok (.iconst 1, 1) := by decide +kernel
theorem dX10_planRaid_207 : decode cX10_planRaid 207 = .ok (.iand, 1) := by decide +kernel
theorem dX10_planRaid_208 : decode cX10_planRaid 208 = .ok (.ifCond .ne 8, 3) := by decide +kernel
theorem dX10_planRaid_211 : decode cX10_planRaid 211 = .ok (.bipush (-6), 2) := by decide +kernel
theorem dX10_planRaid_213 : decode cX10_planRaid 213 = .ok (.goto 4, 3) := by decide +kernel
theorem dX10_planRaid_216 : decode cX10_planRaid 216 = .ok (.iconst 0, 1) := by decide +kernel
theorem dX10_planRaid_217 : decode cX10_planRaid 217 = .ok (.ireturn, 1) := by decide +kernel
def fX10_planRaid (a0 : Nat) (a1 : Int32) (a2 : Int32) (a3 : Int32) (a4 : Int32) (M : xMem) : Option (Int32 × xMem) :=
  xBn (fX2_isTold (xrf a0 2) M) fun r1 M2 => if r1 = 0 then (some ((-2), M2)) else (xBn (fX10_hasPlayer a0 (M2.1 (xrf (xrf a0 2) 1) 1) a1 M2) fun r3 M4 => if r3 = 0 then (some ((-2), M4)) else (xBn (fX10_isWithin a2 (nI 0) (nI 4) M4) fun r5 M6 => if r5 = 0 then (some ((-2), M6)) else (xLt (fun (s7 : Int32) (M8 : xMem) => (xBn (fX10_isSetAsTold a0 a2 a3 M8) fun r9 M10 => if r9 = 0 then (some ((-2), M10)) else (xBn (fX10_isWithin a4 (nI 0) s7 M10) fun r11 M12 => if r11 = 0 then (some ((-2), M12)) else (xBn (fX2_hasRoomForRaid (xrf a0 2) M12) fun r13 M14 => if r13 = 0 then (some ((-6), M14)) else (xBn (fX8_canSend (xrf (xrf a0 2) 1) a1 M14) fun r15 M16 => if r15 = 0 then (some ((-6), M16)) else (xLt (fun  (M17 : xMem) => (xBn (fX8_away (xrf (xrf a0 2) 1) M17) fun r18 M19 => xBn (fX7_maskOf r18 (nI 0) M19) fun r22 M23 => xBv (fX4_begin (xrf a0 7) a1 a2 M23) fun M24 => xLt (xwI M24 (xrf a0 7) 3 a4) fun M25 => if a2 = (nI 1) then (xBv (fX4_touchAll (xrf a0 7) a3 M25) fun M27 => if (a3 &&& (r22 ^^^ (-1))) = 0 then (some ((nI 0), M27)) else (some ((-6), M27))) else (xLt (xwI M25 (xrf a0 7) 2 a3) fun M26 => if a2 = (nI 3) then (if ((r22 >>> (a3 &&& 31)) &&& (nI 1)) = 0 then (some ((-6), M26)) else (some ((nI 0), M26))) else (some ((nI 0), M26))) : Option (Int32 × xMem))) fun J131 => xLt (fun  (M28 : xMem) => (xBn (fX8_isBonusOpen (xrf (xrf a0 2) 1) M28) fun r29 M30 => if r29 = 0 then (some ((-6), M30)) else (J131  M30) : Option (Int32 × xMem))) fun J120 => if a2 = (nI 2) then (J120  M16) else (if a4 = (nI 1) then (J120  M16) else (J131  M16)))))) : Option (Int32 × xMem))) fun J62 => if a2 = (nI 1) then (J62 (nI 1) M6) else (if a2 = (nI 3) then (J62 (nI 1) M6) else (J62 (nI 0) M6)))))
set_option maxRecDepth 100000 in
set_option maxHeartbeats 4000000 in
theorem zX10_planRaid (G : xGX) (a0 : Nat) (h0 : xkd a0 = 10) (a1 : Int32) (a2 : Int32) (a3 : Int32) (a4 : Int32) (M : xMem) (r : Int32) (M' : xMem) (h : fX10_planRaid a0 a1 a2 a3 a4 M = some (r, M')) : xCt G yX10_planRaid cX10_planRaid 8 (some .int) 5 [vr G a0, .int a1, .int a2, .int a3, .int a4] M (some (.int r), M') := by
  refine xMet (lv := [some (vr G a0), some (.int a1), some (.int a2), some (.int a3), some (.int a4), none, none, none]) (by decide) (Nat.le_of_ble_eq_true rfl) rfl ?_
  intro X hG hnL C R0
  subst hG
  have C : xCk X cX10_planRaid RX10 5 := C
  have hn5 : 5 < X.2.2.2.2.2.2.2.2.2.2.2.2.2 := by rw [hnL]; decide
  have hn6 : 6 < X.2.2.2.2.2.2.2.2.2.2.2.2.2 := by rw [hnL]; decide
  have hn7 : 7 < X.2.2.2.2.2.2.2.2.2.2.2.2.2 := by rw [hnL]; decide
  unfold fX10_planRaid at h
  refine r_aload_n (pc := 0) C dX10_planRaid_0 rfl rfl ?_
  refine r_getR (pc := 1) C kX10_24 h0 (by decide) dX10_planRaid_1 ?_
  refine r_vI0 (pc := 4) C (fun r M' e => zX2_isTold X.1 (xrf a0 2) (xtk h0 (by decide) rfl rfl) M r M' e) (xtk h0 (by decide) rfl rfl) (by decide) rfl mX2_isTold lX10_135 (by decide) (Nat.le_of_ble_eq_true rfl) dX10_planRaid_4 h (fun r1 M2 h => ?_)
  refine r_if_ne (pc := 7) (tgt := 13) C dX10_planRaid_7 (by decide) h (fun _ h => ?_) (fun _ h => ?_)
  · refine r_aload_n (pc := 13) C dX10_planRaid_13 rfl rfl ?_
    refine r_getR (pc := 14) C kX10_24 h0 (by decide) dX10_planRaid_14 ?_
    refine r_getR (pc := 17) C kX10_122 (xtk h0 (by decide) rfl rfl) (by decide) dX10_planRaid_17 ?_
    refine r_astore (pc := 20) (lv' := [_, _, _, _, _, _, _, _]) C dX10_planRaid_20 hn5 rfl ?_
    refine r_aload_n (pc := 22) C dX10_planRaid_22 rfl rfl ?_
    refine r_aload (pc := 23) C dX10_planRaid_23 rfl ?_
    refine r_getI (pc := 25) C kX10_198 (xtk (xtk h0 (by decide) rfl rfl) (by decide) rfl rfl) dX10_planRaid_25 ?_
    refine r_iload_n (pc := 28) C dX10_planRaid_28 rfl rfl ?_
    refine r_vI2 (pc := 29) C (fun r M' e => zX10_hasPlayer X.1 a0 h0 (M2.1 (xrf (xrf a0 2) 1) 1) a1 M2 r M' e) h0 (by decide) rfl mX10_hasPlayer lX10_160 (by decide) (Nat.le_of_ble_eq_true rfl) dX10_planRaid_29 h (fun r3 M4 h => ?_)
    refine r_if_eq (pc := 32) (tgt := 44) C dX10_planRaid_32 (by decide) h (fun _ h => ?_) (fun _ h => ?_)
    · refine r_bipush (pc := 44) (v := (-2)) C dX10_planRaid_44 (by decide) ?_
      exact r_iret (pc := 46) C R0 h dX10_planRaid_46
    · refine r_iload_n (pc := 35) C dX10_planRaid_35 rfl rfl ?_
      refine r_iconst (pc := 36) (v := (nI 0)) C dX10_planRaid_36 (by decide) ?_
      refine r_iconst (pc := 37) (v := (nI 4)) C dX10_planRaid_37 (by decide) ?_
      refine r_sI3 (pc := 38) C (fun r M' e => zX10_isWithin X.1 a2 (nI 0) (nI 4) M4 r M' e) mX10_isWithin lX10_152 (by decide) (Nat.le_of_ble_eq_true rfl) dX10_planRaid_38 h (fun r5 M6 h => ?_)
      refine r_if_ne (pc := 41) (tgt := 47) C dX10_planRaid_41 (by decide) h (fun _ h => ?_) (fun _ h => ?_)
      · refine r_iload_n (pc := 47) C dX10_planRaid_47 rfl rfl ?_
        refine r_iconst (pc := 48) (v := (nI 1)) C dX10_planRaid_48 (by decide) ?_
        refine r_jn (fun J => ∀ (s7 : Int32) (M8 : xMem) , J s7 M8 = some (r, M') → WW X 62 [some (vr X.1 a0), some (.int a1), some (.int a2), some (.int a3), some (.int a4), some (vr X.1 (xrf (xrf a0 2) 1)), none, none] [.int s7] M8) h (fun s7 M8  h => ?_) (fun J62 hJ62 h => ?_)
        · refine r_istore (pc := 62) (lv' := [_, _, _, _, _, _, _, _]) C dX10_planRaid_62 hn6 rfl ?_
          refine r_aload_n (pc := 64) C dX10_planRaid_64 rfl rfl ?_
          refine r_iload_n (pc := 65) C dX10_planRaid_65 rfl rfl ?_
          refine r_iload_n (pc := 66) C dX10_planRaid_66 rfl rfl ?_
          refine r_vI2 (pc := 67) C (fun r M' e => zX10_isSetAsTold X.1 a0 h0 a2 a3 M8 r M' e) h0 (by decide) rfl mX10_isSetAsTold lX10_338 (by decide) (Nat.le_of_ble_eq_true rfl) dX10_planRaid_67 h (fun r9 M10 h => ?_)
          refine r_if_eq (pc := 70) (tgt := 84) C dX10_planRaid_70 (by decide) h (fun _ h => ?_) (fun _ h => ?_)
          · refine r_bipush (pc := 84) (v := (-2)) C dX10_planRaid_84 (by decide) ?_
            exact r_iret (pc := 86) C R0 h dX10_planRaid_86
          · refine r_iload (pc := 73) C dX10_planRaid_73 rfl ?_
            refine r_iconst (pc := 75) (v := (nI 0)) C dX10_planRaid_75 (by decide) ?_
            refine r_iload (pc := 76) C dX10_planRaid_76 rfl ?_
            refine r_sI3 (pc := 78) C (fun r M' e => zX10_isWithin X.1 a4 (nI 0) s7 M10 r M' e) mX10_isWithin lX10_152 (by decide) (Nat.le_of_ble_eq_true rfl) dX10_planRaid_78 h (fun r11 M12 h => ?_)
            refine r_if_ne (pc := 81) (tgt := 87) C dX10_planRaid_81 (by decide) h (fun _ h => ?_) (fun _ h => ?_)
            · refine r_aload_n (pc := 87) C dX10_planRaid_87 rfl rfl ?_
              refine r_getR (pc := 88) C kX10_24 h0 (by decide) dX10_planRaid_88 ?_
              refine r_vI0 (pc := 91) C (fun r M' e => zX2_hasRoomForRaid X.1 (xrf a0 2) (xtk h0 (by decide) rfl rfl) M12 r M' e) (xtk h0 (by decide) rfl rfl) (by decide) rfl mX2_hasRoomForRaid lX10_306 (by decide) (Nat.le_of_ble_eq_true rfl) dX10_planRaid_91 h (fun r13 M14 h => ?_)
              refine r_if_eq (pc := 94) (tgt := 106) C dX10_planRaid_94 (by decide) h (fun _ h => ?_) (fun _ h => ?_)
              · refine r_bipush (pc := 106) (v := (-6)) C dX10_planRaid_106 (by decide) ?_
                exact r_iret (pc := 108) C R0 h dX10_planRaid_108
              · refine r_aload (pc := 97) C dX10_planRaid_97 rfl ?_
                refine r_iload_n (pc := 99) C dX10_planRaid_99 rfl rfl ?_
                refine r_vI1 (pc := 100) C (fun r M' e => zX8_canSend X.1 (xrf (xrf a0 2) 1) (xtk (xtk h0 (by decide) rfl rfl) (by decide) rfl rfl) a1 M14 r M' e) (xtk (xtk h0 (by decide) rfl rfl) (by decide) rfl rfl) (by decide) rfl mX8_canSend lX10_341 (by decide) (Nat.le_of_ble_eq_true rfl) dX10_planRaid_100 h (fun r15 M16 h => ?_)
                refine r_if_ne (pc := 103) (tgt := 109) C dX10_planRaid_103 (by decide) h (fun _ h => ?_) (fun _ h => ?_)
                · refine r_iload_n (pc := 109) C dX10_planRaid_109 rfl rfl ?_
                  refine r_iconst (pc := 110) (v := (nI 2)) C dX10_planRaid_110 (by decide) ?_
                  refine r_jn (fun J => ∀  (M17 : xMem) , J  M17 = some (r, M') → WW X 131 [some (vr X.1 a0), some (.int a1), some (.int a2), some (.int a3), some (.int a4), some (vr X.1 (xrf (xrf a0 2) 1)), some (.int s7), none] [] M17) h (fun  M17  h => ?_) (fun J131 hJ131 h => ?_)
                  · refine r_aload (pc := 131) C dX10_planRaid_131 rfl ?_
                    refine r_vR0 (pc := 133) C (fun r M' e => zX8_away X.1 (xrf (xrf a0 2) 1) (xtk (xtk h0 (by decide) rfl rfl) (by decide) rfl rfl) M17 r M' e) (xtk (xtk h0 (by decide) rfl rfl) (by decide) rfl rfl) (by decide) rfl mX8_away lX10_320 (by decide) (Nat.le_of_ble_eq_true rfl) dX10_planRaid_133 h (fun r18 M19 e20 h => ?_)
                    have k21 := tX8_away (xtk (xtk h0 (by decide) rfl rfl) (by decide) rfl rfl) e20
                    refine r_iconst (pc := 136) (v := (nI 0)) C dX10_planRaid_136 (by decide) ?_
                    refine r_vI1 (pc := 137) C (fun r M' e => zX7_maskOf X.1 r18 k21 (nI 0) M19 r M' e) k21 (by decide) rfl mX7_maskOf lX10_180 (by decide) (Nat.le_of_ble_eq_true rfl) dX10_planRaid_137 h (fun r22 M23 h => ?_)
                    refine r_istore (pc := 140) (lv' := [_, _, _, _, _, _, _, _]) C dX10_planRaid_140 hn7 rfl ?_
                    refine r_aload_n (pc := 142) C dX10_planRaid_142 rfl rfl ?_
                    refine r_getR (pc := 143) C kX10_61 h0 (by decide) dX10_planRaid_143 ?_
                    refine r_iload_n (pc := 146) C dX10_planRaid_146 rfl rfl ?_
                    refine r_iload_n (pc := 147) C dX10_planRaid_147 rfl rfl ?_
                    refine r_vV2 (pc := 148) C (fun M' e => zX4_begin X.1 (xrf a0 7) (xtk h0 (by decide) rfl rfl) a1 a2 M23 M' e) (xtk h0 (by decide) rfl rfl) (by decide) rfl mX4_begin lX10_316 (by decide) (Nat.le_of_ble_eq_true rfl) dX10_planRaid_148 h (fun M24 h => ?_)
                    refine r_aload_n (pc := 151) C dX10_planRaid_151 rfl rfl ?_
                    refine r_getR (pc := 152) C kX10_61 h0 (by decide) dX10_planRaid_152 ?_
                    refine r_iload (pc := 155) C dX10_planRaid_155 rfl ?_
                    refine r_putI (pc := 157) C kX10_327 (xtk h0 (by decide) rfl rfl) dX10_planRaid_157 ?_
                    refine r_letM h (fun M25 h => ?_)
                    refine r_iload_n (pc := 160) C dX10_planRaid_160 rfl rfl ?_
                    refine r_iconst (pc := 161) (v := (nI 1)) C dX10_planRaid_161 (by decide) ?_
                    refine r_icmp_ne (pc := 162) (tgt := 189) C dX10_planRaid_162 (by decide) h (fun _ h => ?_) (fun _ h => ?_)
                    · refine r_aload_n (pc := 189) C dX10_planRaid_189 rfl rfl ?_
                      refine r_getR (pc := 190) C kX10_61 h0 (by decide) dX10_planRaid_190 ?_
                      refine r_iload_n (pc := 193) C dX10_planRaid_193 rfl rfl ?_
                      refine r_putI (pc := 194) C kX10_344 (xtk h0 (by decide) rfl rfl) dX10_planRaid_194 ?_
                      refine r_letM h (fun M26 h => ?_)
                      refine r_iload_n (pc := 197) C dX10_planRaid_197 rfl rfl ?_
                      refine r_iconst (pc := 198) (v := (nI 3)) C dX10_planRaid_198 (by decide) ?_
                      refine r_icmp_ne (pc := 199) (tgt := 216) C dX10_planRaid_199 (by decide) h (fun _ h => ?_) (fun _ h => ?_)
                      · refine r_iconst (pc := 216) (v := (nI 0)) C dX10_planRaid_216 (by decide) ?_
                        exact r_iret (pc := 217) C R0 h dX10_planRaid_217
                      · refine r_iload (pc := 202) C dX10_planRaid_202 rfl ?_
                        refine r_iload_n (pc := 204) C dX10_planRaid_204 rfl rfl ?_
                        refine r_ishr (pc := 205) C dX10_planRaid_205 ?_
                        refine r_iconst (pc := 206) (v := (nI 1)) C dX10_planRaid_206 (by decide) ?_
                        refine r_iand (pc := 207) C dX10_planRaid_207 ?_
                        refine r_if_ne (pc := 208) (tgt := 216) C dX10_planRaid_208 (by decide) h (fun _ h => ?_) (fun _ h => ?_)
                        · refine r_iconst (pc := 216) (v := (nI 0)) C dX10_planRaid_216 (by decide) ?_
                          exact r_iret (pc := 217) C R0 h dX10_planRaid_217
                        · refine r_bipush (pc := 211) (v := (-6)) C dX10_planRaid_211 (by decide) ?_
                          refine r_goto (pc := 213) (tgt := 217) C dX10_planRaid_213 (by decide) ?_
                          exact r_iret (pc := 217) C R0 h dX10_planRaid_217
                    · refine r_aload_n (pc := 165) C dX10_planRaid_165 rfl rfl ?_
                      refine r_getR (pc := 166) C kX10_61 h0 (by decide) dX10_planRaid_166 ?_
                      refine r_iload_n (pc := 169) C dX10_planRaid_169 rfl rfl ?_
                      refine r_vV1 (pc := 170) C (fun M' e => zX4_touchAll X.1 (xrf a0 7) (xtk h0 (by decide) rfl rfl) a3 M25 M' e) (xtk h0 (by decide) rfl rfl) (by decide) rfl mX4_touchAll lX10_324 (by decide) (Nat.le_of_ble_eq_true rfl) dX10_planRaid_170 h (fun M27 h => ?_)
                      refine r_iload_n (pc := 173) C dX10_planRaid_173 rfl rfl ?_
                      refine r_iload (pc := 174) C dX10_planRaid_174 rfl ?_
                      refine r_iconst (pc := 176) (v := (-1)) C dX10_planRaid_176 (by decide) ?_
                      refine r_ixor (pc := 177) C dX10_planRaid_177 ?_
                      refine r_iand (pc := 178) C dX10_planRaid_178 ?_
                      refine r_if_ne (pc := 179) (tgt := 186) C dX10_planRaid_179 (by decide) h (fun _ h => ?_) (fun _ h => ?_)
                      · refine r_bipush (pc := 186) (v := (-6)) C dX10_planRaid_186 (by decide) ?_
                        exact r_iret (pc := 188) C R0 h dX10_planRaid_188
                      · refine r_iconst (pc := 182) (v := (nI 0)) C dX10_planRaid_182 (by decide) ?_
                        refine r_goto (pc := 183) (tgt := 188) C dX10_planRaid_183 (by decide) ?_
                        exact r_iret (pc := 188) C R0 h dX10_planRaid_188
                  refine r_jn (fun J => ∀  (M28 : xMem) , J  M28 = some (r, M') → WW X 120 [some (vr X.1 a0), some (.int a1), some (.int a2), some (.int a3), some (.int a4), some (vr X.1 (xrf (xrf a0 2) 1)), some (.int s7), none] [] M28) h (fun  M28  h => ?_) (fun J120 hJ120 h => ?_)
                  · refine r_aload (pc := 120) C dX10_planRaid_120 rfl ?_
                    refine r_vI0 (pc := 122) C (fun r M' e => zX8_isBonusOpen X.1 (xrf (xrf a0 2) 1) (xtk (xtk h0 (by decide) rfl rfl) (by decide) rfl rfl) M28 r M' e) (xtk (xtk h0 (by decide) rfl rfl) (by decide) rfl rfl) (by decide) rfl mX8_isBonusOpen lX10_204 (by decide) (Nat.le_of_ble_eq_true rfl) dX10_planRaid_122 h (fun r29 M30 h => ?_)
                    refine r_if_ne (pc := 125) (tgt := 131) C dX10_planRaid_125 (by decide) h (fun _ h => ?_) (fun _ h => ?_)
                    · exact hJ131  M30  h
                    · refine r_bipush (pc := 128) (v := (-6)) C dX10_planRaid_128 (by decide) ?_
                      exact r_iret (pc := 130) C R0 h dX10_planRaid_130
                  refine r_icmp_eq (pc := 111) (tgt := 120) C dX10_planRaid_111 (by decide) h (fun _ h => ?_) (fun _ h => ?_)
                  · exact hJ120  M16  h
                  · refine r_iload (pc := 114) C dX10_planRaid_114 rfl ?_
                    refine r_iconst (pc := 116) (v := (nI 1)) C dX10_planRaid_116 (by decide) ?_
                    refine r_icmp_ne (pc := 117) (tgt := 131) C dX10_planRaid_117 (by decide) h (fun _ h => ?_) (fun _ h => ?_)
                    · exact hJ131  M16  h
                    · exact hJ120  M16  h
                · refine r_bipush (pc := 106) (v := (-6)) C dX10_planRaid_106 (by decide) ?_
                  exact r_iret (pc := 108) C R0 h dX10_planRaid_108
            · refine r_bipush (pc := 84) (v := (-2)) C dX10_planRaid_84 (by decide) ?_
              exact r_iret (pc := 86) C R0 h dX10_planRaid_86
        refine r_icmp_eq (pc := 49) (tgt := 57) C dX10_planRaid_49 (by decide) h (fun _ h => ?_) (fun _ h => ?_)
        · refine r_iconst (pc := 57) (v := (nI 1)) C dX10_planRaid_57 (by decide) ?_
          refine r_goto (pc := 58) (tgt := 62) C dX10_planRaid_58 (by decide) ?_
          exact hJ62 (nI 1) M6  h
        · refine r_iload_n (pc := 52) C dX10_planRaid_52 rfl rfl ?_
          refine r_iconst (pc := 53) (v := (nI 3)) C dX10_planRaid_53 (by decide) ?_
          refine r_icmp_ne (pc := 54) (tgt := 61) C dX10_planRaid_54 (by decide) h (fun _ h => ?_) (fun _ h => ?_)
          · refine r_iconst (pc := 61) (v := (nI 0)) C dX10_planRaid_61 (by decide) ?_
            exact hJ62 (nI 0) M6  h
          · refine r_iconst (pc := 57) (v := (nI 1)) C dX10_planRaid_57 (by decide) ?_
            refine r_goto (pc := 58) (tgt := 62) C dX10_planRaid_58 (by decide) ?_
            exact hJ62 (nI 1) M6  h
      · refine r_bipush (pc := 44) (v := (-2)) C dX10_planRaid_44 (by decide) ?_
        exact r_iret (pc := 46) C R0 h dX10_planRaid_46
  · refine r_bipush (pc := 10) (v := (-2)) C dX10_planRaid_10 (by decide) ?_
    exact r_iret (pc := 12) C R0 h dX10_planRaid_12
theorem dX10_would_0 : decode cX10_would 0 = .ok (.iload 5, 2) := by decide +kernel
theorem dX10_would_2 : decode cX10_would 2 = .ok (.iconst 0, 1) := by decide +kernel
theorem dX10_would_3 : decode cX10_would 3 = .ok (.iconst 3, 1) := by decide +kernel
theorem dX10_would_4 : decode cX10_would 4 = .ok (.invokestatic 152, 3) := by decide +kernel
theorem dX10_would_7 : decode cX10_would 7 = .ok (.ifCond .ne 6, 3) := by decide +kernel
theorem dX10_would_10 : decode cX10_would 10 = .ok (.bipush (-2), 2) := by decide +kernel
theorem dX10_would_12 : decode cX10_would 12 = .ok (.ireturn, 1) := by decide +kernel
theorem dX10_would_13 : decode cX10_would 13 = .ok (.aload_n 0, 1) := by decide +kernel
theorem dX10_would_14 : decode cX10_would 14 = .ok (.iload_n 1, 1) := by decide +kernel
theorem dX10_would_15 : decode cX10_would 15 = .ok (.iload_n 2, 1) := by decide +kernel
theorem dX10_would_16 : decode cX10_would 16 = .ok (.iload_n 3, 1) := by decide +kernel
theorem dX10_would_17 : decode cX10_would 17 = .ok (.iload 4, 2) := by decide +kernel
theorem dX10_would_19 : decode cX10_would 19 = .ok (.invokevirtual 284, 3) := by decide +kernel
theorem dX10_would_22 : decode cX10_would 22 = .ok (.istore 6, 2) := by decide +kernel
theorem dX10_would_24 : decode cX10_would 24 = .ok (.iload 6, 2) := by decide +kernel
theorem dX10_would_26 : decode cX10_would 26 = .ok (.ifCond .eq 6, 3) := by decide +kernel
theorem dX10_would_29 : decode cX10_would 29 = .ok (.iload 6, 2) := by decide +kernel
theorem dX10_would_31 : decode cX10_would 31 = .ok (.ireturn, 1) := by decide +kernel
theorem dX10_would_32 : decode cX10_would 32 = .ok (.aload_n 0, 1) := by decide +kernel
theorem dX10_would_33 : decode cX10_would 33 = .ok (.getfield 24, 3) := by decide +kernel
theorem dX10_would_36 : decode cX10_would 36 = .ok (.getfield 122, 3) := by decide +kernel
theorem dX10_would_39 : decode cX10_would 39 = .ok (.getfield 198, 3) := by decide +kernel
theorem dX10_would_42 : decode cX10_would 42 = .ok (.istore 7, 2) := by decide +kernel
theorem dX10_would_44 : decode cX10_would 44 = .ok (.aload_n 0, 1) := by decide +kernel
theorem dX10_would_45 : decode cX10_would 45 = .ok (.getfield 54, 3) := by decide +kernel
theorem dX10_would_48 : decode cX10_would 48 = .ok (.aload_n 0, 1) := by decide +kernel
theorem dX10_would_49 : decode cX10_would 49 = .ok (.getfield 24, 3) := by decide +kernel
theorem dX10_would_52 : decode cX10_would 52 = .ok (.getfield 122, 3) := by decide +kernel
theorem dX10_would_55 : decode cX10_would 55 = .ok (.invokevirtual 287, 3) := by decide +kernel
theorem dX10_would_58 : decode cX10_would 58 = .ok (.aload_n 0, 1) := by decide +kernel
theorem dX10_would_59 : decode cX10_would 59 = .ok (.getfield 54, 3) := by decide +kernel
theorem dX10_would_62 : decode cX10_would 62 = .ok (.aload_n 0, 1) := by decide +kernel
theorem dX10_would_63 : decode cX10_would 63 = .ok (.getfield 61, 3) := by decide +kernel
theorem dX10_would_66 : decode cX10_would 66 = .ok (.invokevirtual 290, 3) := by decide +kernel
theorem dX10_would_69 : decode cX10_would 69 = .ok (.iload 5, 2) := by decide +kernel
theorem dX10_would_71 : decode cX10_would 71 = .ok (.tableswitch 56 0 2 #[25, 33, 41], 25) := by decide +kernel
theorem dX10_would_96 : decode cX10_would 96 = .ok (.aload_n 0, 1) := by decide +kernel
theorem dX10_would_97 : decode cX10_would 97 = .ok (.getfield 54, 3) := by decide +kernel
theorem dX10_would_100 : decode cX10_would 100 = .ok (.getfield 294, 3) := by decide +kernel
theorem dX10_would_103 : decode cX10_would 103 = .ok (.ireturn, 1) := by decide +kernel
theorem dX10_would_104 : decode cX10_would 104 = .ok (.aload_n 0, 1) := by decide +kernel
theorem dX10_would_105 : decode cX10_would 105 = .ok (.getfield 54, 3) := by decide +kernel
theorem dX10_would_108 : decode cX10_would 108 = .ok (.getfield 297, 3) := by decide +kernel
theorem dX10_would_111 : decode cX10_would 111 = .ok (.ireturn, 1) := by decide +kernel
theorem dX10_would_112 : decode cX10_would 112 = .ok (.aload_n 0, 1) := by decide +kernel
theorem dX10_would_113 : decode cX10_would 113 = .ok (.getfield 54, 3) := by decide +kernel
theorem dX10_would_116 : decode cX10_would 116 = .ok (.getfield 170, 3) := by decide +kernel
theorem dX10_would_119 : decode cX10_would 119 = .ok (.iload 7, 2) := by decide +kernel
theorem dX10_would_121 : decode cX10_would 121 = .ok (.aaload, 1) := by decide +kernel
theorem dX10_would_122 : decode cX10_would 122 = .ok (.iconst 0, 1) := by decide +kernel
theorem dX10_would_123 : decode cX10_would 123 = .ok (.invokevirtual 300, 3) := by decide +kernel
theorem dX10_would_126 : decode cX10_would 126 = .ok (.ireturn, 1) := by decide +kernel
theorem dX10_would_127 : decode cX10_would 127 = .ok (.aload_n 0, 1) := by decide +kernel
theorem dX10_would_128 : decode cX10_would 128 = .ok (.getfield 54, 3) := by decide +kernel
theorem dX10_would_131 : decode cX10_would 131 = .ok (.getfield 170, 3) := by decide +kernel
theorem dX10_would_134 : decode cX10_would 134 = .ok (.iconst 1, 1) := by decide +kernel
theorem dX10_would_135 : decode cX10_would 135 = .ok (.iload 7, 2) := by decide +kernel
theorem dX10_would_137 : decode cX10_would 137 = .ok (.isub, 1) := by decide +kernel
theorem dX10_would_138 : decode cX10_would 138 = .ok (.aaload, 1) := by decide +kernel
theorem dX10_would_139 : decode cX10_would 139 = .ok (.iconst 0, 1) := by decide +kernel
theorem dX10_would_140 : decode cX10_would 140 = .ok (.invokevirtual 300, 3) := by decide +kernel
theorem dX10_would_143 : decode cX10_would 143 = .ok (.ireturn, 1) := by decide +kernel
def fX10_would (a0 : Nat) (a1 : Int32) (a2 : Int32) (a3 : Int32) (a4 : Int32) (a5 : Int32) (M : xMem) : Option (Int32 × xMem) :=
  xBn (fX10_isWithin a5 (nI 0) (nI 3) M) fun r1 M2 => if r1 = 0 then (some ((-2), M2)) else (xBn (fX10_planRaid a0 a1 a2 a3 a4 M2) fun r3 M4 => if r3 = 0 then (xLt (M4.1 (xrf (xrf a0 2) 1) 1) fun x5 => xBv (fX8_copyFrom (xrf a0 6) (xrf (xrf a0 2) 1) M4) fun M6 => xBv (fX8_play (xrf a0 6) (xrf a0 7) M6) fun M7 => if a5 = nI 0 then (some ((M7.1 (xrf a0 6) 5), M7)) else (if a5 = nI 1 then (some ((M7.1 (xrf a0 6) 6), M7)) else (if a5 = nI 2 then (xGb x5 (xln (xrf (xrf a0 6) 0)) (xBn (fX7_countOf (xrf (xrf (xrf a0 6) 0) (Int32.toNatClampNeg x5)) (nI 0) M7) fun r12 M13 => some (r12, M13))) else (xGb ((nI 1) - x5) (xln (xrf (xrf a0 6) 0)) (xBn (fX7_countOf (xrf (xrf (xrf a0 6) 0) (Int32.toNatClampNeg ((nI 1) - x5))) (nI 0) M7) fun r15 M16 => some (r15, M16)))))) else (some (r3, M4)))
set_option maxRecDepth 100000 in
set_option maxHeartbeats 4000000 in
theorem zX10_would (G : xGX) (a0 : Nat) (h0 : xkd a0 = 10) (a1 : Int32) (a2 : Int32) (a3 : Int32) (a4 : Int32) (a5 : Int32) (M : xMem) (r : Int32) (M' : xMem) (h : fX10_would a0 a1 a2 a3 a4 a5 M = some (r, M')) : xCt G yX10_would cX10_would 8 (some .int) 6 [vr G a0, .int a1, .int a2, .int a3, .int a4, .int a5] M (some (.int r), M') := by
  refine xMet (lv := [some (vr G a0), some (.int a1), some (.int a2), some (.int a3), some (.int a4), some (.int a5), none, none]) (by decide) (Nat.le_of_ble_eq_true rfl) rfl ?_
  intro X hG hnL C R0
  subst hG
  have C : xCk X cX10_would RX10 6 := C
  have hn6 : 6 < X.2.2.2.2.2.2.2.2.2.2.2.2.2 := by rw [hnL]; decide
  have hn7 : 7 < X.2.2.2.2.2.2.2.2.2.2.2.2.2 := by rw [hnL]; decide
  unfold fX10_would at h
  refine r_iload (pc := 0) C dX10_would_0 rfl ?_
  refine r_iconst (pc := 2) (v := (nI 0)) C dX10_would_2 (by decide) ?_
  refine r_iconst (pc := 3) (v := (nI 3)) C dX10_would_3 (by decide) ?_
  refine r_sI3 (pc := 4) C (fun r M' e => zX10_isWithin X.1 a5 (nI 0) (nI 3) M r M' e) mX10_isWithin lX10_152 (by decide) (Nat.le_of_ble_eq_true rfl) dX10_would_4 h (fun r1 M2 h => ?_)
  refine r_if_ne (pc := 7) (tgt := 13) C dX10_would_7 (by decide) h (fun _ h => ?_) (fun _ h => ?_)
  · refine r_aload_n (pc := 13) C dX10_would_13 rfl rfl ?_
    refine r_iload_n (pc := 14) C dX10_would_14 rfl rfl ?_
    refine r_iload_n (pc := 15) C dX10_would_15 rfl rfl ?_
    refine r_iload_n (pc := 16) C dX10_would_16 rfl rfl ?_
    refine r_iload (pc := 17) C dX10_would_17 rfl ?_
    refine r_vI4 (pc := 19) C (fun r M' e => zX10_planRaid X.1 a0 h0 a1 a2 a3 a4 M2 r M' e) h0 (by decide) rfl mX10_planRaid lX10_284 (by decide) (Nat.le_of_ble_eq_true rfl) dX10_would_19 h (fun r3 M4 h => ?_)
    refine r_istore (pc := 22) (lv' := [_, _, _, _, _, _, _, _]) C dX10_would_22 hn6 rfl ?_
    refine r_iload (pc := 24) C dX10_would_24 rfl ?_
    refine r_if_eq (pc := 26) (tgt := 32) C dX10_would_26 (by decide) h (fun _ h => ?_) (fun _ h => ?_)
    · refine r_aload_n (pc := 32) C dX10_would_32 rfl rfl ?_
      refine r_getR (pc := 33) C kX10_24 h0 (by decide) dX10_would_33 ?_
      refine r_getR (pc := 36) C kX10_122 (xtk h0 (by decide) rfl rfl) (by decide) dX10_would_36 ?_
      refine r_getI (pc := 39) C kX10_198 (xtk (xtk h0 (by decide) rfl rfl) (by decide) rfl rfl) dX10_would_39 ?_
      refine r_letI h (fun x5 h => ?_)
      refine r_istore (pc := 42) (lv' := [_, _, _, _, _, _, _, _]) C dX10_would_42 hn7 rfl ?_
      refine r_aload_n (pc := 44) C dX10_would_44 rfl rfl ?_
      refine r_getR (pc := 45) C kX10_54 h0 (by decide) dX10_would_45 ?_
      refine r_aload_n (pc := 48) C dX10_would_48 rfl rfl ?_
      refine r_getR (pc := 49) C kX10_24 h0 (by decide) dX10_would_49 ?_
      refine r_getR (pc := 52) C kX10_122 (xtk h0 (by decide) rfl rfl) (by decide) dX10_would_52 ?_
      refine r_vV1 (pc := 55) C (fun M' e => zX8_copyFrom X.1 (xrf a0 6) (xtk h0 (by decide) rfl rfl) (xrf (xrf a0 2) 1) (xtk (xtk h0 (by decide) rfl rfl) (by decide) rfl rfl) M4 M' e) (xtk h0 (by decide) rfl rfl) (by decide) rfl mX8_copyFrom lX10_287 (by decide) (Nat.le_of_ble_eq_true rfl) dX10_would_55 h (fun M6 h => ?_)
      refine r_aload_n (pc := 58) C dX10_would_58 rfl rfl ?_
      refine r_getR (pc := 59) C kX10_54 h0 (by decide) dX10_would_59 ?_
      refine r_aload_n (pc := 62) C dX10_would_62 rfl rfl ?_
      refine r_getR (pc := 63) C kX10_61 h0 (by decide) dX10_would_63 ?_
      refine r_vV1 (pc := 66) C (fun M' e => zX8_play X.1 (xrf a0 6) (xtk h0 (by decide) rfl rfl) (xrf a0 7) (xtk h0 (by decide) rfl rfl) M6 M' e) (xtk h0 (by decide) rfl rfl) (by decide) rfl mX8_play lX10_290 (by decide) (Nat.le_of_ble_eq_true rfl) dX10_would_66 h (fun M7 h => ?_)
      refine r_iload (pc := 69) C dX10_would_69 rfl ?_
      refine r_tb h (fun e8 h => ?_) (fun e8 h => ?_)
      · refine r_tabInE (pc := 71) (tgt := 96) e8 C dX10_would_71 (by decide) (by decide) rfl (by decide) ?_
        refine r_aload_n (pc := 96) C dX10_would_96 rfl rfl ?_
        refine r_getR (pc := 97) C kX10_54 h0 (by decide) dX10_would_97 ?_
        refine r_getI (pc := 100) C kX10_294 (xtk h0 (by decide) rfl rfl) dX10_would_100 ?_
        exact r_iret (pc := 103) C R0 h dX10_would_103
      refine r_tb h (fun e9 h => ?_) (fun e9 h => ?_)
      · refine r_tabInE (pc := 71) (tgt := 104) e9 C dX10_would_71 (by decide) (by decide) rfl (by decide) ?_
        refine r_aload_n (pc := 104) C dX10_would_104 rfl rfl ?_
        refine r_getR (pc := 105) C kX10_54 h0 (by decide) dX10_would_105 ?_
        refine r_getI (pc := 108) C kX10_297 (xtk h0 (by decide) rfl rfl) dX10_would_108 ?_
        exact r_iret (pc := 111) C R0 h dX10_would_111
      refine r_tb h (fun e10 h => ?_) (fun e10 h => ?_)
      · refine r_tabInE (pc := 71) (tgt := 112) e10 C dX10_would_71 (by decide) (by decide) rfl (by decide) ?_
        refine r_aload_n (pc := 112) C dX10_would_112 rfl rfl ?_
        refine r_getR (pc := 113) C kX10_54 h0 (by decide) dX10_would_113 ?_
        refine r_getR (pc := 116) C kX10_170 (xtk h0 (by decide) rfl rfl) (by decide) dX10_would_116 ?_
        refine r_iload (pc := 119) C dX10_would_119 rfl ?_
        obtain ⟨g11, h⟩ := xGb_of h
        refine r_aaldS (pc := 121) C (xtk (xtk h0 (by decide) rfl rfl) (by decide) rfl rfl) g11 dX10_would_121 ?_
        refine r_iconst (pc := 122) (v := (nI 0)) C dX10_would_122 (by decide) ?_
        refine r_vI1 (pc := 123) C (fun r M' e => zX7_countOf X.1 (xrf (xrf (xrf a0 6) 0) (Int32.toNatClampNeg x5)) (xkeS (xtk (xtk h0 (by decide) rfl rfl) (by decide) rfl rfl) (xin_lt g11)) (nI 0) M7 r M' e) (xkeS (xtk (xtk h0 (by decide) rfl rfl) (by decide) rfl rfl) (xin_lt g11)) (by decide) rfl mX7_countOf lX10_300 (by decide) (Nat.le_of_ble_eq_true rfl) dX10_would_123 h (fun r12 M13 h => ?_)
        exact r_iret (pc := 126) C R0 h dX10_would_126
      refine r_tabOut (pc := 71) (tgt := 127) C dX10_would_71 (xtabout 0 2 (fun k hk hk2 => by rcases (show k = 0 ∨ k = 1 ∨ k = 2 by omega) with rfl | rfl | rfl <;> assumption)) (by decide) ?_
      refine r_aload_n (pc := 127) C dX10_would_127 rfl rfl ?_
      refine r_getR (pc := 128) C kX10_54 h0 (by decide) dX10_would_128 ?_
      refine r_getR (pc := 131) C kX10_170 (xtk h0 (by decide) rfl rfl) (by decide) dX10_would_131 ?_
      refine r_iconst (pc := 134) (v := (nI 1)) C dX10_would_134 (by decide) ?_
      refine r_iload (pc := 135) C dX10_would_135 rfl ?_
      refine r_isub (pc := 137) C dX10_would_137 ?_
      obtain ⟨g14, h⟩ := xGb_of h
      refine r_aaldS (pc := 138) C (xtk (xtk h0 (by decide) rfl rfl) (by decide) rfl rfl) g14 dX10_would_138 ?_
      refine r_iconst (pc := 139) (v := (nI 0)) C dX10_would_139 (by decide) ?_
      refine r_vI1 (pc := 140) C (fun r M' e => zX7_countOf X.1 (xrf (xrf (xrf a0 6) 0) (Int32.toNatClampNeg ((nI 1) - x5))) (xkeS (xtk (xtk h0 (by decide) rfl rfl) (by decide) rfl rfl) (xin_lt g14)) (nI 0) M7 r M' e) (xkeS (xtk (xtk h0 (by decide) rfl rfl) (by decide) rfl rfl) (xin_lt g14)) (by decide) rfl mX7_countOf lX10_300 (by decide) (Nat.le_of_ble_eq_true rfl) dX10_would_140 h (fun r15 M16 h => ?_)
      exact r_iret (pc := 143) C R0 h dX10_would_143
    · refine r_iload (pc := 29) C dX10_would_29 rfl ?_
      exact r_iret (pc := 31) C R0 h dX10_would_31
  · refine r_bipush (pc := 10) (v := (-2)) C dX10_would_10 (by decide) ?_
    exact r_iret (pc := 12) C R0 h dX10_would_12
theorem dX10_planAllTouched_0 : decode cX10_planAllTouched 0 = .ok (.aload_n 1, 1) := by decide +kernel
theorem dX10_planAllTouched_1 : decode cX10_planAllTouched 1 = .ok (.invokevirtual 320, 3) := by decide +kernel
theorem dX10_planAllTouched_4 : decode cX10_planAllTouched 4 = .ok (.iconst 0, 1) := by decide +kernel
theorem dX10_planAllTouched_5 : decode cX10_planAllTouched 5 = .ok (.invokevirtual 180, 3) := by decide +kernel
theorem dX10_planAllTouched_8 : decode cX10_planAllTouched 8 = .ok (.istore_n 3, 1) := by decide +kernel
theorem dX10_planAllTouched_9 : decode cX10_planAllTouched 9 = .ok (.aload_n 0, 1) := by decide +kernel
theorem dX10_planAllTouched_10 : decode cX10_planAllTouched 10 = .ok (.getfield 61, 3) := by decide +kernel
theorem dX10_planAllTouched_13 : decode cX10_planAllTouched 13 = .ok (.iload_n 2, 1) := by decide +kernel
theorem dX10_planAllTouched_14 : decode cX10_planAllTouched 14 = .ok (.iload_n 3, 1) := by decide +kernel
theorem dX10_planAllTouched_15 : decode cX10_planAllTouched 15 = .ok (.ifCond .ne 7, 3) := by decide +kernel
theorem dX10_planAllTouched_18 : decode cX10_planAllTouched 18 = .ok (.iconst 0, 1) := by decide +kernel
theorem dX10_planAllTouched_19 : decode cX10_planAllTouched 19 = .ok (.goto 4, 3) := by decide +kernel
theorem dX10_planAllTouched_22 : decode cX10_planAllTouched 22 = .ok (.iconst 1, 1) := by decide +kernel
theorem dX10_planAllTouched_23 : decode cX10_planAllTouched 23 = .ok (.invokevirtual 316, 3) := by decide +kernel
theorem dX10_planAllTouched_26 : decode cX10_planAllTouched 26 = .ok (.aload_n 0, 1) := by decide +kernel
theorem dX10_planAllTouched_27 : decode cX10_planAllTouched 27 = .ok (.getfield 61, 3) := by decide +kernel
theorem dX10_planAllTouched_30 : decode cX10_planAllTouched 30 = .ok (.iload_n 3, 1) := by decide +kernel
theorem dX10_planAllTouched_31 : decode cX10_planAllTouched 31 = .ok (.invokevirtual 324, 3) := by decide +kernel
theorem dX10_planAllTouched_34 : decode cX10_planAllTouched 34 = .ok (.aload_n 0, 1) := by decide +kernel
theorem dX10_planAllTouched_35 : decode cX10_planAllTouched 35 = .ok (.getfield 61, 3) := by decide +kernel
theorem dX10_planAllTouched_38 : decode cX10_planAllTouched 38 = .ok (.iload_n 3, 1) := by decide +kernel
theorem dX10_planAllTouched_39 : decode cX10_planAllTouched 39 = .ok (.ifCond .eq 14, 3) := by decide +kernel
theorem dX10_planAllTouched_42 : decode cX10_planAllTouched 42 = .ok (.aload_n 1, 1) := by decide +kernel
theorem dX10_planAllTouched_43 : decode cX10_planAllTouched 43 = .ok (.invokevirtual 204, 3) := by decide +kernel
theorem dX10_planAllTouched_46 : decode cX10_planAllTouched 46 = .ok (.ifCond .eq 7, 3) := by decide +kernel
theorem dX10_planAllTouched_49 : decode cX10_planAllTouched 49 = .ok (.iconst 1, 1) := by decide +kernel
theorem dX10_planAllTouched_50 : decode cX10_planAllTouched 50 = .ok (.goto 4, 3) := by decide +kernel
theorem dX10_planAllTouched_53 : decode cX10_planAllTouched 53 = .ok (.iconst 0, 1) := by decide +kernel
theorem dX10_planAllTouched_54 : decode cX10_planAllTouched 54 = .ok (.putfield 327, 3) := by decide +kernel
theorem dX10_planAllTouched_57 : decode cX10_planAllTouched 57 = .ok (.return_, 1) := by decide +kernel
def fX10_planAllTouched (a0 : Nat) (a1 : Nat) (a2 : Int32) (M : xMem) : Option (xMem) :=
  xBn (fX8_away a1 M) fun r1 M2 => xBn (fX7_maskOf r1 (nI 0) M2) fun r5 M6 => xLt (fun (s7 : Int32) (M8 : xMem) => (xBv (fX4_begin (xrf a0 7) a2 s7 M8) fun M9 => xBv (fX4_touchAll (xrf a0 7) r5 M9) fun M10 => xLt (fun (s11 : Int32) (M12 : xMem) => (xLt (xwI M12 (xrf a0 7) 3 s11) fun M13 => some M13 : Option (xMem))) fun J54 => xLt (fun  (M14 : xMem) => (J54 (nI 0) M14 : Option (xMem))) fun J53 => if r5 = 0 then (J53  M10) else (xBn (fX8_isBonusOpen a1 M10) fun r15 M16 => if r15 = 0 then (J53  M16) else (J54 (nI 1) M16)) : Option (xMem))) fun J23 => if r5 = 0 then (J23 (nI 0) M6) else (J23 (nI 1) M6)
set_option maxRecDepth 100000 in
set_option maxHeartbeats 4000000 in
theorem zX10_planAllTouched (G : xGX) (a0 : Nat) (h0 : xkd a0 = 10) (a1 : Nat) (h1 : xkd a1 = 8) (a2 : Int32) (M : xMem) (M' : xMem) (h : fX10_planAllTouched a0 a1 a2 M = some M') : xCt G yX10_planAllTouched cX10_planAllTouched 4 none 3 [vr G a0, vr G a1, .int a2] M (none, M') := by
  refine xMet (lv := [some (vr G a0), some (vr G a1), some (.int a2), none]) (by decide) (Nat.le_of_ble_eq_true rfl) rfl ?_
  intro X hG hnL C R0
  subst hG
  have C : xCk X cX10_planAllTouched RX10 3 := C
  have hn3 : 3 < X.2.2.2.2.2.2.2.2.2.2.2.2.2 := by rw [hnL]; decide
  unfold fX10_planAllTouched at h
  refine r_aload_n (pc := 0) C dX10_planAllTouched_0 rfl rfl ?_
  refine r_vR0 (pc := 1) C (fun r M' e => zX8_away X.1 a1 h1 M r M' e) h1 (by decide) rfl mX8_away lX10_320 (by decide) (Nat.le_of_ble_eq_true rfl) dX10_planAllTouched_1 h (fun r1 M2 e3 h => ?_)
  have k4 := tX8_away h1 e3
  refine r_iconst (pc := 4) (v := (nI 0)) C dX10_planAllTouched_4 (by decide) ?_
  refine r_vI1 (pc := 5) C (fun r M' e => zX7_maskOf X.1 r1 k4 (nI 0) M2 r M' e) k4 (by decide) rfl mX7_maskOf lX10_180 (by decide) (Nat.le_of_ble_eq_true rfl) dX10_planAllTouched_5 h (fun r5 M6 h => ?_)
  refine r_istore_n (pc := 8) (lv' := [_, _, _, _]) C dX10_planAllTouched_8 rfl hn3 rfl ?_
  refine r_aload_n (pc := 9) C dX10_planAllTouched_9 rfl rfl ?_
  refine r_getR (pc := 10) C kX10_61 h0 (by decide) dX10_planAllTouched_10 ?_
  refine r_iload_n (pc := 13) C dX10_planAllTouched_13 rfl rfl ?_
  refine r_iload_n (pc := 14) C dX10_planAllTouched_14 rfl rfl ?_
  refine r_jn (fun J => ∀ (s7 : Int32) (M8 : xMem) , J s7 M8 = some M' → WW X 23 [some (vr X.1 a0), some (vr X.1 a1), some (.int a2), some (.int r5)] [.int s7, .int a2, vr X.1 (xrf a0 7)] M8) h (fun s7 M8  h => ?_) (fun J23 hJ23 h => ?_)
  · refine r_vV2 (pc := 23) C (fun M' e => zX4_begin X.1 (xrf a0 7) (xtk h0 (by decide) rfl rfl) a2 s7 M8 M' e) (xtk h0 (by decide) rfl rfl) (by decide) rfl mX4_begin lX10_316 (by decide) (Nat.le_of_ble_eq_true rfl) dX10_planAllTouched_23 h (fun M9 h => ?_)
    refine r_aload_n (pc := 26) C dX10_planAllTouched_26 rfl rfl ?_
    refine r_getR (pc := 27) C kX10_61 h0 (by decide) dX10_planAllTouched_27 ?_
    refine r_iload_n (pc := 30) C dX10_planAllTouched_30 rfl rfl ?_
    refine r_vV1 (pc := 31) C (fun M' e => zX4_touchAll X.1 (xrf a0 7) (xtk h0 (by decide) rfl rfl) r5 M9 M' e) (xtk h0 (by decide) rfl rfl) (by decide) rfl mX4_touchAll lX10_324 (by decide) (Nat.le_of_ble_eq_true rfl) dX10_planAllTouched_31 h (fun M10 h => ?_)
    refine r_aload_n (pc := 34) C dX10_planAllTouched_34 rfl rfl ?_
    refine r_getR (pc := 35) C kX10_61 h0 (by decide) dX10_planAllTouched_35 ?_
    refine r_iload_n (pc := 38) C dX10_planAllTouched_38 rfl rfl ?_
    refine r_jn (fun J => ∀ (s11 : Int32) (M12 : xMem) , J s11 M12 = some M' → WW X 54 [some (vr X.1 a0), some (vr X.1 a1), some (.int a2), some (.int r5)] [.int s11, vr X.1 (xrf a0 7)] M12) h (fun s11 M12  h => ?_) (fun J54 hJ54 h => ?_)
    · refine r_putI (pc := 54) C kX10_327 (xtk h0 (by decide) rfl rfl) dX10_planAllTouched_54 ?_
      refine r_letM h (fun M13 h => ?_)
      exact r_vret (pc := 57) C R0 h dX10_planAllTouched_57
    refine r_jn (fun J => ∀  (M14 : xMem) , J  M14 = some M' → WW X 53 [some (vr X.1 a0), some (vr X.1 a1), some (.int a2), some (.int r5)] [vr X.1 (xrf a0 7)] M14) h (fun  M14  h => ?_) (fun J53 hJ53 h => ?_)
    · refine r_iconst (pc := 53) (v := (nI 0)) C dX10_planAllTouched_53 (by decide) ?_
      exact hJ54 (nI 0) M14  h
    refine r_if_eq (pc := 39) (tgt := 53) C dX10_planAllTouched_39 (by decide) h (fun _ h => ?_) (fun _ h => ?_)
    · exact hJ53  M10  h
    · refine r_aload_n (pc := 42) C dX10_planAllTouched_42 rfl rfl ?_
      refine r_vI0 (pc := 43) C (fun r M' e => zX8_isBonusOpen X.1 a1 h1 M10 r M' e) h1 (by decide) rfl mX8_isBonusOpen lX10_204 (by decide) (Nat.le_of_ble_eq_true rfl) dX10_planAllTouched_43 h (fun r15 M16 h => ?_)
      refine r_if_eq (pc := 46) (tgt := 53) C dX10_planAllTouched_46 (by decide) h (fun _ h => ?_) (fun _ h => ?_)
      · exact hJ53  M16  h
      · refine r_iconst (pc := 49) (v := (nI 1)) C dX10_planAllTouched_49 (by decide) ?_
        refine r_goto (pc := 50) (tgt := 54) C dX10_planAllTouched_50 (by decide) ?_
        exact hJ54 (nI 1) M16  h
  refine r_if_ne (pc := 15) (tgt := 22) C dX10_planAllTouched_15 (by decide) h (fun _ h => ?_) (fun _ h => ?_)
  · refine r_iconst (pc := 22) (v := (nI 1)) C dX10_planAllTouched_22 (by decide) ?_
    exact hJ23 (nI 1) M6  h
  · refine r_iconst (pc := 18) (v := (nI 0)) C dX10_planAllTouched_18 (by decide) ?_
    refine r_goto (pc := 19) (tgt := 23) C dX10_planAllTouched_19 (by decide) ?_
    exact hJ23 (nI 0) M6  h
theorem dX10_most_0 : decode cX10_most 0 = .ok (.aload_n 0, 1) := by decide +kernel
theorem dX10_most_1 : decode cX10_most 1 = .ok (.getfield 24, 3) := by decide +kernel
theorem dX10_most_4 : decode cX10_most 4 = .ok (.invokevirtual 135, 3) := by decide +kernel
theorem dX10_most_7 : decode cX10_most 7 = .ok (.ifCond .ne 6, 3) := by decide +kernel
theorem dX10_most_10 : decode cX10_most 10 = .ok (.bipush (-2), 2) := by decide +kernel
theorem dX10_most_12 : decode cX10_most 12 = .ok (.ireturn, 1) := by decide +kernel
theorem dX10_most_13 : decode cX10_most 13 = .ok (.aload_n 0, 1) := by decide +kernel
theorem dX10_most_14 : decode cX10_most 14 = .ok (.getfield 24, 3) := by decide +kernel
theorem dX10_most_17 : decode cX10_most 17 = .ok (.getfield 122, 3) := by decide +kernel
theorem dX10_most_20 : decode cX10_most 20 = .ok (.invokevirtual 303, 3) := by decide +kernel
theorem dX10_most_23 : decode cX10_most 23 = .ok (.istore_n 1, 1) := by decide +kernel
theorem dX10_most_24 : decode cX10_most 24 = .ok (.aload_n 0, 1) := by decide +kernel
theorem dX10_most_25 : decode cX10_most 25 = .ok (.getfield 24, 3) := by decide +kernel
theorem dX10_most_28 : decode cX10_most 28 = .ok (.getfield 122, 3) := by decide +kernel
theorem dX10_most_31 : decode cX10_most 31 = .ok (.invokevirtual 195, 3) := by decide +kernel
theorem dX10_most_34 : decode cX10_most 34 = .ok (.ifCond .ne 18, 3) := by decide +kernel
theorem dX10_most_37 : decode cX10_most 37 = .ok (.aload_n 0, 1) := by decide +kernel
theorem dX10_most_38 : decode cX10_most 38 = .ok (.getfield 24, 3) := by decide +kernel
theorem dX10_most_41 : decode cX10_most 41 = .ok (.invokevirtual 306, 3) := by decide +kernel
theorem dX10_most_44 : decode cX10_most 44 = .ok (.ifCond .eq 8, 3) := by decide +kernel
theorem dX10_most_47 : decode cX10_most 47 = .ok (.iload_n 1, 1) := by decide +kernel
theorem dX10_most_48 : decode cX10_most 48 = .ok (.iconst (-1), 1) := by decide +kernel
theorem dX10_most_49 : decode cX10_most 49 = .ok (.if_icmp .ne 5, 3) := by decide +kernel
theorem dX10_most_52 : decode cX10_most 52 = .ok (.iconst (-1), 1) := by decide +kernel
theorem dX10_most_53 : decode cX10_most 53 = .ok (.ireturn, 1) := by decide +kernel
theorem dX10_most_54 : decode cX10_most 54 = .ok (.aload_n 0, 1) := by decide +kernel
theorem dX10_most_55 : decode cX10_most 55 = .ok (.getfield 54, 3) := by decide +kernel
theorem dX10_most_58 : decode cX10_most 58 = .ok (.aload_n 0, 1) := by decide +kernel
theorem dX10_most_59 : decode cX10_most 59 = .ok (.getfield 24, 3) := by decide +kernel
theorem dX10_most_62 : decode cX10_most 62 = .ok (.getfield 122, 3) := by decide +kernel
theorem dX10_most_65 : decode cX10_most 65 = .ok (.invokevirtual 287, 3) := by decide +kernel
theorem dX10_most_68 : decode cX10_most 68 = .ok (.aload_n 0, 1) := by decide +kernel
theorem dX10_most_69 : decode cX10_most 69 = .ok (.aload_n 0, 1) := by decide +kernel
theorem dX10_most_70 : decode cX10_most 70 = .ok (.getfield 54, 3) := by decide +kernel
theorem dX10_most_73 : decode cX10_most 73 = .ok (.iload_n 1, 1) := by decide +kernel
theorem dX10_most_74 : decode cX10_most 74 = .ok (.invokevirtual 309, 3) := by decide +kernel
theorem dX10_most_77 : decode cX10_most 77 = .ok (.aload_n 0, 1) := by decide +kernel
theorem dX10_most_78 : decode cX10_most 78 = .ok (.getfield 54, 3) := by decide +kernel
theorem dX10_most_81 : decode cX10_most 81 = .ok (.aload_n 0, 1) := by decide +kernel
theorem dX10_most_82 : decode cX10_most 82 = .ok (.getfield 61, 3) := by decide +kernel
theorem dX10_most_85 : decode cX10_most 85 = .ok (.invokevirtual 290, 3) := by decide +kernel
theorem dX10_most_88 : decode cX10_most 88 = .ok (.aload_n 0, 1) := by decide +kernel
theorem dX10_most_89 : decode cX10_most 89 = .ok (.getfield 54, 3) := by decide +kernel
theorem dX10_most_92 : decode cX10_most 92 = .ok (.getfield 294, 3) := by decide +kernel
theorem dX10_most_95 : decode cX10_most 95 = .ok (.ireturn, 1) := by decide +kernel
def fX10_most (a0 : Nat) (M : xMem) : Option (Int32 × xMem) :=
  xBn (fX2_isTold (xrf a0 2) M) fun r1 M2 => if r1 = 0 then (some ((-2), M2)) else (xBn (fX8_leastOn (xrf (xrf a0 2) 1) M2) fun r3 M4 => xBn (fX8_isOver (xrf (xrf a0 2) 1) M4) fun r5 M6 => if r5 = 0 then (xBn (fX2_hasRoomForRaid (xrf a0 2) M6) fun r7 M8 => if r7 = 0 then (some ((-1), M8)) else (if r3 = (-1) then (some ((-1), M8)) else (xBv (fX8_copyFrom (xrf a0 6) (xrf (xrf a0 2) 1) M8) fun M9 => xBv (fX10_planAllTouched a0 (xrf a0 6) r3 M9) fun M10 => xBv (fX8_play (xrf a0 6) (xrf a0 7) M10) fun M11 => some ((M11.1 (xrf a0 6) 5), M11)))) else (some ((-1), M6)))
set_option maxRecDepth 100000 in
set_option maxHeartbeats 4000000 in
theorem zX10_most (G : xGX) (a0 : Nat) (h0 : xkd a0 = 10) (M : xMem) (r : Int32) (M' : xMem) (h : fX10_most a0 M = some (r, M')) : xCt G yX10_most cX10_most 2 (some .int) 5 [vr G a0] M (some (.int r), M') := by
  refine xMet (lv := [some (vr G a0), none]) (by decide) (Nat.le_of_ble_eq_true rfl) rfl ?_
  intro X hG hnL C R0
  subst hG
  have C : xCk X cX10_most RX10 5 := C
  have hn1 : 1 < X.2.2.2.2.2.2.2.2.2.2.2.2.2 := by rw [hnL]; decide
  unfold fX10_most at h
  refine r_aload_n (pc := 0) C dX10_most_0 rfl rfl ?_
  refine r_getR (pc := 1) C kX10_24 h0 (by decide) dX10_most_1 ?_
  refine r_vI0 (pc := 4) C (fun r M' e => zX2_isTold X.1 (xrf a0 2) (xtk h0 (by decide) rfl rfl) M r M' e) (xtk h0 (by decide) rfl rfl) (by decide) rfl mX2_isTold lX10_135 (by decide) (Nat.le_of_ble_eq_true rfl) dX10_most_4 h (fun r1 M2 h => ?_)
  refine r_if_ne (pc := 7) (tgt := 13) C dX10_most_7 (by decide) h (fun _ h => ?_) (fun _ h => ?_)
  · refine r_aload_n (pc := 13) C dX10_most_13 rfl rfl ?_
    refine r_getR (pc := 14) C kX10_24 h0 (by decide) dX10_most_14 ?_
    refine r_getR (pc := 17) C kX10_122 (xtk h0 (by decide) rfl rfl) (by decide) dX10_most_17 ?_
    refine r_vI0 (pc := 20) C (fun r M' e => zX8_leastOn X.1 (xrf (xrf a0 2) 1) (xtk (xtk h0 (by decide) rfl rfl) (by decide) rfl rfl) M2 r M' e) (xtk (xtk h0 (by decide) rfl rfl) (by decide) rfl rfl) (by decide) rfl mX8_leastOn lX10_303 (by decide) (Nat.le_of_ble_eq_true rfl) dX10_most_20 h (fun r3 M4 h => ?_)
    refine r_istore_n (pc := 23) (lv' := [_, _]) C dX10_most_23 rfl hn1 rfl ?_
    refine r_aload_n (pc := 24) C dX10_most_24 rfl rfl ?_
    refine r_getR (pc := 25) C kX10_24 h0 (by decide) dX10_most_25 ?_
    refine r_getR (pc := 28) C kX10_122 (xtk h0 (by decide) rfl rfl) (by decide) dX10_most_28 ?_
    refine r_vI0 (pc := 31) C (fun r M' e => zX8_isOver X.1 (xrf (xrf a0 2) 1) (xtk (xtk h0 (by decide) rfl rfl) (by decide) rfl rfl) M4 r M' e) (xtk (xtk h0 (by decide) rfl rfl) (by decide) rfl rfl) (by decide) rfl mX8_isOver lX10_195 (by decide) (Nat.le_of_ble_eq_true rfl) dX10_most_31 h (fun r5 M6 h => ?_)
    refine r_if_ne (pc := 34) (tgt := 52) C dX10_most_34 (by decide) h (fun _ h => ?_) (fun _ h => ?_)
    · refine r_iconst (pc := 52) (v := (-1)) C dX10_most_52 (by decide) ?_
      exact r_iret (pc := 53) C R0 h dX10_most_53
    · refine r_aload_n (pc := 37) C dX10_most_37 rfl rfl ?_
      refine r_getR (pc := 38) C kX10_24 h0 (by decide) dX10_most_38 ?_
      refine r_vI0 (pc := 41) C (fun r M' e => zX2_hasRoomForRaid X.1 (xrf a0 2) (xtk h0 (by decide) rfl rfl) M6 r M' e) (xtk h0 (by decide) rfl rfl) (by decide) rfl mX2_hasRoomForRaid lX10_306 (by decide) (Nat.le_of_ble_eq_true rfl) dX10_most_41 h (fun r7 M8 h => ?_)
      refine r_if_eq (pc := 44) (tgt := 52) C dX10_most_44 (by decide) h (fun _ h => ?_) (fun _ h => ?_)
      · refine r_iconst (pc := 52) (v := (-1)) C dX10_most_52 (by decide) ?_
        exact r_iret (pc := 53) C R0 h dX10_most_53
      · refine r_iload_n (pc := 47) C dX10_most_47 rfl rfl ?_
        refine r_iconst (pc := 48) (v := (-1)) C dX10_most_48 (by decide) ?_
        refine r_icmp_ne (pc := 49) (tgt := 54) C dX10_most_49 (by decide) h (fun _ h => ?_) (fun _ h => ?_)
        · refine r_aload_n (pc := 54) C dX10_most_54 rfl rfl ?_
          refine r_getR (pc := 55) C kX10_54 h0 (by decide) dX10_most_55 ?_
          refine r_aload_n (pc := 58) C dX10_most_58 rfl rfl ?_
          refine r_getR (pc := 59) C kX10_24 h0 (by decide) dX10_most_59 ?_
          refine r_getR (pc := 62) C kX10_122 (xtk h0 (by decide) rfl rfl) (by decide) dX10_most_62 ?_
          refine r_vV1 (pc := 65) C (fun M' e => zX8_copyFrom X.1 (xrf a0 6) (xtk h0 (by decide) rfl rfl) (xrf (xrf a0 2) 1) (xtk (xtk h0 (by decide) rfl rfl) (by decide) rfl rfl) M8 M' e) (xtk h0 (by decide) rfl rfl) (by decide) rfl mX8_copyFrom lX10_287 (by decide) (Nat.le_of_ble_eq_true rfl) dX10_most_65 h (fun M9 h => ?_)
          refine r_aload_n (pc := 68) C dX10_most_68 rfl rfl ?_
          refine r_aload_n (pc := 69) C dX10_most_69 rfl rfl ?_
          refine r_getR (pc := 70) C kX10_54 h0 (by decide) dX10_most_70 ?_
          refine r_iload_n (pc := 73) C dX10_most_73 rfl rfl ?_
          refine r_vV2 (pc := 74) C (fun M' e => zX10_planAllTouched X.1 a0 h0 (xrf a0 6) (xtk h0 (by decide) rfl rfl) r3 M9 M' e) h0 (by decide) rfl mX10_planAllTouched lX10_309 (by decide) (Nat.le_of_ble_eq_true rfl) dX10_most_74 h (fun M10 h => ?_)
          refine r_aload_n (pc := 77) C dX10_most_77 rfl rfl ?_
          refine r_getR (pc := 78) C kX10_54 h0 (by decide) dX10_most_78 ?_
          refine r_aload_n (pc := 81) C dX10_most_81 rfl rfl ?_
          refine r_getR (pc := 82) C kX10_61 h0 (by decide) dX10_most_82 ?_
          refine r_vV1 (pc := 85) C (fun M' e => zX8_play X.1 (xrf a0 6) (xtk h0 (by decide) rfl rfl) (xrf a0 7) (xtk h0 (by decide) rfl rfl) M10 M' e) (xtk h0 (by decide) rfl rfl) (by decide) rfl mX8_play lX10_290 (by decide) (Nat.le_of_ble_eq_true rfl) dX10_most_85 h (fun M11 h => ?_)
          refine r_aload_n (pc := 88) C dX10_most_88 rfl rfl ?_
          refine r_getR (pc := 89) C kX10_54 h0 (by decide) dX10_most_89 ?_
          refine r_getI (pc := 92) C kX10_294 (xtk h0 (by decide) rfl rfl) dX10_most_92 ?_
          exact r_iret (pc := 95) C R0 h dX10_most_95
        · refine r_iconst (pc := 52) (v := (-1)) C dX10_most_52 (by decide) ?_
          exact r_iret (pc := 53) C R0 h dX10_most_53
  · refine r_bipush (pc := 10) (v := (-2)) C dX10_most_10 (by decide) ?_
    exact r_iret (pc := 12) C R0 h dX10_most_12
theorem dX10_needs_0 : decode cX10_needs 0 = .ok (.aload_n 0, 1) := by decide +kernel
theorem dX10_needs_1 : decode cX10_needs 1 = .ok (.iload_n 1, 1) := by decide +kernel
theorem dX10_needs_2 : decode cX10_needs 2 = .ok (.invokevirtual 148, 3) := by decide +kernel
theorem dX10_needs_5 : decode cX10_needs 5 = .ok (.ifCond .ne 6, 3) := by decide +kernel
theorem dX10_needs_8 : decode cX10_needs 8 = .ok (.bipush (-2), 2) := by decide +kernel
theorem dX10_needs_10 : decode cX10_needs 10 = .ok (.ireturn, 1) := by decide +kernel
theorem dX10_needs_11 : decode cX10_needs 11 = .ok (.aload_n 0, 1) := by decide +kernel
theorem dX10_needs_12 : decode cX10_needs 12 = .ok (.getfield 54, 3) := by decide +kernel
theorem dX10_needs_15 : decode cX10_needs 15 = .ok (.aload_n 0, 1) := by decide +kernel
theorem dX10_needs_16 : decode cX10_needs 16 = .ok (.getfield 24, 3) := by decide +kernel
theorem dX10_needs_19 : decode cX10_needs 19 = .ok (.getfield 122, 3) := by decide +kernel
theorem dX10_needs_22 : decode cX10_needs 22 = .ok (.invokevirtual 287, 3) := by decide +kernel
theorem dX10_needs_25 : decode cX10_needs 25 = .ok (.iconst 0, 1) := by decide +kernel
theorem dX10_needs_26 : decode cX10_needs 26 = .ok (.istore_n 2, 1) := by decide +kernel
theorem dX10_needs_27 : decode cX10_needs 27 = .ok (.iconst 0, 1) := by decide +kernel
theorem dX10_needs_28 : decode cX10_needs 28 = .ok (.istore_n 3, 1) := by decide +kernel
theorem dX10_needs_29 : decode cX10_needs 29 = .ok (.iload_n 3, 1) := by decide +kernel
theorem dX10_needs_30 : decode cX10_needs 30 = .ok (.bipush 102, 2) := by decide +kernel
theorem dX10_needs_32 : decode cX10_needs 32 = .ok (.if_icmp .gt 105, 3) := by decide +kernel
theorem dX10_needs_35 : decode cX10_needs 35 = .ok (.aload_n 0, 1) := by decide +kernel
theorem dX10_needs_36 : decode cX10_needs 36 = .ok (.getfield 54, 3) := by decide +kernel
theorem dX10_needs_39 : decode cX10_needs 39 = .ok (.iload_n 1, 1) := by decide +kernel
theorem dX10_needs_40 : decode cX10_needs 40 = .ok (.invokevirtual 313, 3) := by decide +kernel
theorem dX10_needs_43 : decode cX10_needs 43 = .ok (.ifCond .le 5, 3) := by decide +kernel
theorem dX10_needs_46 : decode cX10_needs 46 = .ok (.iload_n 2, 1) := by decide +kernel
theorem dX10_needs_47 : decode cX10_needs 47 = .ok (.ireturn, 1) := by decide +kernel
theorem dX10_needs_48 : decode cX10_needs 48 = .ok (.aload_n 0, 1) := by decide +kernel
theorem dX10_needs_49 : decode cX10_needs 49 = .ok (.getfield 54, 3) := by decide +kernel
theorem dX10_needs_52 : decode cX10_needs 52 = .ok (.invokevirtual 303, 3) := by decide +kernel
theorem dX10_needs_55 : decode cX10_needs 55 = .ok (.istore 4, 2) := by decide +kernel
theorem dX10_needs_57 : decode cX10_needs 57 = .ok (.aload_n 0, 1) := by decide +kernel
theorem dX10_needs_58 : decode cX10_needs 58 = .ok (.getfield 54, 3) := by decide +kernel
theorem dX10_needs_61 : decode cX10_needs 61 = .ok (.invokevirtual 195, 3) := by decide +kernel
theorem dX10_needs_64 : decode cX10_needs 64 = .ok (.ifCond .ne 9, 3) := by decide +kernel
theorem dX10_needs_67 : decode cX10_needs 67 = .ok (.iload 4, 2) := by decide +kernel
theorem dX10_needs_69 : decode cX10_needs 69 = .ok (.iconst (-1), 1) := by decide +kernel
theorem dX10_needs_70 : decode cX10_needs 70 = .ok (.if_icmp .ne 5, 3) := by decide +kernel
theorem dX10_needs_73 : decode cX10_needs 73 = .ok (.iconst (-1), 1) := by decide +kernel
theorem dX10_needs_74 : decode cX10_needs 74 = .ok (.ireturn, 1) := by decide +kernel
theorem dX10_needs_75 : decode cX10_needs 75 = .ok (.aload_n 0, 1) := by decide +kernel
theorem dX10_needs_76 : decode cX10_needs 76 = .ok (.getfield 54, 3) := by decide +kernel
theorem dX10_needs_79 : decode cX10_needs 79 = .ok (.getfield 198, 3) := by decide +kernel
theorem dX10_needs_82 : decode cX10_needs 82 = .ok (.iload_n 1, 1) := by decide +kernel
theorem dX10_needs_83 : decode cX10_needs 83 = .ok (.if_icmp .eq 16, 3) := by decide +kernel
theorem dX10_needs_86 : decode cX10_needs 86 = .ok (.aload_n 0, 1) := by decide +kernel
theorem dX10_needs_87 : decode cX10_needs 87 = .ok (.getfield 61, 3) := by decide +kernel
theorem dX10_needs_90 : decode cX10_needs 90 = .ok (.iload 4, 2) := by decide +kernel
theorem dX10_needs_92 : decode cX10_needs 92 = .ok (.iconst 0, 1) := by decide +kernel
theorem dX10_needs_93 : decode cX10_needs 93 = .ok (.invokevirtual 316, 3) := by decide +kernel
theorem dX10_needs_96 : decode cX10_needs 96 = .ok (.goto 24, 3) := by decide +kernel
theorem dX10_needs_99 : decode cX10_needs 99 = .ok (.iload_n 2, 1) := by decide +kernel
theorem dX10_needs_100 : decode cX10_needs 100 = .ok (.bipush 50, 2) := by decide +kernel
theorem dX10_needs_102 : decode cX10_needs 102 = .ok (.if_icmp .ne 5, 3) := by decide +kernel
theorem dX10_needs_105 : decode cX10_needs 105 = .ok (.iconst (-1), 1) := by decide +kernel
theorem dX10_needs_106 : decode cX10_needs 106 = .ok (.ireturn, 1) := by decide +kernel
theorem dX10_needs_107 : decode cX10_needs 107 = .ok (.iinc 2 1, 3) := by decide +kernel
theorem dX10_needs_110 : decode cX10_needs 110 = .ok (.aload_n 0, 1) := by decide +kernel
theorem dX10_needs_111 : decode cX10_needs 111 = .ok (.aload_n 0, 1) := by decide +kernel
theorem dX10_needs_112 : decode cX10_needs 112 = .ok (.getfield 54, 3) := by decide +kernel
theorem dX10_needs_115 : decode cX10_needs 115 = .ok (.iload 4, 2) := by decide +kernel
theorem dX10_needs_117 : decode cX10_needs 117 = .ok (.invokevirtual 309, 3) := by decide +kernel
theorem dX10_needs_120 : decode cX10_needs 120 = .ok (.aload_n 0, 1) := by decide +kernel
theorem dX10_needs_121 : decode cX10_needs 121 = .ok (.getfield 54, 3) := by decide +kernel
theorem dX10_needs_124 : decode cX10_needs 124 = .ok (.aload_n 0, 1) := by decide +kernel
theorem dX10_needs_125 : decode cX10_needs 125 = .ok (.getfield 61, 3) := by decide +kernel
theorem dX10_needs_128 : decode cX10_needs 128 = .ok (.invokevirtual 290, 3) := by decide +kernel
theorem dX10_needs_131 : decode cX10_needs 131 = .ok (.iinc 3 1, 3) := by decide +kernel
theorem dX10_needs_134 : decode cX10_needs 134 = .ok (.goto (-105), 3) := by decide +kernel
theorem dX10_needs_137 : decode cX10_needs 137 = .ok (.iconst (-1), 1) := by decide +kernel
theorem dX10_needs_138 : decode cX10_needs 138 = .ok (.ireturn, 1) := by decide +kernel
def fX10_needs_l29 (p0 : Nat) (p1 : Int32) (K : Int32 → Int32 → xMem → Option (Int32 × xMem)) : Nat → Int32 → Int32 → xMem → Option (Int32 × xMem)
  | 0, _, _, _ => none
  | n + 1, v2, v3, M => if (nI 102) < v3 then (K v2 v3 M) else (xBn (fX8_leadOf (xrf p0 6) p1 M) fun r4 M5 => if r4 ≤ 0 then (xBn (fX8_leastOn (xrf p0 6) M5) fun r6 M7 => xBn (fX8_isOver (xrf p0 6) M7) fun r8 M9 => if r8 = 0 then (if r6 = (-1) then (some ((-1), M9)) else (xLt (fun (v10 : Int32) (M11 : xMem) => (xBv (fX8_play (xrf p0 6) (xrf p0 7) M11) fun M12 => xLt (v3 + nI 1) fun x13 => fX10_needs_l29 p0 p1 K n v10 x13 M12 : Option (Int32 × xMem))) fun J120 => if (M9.1 (xrf p0 6) 1) = p1 then (if v2 = (nI 50) then (some ((-1), M9)) else (xLt (v2 + nI 1) fun x14 => xBv (fX10_planAllTouched p0 (xrf p0 6) r6 M9) fun M15 => J120 x14 M15)) else (xBv (fX4_begin (xrf p0 7) r6 (nI 0) M9) fun M16 => J120 v2 M16))) else (some ((-1), M9))) else (some (v2, M5)))
def fX10_needs (a0 : Nat) (a1 : Int32) (M : xMem) : Option (Int32 × xMem) :=
  xBn (fX10_hasTeam a0 a1 M) fun r1 M2 => if r1 = 0 then (some ((-2), M2)) else (xBv (fX8_copyFrom (xrf a0 6) (xrf (xrf a0 2) 1) M2) fun M3 => fX10_needs_l29 a0 a1 (fun (v17 : Int32) (v18 : Int32) (M19 : xMem) => some ((-1), M19)) xFU (nI 0) (nI 0) M3)
set_option maxRecDepth 100000 in
set_option maxHeartbeats 4000000 in
theorem lX10_needs_29 {X : xCX} {r : Int32} {M' : xMem} (C : xCk X cX10_needs RX10 5) (R0 : xRk X (some .int) (some (.int r), M')) (hnL : X.2.2.2.2.2.2.2.2.2.2.2.2.2 = 5) (p0 : Nat) (hp0 : xkd p0 = 10) (p1 : Int32) (K : Int32 → Int32 → xMem → Option (Int32 × xMem)) (hK : ∀ (v2 : Int32) (v3 : Int32) (M : xMem), K v2 v3 M = some (r, M') → WW X 137 [some (vr X.1 p0), some (.int p1), some (.int v2), some (.int v3), none] [] M) : ∀ (n : Nat) (v2 : Int32) (v3 : Int32) (M : xMem), fX10_needs_l29 p0 p1 K n v2 v3 M = some (r, M') → WW X 29 [some (vr X.1 p0), some (.int p1), some (.int v2), some (.int v3), none] [] M := by
  have hn2 : 2 < X.2.2.2.2.2.2.2.2.2.2.2.2.2 := by rw [hnL]; decide
  have hn3 : 3 < X.2.2.2.2.2.2.2.2.2.2.2.2.2 := by rw [hnL]; decide
  have hn4 : 4 < X.2.2.2.2.2.2.2.2.2.2.2.2.2 := by rw [hnL]; decide
  intro n
  induction n with
  | zero =>
    intro v2 v3 M h
    cases (show (none : Option (Int32 × xMem)) = some (r, M') from h)
  | succ n ih =>
    intro v2 v3 M h
    rw [fX10_needs_l29.eq_2] at h
    refine r_iload_n (pc := 29) C dX10_needs_29 rfl rfl ?_
    refine r_bipush (pc := 30) (v := (nI 102)) C dX10_needs_30 (by decide) ?_
    refine r_icmp_gt (pc := 32) (tgt := 137) C dX10_needs_32 (by decide) h (fun _ h => ?_) (fun _ h => ?_)
    · exact hK v2 v3 M h
    · refine r_aload_n (pc := 35) C dX10_needs_35 rfl rfl ?_
      refine r_getR (pc := 36) C kX10_54 hp0 (by decide) dX10_needs_36 ?_
      refine r_iload_n (pc := 39) C dX10_needs_39 rfl rfl ?_
      refine r_vI1 (pc := 40) C (fun r M' e => zX8_leadOf X.1 (xrf p0 6) (xtk hp0 (by decide) rfl rfl) p1 M r M' e) (xtk hp0 (by decide) rfl rfl) (by decide) rfl mX8_leadOf lX10_313 (by decide) (Nat.le_of_ble_eq_true rfl) dX10_needs_40 h (fun r4 M5 h => ?_)
      refine r_if_le (pc := 43) (tgt := 48) C dX10_needs_43 (by decide) h (fun _ h => ?_) (fun _ h => ?_)
      · refine r_aload_n (pc := 48) C dX10_needs_48 rfl rfl ?_
        refine r_getR (pc := 49) C kX10_54 hp0 (by decide) dX10_needs_49 ?_
        refine r_vI0 (pc := 52) C (fun r M' e => zX8_leastOn X.1 (xrf p0 6) (xtk hp0 (by decide) rfl rfl) M5 r M' e) (xtk hp0 (by decide) rfl rfl) (by decide) rfl mX8_leastOn lX10_303 (by decide) (Nat.le_of_ble_eq_true rfl) dX10_needs_52 h (fun r6 M7 h => ?_)
        refine r_istore (pc := 55) (lv' := [_, _, _, _, _]) C dX10_needs_55 hn4 rfl ?_
        refine r_aload_n (pc := 57) C dX10_needs_57 rfl rfl ?_
        refine r_getR (pc := 58) C kX10_54 hp0 (by decide) dX10_needs_58 ?_
        refine r_vI0 (pc := 61) C (fun r M' e => zX8_isOver X.1 (xrf p0 6) (xtk hp0 (by decide) rfl rfl) M7 r M' e) (xtk hp0 (by decide) rfl rfl) (by decide) rfl mX8_isOver lX10_195 (by decide) (Nat.le_of_ble_eq_true rfl) dX10_needs_61 h (fun r8 M9 h => ?_)
        refine r_if_ne (pc := 64) (tgt := 73) C dX10_needs_64 (by decide) h (fun _ h => ?_) (fun _ h => ?_)
        · refine r_iconst (pc := 73) (v := (-1)) C dX10_needs_73 (by decide) ?_
          exact r_iret (pc := 74) C R0 h dX10_needs_74
        · refine r_iload (pc := 67) C dX10_needs_67 rfl ?_
          refine r_iconst (pc := 69) (v := (-1)) C dX10_needs_69 (by decide) ?_
          refine r_icmp_ne (pc := 70) (tgt := 75) C dX10_needs_70 (by decide) h (fun _ h => ?_) (fun _ h => ?_)
          · refine r_aload_n (pc := 75) C dX10_needs_75 rfl rfl ?_
            refine r_getR (pc := 76) C kX10_54 hp0 (by decide) dX10_needs_76 ?_
            refine r_getI (pc := 79) C kX10_198 (xtk hp0 (by decide) rfl rfl) dX10_needs_79 ?_
            refine r_iload_n (pc := 82) C dX10_needs_82 rfl rfl ?_
            refine r_jn (fun J => ∀ (v10 : Int32) (M11 : xMem) , J v10 M11 = some (r, M') → WW X 120 [some (vr X.1 p0), some (.int p1), some (.int v10), some (.int v3), some (.int r6)] [] M11) h (fun v10 M11  h => ?_) (fun J120 hJ120 h => ?_)
            · refine r_aload_n (pc := 120) C dX10_needs_120 rfl rfl ?_
              refine r_getR (pc := 121) C kX10_54 hp0 (by decide) dX10_needs_121 ?_
              refine r_aload_n (pc := 124) C dX10_needs_124 rfl rfl ?_
              refine r_getR (pc := 125) C kX10_61 hp0 (by decide) dX10_needs_125 ?_
              refine r_vV1 (pc := 128) C (fun M' e => zX8_play X.1 (xrf p0 6) (xtk hp0 (by decide) rfl rfl) (xrf p0 7) (xtk hp0 (by decide) rfl rfl) M11 M' e) (xtk hp0 (by decide) rfl rfl) (by decide) rfl mX8_play lX10_290 (by decide) (Nat.le_of_ble_eq_true rfl) dX10_needs_128 h (fun M12 h => ?_)
              refine r_iincL (pc := 131) (c := nI 1) C dX10_needs_131 rfl (by decide) hn3 h (fun x13 h => ?_)
              refine r_lvE (lv' := [_, _, _, _, _]) rfl ?_
              refine r_goto (pc := 134) (tgt := 29) C dX10_needs_134 (by decide) ?_
              exact r_lv (xle_at (xle_some rfl (xle_some rfl (xle_some rfl (xle_some rfl (xle_none xle_nil)))))) (ih v10 x13 M12 h)
            refine r_icmp_eq (pc := 83) (tgt := 99) C dX10_needs_83 (by decide) h (fun _ h => ?_) (fun _ h => ?_)
            · refine r_iload_n (pc := 99) C dX10_needs_99 rfl rfl ?_
              refine r_bipush (pc := 100) (v := (nI 50)) C dX10_needs_100 (by decide) ?_
              refine r_icmp_ne (pc := 102) (tgt := 107) C dX10_needs_102 (by decide) h (fun _ h => ?_) (fun _ h => ?_)
              · refine r_iincL (pc := 107) (c := nI 1) C dX10_needs_107 rfl (by decide) hn2 h (fun x14 h => ?_)
                refine r_lvE (lv' := [_, _, _, _, _]) rfl ?_
                refine r_aload_n (pc := 110) C dX10_needs_110 rfl rfl ?_
                refine r_aload_n (pc := 111) C dX10_needs_111 rfl rfl ?_
                refine r_getR (pc := 112) C kX10_54 hp0 (by decide) dX10_needs_112 ?_
                refine r_iload (pc := 115) C dX10_needs_115 rfl ?_
                refine r_vV2 (pc := 117) C (fun M' e => zX10_planAllTouched X.1 p0 hp0 (xrf p0 6) (xtk hp0 (by decide) rfl rfl) r6 M9 M' e) hp0 (by decide) rfl mX10_planAllTouched lX10_309 (by decide) (Nat.le_of_ble_eq_true rfl) dX10_needs_117 h (fun M15 h => ?_)
                exact hJ120 x14 M15  h
              · refine r_iconst (pc := 105) (v := (-1)) C dX10_needs_105 (by decide) ?_
                exact r_iret (pc := 106) C R0 h dX10_needs_106
            · refine r_aload_n (pc := 86) C dX10_needs_86 rfl rfl ?_
              refine r_getR (pc := 87) C kX10_61 hp0 (by decide) dX10_needs_87 ?_
              refine r_iload (pc := 90) C dX10_needs_90 rfl ?_
              refine r_iconst (pc := 92) (v := (nI 0)) C dX10_needs_92 (by decide) ?_
              refine r_vV2 (pc := 93) C (fun M' e => zX4_begin X.1 (xrf p0 7) (xtk hp0 (by decide) rfl rfl) r6 (nI 0) M9 M' e) (xtk hp0 (by decide) rfl rfl) (by decide) rfl mX4_begin lX10_316 (by decide) (Nat.le_of_ble_eq_true rfl) dX10_needs_93 h (fun M16 h => ?_)
              refine r_goto (pc := 96) (tgt := 120) C dX10_needs_96 (by decide) ?_
              exact hJ120 v2 M16  h
          · refine r_iconst (pc := 73) (v := (-1)) C dX10_needs_73 (by decide) ?_
            exact r_iret (pc := 74) C R0 h dX10_needs_74
      · refine r_iload_n (pc := 46) C dX10_needs_46 rfl rfl ?_
        exact r_iret (pc := 47) C R0 h dX10_needs_47
set_option maxRecDepth 100000 in
set_option maxHeartbeats 4000000 in
theorem zX10_needs (G : xGX) (a0 : Nat) (h0 : xkd a0 = 10) (a1 : Int32) (M : xMem) (r : Int32) (M' : xMem) (h : fX10_needs a0 a1 M = some (r, M')) : xCt G yX10_needs cX10_needs 5 (some .int) 5 [vr G a0, .int a1] M (some (.int r), M') := by
  refine xMet (lv := [some (vr G a0), some (.int a1), none, none, none]) (by decide) (Nat.le_of_ble_eq_true rfl) rfl ?_
  intro X hG hnL C R0
  subst hG
  have C : xCk X cX10_needs RX10 5 := C
  have hn2 : 2 < X.2.2.2.2.2.2.2.2.2.2.2.2.2 := by rw [hnL]; decide
  have hn3 : 3 < X.2.2.2.2.2.2.2.2.2.2.2.2.2 := by rw [hnL]; decide
  have hn4 : 4 < X.2.2.2.2.2.2.2.2.2.2.2.2.2 := by rw [hnL]; decide
  unfold fX10_needs at h
  refine r_aload_n (pc := 0) C dX10_needs_0 rfl rfl ?_
  refine r_iload_n (pc := 1) C dX10_needs_1 rfl rfl ?_
  refine r_vI1 (pc := 2) C (fun r M' e => zX10_hasTeam X.1 a0 h0 a1 M r M' e) h0 (by decide) rfl mX10_hasTeam lX10_148 (by decide) (Nat.le_of_ble_eq_true rfl) dX10_needs_2 h (fun r1 M2 h => ?_)
  refine r_if_ne (pc := 5) (tgt := 11) C dX10_needs_5 (by decide) h (fun _ h => ?_) (fun _ h => ?_)
  · refine r_aload_n (pc := 11) C dX10_needs_11 rfl rfl ?_
    refine r_getR (pc := 12) C kX10_54 h0 (by decide) dX10_needs_12 ?_
    refine r_aload_n (pc := 15) C dX10_needs_15 rfl rfl ?_
    refine r_getR (pc := 16) C kX10_24 h0 (by decide) dX10_needs_16 ?_
    refine r_getR (pc := 19) C kX10_122 (xtk h0 (by decide) rfl rfl) (by decide) dX10_needs_19 ?_
    refine r_vV1 (pc := 22) C (fun M' e => zX8_copyFrom X.1 (xrf a0 6) (xtk h0 (by decide) rfl rfl) (xrf (xrf a0 2) 1) (xtk (xtk h0 (by decide) rfl rfl) (by decide) rfl rfl) M2 M' e) (xtk h0 (by decide) rfl rfl) (by decide) rfl mX8_copyFrom lX10_287 (by decide) (Nat.le_of_ble_eq_true rfl) dX10_needs_22 h (fun M3 h => ?_)
    refine r_iconst (pc := 25) (v := (nI 0)) C dX10_needs_25 (by decide) ?_
    refine r_istore_n (pc := 26) (lv' := [_, _, _, _, _]) C dX10_needs_26 rfl hn2 rfl ?_
    refine r_iconst (pc := 27) (v := (nI 0)) C dX10_needs_27 (by decide) ?_
    refine r_istore_n (pc := 28) (lv' := [_, _, _, _, _]) C dX10_needs_28 rfl hn3 rfl ?_
    refine lX10_needs_29 C R0 hnL a0 h0 a1 _ (fun v17 v18 M19 h => ?_) _ _ _ _ h
    refine r_iconst (pc := 137) (v := (-1)) C dX10_needs_137 (by decide) ?_
    exact r_iret (pc := 138) C R0 h dX10_needs_138
  · refine r_bipush (pc := 8) (v := (-2)) C dX10_needs_8 (by decide) ?_
    exact r_iret (pc := 10) C R0 h dX10_needs_10
theorem dX10_act_0 : decode cX10_act 0 = .ok (.aload_n 0, 1) := by decide +kernel
theorem dX10_act_1 : decode cX10_act 1 = .ok (.getfield 40, 3) := by decide +kernel
theorem dX10_act_4 : decode cX10_act 4 = .ok (.invokevirtual 347, 3) := by decide +kernel
theorem dX10_act_7 : decode cX10_act 7 = .ok (.aload_n 0, 1) := by decide +kernel
theorem dX10_act_8 : decode cX10_act 8 = .ok (.getfield 24, 3) := by decide +kernel
theorem dX10_act_11 : decode cX10_act 11 = .ok (.getfield 82, 3) := by decide +kernel
theorem dX10_act_14 : decode cX10_act 14 = .ok (.lload_n 1, 1) := by decide +kernel
theorem dX10_act_15 : decode cX10_act 15 = .ok (.invokevirtual 350, 3) := by decide +kernel
theorem dX10_act_18 : decode cX10_act 18 = .ok (.aload_n 0, 1) := by decide +kernel
theorem dX10_act_19 : decode cX10_act 19 = .ok (.getfield 24, 3) := by decide +kernel
theorem dX10_act_22 : decode cX10_act 22 = .ok (.lload_n 1, 1) := by decide +kernel
theorem dX10_act_23 : decode cX10_act 23 = .ok (.invokevirtual 353, 3) := by decide +kernel
theorem dX10_act_26 : decode cX10_act 26 = .ok (.return_, 1) := by decide +kernel
def fX10_act (a0 : Nat) (a1 : Int64) (M : xMem) : Option (xMem) :=
  xBv (fX0_noteLine (xrf a0 4) M) fun M1 => xBv (fX9_addLine (xrf (xrf a0 2) 0) a1 M1) fun M2 => xBv (fX2_apply (xrf a0 2) a1 M2) fun M3 => some M3
set_option maxRecDepth 100000 in
set_option maxHeartbeats 4000000 in
theorem zX10_act (G : xGX) (a0 : Nat) (h0 : xkd a0 = 10) (a1 : Int64) (M : xMem) (M' : xMem) (h : fX10_act a0 a1 M = some M') : xCt G yX10_act cX10_act 3 none 7 [vr G a0, .long a1] M (none, M') := by
  refine xMet (lv := [some (vr G a0), some (.long a1), none]) (by decide) (Nat.le_of_ble_eq_true rfl) rfl ?_
  intro X hG hnL C R0
  subst hG
  have C : xCk X cX10_act RX10 7 := C
  unfold fX10_act at h
  refine r_aload_n (pc := 0) C dX10_act_0 rfl rfl ?_
  refine r_getR (pc := 1) C kX10_40 h0 (by decide) dX10_act_1 ?_
  refine r_vV0 (pc := 4) C (fun M' e => zX0_noteLine X.1 (xrf a0 4) (xtk h0 (by decide) rfl rfl) M M' e) (xtk h0 (by decide) rfl rfl) (by decide) rfl mX0_noteLine lX10_347 (by decide) (Nat.le_of_ble_eq_true rfl) dX10_act_4 h (fun M1 h => ?_)
  refine r_aload_n (pc := 7) C dX10_act_7 rfl rfl ?_
  refine r_getR (pc := 8) C kX10_24 h0 (by decide) dX10_act_8 ?_
  refine r_getR (pc := 11) C kX10_82 (xtk h0 (by decide) rfl rfl) (by decide) dX10_act_11 ?_
  refine r_lload_n (pc := 14) C dX10_act_14 rfl rfl ?_
  refine r_vV1 (pc := 15) C (fun M' e => zX9_addLine X.1 (xrf (xrf a0 2) 0) (xtk (xtk h0 (by decide) rfl rfl) (by decide) rfl rfl) a1 M1 M' e) (xtk (xtk h0 (by decide) rfl rfl) (by decide) rfl rfl) (by decide) rfl mX9_addLine lX10_350 (by decide) (Nat.le_of_ble_eq_true rfl) dX10_act_15 h (fun M2 h => ?_)
  refine r_aload_n (pc := 18) C dX10_act_18 rfl rfl ?_
  refine r_getR (pc := 19) C kX10_24 h0 (by decide) dX10_act_19 ?_
  refine r_lload_n (pc := 22) C dX10_act_22 rfl rfl ?_
  refine r_vV1 (pc := 23) C (fun M' e => zX2_apply X.1 (xrf a0 2) (xtk h0 (by decide) rfl rfl) a1 M2 M' e) (xtk h0 (by decide) rfl rfl) (by decide) rfl mX2_apply lX10_353 (by decide) (Nat.le_of_ble_eq_true rfl) dX10_act_23 h (fun M3 h => ?_)
  exact r_vret (pc := 26) C R0 h dX10_act_26
theorem dX10_raid_0 : decode cX10_raid 0 = .ok (.aload_n 0, 1) := by decide +kernel
theorem dX10_raid_1 : decode cX10_raid 1 = .ok (.iload_n 1, 1) := by decide +kernel
theorem dX10_raid_2 : decode cX10_raid 2 = .ok (.iload_n 2, 1) := by decide +kernel
theorem dX10_raid_3 : decode cX10_raid 3 = .ok (.iload_n 3, 1) := by decide +kernel
theorem dX10_raid_4 : decode cX10_raid 4 = .ok (.iload 4, 2) := by decide +kernel
theorem dX10_raid_6 : decode cX10_raid 6 = .ok (.invokevirtual 284, 3) := by decide +kernel
theorem dX10_raid_9 : decode cX10_raid 9 = .ok (.istore 5, 2) := by decide +kernel
theorem dX10_raid_11 : decode cX10_raid 11 = .ok (.iload 5, 2) := by decide +kernel
theorem dX10_raid_13 : decode cX10_raid 13 = .ok (.ifCond .eq 6, 3) := by decide +kernel
theorem dX10_raid_16 : decode cX10_raid 16 = .ok (.iload 5, 2) := by decide +kernel
theorem dX10_raid_18 : decode cX10_raid 18 = .ok (.ireturn, 1) := by decide +kernel
theorem dX10_raid_19 : decode cX10_raid 19 = .ok (.aload_n 0, 1) := by decide +kernel
theorem dX10_raid_20 : decode cX10_raid 20 = .ok (.aload_n 0, 1) := by decide +kernel
theorem dX10_raid_21 : decode cX10_raid 21 = .ok (.getfield 61, 3) := by decide +kernel
theorem dX10_raid_24 : decode cX10_raid 24 = .ok (.invokevirtual 330, 3) := by decide +kernel
theorem dX10_raid_27 : decode cX10_raid 27 = .ok (.invokevirtual 334, 3) := by decide +kernel
theorem dX10_raid_30 : decode cX10_raid 30 = .ok (.aload_n 0, 1) := by decide +kernel
theorem dX10_raid_31 : decode cX10_raid 31 = .ok (.getfield 24, 3) := by decide +kernel
theorem dX10_raid_34 : decode cX10_raid 34 = .ok (.getfield 122, 3) := by decide +kernel
theorem dX10_raid_37 : decode cX10_raid 37 = .ok (.getfield 294, 3) := by decide +kernel
theorem dX10_raid_40 : decode cX10_raid 40 = .ok (.ireturn, 1) := by decide +kernel
def fX10_raid (a0 : Nat) (a1 : Int32) (a2 : Int32) (a3 : Int32) (a4 : Int32) (M : xMem) : Option (Int32 × xMem) :=
  xBn (fX10_planRaid a0 a1 a2 a3 a4 M) fun r1 M2 => if r1 = 0 then (xBn (fX4_pack (xrf a0 7) M2) fun r3 M4 => xBv (fX10_act a0 r3 M4) fun M5 => some ((M5.1 (xrf (xrf a0 2) 1) 5), M5)) else (some (r1, M2))
set_option maxRecDepth 100000 in
set_option maxHeartbeats 4000000 in
theorem zX10_raid (G : xGX) (a0 : Nat) (h0 : xkd a0 = 10) (a1 : Int32) (a2 : Int32) (a3 : Int32) (a4 : Int32) (M : xMem) (r : Int32) (M' : xMem) (h : fX10_raid a0 a1 a2 a3 a4 M = some (r, M')) : xCt G yX10_raid cX10_raid 6 (some .int) 8 [vr G a0, .int a1, .int a2, .int a3, .int a4] M (some (.int r), M') := by
  refine xMet (lv := [some (vr G a0), some (.int a1), some (.int a2), some (.int a3), some (.int a4), none]) (by decide) (Nat.le_of_ble_eq_true rfl) rfl ?_
  intro X hG hnL C R0
  subst hG
  have C : xCk X cX10_raid RX10 8 := C
  have hn5 : 5 < X.2.2.2.2.2.2.2.2.2.2.2.2.2 := by rw [hnL]; decide
  unfold fX10_raid at h
  refine r_aload_n (pc := 0) C dX10_raid_0 rfl rfl ?_
  refine r_iload_n (pc := 1) C dX10_raid_1 rfl rfl ?_
  refine r_iload_n (pc := 2) C dX10_raid_2 rfl rfl ?_
  refine r_iload_n (pc := 3) C dX10_raid_3 rfl rfl ?_
  refine r_iload (pc := 4) C dX10_raid_4 rfl ?_
  refine r_vI4 (pc := 6) C (fun r M' e => zX10_planRaid X.1 a0 h0 a1 a2 a3 a4 M r M' e) h0 (by decide) rfl mX10_planRaid lX10_284 (by decide) (Nat.le_of_ble_eq_true rfl) dX10_raid_6 h (fun r1 M2 h => ?_)
  refine r_istore (pc := 9) (lv' := [_, _, _, _, _, _]) C dX10_raid_9 hn5 rfl ?_
  refine r_iload (pc := 11) C dX10_raid_11 rfl ?_
  refine r_if_eq (pc := 13) (tgt := 19) C dX10_raid_13 (by decide) h (fun _ h => ?_) (fun _ h => ?_)
  · refine r_aload_n (pc := 19) C dX10_raid_19 rfl rfl ?_
    refine r_aload_n (pc := 20) C dX10_raid_20 rfl rfl ?_
    refine r_getR (pc := 21) C kX10_61 h0 (by decide) dX10_raid_21 ?_
    refine r_vL0 (pc := 24) C (fun r M' e => zX4_pack X.1 (xrf a0 7) (xtk h0 (by decide) rfl rfl) M2 r M' e) (xtk h0 (by decide) rfl rfl) (by decide) rfl mX4_pack lX10_330 (by decide) (Nat.le_of_ble_eq_true rfl) dX10_raid_24 h (fun r3 M4 h => ?_)
    refine r_vV1 (pc := 27) C (fun M' e => zX10_act X.1 a0 h0 r3 M4 M' e) h0 (by decide) rfl mX10_act lX10_334 (by decide) (Nat.le_of_ble_eq_true rfl) dX10_raid_27 h (fun M5 h => ?_)
    refine r_aload_n (pc := 30) C dX10_raid_30 rfl rfl ?_
    refine r_getR (pc := 31) C kX10_24 h0 (by decide) dX10_raid_31 ?_
    refine r_getR (pc := 34) C kX10_122 (xtk h0 (by decide) rfl rfl) (by decide) dX10_raid_34 ?_
    refine r_getI (pc := 37) C kX10_294 (xtk (xtk h0 (by decide) rfl rfl) (by decide) rfl rfl) dX10_raid_37 ?_
    exact r_iret (pc := 40) C R0 h dX10_raid_40
  · refine r_iload (pc := 16) C dX10_raid_16 rfl ?_
    exact r_iret (pc := 18) C R0 h dX10_raid_18
theorem dX10_card_0 : decode cX10_card 0 = .ok (.aload_n 0, 1) := by decide +kernel
theorem dX10_card_1 : decode cX10_card 1 = .ok (.iload_n 1, 1) := by decide +kernel
theorem dX10_card_2 : decode cX10_card 2 = .ok (.iload_n 2, 1) := by decide +kernel
theorem dX10_card_3 : decode cX10_card 3 = .ok (.invokevirtual 160, 3) := by decide +kernel
theorem dX10_card_6 : decode cX10_card 6 = .ok (.ifCond .eq 12, 3) := by decide +kernel
theorem dX10_card_9 : decode cX10_card 9 = .ok (.iload_n 3, 1) := by decide +kernel
theorem dX10_card_10 : decode cX10_card 10 = .ok (.iconst 0, 1) := by decide +kernel
theorem dX10_card_11 : decode cX10_card 11 = .ok (.iconst 2, 1) := by decide +kernel
theorem dX10_card_12 : decode cX10_card 12 = .ok (.invokestatic 152, 3) := by decide +kernel
theorem dX10_card_15 : decode cX10_card 15 = .ok (.ifCond .ne 6, 3) := by decide +kernel
theorem dX10_card_18 : decode cX10_card 18 = .ok (.bipush (-2), 2) := by decide +kernel
theorem dX10_card_20 : decode cX10_card 20 = .ok (.ireturn, 1) := by decide +kernel
theorem dX10_card_21 : decode cX10_card 21 = .ok (.aload_n 0, 1) := by decide +kernel
theorem dX10_card_22 : decode cX10_card 22 = .ok (.getfield 24, 3) := by decide +kernel
theorem dX10_card_25 : decode cX10_card 25 = .ok (.invokevirtual 356, 3) := by decide +kernel
theorem dX10_card_28 : decode cX10_card 28 = .ok (.ifCond .eq 19, 3) := by decide +kernel
theorem dX10_card_31 : decode cX10_card 31 = .ok (.aload_n 0, 1) := by decide +kernel
theorem dX10_card_32 : decode cX10_card 32 = .ok (.getfield 24, 3) := by decide +kernel
theorem dX10_card_35 : decode cX10_card 35 = .ok (.getfield 122, 3) := by decide +kernel
theorem dX10_card_38 : decode cX10_card 38 = .ok (.iload_n 1, 1) := by decide +kernel
theorem dX10_card_39 : decode cX10_card 39 = .ok (.iload_n 2, 1) := by decide +kernel
theorem dX10_card_40 : decode cX10_card 40 = .ok (.iload_n 3, 1) := by decide +kernel
theorem dX10_card_41 : decode cX10_card 41 = .ok (.invokevirtual 359, 3) := by decide +kernel
theorem dX10_card_44 : decode cX10_card 44 = .ok (.ifCond .ne 6, 3) := by decide +kernel
theorem dX10_card_47 : decode cX10_card 47 = .ok (.bipush (-6), 2) := by decide +kernel
theorem dX10_card_49 : decode cX10_card 49 = .ok (.ireturn, 1) := by decide +kernel
theorem dX10_card_50 : decode cX10_card 50 = .ok (.aload_n 0, 1) := by decide +kernel
theorem dX10_card_51 : decode cX10_card 51 = .ok (.iconst 1, 1) := by decide +kernel
theorem dX10_card_52 : decode cX10_card 52 = .ok (.iload_n 1, 1) := by decide +kernel
theorem dX10_card_53 : decode cX10_card 53 = .ok (.iload_n 2, 1) := by decide +kernel
theorem dX10_card_54 : decode cX10_card 54 = .ok (.iload_n 3, 1) := by decide +kernel
theorem dX10_card_55 : decode cX10_card 55 = .ok (.invokestatic 362, 3) := by decide +kernel
theorem dX10_card_58 : decode cX10_card 58 = .ok (.invokevirtual 334, 3) := by decide +kernel
theorem dX10_card_61 : decode cX10_card 61 = .ok (.aload_n 0, 1) := by decide +kernel
theorem dX10_card_62 : decode cX10_card 62 = .ok (.getfield 24, 3) := by decide +kernel
theorem dX10_card_65 : decode cX10_card 65 = .ok (.getfield 122, 3) := by decide +kernel
theorem dX10_card_68 : decode cX10_card 68 = .ok (.getfield 170, 3) := by decide +kernel
theorem dX10_card_71 : decode cX10_card 71 = .ok (.iload_n 1, 1) := by decide +kernel
theorem dX10_card_72 : decode cX10_card 72 = .ok (.aaload, 1) := by decide +kernel
theorem dX10_card_73 : decode cX10_card 73 = .ok (.getfield 174, 3) := by decide +kernel
theorem dX10_card_76 : decode cX10_card 76 = .ok (.iload_n 2, 1) := by decide +kernel
theorem dX10_card_77 : decode cX10_card 77 = .ok (.iaload, 1) := by decide +kernel
theorem dX10_card_78 : decode cX10_card 78 = .ok (.ireturn, 1) := by decide +kernel
def fX10_card (a0 : Nat) (a1 : Int32) (a2 : Int32) (a3 : Int32) (M : xMem) : Option (Int32 × xMem) :=
  xBn (fX10_hasPlayer a0 a1 a2 M) fun r1 M2 => if r1 = 0 then (some ((-2), M2)) else (xBn (fX10_isWithin a3 (nI 0) (nI 2) M2) fun r3 M4 => if r3 = 0 then (some ((-2), M4)) else (xBn (fX2_hasRoomForOther (xrf a0 2) M4) fun r5 M6 => if r5 = 0 then (some ((-6), M6)) else (xBn (fX8_canShow (xrf (xrf a0 2) 1) a1 a2 a3 M6) fun r7 M8 => if r7 = 0 then (some ((-6), M8)) else (xBn (fX4_packOther (nI 1) a1 a2 a3 M8) fun r9 M10 => xBv (fX10_act a0 r9 M10) fun M11 => xGb a1 (xln (xrf (xrf (xrf a0 2) 1) 0)) (xGb a2 (xln (xrf (xrf (xrf (xrf (xrf a0 2) 1) 0) (Int32.toNatClampNeg a1)) 0)) (some ((M11.1 (xrf (xrf (xrf (xrf (xrf a0 2) 1) 0) (Int32.toNatClampNeg a1)) 0) (Int32.toNatClampNeg a2)), M11)))))))
set_option maxRecDepth 100000 in
set_option maxHeartbeats 4000000 in
theorem zX10_card (G : xGX) (a0 : Nat) (h0 : xkd a0 = 10) (a1 : Int32) (a2 : Int32) (a3 : Int32) (M : xMem) (r : Int32) (M' : xMem) (h : fX10_card a0 a1 a2 a3 M = some (r, M')) : xCt G yX10_card cX10_card 4 (some .int) 8 [vr G a0, .int a1, .int a2, .int a3] M (some (.int r), M') := by
  refine xMet (lv := [some (vr G a0), some (.int a1), some (.int a2), some (.int a3)]) (by decide) (Nat.le_of_ble_eq_true rfl) rfl ?_
  intro X hG hnL C R0
  subst hG
  have C : xCk X cX10_card RX10 8 := C
  unfold fX10_card at h
  refine r_aload_n (pc := 0) C dX10_card_0 rfl rfl ?_
  refine r_iload_n (pc := 1) C dX10_card_1 rfl rfl ?_
  refine r_iload_n (pc := 2) C dX10_card_2 rfl rfl ?_
  refine r_vI2 (pc := 3) C (fun r M' e => zX10_hasPlayer X.1 a0 h0 a1 a2 M r M' e) h0 (by decide) rfl mX10_hasPlayer lX10_160 (by decide) (Nat.le_of_ble_eq_true rfl) dX10_card_3 h (fun r1 M2 h => ?_)
  refine r_if_eq (pc := 6) (tgt := 18) C dX10_card_6 (by decide) h (fun _ h => ?_) (fun _ h => ?_)
  · refine r_bipush (pc := 18) (v := (-2)) C dX10_card_18 (by decide) ?_
    exact r_iret (pc := 20) C R0 h dX10_card_20
  · refine r_iload_n (pc := 9) C dX10_card_9 rfl rfl ?_
    refine r_iconst (pc := 10) (v := (nI 0)) C dX10_card_10 (by decide) ?_
    refine r_iconst (pc := 11) (v := (nI 2)) C dX10_card_11 (by decide) ?_
    refine r_sI3 (pc := 12) C (fun r M' e => zX10_isWithin X.1 a3 (nI 0) (nI 2) M2 r M' e) mX10_isWithin lX10_152 (by decide) (Nat.le_of_ble_eq_true rfl) dX10_card_12 h (fun r3 M4 h => ?_)
    refine r_if_ne (pc := 15) (tgt := 21) C dX10_card_15 (by decide) h (fun _ h => ?_) (fun _ h => ?_)
    · refine r_aload_n (pc := 21) C dX10_card_21 rfl rfl ?_
      refine r_getR (pc := 22) C kX10_24 h0 (by decide) dX10_card_22 ?_
      refine r_vI0 (pc := 25) C (fun r M' e => zX2_hasRoomForOther X.1 (xrf a0 2) (xtk h0 (by decide) rfl rfl) M4 r M' e) (xtk h0 (by decide) rfl rfl) (by decide) rfl mX2_hasRoomForOther lX10_356 (by decide) (Nat.le_of_ble_eq_true rfl) dX10_card_25 h (fun r5 M6 h => ?_)
      refine r_if_eq (pc := 28) (tgt := 47) C dX10_card_28 (by decide) h (fun _ h => ?_) (fun _ h => ?_)
      · refine r_bipush (pc := 47) (v := (-6)) C dX10_card_47 (by decide) ?_
        exact r_iret (pc := 49) C R0 h dX10_card_49
      · refine r_aload_n (pc := 31) C dX10_card_31 rfl rfl ?_
        refine r_getR (pc := 32) C kX10_24 h0 (by decide) dX10_card_32 ?_
        refine r_getR (pc := 35) C kX10_122 (xtk h0 (by decide) rfl rfl) (by decide) dX10_card_35 ?_
        refine r_iload_n (pc := 38) C dX10_card_38 rfl rfl ?_
        refine r_iload_n (pc := 39) C dX10_card_39 rfl rfl ?_
        refine r_iload_n (pc := 40) C dX10_card_40 rfl rfl ?_
        refine r_vI3 (pc := 41) C (fun r M' e => zX8_canShow X.1 (xrf (xrf a0 2) 1) (xtk (xtk h0 (by decide) rfl rfl) (by decide) rfl rfl) a1 a2 a3 M6 r M' e) (xtk (xtk h0 (by decide) rfl rfl) (by decide) rfl rfl) (by decide) rfl mX8_canShow lX10_359 (by decide) (Nat.le_of_ble_eq_true rfl) dX10_card_41 h (fun r7 M8 h => ?_)
        refine r_if_ne (pc := 44) (tgt := 50) C dX10_card_44 (by decide) h (fun _ h => ?_) (fun _ h => ?_)
        · refine r_aload_n (pc := 50) C dX10_card_50 rfl rfl ?_
          refine r_iconst (pc := 51) (v := (nI 1)) C dX10_card_51 (by decide) ?_
          refine r_iload_n (pc := 52) C dX10_card_52 rfl rfl ?_
          refine r_iload_n (pc := 53) C dX10_card_53 rfl rfl ?_
          refine r_iload_n (pc := 54) C dX10_card_54 rfl rfl ?_
          refine r_sL4 (pc := 55) C (fun r M' e => zX4_packOther X.1 (nI 1) a1 a2 a3 M8 r M' e) mX4_packOther lX10_362 (by decide) (Nat.le_of_ble_eq_true rfl) dX10_card_55 h (fun r9 M10 h => ?_)
          refine r_vV1 (pc := 58) C (fun M' e => zX10_act X.1 a0 h0 r9 M10 M' e) h0 (by decide) rfl mX10_act lX10_334 (by decide) (Nat.le_of_ble_eq_true rfl) dX10_card_58 h (fun M11 h => ?_)
          refine r_aload_n (pc := 61) C dX10_card_61 rfl rfl ?_
          refine r_getR (pc := 62) C kX10_24 h0 (by decide) dX10_card_62 ?_
          refine r_getR (pc := 65) C kX10_122 (xtk h0 (by decide) rfl rfl) (by decide) dX10_card_65 ?_
          refine r_getR (pc := 68) C kX10_170 (xtk (xtk h0 (by decide) rfl rfl) (by decide) rfl rfl) (by decide) dX10_card_68 ?_
          refine r_iload_n (pc := 71) C dX10_card_71 rfl rfl ?_
          obtain ⟨g12, h⟩ := xGb_of h
          refine r_aaldS (pc := 72) C (xtk (xtk (xtk h0 (by decide) rfl rfl) (by decide) rfl rfl) (by decide) rfl rfl) g12 dX10_card_72 ?_
          refine r_getR (pc := 73) C kX10_174 (xkeS (xtk (xtk (xtk h0 (by decide) rfl rfl) (by decide) rfl rfl) (by decide) rfl rfl) (xin_lt g12)) (by decide) dX10_card_73 ?_
          refine r_iload_n (pc := 76) C dX10_card_76 rfl rfl ?_
          obtain ⟨g13, h⟩ := xGb_of h
          refine r_iald (pc := 77) C (xtk (xkeS (xtk (xtk (xtk h0 (by decide) rfl rfl) (by decide) rfl rfl) (by decide) rfl rfl) (xin_lt g12)) (by decide) rfl rfl) g13 dX10_card_77 ?_
          exact r_iret (pc := 78) C R0 h dX10_card_78
        · refine r_bipush (pc := 47) (v := (-6)) C dX10_card_47 (by decide) ?_
          exact r_iret (pc := 49) C R0 h dX10_card_49
    · refine r_bipush (pc := 18) (v := (-2)) C dX10_card_18 (by decide) ?_
      exact r_iret (pc := 20) C R0 h dX10_card_20
theorem dX10_change_0 : decode cX10_change 0 = .ok (.aload_n 0, 1) := by decide +kernel
theorem dX10_change_1 : decode cX10_change 1 = .ok (.iload_n 1, 1) := by decide +kernel
theorem dX10_change_2 : decode cX10_change 2 = .ok (.iload_n 2, 1) := by decide +kernel
theorem dX10_change_3 : decode cX10_change 3 = .ok (.invokevirtual 160, 3) := by decide +kernel
theorem dX10_change_6 : decode cX10_change 6 = .ok (.ifCond .eq 12, 3) := by decide +kernel
theorem dX10_change_9 : decode cX10_change 9 = .ok (.aload_n 0, 1) := by decide +kernel
theorem dX10_change_10 : decode cX10_change 10 = .ok (.iload_n 1, 1) := by decide +kernel
theorem dX10_change_11 : decode cX10_change 11 = .ok (.iload_n 3, 1) := by decide +kernel
theorem dX10_change_12 : decode cX10_change 12 = .ok (.invokevirtual 160, 3) := by decide +kernel
theorem dX10_change_15 : decode cX10_change 15 = .ok (.ifCond .ne 6, 3) := by decide +kernel
theorem dX10_change_18 : decode cX10_change 18 = .ok (.bipush (-2), 2) := by decide +kernel
theorem dX10_change_20 : decode cX10_change 20 = .ok (.ireturn, 1) := by decide +kernel
theorem dX10_change_21 : decode cX10_change 21 = .ok (.aload_n 0, 1) := by decide +kernel
theorem dX10_change_22 : decode cX10_change 22 = .ok (.getfield 24, 3) := by decide +kernel
theorem dX10_change_25 : decode cX10_change 25 = .ok (.getfield 122, 3) := by decide +kernel
theorem dX10_change_28 : decode cX10_change 28 = .ok (.astore 4, 2) := by decide +kernel
theorem dX10_change_30 : decode cX10_change 30 = .ok (.aload_n 0, 1) := by decide +kernel
theorem dX10_change_31 : decode cX10_change 31 = .ok (.getfield 24, 3) := by decide +kernel
theorem dX10_change_34 : decode cX10_change 34 = .ok (.invokevirtual 356, 3) := by decide +kernel
theorem dX10_change_37 : decode cX10_change 37 = .ok (.ifCond .eq 23, 3) := by decide +kernel
theorem dX10_change_40 : decode cX10_change 40 = .ok (.aload 4, 2) := by decide +kernel
theorem dX10_change_42 : decode cX10_change 42 = .ok (.iload_n 1, 1) := by decide +kernel
theorem dX10_change_43 : decode cX10_change 43 = .ok (.iload_n 2, 1) := by decide +kernel
theorem dX10_change_44 : decode cX10_change 44 = .ok (.invokevirtual 366, 3) := by decide +kernel
theorem dX10_change_47 : decode cX10_change 47 = .ok (.ifCond .eq 13, 3) := by decide +kernel
theorem dX10_change_50 : decode cX10_change 50 = .ok (.aload 4, 2) := by decide +kernel
theorem dX10_change_52 : decode cX10_change 52 = .ok (.iload_n 1, 1) := by decide +kernel
theorem dX10_change_53 : decode cX10_change 53 = .ok (.iload_n 3, 1) := by decide +kernel
theorem dX10_change_54 : decode cX10_change 54 = .ok (.invokevirtual 369, 3) := by decide +kernel
theorem dX10_change_57 : decode cX10_change 57 = .ok (.ifCond .ne 6, 3) := by decide +kernel
theorem dX10_change_60 : decode cX10_change 60 = .ok (.bipush (-6), 2) := by decide +kernel
theorem dX10_change_62 : decode cX10_change 62 = .ok (.ireturn, 1) := by decide +kernel
theorem dX10_change_63 : decode cX10_change 63 = .ok (.aload_n 0, 1) := by decide +kernel
theorem dX10_change_64 : decode cX10_change 64 = .ok (.iconst 2, 1) := by decide +kernel
theorem dX10_change_65 : decode cX10_change 65 = .ok (.iload_n 1, 1) := by decide +kernel
theorem dX10_change_66 : decode cX10_change 66 = .ok (.iload_n 2, 1) := by decide +kernel
theorem dX10_change_67 : decode cX10_change 67 = .ok (.iload_n 3, 1) := by decide +kernel
theorem dX10_change_68 : decode cX10_change 68 = .ok (.invokestatic 362, 3) := by decide +kernel
theorem dX10_change_71 : decode cX10_change 71 = .ok (.invokevirtual 334, 3) := by decide +kernel
theorem dX10_change_74 : decode cX10_change 74 = .ok (.aload_n 0, 1) := by decide +kernel
theorem dX10_change_75 : decode cX10_change 75 = .ok (.getfield 24, 3) := by decide +kernel
theorem dX10_change_78 : decode cX10_change 78 = .ok (.getfield 122, 3) := by decide +kernel
theorem dX10_change_81 : decode cX10_change 81 = .ok (.getfield 170, 3) := by decide +kernel
theorem dX10_change_84 : decode cX10_change 84 = .ok (.iload_n 1, 1) := by decide +kernel
theorem dX10_change_85 : decode cX10_change 85 = .ok (.aaload, 1) := by decide +kernel
theorem dX10_change_86 : decode cX10_change 86 = .ok (.getfield 372, 3) := by decide +kernel
theorem dX10_change_89 : decode cX10_change 89 = .ok (.ireturn, 1) := by decide +kernel
def fX10_change (a0 : Nat) (a1 : Int32) (a2 : Int32) (a3 : Int32) (M : xMem) : Option (Int32 × xMem) :=
  xBn (fX10_hasPlayer a0 a1 a2 M) fun r1 M2 => if r1 = 0 then (some ((-2), M2)) else (xBn (fX10_hasPlayer a0 a1 a3 M2) fun r3 M4 => if r3 = 0 then (some ((-2), M4)) else (xBn (fX2_hasRoomForOther (xrf a0 2) M4) fun r5 M6 => if r5 = 0 then (some ((-6), M6)) else (xBn (fX8_canLeave (xrf (xrf a0 2) 1) a1 a2 M6) fun r7 M8 => if r7 = 0 then (some ((-6), M8)) else (xBn (fX8_canEnter (xrf (xrf a0 2) 1) a1 a3 M8) fun r9 M10 => if r9 = 0 then (some ((-6), M10)) else (xBn (fX4_packOther (nI 2) a1 a2 a3 M10) fun r11 M12 => xBv (fX10_act a0 r11 M12) fun M13 => xGb a1 (xln (xrf (xrf (xrf a0 2) 1) 0)) (some ((M13.1 (xrf (xrf (xrf (xrf a0 2) 1) 0) (Int32.toNatClampNeg a1)) 8), M13)))))))
set_option maxRecDepth 100000 in
set_option maxHeartbeats 4000000 in
theorem zX10_change (G : xGX) (a0 : Nat) (h0 : xkd a0 = 10) (a1 : Int32) (a2 : Int32) (a3 : Int32) (M : xMem) (r : Int32) (M' : xMem) (h : fX10_change a0 a1 a2 a3 M = some (r, M')) : xCt G yX10_change cX10_change 5 (some .int) 8 [vr G a0, .int a1, .int a2, .int a3] M (some (.int r), M') := by
  refine xMet (lv := [some (vr G a0), some (.int a1), some (.int a2), some (.int a3), none]) (by decide) (Nat.le_of_ble_eq_true rfl) rfl ?_
  intro X hG hnL C R0
  subst hG
  have C : xCk X cX10_change RX10 8 := C
  have hn4 : 4 < X.2.2.2.2.2.2.2.2.2.2.2.2.2 := by rw [hnL]; decide
  unfold fX10_change at h
  refine r_aload_n (pc := 0) C dX10_change_0 rfl rfl ?_
  refine r_iload_n (pc := 1) C dX10_change_1 rfl rfl ?_
  refine r_iload_n (pc := 2) C dX10_change_2 rfl rfl ?_
  refine r_vI2 (pc := 3) C (fun r M' e => zX10_hasPlayer X.1 a0 h0 a1 a2 M r M' e) h0 (by decide) rfl mX10_hasPlayer lX10_160 (by decide) (Nat.le_of_ble_eq_true rfl) dX10_change_3 h (fun r1 M2 h => ?_)
  refine r_if_eq (pc := 6) (tgt := 18) C dX10_change_6 (by decide) h (fun _ h => ?_) (fun _ h => ?_)
  · refine r_bipush (pc := 18) (v := (-2)) C dX10_change_18 (by decide) ?_
    exact r_iret (pc := 20) C R0 h dX10_change_20
  · refine r_aload_n (pc := 9) C dX10_change_9 rfl rfl ?_
    refine r_iload_n (pc := 10) C dX10_change_10 rfl rfl ?_
    refine r_iload_n (pc := 11) C dX10_change_11 rfl rfl ?_
    refine r_vI2 (pc := 12) C (fun r M' e => zX10_hasPlayer X.1 a0 h0 a1 a3 M2 r M' e) h0 (by decide) rfl mX10_hasPlayer lX10_160 (by decide) (Nat.le_of_ble_eq_true rfl) dX10_change_12 h (fun r3 M4 h => ?_)
    refine r_if_ne (pc := 15) (tgt := 21) C dX10_change_15 (by decide) h (fun _ h => ?_) (fun _ h => ?_)
    · refine r_aload_n (pc := 21) C dX10_change_21 rfl rfl ?_
      refine r_getR (pc := 22) C kX10_24 h0 (by decide) dX10_change_22 ?_
      refine r_getR (pc := 25) C kX10_122 (xtk h0 (by decide) rfl rfl) (by decide) dX10_change_25 ?_
      refine r_astore (pc := 28) (lv' := [_, _, _, _, _]) C dX10_change_28 hn4 rfl ?_
      refine r_aload_n (pc := 30) C dX10_change_30 rfl rfl ?_
      refine r_getR (pc := 31) C kX10_24 h0 (by decide) dX10_change_31 ?_
      refine r_vI0 (pc := 34) C (fun r M' e => zX2_hasRoomForOther X.1 (xrf a0 2) (xtk h0 (by decide) rfl rfl) M4 r M' e) (xtk h0 (by decide) rfl rfl) (by decide) rfl mX2_hasRoomForOther lX10_356 (by decide) (Nat.le_of_ble_eq_true rfl) dX10_change_34 h (fun r5 M6 h => ?_)
      refine r_if_eq (pc := 37) (tgt := 60) C dX10_change_37 (by decide) h (fun _ h => ?_) (fun _ h => ?_)
      · refine r_bipush (pc := 60) (v := (-6)) C dX10_change_60 (by decide) ?_
        exact r_iret (pc := 62) C R0 h dX10_change_62
      · refine r_aload (pc := 40) C dX10_change_40 rfl ?_
        refine r_iload_n (pc := 42) C dX10_change_42 rfl rfl ?_
        refine r_iload_n (pc := 43) C dX10_change_43 rfl rfl ?_
        refine r_vI2 (pc := 44) C (fun r M' e => zX8_canLeave X.1 (xrf (xrf a0 2) 1) (xtk (xtk h0 (by decide) rfl rfl) (by decide) rfl rfl) a1 a2 M6 r M' e) (xtk (xtk h0 (by decide) rfl rfl) (by decide) rfl rfl) (by decide) rfl mX8_canLeave lX10_366 (by decide) (Nat.le_of_ble_eq_true rfl) dX10_change_44 h (fun r7 M8 h => ?_)
        refine r_if_eq (pc := 47) (tgt := 60) C dX10_change_47 (by decide) h (fun _ h => ?_) (fun _ h => ?_)
        · refine r_bipush (pc := 60) (v := (-6)) C dX10_change_60 (by decide) ?_
          exact r_iret (pc := 62) C R0 h dX10_change_62
        · refine r_aload (pc := 50) C dX10_change_50 rfl ?_
          refine r_iload_n (pc := 52) C dX10_change_52 rfl rfl ?_
          refine r_iload_n (pc := 53) C dX10_change_53 rfl rfl ?_
          refine r_vI2 (pc := 54) C (fun r M' e => zX8_canEnter X.1 (xrf (xrf a0 2) 1) (xtk (xtk h0 (by decide) rfl rfl) (by decide) rfl rfl) a1 a3 M8 r M' e) (xtk (xtk h0 (by decide) rfl rfl) (by decide) rfl rfl) (by decide) rfl mX8_canEnter lX10_369 (by decide) (Nat.le_of_ble_eq_true rfl) dX10_change_54 h (fun r9 M10 h => ?_)
          refine r_if_ne (pc := 57) (tgt := 63) C dX10_change_57 (by decide) h (fun _ h => ?_) (fun _ h => ?_)
          · refine r_aload_n (pc := 63) C dX10_change_63 rfl rfl ?_
            refine r_iconst (pc := 64) (v := (nI 2)) C dX10_change_64 (by decide) ?_
            refine r_iload_n (pc := 65) C dX10_change_65 rfl rfl ?_
            refine r_iload_n (pc := 66) C dX10_change_66 rfl rfl ?_
            refine r_iload_n (pc := 67) C dX10_change_67 rfl rfl ?_
            refine r_sL4 (pc := 68) C (fun r M' e => zX4_packOther X.1 (nI 2) a1 a2 a3 M10 r M' e) mX4_packOther lX10_362 (by decide) (Nat.le_of_ble_eq_true rfl) dX10_change_68 h (fun r11 M12 h => ?_)
            refine r_vV1 (pc := 71) C (fun M' e => zX10_act X.1 a0 h0 r11 M12 M' e) h0 (by decide) rfl mX10_act lX10_334 (by decide) (Nat.le_of_ble_eq_true rfl) dX10_change_71 h (fun M13 h => ?_)
            refine r_aload_n (pc := 74) C dX10_change_74 rfl rfl ?_
            refine r_getR (pc := 75) C kX10_24 h0 (by decide) dX10_change_75 ?_
            refine r_getR (pc := 78) C kX10_122 (xtk h0 (by decide) rfl rfl) (by decide) dX10_change_78 ?_
            refine r_getR (pc := 81) C kX10_170 (xtk (xtk h0 (by decide) rfl rfl) (by decide) rfl rfl) (by decide) dX10_change_81 ?_
            refine r_iload_n (pc := 84) C dX10_change_84 rfl rfl ?_
            obtain ⟨g14, h⟩ := xGb_of h
            refine r_aaldS (pc := 85) C (xtk (xtk (xtk h0 (by decide) rfl rfl) (by decide) rfl rfl) (by decide) rfl rfl) g14 dX10_change_85 ?_
            refine r_getI (pc := 86) C kX10_372 (xkeS (xtk (xtk (xtk h0 (by decide) rfl rfl) (by decide) rfl rfl) (by decide) rfl rfl) (xin_lt g14)) dX10_change_86 ?_
            exact r_iret (pc := 89) C R0 h dX10_change_89
          · refine r_bipush (pc := 60) (v := (-6)) C dX10_change_60 (by decide) ?_
            exact r_iret (pc := 62) C R0 h dX10_change_62
    · refine r_bipush (pc := 18) (v := (-2)) C dX10_change_18 (by decide) ?_
      exact r_iret (pc := 20) C R0 h dX10_change_20
theorem dX10_half_0 : decode cX10_half 0 = .ok (.aload_n 0, 1) := by decide +kernel
theorem dX10_half_1 : decode cX10_half 1 = .ok (.getfield 24, 3) := by decide +kernel
theorem dX10_half_4 : decode cX10_half 4 = .ok (.invokevirtual 135, 3) := by decide +kernel
theorem dX10_half_7 : decode cX10_half 7 = .ok (.ifCond .ne 6, 3) := by decide +kernel
theorem dX10_half_10 : decode cX10_half 10 = .ok (.bipush (-2), 2) := by decide +kernel
theorem dX10_half_12 : decode cX10_half 12 = .ok (.ireturn, 1) := by decide +kernel
theorem dX10_half_13 : decode cX10_half 13 = .ok (.aload_n 0, 1) := by decide +kernel
theorem dX10_half_14 : decode cX10_half 14 = .ok (.getfield 24, 3) := by decide +kernel
theorem dX10_half_17 : decode cX10_half 17 = .ok (.invokevirtual 356, 3) := by decide +kernel
theorem dX10_half_20 : decode cX10_half 20 = .ok (.ifCond .eq 16, 3) := by decide +kernel
theorem dX10_half_23 : decode cX10_half 23 = .ok (.aload_n 0, 1) := by decide +kernel
theorem dX10_half_24 : decode cX10_half 24 = .ok (.getfield 24, 3) := by decide +kernel
theorem dX10_half_27 : decode cX10_half 27 = .ok (.getfield 122, 3) := by decide +kernel
theorem dX10_half_30 : decode cX10_half 30 = .ok (.invokevirtual 195, 3) := by decide +kernel
theorem dX10_half_33 : decode cX10_half 33 = .ok (.ifCond .eq 6, 3) := by decide +kernel
theorem dX10_half_36 : decode cX10_half 36 = .ok (.bipush (-6), 2) := by decide +kernel
theorem dX10_half_38 : decode cX10_half 38 = .ok (.ireturn, 1) := by decide +kernel
theorem dX10_half_39 : decode cX10_half 39 = .ok (.aload_n 0, 1) := by decide +kernel
theorem dX10_half_40 : decode cX10_half 40 = .ok (.iconst 3, 1) := by decide +kernel
theorem dX10_half_41 : decode cX10_half 41 = .ok (.iconst 0, 1) := by decide +kernel
theorem dX10_half_42 : decode cX10_half 42 = .ok (.iconst 0, 1) := by decide +kernel
theorem dX10_half_43 : decode cX10_half 43 = .ok (.iconst 0, 1) := by decide +kernel
theorem dX10_half_44 : decode cX10_half 44 = .ok (.invokestatic 362, 3) := by decide +kernel
theorem dX10_half_47 : decode cX10_half 47 = .ok (.invokevirtual 334, 3) := by decide +kernel
theorem dX10_half_50 : decode cX10_half 50 = .ok (.aload_n 0, 1) := by decide +kernel
theorem dX10_half_51 : decode cX10_half 51 = .ok (.getfield 24, 3) := by decide +kernel
theorem dX10_half_54 : decode cX10_half 54 = .ok (.getfield 122, 3) := by decide +kernel
theorem dX10_half_57 : decode cX10_half 57 = .ok (.getfield 128, 3) := by decide +kernel
theorem dX10_half_60 : decode cX10_half 60 = .ok (.ireturn, 1) := by decide +kernel
def fX10_half (a0 : Nat) (M : xMem) : Option (Int32 × xMem) :=
  xBn (fX2_isTold (xrf a0 2) M) fun r1 M2 => if r1 = 0 then (some ((-2), M2)) else (xBn (fX2_hasRoomForOther (xrf a0 2) M2) fun r3 M4 => if r3 = 0 then (some ((-6), M4)) else (xBn (fX8_isOver (xrf (xrf a0 2) 1) M4) fun r5 M6 => if r5 = 0 then (xBn (fX4_packOther (nI 3) (nI 0) (nI 0) (nI 0) M6) fun r7 M8 => xBv (fX10_act a0 r7 M8) fun M9 => some ((M9.1 (xrf (xrf a0 2) 1) 2), M9)) else (some ((-6), M6))))
set_option maxRecDepth 100000 in
set_option maxHeartbeats 4000000 in
theorem zX10_half (G : xGX) (a0 : Nat) (h0 : xkd a0 = 10) (M : xMem) (r : Int32) (M' : xMem) (h : fX10_half a0 M = some (r, M')) : xCt G yX10_half cX10_half 1 (some .int) 8 [vr G a0] M (some (.int r), M') := by
  refine xMet (lv := [some (vr G a0)]) (by decide) (Nat.le_of_ble_eq_true rfl) rfl ?_
  intro X hG hnL C R0
  subst hG
  have C : xCk X cX10_half RX10 8 := C
  unfold fX10_half at h
  refine r_aload_n (pc := 0) C dX10_half_0 rfl rfl ?_
  refine r_getR (pc := 1) C kX10_24 h0 (by decide) dX10_half_1 ?_
  refine r_vI0 (pc := 4) C (fun r M' e => zX2_isTold X.1 (xrf a0 2) (xtk h0 (by decide) rfl rfl) M r M' e) (xtk h0 (by decide) rfl rfl) (by decide) rfl mX2_isTold lX10_135 (by decide) (Nat.le_of_ble_eq_true rfl) dX10_half_4 h (fun r1 M2 h => ?_)
  refine r_if_ne (pc := 7) (tgt := 13) C dX10_half_7 (by decide) h (fun _ h => ?_) (fun _ h => ?_)
  · refine r_aload_n (pc := 13) C dX10_half_13 rfl rfl ?_
    refine r_getR (pc := 14) C kX10_24 h0 (by decide) dX10_half_14 ?_
    refine r_vI0 (pc := 17) C (fun r M' e => zX2_hasRoomForOther X.1 (xrf a0 2) (xtk h0 (by decide) rfl rfl) M2 r M' e) (xtk h0 (by decide) rfl rfl) (by decide) rfl mX2_hasRoomForOther lX10_356 (by decide) (Nat.le_of_ble_eq_true rfl) dX10_half_17 h (fun r3 M4 h => ?_)
    refine r_if_eq (pc := 20) (tgt := 36) C dX10_half_20 (by decide) h (fun _ h => ?_) (fun _ h => ?_)
    · refine r_bipush (pc := 36) (v := (-6)) C dX10_half_36 (by decide) ?_
      exact r_iret (pc := 38) C R0 h dX10_half_38
    · refine r_aload_n (pc := 23) C dX10_half_23 rfl rfl ?_
      refine r_getR (pc := 24) C kX10_24 h0 (by decide) dX10_half_24 ?_
      refine r_getR (pc := 27) C kX10_122 (xtk h0 (by decide) rfl rfl) (by decide) dX10_half_27 ?_
      refine r_vI0 (pc := 30) C (fun r M' e => zX8_isOver X.1 (xrf (xrf a0 2) 1) (xtk (xtk h0 (by decide) rfl rfl) (by decide) rfl rfl) M4 r M' e) (xtk (xtk h0 (by decide) rfl rfl) (by decide) rfl rfl) (by decide) rfl mX8_isOver lX10_195 (by decide) (Nat.le_of_ble_eq_true rfl) dX10_half_30 h (fun r5 M6 h => ?_)
      refine r_if_eq (pc := 33) (tgt := 39) C dX10_half_33 (by decide) h (fun _ h => ?_) (fun _ h => ?_)
      · refine r_aload_n (pc := 39) C dX10_half_39 rfl rfl ?_
        refine r_iconst (pc := 40) (v := (nI 3)) C dX10_half_40 (by decide) ?_
        refine r_iconst (pc := 41) (v := (nI 0)) C dX10_half_41 (by decide) ?_
        refine r_iconst (pc := 42) (v := (nI 0)) C dX10_half_42 (by decide) ?_
        refine r_iconst (pc := 43) (v := (nI 0)) C dX10_half_43 (by decide) ?_
        refine r_sL4 (pc := 44) C (fun r M' e => zX4_packOther X.1 (nI 3) (nI 0) (nI 0) (nI 0) M6 r M' e) mX4_packOther lX10_362 (by decide) (Nat.le_of_ble_eq_true rfl) dX10_half_44 h (fun r7 M8 h => ?_)
        refine r_vV1 (pc := 47) C (fun M' e => zX10_act X.1 a0 h0 r7 M8 M' e) h0 (by decide) rfl mX10_act lX10_334 (by decide) (Nat.le_of_ble_eq_true rfl) dX10_half_47 h (fun M9 h => ?_)
        refine r_aload_n (pc := 50) C dX10_half_50 rfl rfl ?_
        refine r_getR (pc := 51) C kX10_24 h0 (by decide) dX10_half_51 ?_
        refine r_getR (pc := 54) C kX10_122 (xtk h0 (by decide) rfl rfl) (by decide) dX10_half_54 ?_
        refine r_getI (pc := 57) C kX10_128 (xtk (xtk h0 (by decide) rfl rfl) (by decide) rfl rfl) dX10_half_57 ?_
        exact r_iret (pc := 60) C R0 h dX10_half_60
      · refine r_bipush (pc := 36) (v := (-6)) C dX10_half_36 (by decide) ?_
        exact r_iret (pc := 38) C R0 h dX10_half_38
  · refine r_bipush (pc := 10) (v := (-2)) C dX10_half_10 (by decide) ?_
    exact r_iret (pc := 12) C R0 h dX10_half_12
theorem dX10_review_0 : decode cX10_review 0 = .ok (.aload_n 0, 1) := by decide +kernel
theorem dX10_review_1 : decode cX10_review 1 = .ok (.iload_n 1, 1) := by decide +kernel
theorem dX10_review_2 : decode cX10_review 2 = .ok (.invokevirtual 148, 3) := by decide +kernel
theorem dX10_review_5 : decode cX10_review 5 = .ok (.ifCond .eq 12, 3) := by decide +kernel
theorem dX10_review_8 : decode cX10_review 8 = .ok (.iload_n 2, 1) := by decide +kernel
theorem dX10_review_9 : decode cX10_review 9 = .ok (.iconst 0, 1) := by decide +kernel
theorem dX10_review_10 : decode cX10_review 10 = .ok (.iconst 1, 1) := by decide +kernel
theorem dX10_review_11 : decode cX10_review 11 = .ok (.invokestatic 152, 3) := by decide +kernel
theorem dX10_review_14 : decode cX10_review 14 = .ok (.ifCond .ne 6, 3) := by decide +kernel
theorem dX10_review_17 : decode cX10_review 17 = .ok (.bipush (-2), 2) := by decide +kernel
theorem dX10_review_19 : decode cX10_review 19 = .ok (.ireturn, 1) := by decide +kernel
theorem dX10_review_20 : decode cX10_review 20 = .ok (.aload_n 0, 1) := by decide +kernel
theorem dX10_review_21 : decode cX10_review 21 = .ok (.getfield 24, 3) := by decide +kernel
theorem dX10_review_24 : decode cX10_review 24 = .ok (.invokevirtual 356, 3) := by decide +kernel
theorem dX10_review_27 : decode cX10_review 27 = .ok (.ifCond .eq 17, 3) := by decide +kernel
theorem dX10_review_30 : decode cX10_review 30 = .ok (.aload_n 0, 1) := by decide +kernel
theorem dX10_review_31 : decode cX10_review 31 = .ok (.getfield 24, 3) := by decide +kernel
theorem dX10_review_34 : decode cX10_review 34 = .ok (.getfield 122, 3) := by decide +kernel
theorem dX10_review_37 : decode cX10_review 37 = .ok (.iload_n 1, 1) := by decide +kernel
theorem dX10_review_38 : decode cX10_review 38 = .ok (.invokevirtual 375, 3) := by decide +kernel
theorem dX10_review_41 : decode cX10_review 41 = .ok (.ifCond .ne 6, 3) := by decide +kernel
theorem dX10_review_44 : decode cX10_review 44 = .ok (.bipush (-6), 2) := by decide +kernel
theorem dX10_review_46 : decode cX10_review 46 = .ok (.ireturn, 1) := by decide +kernel
theorem dX10_review_47 : decode cX10_review 47 = .ok (.aload_n 0, 1) := by decide +kernel
theorem dX10_review_48 : decode cX10_review 48 = .ok (.iconst 4, 1) := by decide +kernel
theorem dX10_review_49 : decode cX10_review 49 = .ok (.iload_n 1, 1) := by decide +kernel
theorem dX10_review_50 : decode cX10_review 50 = .ok (.iload_n 2, 1) := by decide +kernel
theorem dX10_review_51 : decode cX10_review 51 = .ok (.iconst 0, 1) := by decide +kernel
theorem dX10_review_52 : decode cX10_review 52 = .ok (.invokestatic 362, 3) := by decide +kernel
theorem dX10_review_55 : decode cX10_review 55 = .ok (.invokevirtual 334, 3) := by decide +kernel
theorem dX10_review_58 : decode cX10_review 58 = .ok (.aload_n 0, 1) := by decide +kernel
theorem dX10_review_59 : decode cX10_review 59 = .ok (.getfield 24, 3) := by decide +kernel
theorem dX10_review_62 : decode cX10_review 62 = .ok (.getfield 114, 3) := by decide +kernel
theorem dX10_review_65 : decode cX10_review 65 = .ok (.getfield 118, 3) := by decide +kernel
theorem dX10_review_68 : decode cX10_review 68 = .ok (.ireturn, 1) := by decide +kernel
def fX10_review (a0 : Nat) (a1 : Int32) (a2 : Int32) (M : xMem) : Option (Int32 × xMem) :=
  xBn (fX10_hasTeam a0 a1 M) fun r1 M2 => if r1 = 0 then (some ((-2), M2)) else (xBn (fX10_isWithin a2 (nI 0) (nI 1) M2) fun r3 M4 => if r3 = 0 then (some ((-2), M4)) else (xBn (fX2_hasRoomForOther (xrf a0 2) M4) fun r5 M6 => if r5 = 0 then (some ((-6), M6)) else (xBn (fX8_canAsk (xrf (xrf a0 2) 1) a1 M6) fun r7 M8 => if r7 = 0 then (some ((-6), M8)) else (xBn (fX4_packOther (nI 4) a1 a2 (nI 0) M8) fun r9 M10 => xBv (fX10_act a0 r9 M10) fun M11 => some ((M11.1 (xrf (xrf a0 2) 2) 5), M11)))))
set_option maxRecDepth 100000 in
set_option maxHeartbeats 4000000 in
theorem zX10_review (G : xGX) (a0 : Nat) (h0 : xkd a0 = 10) (a1 : Int32) (a2 : Int32) (M : xMem) (r : Int32) (M' : xMem) (h : fX10_review a0 a1 a2 M = some (r, M')) : xCt G yX10_review cX10_review 3 (some .int) 8 [vr G a0, .int a1, .int a2] M (some (.int r), M') := by
  refine xMet (lv := [some (vr G a0), some (.int a1), some (.int a2)]) (by decide) (Nat.le_of_ble_eq_true rfl) rfl ?_
  intro X hG hnL C R0
  subst hG
  have C : xCk X cX10_review RX10 8 := C
  unfold fX10_review at h
  refine r_aload_n (pc := 0) C dX10_review_0 rfl rfl ?_
  refine r_iload_n (pc := 1) C dX10_review_1 rfl rfl ?_
  refine r_vI1 (pc := 2) C (fun r M' e => zX10_hasTeam X.1 a0 h0 a1 M r M' e) h0 (by decide) rfl mX10_hasTeam lX10_148 (by decide) (Nat.le_of_ble_eq_true rfl) dX10_review_2 h (fun r1 M2 h => ?_)
  refine r_if_eq (pc := 5) (tgt := 17) C dX10_review_5 (by decide) h (fun _ h => ?_) (fun _ h => ?_)
  · refine r_bipush (pc := 17) (v := (-2)) C dX10_review_17 (by decide) ?_
    exact r_iret (pc := 19) C R0 h dX10_review_19
  · refine r_iload_n (pc := 8) C dX10_review_8 rfl rfl ?_
    refine r_iconst (pc := 9) (v := (nI 0)) C dX10_review_9 (by decide) ?_
    refine r_iconst (pc := 10) (v := (nI 1)) C dX10_review_10 (by decide) ?_
    refine r_sI3 (pc := 11) C (fun r M' e => zX10_isWithin X.1 a2 (nI 0) (nI 1) M2 r M' e) mX10_isWithin lX10_152 (by decide) (Nat.le_of_ble_eq_true rfl) dX10_review_11 h (fun r3 M4 h => ?_)
    refine r_if_ne (pc := 14) (tgt := 20) C dX10_review_14 (by decide) h (fun _ h => ?_) (fun _ h => ?_)
    · refine r_aload_n (pc := 20) C dX10_review_20 rfl rfl ?_
      refine r_getR (pc := 21) C kX10_24 h0 (by decide) dX10_review_21 ?_
      refine r_vI0 (pc := 24) C (fun r M' e => zX2_hasRoomForOther X.1 (xrf a0 2) (xtk h0 (by decide) rfl rfl) M4 r M' e) (xtk h0 (by decide) rfl rfl) (by decide) rfl mX2_hasRoomForOther lX10_356 (by decide) (Nat.le_of_ble_eq_true rfl) dX10_review_24 h (fun r5 M6 h => ?_)
      refine r_if_eq (pc := 27) (tgt := 44) C dX10_review_27 (by decide) h (fun _ h => ?_) (fun _ h => ?_)
      · refine r_bipush (pc := 44) (v := (-6)) C dX10_review_44 (by decide) ?_
        exact r_iret (pc := 46) C R0 h dX10_review_46
      · refine r_aload_n (pc := 30) C dX10_review_30 rfl rfl ?_
        refine r_getR (pc := 31) C kX10_24 h0 (by decide) dX10_review_31 ?_
        refine r_getR (pc := 34) C kX10_122 (xtk h0 (by decide) rfl rfl) (by decide) dX10_review_34 ?_
        refine r_iload_n (pc := 37) C dX10_review_37 rfl rfl ?_
        refine r_vI1 (pc := 38) C (fun r M' e => zX8_canAsk X.1 (xrf (xrf a0 2) 1) (xtk (xtk h0 (by decide) rfl rfl) (by decide) rfl rfl) a1 M6 r M' e) (xtk (xtk h0 (by decide) rfl rfl) (by decide) rfl rfl) (by decide) rfl mX8_canAsk lX10_375 (by decide) (Nat.le_of_ble_eq_true rfl) dX10_review_38 h (fun r7 M8 h => ?_)
        refine r_if_ne (pc := 41) (tgt := 47) C dX10_review_41 (by decide) h (fun _ h => ?_) (fun _ h => ?_)
        · refine r_aload_n (pc := 47) C dX10_review_47 rfl rfl ?_
          refine r_iconst (pc := 48) (v := (nI 4)) C dX10_review_48 (by decide) ?_
          refine r_iload_n (pc := 49) C dX10_review_49 rfl rfl ?_
          refine r_iload_n (pc := 50) C dX10_review_50 rfl rfl ?_
          refine r_iconst (pc := 51) (v := (nI 0)) C dX10_review_51 (by decide) ?_
          refine r_sL4 (pc := 52) C (fun r M' e => zX4_packOther X.1 (nI 4) a1 a2 (nI 0) M8 r M' e) mX4_packOther lX10_362 (by decide) (Nat.le_of_ble_eq_true rfl) dX10_review_52 h (fun r9 M10 h => ?_)
          refine r_vV1 (pc := 55) C (fun M' e => zX10_act X.1 a0 h0 r9 M10 M' e) h0 (by decide) rfl mX10_act lX10_334 (by decide) (Nat.le_of_ble_eq_true rfl) dX10_review_55 h (fun M11 h => ?_)
          refine r_aload_n (pc := 58) C dX10_review_58 rfl rfl ?_
          refine r_getR (pc := 59) C kX10_24 h0 (by decide) dX10_review_59 ?_
          refine r_getR (pc := 62) C kX10_114 (xtk h0 (by decide) rfl rfl) (by decide) dX10_review_62 ?_
          refine r_getI (pc := 65) C kX10_118 (xtk (xtk h0 (by decide) rfl rfl) (by decide) rfl rfl) dX10_review_65 ?_
          exact r_iret (pc := 68) C R0 h dX10_review_68
        · refine r_bipush (pc := 44) (v := (-6)) C dX10_review_44 (by decide) ?_
          exact r_iret (pc := 46) C R0 h dX10_review_46
    · refine r_bipush (pc := 17) (v := (-2)) C dX10_review_17 (by decide) ?_
      exact r_iret (pc := 19) C R0 h dX10_review_19
theorem dX10_may_0 : decode cX10_may 0 = .ok (.aload_n 0, 1) := by decide +kernel
theorem dX10_may_1 : decode cX10_may 1 = .ok (.iload_n 1, 1) := by decide +kernel
theorem dX10_may_2 : decode cX10_may 2 = .ok (.invokevirtual 148, 3) := by decide +kernel
theorem dX10_may_5 : decode cX10_may 5 = .ok (.ifCond .ne 6, 3) := by decide +kernel
theorem dX10_may_8 : decode cX10_may 8 = .ok (.bipush (-2), 2) := by decide +kernel
theorem dX10_may_10 : decode cX10_may 10 = .ok (.ireturn, 1) := by decide +kernel
theorem dX10_may_11 : decode cX10_may 11 = .ok (.aload_n 0, 1) := by decide +kernel
theorem dX10_may_12 : decode cX10_may 12 = .ok (.getfield 24, 3) := by decide +kernel
theorem dX10_may_15 : decode cX10_may 15 = .ok (.invokevirtual 356, 3) := by decide +kernel
theorem dX10_may_18 : decode cX10_may 18 = .ok (.ifCond .eq 21, 3) := by decide +kernel
theorem dX10_may_21 : decode cX10_may 21 = .ok (.aload_n 0, 1) := by decide +kernel
theorem dX10_may_22 : decode cX10_may 22 = .ok (.getfield 24, 3) := by decide +kernel
theorem dX10_may_25 : decode cX10_may 25 = .ok (.getfield 122, 3) := by decide +kernel
theorem dX10_may_28 : decode cX10_may 28 = .ok (.iload_n 1, 1) := by decide +kernel
theorem dX10_may_29 : decode cX10_may 29 = .ok (.invokevirtual 375, 3) := by decide +kernel
theorem dX10_may_32 : decode cX10_may 32 = .ok (.ifCond .eq 7, 3) := by decide +kernel
theorem dX10_may_35 : decode cX10_may 35 = .ok (.iconst 1, 1) := by decide +kernel
theorem dX10_may_36 : decode cX10_may 36 = .ok (.goto 4, 3) := by decide +kernel
theorem dX10_may_39 : decode cX10_may 39 = .ok (.iconst 0, 1) := by decide +kernel
theorem dX10_may_40 : decode cX10_may 40 = .ok (.ireturn, 1) := by decide +kernel
def fX10_may (a0 : Nat) (a1 : Int32) (M : xMem) : Option (Int32 × xMem) :=
  xBn (fX10_hasTeam a0 a1 M) fun r1 M2 => if r1 = 0 then (some ((-2), M2)) else (xBn (fX2_hasRoomForOther (xrf a0 2) M2) fun r3 M4 => if r3 = 0 then (some ((nI 0), M4)) else (xBn (fX8_canAsk (xrf (xrf a0 2) 1) a1 M4) fun r5 M6 => if r5 = 0 then (some ((nI 0), M6)) else (some ((nI 1), M6))))
set_option maxRecDepth 100000 in
set_option maxHeartbeats 4000000 in
theorem zX10_may (G : xGX) (a0 : Nat) (h0 : xkd a0 = 10) (a1 : Int32) (M : xMem) (r : Int32) (M' : xMem) (h : fX10_may a0 a1 M = some (r, M')) : xCt G yX10_may cX10_may 2 (some .int) 4 [vr G a0, .int a1] M (some (.int r), M') := by
  refine xMet (lv := [some (vr G a0), some (.int a1)]) (by decide) (Nat.le_of_ble_eq_true rfl) rfl ?_
  intro X hG hnL C R0
  subst hG
  have C : xCk X cX10_may RX10 4 := C
  unfold fX10_may at h
  refine r_aload_n (pc := 0) C dX10_may_0 rfl rfl ?_
  refine r_iload_n (pc := 1) C dX10_may_1 rfl rfl ?_
  refine r_vI1 (pc := 2) C (fun r M' e => zX10_hasTeam X.1 a0 h0 a1 M r M' e) h0 (by decide) rfl mX10_hasTeam lX10_148 (by decide) (Nat.le_of_ble_eq_true rfl) dX10_may_2 h (fun r1 M2 h => ?_)
  refine r_if_ne (pc := 5) (tgt := 11) C dX10_may_5 (by decide) h (fun _ h => ?_) (fun _ h => ?_)
  · refine r_aload_n (pc := 11) C dX10_may_11 rfl rfl ?_
    refine r_getR (pc := 12) C kX10_24 h0 (by decide) dX10_may_12 ?_
    refine r_vI0 (pc := 15) C (fun r M' e => zX2_hasRoomForOther X.1 (xrf a0 2) (xtk h0 (by decide) rfl rfl) M2 r M' e) (xtk h0 (by decide) rfl rfl) (by decide) rfl mX2_hasRoomForOther lX10_356 (by decide) (Nat.le_of_ble_eq_true rfl) dX10_may_15 h (fun r3 M4 h => ?_)
    refine r_if_eq (pc := 18) (tgt := 39) C dX10_may_18 (by decide) h (fun _ h => ?_) (fun _ h => ?_)
    · refine r_iconst (pc := 39) (v := (nI 0)) C dX10_may_39 (by decide) ?_
      exact r_iret (pc := 40) C R0 h dX10_may_40
    · refine r_aload_n (pc := 21) C dX10_may_21 rfl rfl ?_
      refine r_getR (pc := 22) C kX10_24 h0 (by decide) dX10_may_22 ?_
      refine r_getR (pc := 25) C kX10_122 (xtk h0 (by decide) rfl rfl) (by decide) dX10_may_25 ?_
      refine r_iload_n (pc := 28) C dX10_may_28 rfl rfl ?_
      refine r_vI1 (pc := 29) C (fun r M' e => zX8_canAsk X.1 (xrf (xrf a0 2) 1) (xtk (xtk h0 (by decide) rfl rfl) (by decide) rfl rfl) a1 M4 r M' e) (xtk (xtk h0 (by decide) rfl rfl) (by decide) rfl rfl) (by decide) rfl mX8_canAsk lX10_375 (by decide) (Nat.le_of_ble_eq_true rfl) dX10_may_29 h (fun r5 M6 h => ?_)
      refine r_if_eq (pc := 32) (tgt := 39) C dX10_may_32 (by decide) h (fun _ h => ?_) (fun _ h => ?_)
      · refine r_iconst (pc := 39) (v := (nI 0)) C dX10_may_39 (by decide) ?_
        exact r_iret (pc := 40) C R0 h dX10_may_40
      · refine r_iconst (pc := 35) (v := (nI 1)) C dX10_may_35 (by decide) ?_
        refine r_goto (pc := 36) (tgt := 40) C dX10_may_36 (by decide) ?_
        exact r_iret (pc := 40) C R0 h dX10_may_40
  · refine r_bipush (pc := 8) (v := (-2)) C dX10_may_8 (by decide) ?_
    exact r_iret (pc := 10) C R0 h dX10_may_10
theorem dX10_undo_0 : decode cX10_undo 0 = .ok (.aload_n 0, 1) := by decide +kernel
theorem dX10_undo_1 : decode cX10_undo 1 = .ok (.getfield 40, 3) := by decide +kernel
theorem dX10_undo_4 : decode cX10_undo 4 = .ok (.getfield 131, 3) := by decide +kernel
theorem dX10_undo_7 : decode cX10_undo 7 = .ok (.ifCond .ne 5, 3) := by decide +kernel
theorem dX10_undo_10 : decode cX10_undo 10 = .ok (.iconst (-1), 1) := by decide +kernel
theorem dX10_undo_11 : decode cX10_undo 11 = .ok (.ireturn, 1) := by decide +kernel
theorem dX10_undo_12 : decode cX10_undo 12 = .ok (.aload_n 0, 1) := by decide +kernel
theorem dX10_undo_13 : decode cX10_undo 13 = .ok (.getfield 40, 3) := by decide +kernel
theorem dX10_undo_16 : decode cX10_undo 16 = .ok (.invokevirtual 378, 3) := by decide +kernel
theorem dX10_undo_19 : decode cX10_undo 19 = .ok (.ifCond .eq 23, 3) := by decide +kernel
theorem dX10_undo_22 : decode cX10_undo 22 = .ok (.aload_n 0, 1) := by decide +kernel
theorem dX10_undo_23 : decode cX10_undo 23 = .ok (.getfield 24, 3) := by decide +kernel
theorem dX10_undo_26 : decode cX10_undo 26 = .ok (.getfield 82, 3) := by decide +kernel
theorem dX10_undo_29 : decode cX10_undo 29 = .ok (.aload_n 0, 1) := by decide +kernel
theorem dX10_undo_30 : decode cX10_undo 30 = .ok (.getfield 40, 3) := by decide +kernel
theorem dX10_undo_33 : decode cX10_undo 33 = .ok (.invokevirtual 381, 3) := by decide +kernel
theorem dX10_undo_36 : decode cX10_undo 36 = .ok (.invokevirtual 85, 3) := by decide +kernel
theorem dX10_undo_39 : decode cX10_undo 39 = .ok (.goto 13, 3) := by decide +kernel
theorem dX10_undo_42 : decode cX10_undo 42 = .ok (.aload_n 0, 1) := by decide +kernel
theorem dX10_undo_43 : decode cX10_undo 43 = .ok (.getfield 24, 3) := by decide +kernel
theorem dX10_undo_46 : decode cX10_undo 46 = .ok (.getfield 82, 3) := by decide +kernel
theorem dX10_undo_49 : decode cX10_undo 49 = .ok (.invokevirtual 384, 3) := by decide +kernel
theorem dX10_undo_52 : decode cX10_undo 52 = .ok (.aload_n 0, 1) := by decide +kernel
theorem dX10_undo_53 : decode cX10_undo 53 = .ok (.getfield 24, 3) := by decide +kernel
theorem dX10_undo_56 : decode cX10_undo 56 = .ok (.invokevirtual 95, 3) := by decide +kernel
theorem dX10_undo_59 : decode cX10_undo 59 = .ok (.aload_n 0, 1) := by decide +kernel
theorem dX10_undo_60 : decode cX10_undo 60 = .ok (.getfield 40, 3) := by decide +kernel
theorem dX10_undo_63 : decode cX10_undo 63 = .ok (.getfield 131, 3) := by decide +kernel
theorem dX10_undo_66 : decode cX10_undo 66 = .ok (.ireturn, 1) := by decide +kernel
def fX10_undo (a0 : Nat) (M : xMem) : Option (Int32 × xMem) :=
  if (M.1 (xrf a0 4) 2) = 0 then (some ((-1), M)) else (xBn (fX0_takeBack (xrf a0 4) M) fun r1 M2 => xLt (fun  (M3 : xMem) => (xBv (fX2_replay (xrf a0 2) M3) fun M4 => some ((M4.1 (xrf a0 4) 2), M4) : Option (Int32 × xMem))) fun J52 => if r1 = 0 then (xBv (fX9_dropLine (xrf (xrf a0 2) 0) M2) fun M5 => J52  M5) else (xBn (fX0_former (xrf a0 4) M2) fun r6 M7 => xBv (fX9_copyFrom (xrf (xrf a0 2) 0) r6 M7) fun M10 => J52  M10))
set_option maxRecDepth 100000 in
set_option maxHeartbeats 4000000 in
theorem zX10_undo (G : xGX) (a0 : Nat) (h0 : xkd a0 = 10) (M : xMem) (r : Int32) (M' : xMem) (h : fX10_undo a0 M = some (r, M')) : xCt G yX10_undo cX10_undo 1 (some .int) 8 [vr G a0] M (some (.int r), M') := by
  refine xMet (lv := [some (vr G a0)]) (by decide) (Nat.le_of_ble_eq_true rfl) rfl ?_
  intro X hG hnL C R0
  subst hG
  have C : xCk X cX10_undo RX10 8 := C
  unfold fX10_undo at h
  refine r_aload_n (pc := 0) C dX10_undo_0 rfl rfl ?_
  refine r_getR (pc := 1) C kX10_40 h0 (by decide) dX10_undo_1 ?_
  refine r_getI (pc := 4) C kX10_131 (xtk h0 (by decide) rfl rfl) dX10_undo_4 ?_
  refine r_if_ne (pc := 7) (tgt := 12) C dX10_undo_7 (by decide) h (fun _ h => ?_) (fun _ h => ?_)
  · refine r_aload_n (pc := 12) C dX10_undo_12 rfl rfl ?_
    refine r_getR (pc := 13) C kX10_40 h0 (by decide) dX10_undo_13 ?_
    refine r_vI0 (pc := 16) C (fun r M' e => zX0_takeBack X.1 (xrf a0 4) (xtk h0 (by decide) rfl rfl) M r M' e) (xtk h0 (by decide) rfl rfl) (by decide) rfl mX0_takeBack lX10_378 (by decide) (Nat.le_of_ble_eq_true rfl) dX10_undo_16 h (fun r1 M2 h => ?_)
    refine r_jn (fun J => ∀  (M3 : xMem) , J  M3 = some (r, M') → WW X 52 [some (vr X.1 a0)] [] M3) h (fun  M3  h => ?_) (fun J52 hJ52 h => ?_)
    · refine r_aload_n (pc := 52) C dX10_undo_52 rfl rfl ?_
      refine r_getR (pc := 53) C kX10_24 h0 (by decide) dX10_undo_53 ?_
      refine r_vV0 (pc := 56) C (fun M' e => zX2_replay X.1 (xrf a0 2) (xtk h0 (by decide) rfl rfl) M3 M' e) (xtk h0 (by decide) rfl rfl) (by decide) rfl mX2_replay lX10_95 (by decide) (Nat.le_of_ble_eq_true rfl) dX10_undo_56 h (fun M4 h => ?_)
      refine r_aload_n (pc := 59) C dX10_undo_59 rfl rfl ?_
      refine r_getR (pc := 60) C kX10_40 h0 (by decide) dX10_undo_60 ?_
      refine r_getI (pc := 63) C kX10_131 (xtk h0 (by decide) rfl rfl) dX10_undo_63 ?_
      exact r_iret (pc := 66) C R0 h dX10_undo_66
    refine r_if_eq (pc := 19) (tgt := 42) C dX10_undo_19 (by decide) h (fun _ h => ?_) (fun _ h => ?_)
    · refine r_aload_n (pc := 42) C dX10_undo_42 rfl rfl ?_
      refine r_getR (pc := 43) C kX10_24 h0 (by decide) dX10_undo_43 ?_
      refine r_getR (pc := 46) C kX10_82 (xtk h0 (by decide) rfl rfl) (by decide) dX10_undo_46 ?_
      refine r_vV0 (pc := 49) C (fun M' e => zX9_dropLine X.1 (xrf (xrf a0 2) 0) (xtk (xtk h0 (by decide) rfl rfl) (by decide) rfl rfl) M2 M' e) (xtk (xtk h0 (by decide) rfl rfl) (by decide) rfl rfl) (by decide) rfl mX9_dropLine lX10_384 (by decide) (Nat.le_of_ble_eq_true rfl) dX10_undo_49 h (fun M5 h => ?_)
      exact hJ52  M5  h
    · refine r_aload_n (pc := 22) C dX10_undo_22 rfl rfl ?_
      refine r_getR (pc := 23) C kX10_24 h0 (by decide) dX10_undo_23 ?_
      refine r_getR (pc := 26) C kX10_82 (xtk h0 (by decide) rfl rfl) (by decide) dX10_undo_26 ?_
      refine r_aload_n (pc := 29) C dX10_undo_29 rfl rfl ?_
      refine r_getR (pc := 30) C kX10_40 h0 (by decide) dX10_undo_30 ?_
      refine r_vR0 (pc := 33) C (fun r M' e => zX0_former X.1 (xrf a0 4) (xtk h0 (by decide) rfl rfl) M2 r M' e) (xtk h0 (by decide) rfl rfl) (by decide) rfl mX0_former lX10_381 (by decide) (Nat.le_of_ble_eq_true rfl) dX10_undo_33 h (fun r6 M7 e8 h => ?_)
      have k9 := tX0_former (xtk h0 (by decide) rfl rfl) e8
      refine r_vV1 (pc := 36) C (fun M' e => zX9_copyFrom X.1 (xrf (xrf a0 2) 0) (xtk (xtk h0 (by decide) rfl rfl) (by decide) rfl rfl) r6 k9 M7 M' e) (xtk (xtk h0 (by decide) rfl rfl) (by decide) rfl rfl) (by decide) rfl mX9_copyFrom lX10_85 (by decide) (Nat.le_of_ble_eq_true rfl) dX10_undo_36 h (fun M10 h => ?_)
      refine r_goto (pc := 39) (tgt := 52) C dX10_undo_39 (by decide) ?_
      exact hJ52  M10  h
  · refine r_iconst (pc := 10) (v := (-1)) C dX10_undo_10 (by decide) ?_
    exact r_iret (pc := 11) C R0 h dX10_undo_11
theorem dX10_tell_0 : decode cX10_tell 0 = .ok (.aload_n 0, 1) := by decide +kernel
theorem dX10_tell_1 : decode cX10_tell 1 = .ok (.getfield 24, 3) := by decide +kernel
theorem dX10_tell_4 : decode cX10_tell 4 = .ok (.invokevirtual 135, 3) := by decide +kernel
theorem dX10_tell_7 : decode cX10_tell 7 = .ok (.ifCond .eq 12, 3) := by decide +kernel
theorem dX10_tell_10 : decode cX10_tell 10 = .ok (.iload_n 1, 1) := by decide +kernel
theorem dX10_tell_11 : decode cX10_tell 11 = .ok (.iconst 0, 1) := by decide +kernel
theorem dX10_tell_12 : decode cX10_tell 12 = .ok (.iconst 2, 1) := by decide +kernel
theorem dX10_tell_13 : decode cX10_tell 13 = .ok (.invokestatic 152, 3) := by decide +kernel
theorem dX10_tell_16 : decode cX10_tell 16 = .ok (.ifCond .ne 6, 3) := by decide +kernel
theorem dX10_tell_19 : decode cX10_tell 19 = .ok (.bipush (-2), 2) := by decide +kernel
theorem dX10_tell_21 : decode cX10_tell 21 = .ok (.ireturn, 1) := by decide +kernel
theorem dX10_tell_22 : decode cX10_tell 22 = .ok (.aload_n 0, 1) := by decide +kernel
theorem dX10_tell_23 : decode cX10_tell 23 = .ok (.getfield 18, 3) := by decide +kernel
theorem dX10_tell_26 : decode cX10_tell 26 = .ok (.iconst 0, 1) := by decide +kernel
theorem dX10_tell_27 : decode cX10_tell 27 = .ok (.invokevirtual 79, 3) := by decide +kernel
theorem dX10_tell_30 : decode cX10_tell 30 = .ok (.iconst 0, 1) := by decide +kernel
theorem dX10_tell_31 : decode cX10_tell 31 = .ok (.istore_n 2, 1) := by decide +kernel
theorem dX10_tell_32 : decode cX10_tell 32 = .ok (.iconst 0, 1) := by decide +kernel
theorem dX10_tell_33 : decode cX10_tell 33 = .ok (.istore_n 3, 1) := by decide +kernel
theorem dX10_tell_34 : decode cX10_tell 34 = .ok (.iload_n 3, 1) := by decide +kernel
theorem dX10_tell_35 : decode cX10_tell 35 = .ok (.aload_n 0, 1) := by decide +kernel
theorem dX10_tell_36 : decode cX10_tell 36 = .ok (.getfield 24, 3) := by decide +kernel
theorem dX10_tell_39 : decode cX10_tell 39 = .ok (.getfield 114, 3) := by decide +kernel
theorem dX10_tell_42 : decode cX10_tell 42 = .ok (.getfield 118, 3) := by decide +kernel
theorem dX10_tell_45 : decode cX10_tell 45 = .ok (.if_icmp .ge 84, 3) := by decide +kernel
theorem dX10_tell_48 : decode cX10_tell 48 = .ok (.iload_n 1, 1) := by decide +kernel
theorem dX10_tell_49 : decode cX10_tell 49 = .ok (.ifCond .eq 26, 3) := by decide +kernel
theorem dX10_tell_52 : decode cX10_tell 52 = .ok (.aload_n 0, 1) := by decide +kernel
theorem dX10_tell_53 : decode cX10_tell 53 = .ok (.getfield 24, 3) := by decide +kernel
theorem dX10_tell_56 : decode cX10_tell 56 = .ok (.getfield 114, 3) := by decide +kernel
theorem dX10_tell_59 : decode cX10_tell 59 = .ok (.getfield 239, 3) := by decide +kernel
theorem dX10_tell_62 : decode cX10_tell 62 = .ok (.iconst 0, 1) := by decide +kernel
theorem dX10_tell_63 : decode cX10_tell 63 = .ok (.aaload, 1) := by decide +kernel
theorem dX10_tell_64 : decode cX10_tell 64 = .ok (.iload_n 3, 1) := by decide +kernel
theorem dX10_tell_65 : decode cX10_tell 65 = .ok (.iaload, 1) := by decide +kernel
theorem dX10_tell_66 : decode cX10_tell 66 = .ok (.iload_n 1, 1) := by decide +kernel
theorem dX10_tell_67 : decode cX10_tell 67 = .ok (.iconst 1, 1) := by decide +kernel
theorem dX10_tell_68 : decode cX10_tell 68 = .ok (.isub, 1) := by decide +kernel
theorem dX10_tell_69 : decode cX10_tell 69 = .ok (.if_icmp .eq 6, 3) := by decide +kernel
theorem dX10_tell_72 : decode cX10_tell 72 = .ok (.goto 51, 3) := by decide +kernel
theorem dX10_tell_75 : decode cX10_tell 75 = .ok (.aload_n 0, 1) := by decide +kernel
theorem dX10_tell_76 : decode cX10_tell 76 = .ok (.getfield 18, 3) := by decide +kernel
theorem dX10_tell_79 : decode cX10_tell 79 = .ok (.invokevirtual 72, 3) := by decide +kernel
theorem dX10_tell_82 : decode cX10_tell 82 = .ok (.istore 4, 2) := by decide +kernel
theorem dX10_tell_84 : decode cX10_tell 84 = .ok (.aload_n 0, 1) := by decide +kernel
theorem dX10_tell_85 : decode cX10_tell 85 = .ok (.getfield 24, 3) := by decide +kernel
theorem dX10_tell_88 : decode cX10_tell 88 = .ok (.iload_n 3, 1) := by decide +kernel
theorem dX10_tell_89 : decode cX10_tell 89 = .ok (.aload_n 0, 1) := by decide +kernel
theorem dX10_tell_90 : decode cX10_tell 90 = .ok (.getfield 18, 3) := by decide +kernel
theorem dX10_tell_93 : decode cX10_tell 93 = .ok (.invokevirtual 387, 3) := by decide +kernel
theorem dX10_tell_96 : decode cX10_tell 96 = .ok (.aload_n 0, 1) := by decide +kernel
theorem dX10_tell_97 : decode cX10_tell 97 = .ok (.getfield 18, 3) := by decide +kernel
theorem dX10_tell_100 : decode cX10_tell 100 = .ok (.invokevirtual 72, 3) := by decide +kernel
theorem dX10_tell_103 : decode cX10_tell 103 = .ok (.sipush 2000, 3) := by decide +kernel
theorem dX10_tell_106 : decode cX10_tell 106 = .ok (.if_icmp .le 14, 3) := by decide +kernel
theorem dX10_tell_109 : decode cX10_tell 109 = .ok (.aload_n 0, 1) := by decide +kernel
theorem dX10_tell_110 : decode cX10_tell 110 = .ok (.getfield 18, 3) := by decide +kernel
theorem dX10_tell_113 : decode cX10_tell 113 = .ok (.iload 4, 2) := by decide +kernel
theorem dX10_tell_115 : decode cX10_tell 115 = .ok (.invokevirtual 79, 3) := by decide +kernel
theorem dX10_tell_118 : decode cX10_tell 118 = .ok (.iload_n 2, 1) := by decide +kernel
theorem dX10_tell_119 : decode cX10_tell 119 = .ok (.ireturn, 1) := by decide +kernel
theorem dX10_tell_120 : decode cX10_tell 120 = .ok (.iinc 2 1, 3) := by decide +kernel
theorem dX10_tell_123 : decode cX10_tell 123 = .ok (.iinc 3 1, 3) := by decide +kernel
theorem dX10_tell_126 : decode cX10_tell 126 = .ok (.goto (-92), 3) := by decide +kernel
theorem dX10_tell_129 : decode cX10_tell 129 = .ok (.iload_n 2, 1) := by decide +kernel
theorem dX10_tell_130 : decode cX10_tell 130 = .ok (.ireturn, 1) := by decide +kernel
def fX10_tell_l34 (p0 : Nat) (p1 : Int32) (K : Int32 → Int32 → xMem → Option (Int32 × xMem)) : Nat → Int32 → Int32 → xMem → Option (Int32 × xMem)
  | 0, _, _, _ => none
  | n + 1, v2, v3, M => if (M.1 (xrf (xrf p0 2) 2) 5) ≤ v3 then (K v2 v3 M) else (xLt (fun  (M6 : xMem) => (xBn (fX6_size (xrf p0 1) M6) fun r7 M8 => xBv (fX2_writeRaid (xrf p0 2) v3 (xrf p0 1) M8) fun M9 => xBn (fX6_size (xrf p0 1) M9) fun r10 M11 => if r10 ≤ (nI 2000) then (xLt (v2 + nI 1) fun x12 => xLt (v3 + nI 1) fun x13 => fX10_tell_l34 p0 p1 K n x12 x13 M11) else (xBv (fX6_cut (xrf p0 1) r7 M11) fun M14 => some (v2, M14)) : Option (Int32 × xMem))) fun J75 => if p1 = 0 then (J75  M) else (xGb (nI 0) (xln (xrf (xrf (xrf p0 2) 2) 0)) (xGb v3 (xln (xrf (xrf (xrf (xrf p0 2) 2) 0) (Int32.toNatClampNeg (nI 0)))) (if (M.1 (xrf (xrf (xrf (xrf p0 2) 2) 0) (Int32.toNatClampNeg (nI 0))) (Int32.toNatClampNeg v3)) = (p1 - (nI 1)) then (J75  M) else (xLt (v3 + nI 1) fun x17 => fX10_tell_l34 p0 p1 K n v2 x17 M)))))
def fX10_tell (a0 : Nat) (a1 : Int32) (M : xMem) : Option (Int32 × xMem) :=
  xBn (fX2_isTold (xrf a0 2) M) fun r1 M2 => if r1 = 0 then (some ((-2), M2)) else (xBn (fX10_isWithin a1 (nI 0) (nI 2) M2) fun r3 M4 => if r3 = 0 then (some ((-2), M4)) else (xBv (fX6_cut (xrf a0 1) (nI 0) M4) fun M5 => fX10_tell_l34 a0 a1 (fun (v18 : Int32) (v19 : Int32) (M20 : xMem) => some (v18, M20)) xFU (nI 0) (nI 0) M5))
set_option maxRecDepth 100000 in
set_option maxHeartbeats 4000000 in
theorem lX10_tell_34 {X : xCX} {r : Int32} {M' : xMem} (C : xCk X cX10_tell RX10 7) (R0 : xRk X (some .int) (some (.int r), M')) (hnL : X.2.2.2.2.2.2.2.2.2.2.2.2.2 = 5) (p0 : Nat) (hp0 : xkd p0 = 10) (p1 : Int32) (K : Int32 → Int32 → xMem → Option (Int32 × xMem)) (hK : ∀ (v2 : Int32) (v3 : Int32) (M : xMem), K v2 v3 M = some (r, M') → WW X 129 [some (vr X.1 p0), some (.int p1), some (.int v2), some (.int v3), none] [] M) : ∀ (n : Nat) (v2 : Int32) (v3 : Int32) (M : xMem), fX10_tell_l34 p0 p1 K n v2 v3 M = some (r, M') → WW X 34 [some (vr X.1 p0), some (.int p1), some (.int v2), some (.int v3), none] [] M := by
  have hn2 : 2 < X.2.2.2.2.2.2.2.2.2.2.2.2.2 := by rw [hnL]; decide
  have hn3 : 3 < X.2.2.2.2.2.2.2.2.2.2.2.2.2 := by rw [hnL]; decide
  have hn4 : 4 < X.2.2.2.2.2.2.2.2.2.2.2.2.2 := by rw [hnL]; decide
  intro n
  induction n with
  | zero =>
    intro v2 v3 M h
    cases (show (none : Option (Int32 × xMem)) = some (r, M') from h)
  | succ n ih =>
    intro v2 v3 M h
    rw [fX10_tell_l34.eq_2] at h
    refine r_iload_n (pc := 34) C dX10_tell_34 rfl rfl ?_
    refine r_aload_n (pc := 35) C dX10_tell_35 rfl rfl ?_
    refine r_getR (pc := 36) C kX10_24 hp0 (by decide) dX10_tell_36 ?_
    refine r_getR (pc := 39) C kX10_114 (xtk hp0 (by decide) rfl rfl) (by decide) dX10_tell_39 ?_
    refine r_getI (pc := 42) C kX10_118 (xtk (xtk hp0 (by decide) rfl rfl) (by decide) rfl rfl) dX10_tell_42 ?_
    refine r_icmp_ge (pc := 45) (tgt := 129) C dX10_tell_45 (by decide) h (fun _ h => ?_) (fun _ h => ?_)
    · exact hK v2 v3 M h
    · refine r_iload_n (pc := 48) C dX10_tell_48 rfl rfl ?_
      refine r_jn (fun J => ∀  (M6 : xMem) , J  M6 = some (r, M') → WW X 75 [some (vr X.1 p0), some (.int p1), some (.int v2), some (.int v3), none] [] M6) h (fun  M6  h => ?_) (fun J75 hJ75 h => ?_)
      · refine r_aload_n (pc := 75) C dX10_tell_75 rfl rfl ?_
        refine r_getR (pc := 76) C kX10_18 hp0 (by decide) dX10_tell_76 ?_
        refine r_vI0 (pc := 79) C (fun r M' e => zX6_size X.1 (xrf p0 1) (xtk hp0 (by decide) rfl rfl) M6 r M' e) (xtk hp0 (by decide) rfl rfl) (by decide) rfl mX6_size lX10_72 (by decide) (Nat.le_of_ble_eq_true rfl) dX10_tell_79 h (fun r7 M8 h => ?_)
        refine r_istore (pc := 82) (lv' := [_, _, _, _, _]) C dX10_tell_82 hn4 rfl ?_
        refine r_aload_n (pc := 84) C dX10_tell_84 rfl rfl ?_
        refine r_getR (pc := 85) C kX10_24 hp0 (by decide) dX10_tell_85 ?_
        refine r_iload_n (pc := 88) C dX10_tell_88 rfl rfl ?_
        refine r_aload_n (pc := 89) C dX10_tell_89 rfl rfl ?_
        refine r_getR (pc := 90) C kX10_18 hp0 (by decide) dX10_tell_90 ?_
        refine r_vV2 (pc := 93) C (fun M' e => zX2_writeRaid X.1 (xrf p0 2) (xtk hp0 (by decide) rfl rfl) v3 (xrf p0 1) (xtk hp0 (by decide) rfl rfl) M8 M' e) (xtk hp0 (by decide) rfl rfl) (by decide) rfl mX2_writeRaid lX10_387 (by decide) (Nat.le_of_ble_eq_true rfl) dX10_tell_93 h (fun M9 h => ?_)
        refine r_aload_n (pc := 96) C dX10_tell_96 rfl rfl ?_
        refine r_getR (pc := 97) C kX10_18 hp0 (by decide) dX10_tell_97 ?_
        refine r_vI0 (pc := 100) C (fun r M' e => zX6_size X.1 (xrf p0 1) (xtk hp0 (by decide) rfl rfl) M9 r M' e) (xtk hp0 (by decide) rfl rfl) (by decide) rfl mX6_size lX10_72 (by decide) (Nat.le_of_ble_eq_true rfl) dX10_tell_100 h (fun r10 M11 h => ?_)
        refine r_sipush (pc := 103) (v := (nI 2000)) C dX10_tell_103 (by decide) ?_
        refine r_icmp_le (pc := 106) (tgt := 120) C dX10_tell_106 (by decide) h (fun _ h => ?_) (fun _ h => ?_)
        · refine r_iincL (pc := 120) (c := nI 1) C dX10_tell_120 rfl (by decide) hn2 h (fun x12 h => ?_)
          refine r_lvE (lv' := [_, _, _, _, _]) rfl ?_
          refine r_iincL (pc := 123) (c := nI 1) C dX10_tell_123 rfl (by decide) hn3 h (fun x13 h => ?_)
          refine r_lvE (lv' := [_, _, _, _, _]) rfl ?_
          refine r_goto (pc := 126) (tgt := 34) C dX10_tell_126 (by decide) ?_
          exact r_lv (xle_at (xle_some rfl (xle_some rfl (xle_some rfl (xle_some rfl (xle_none xle_nil)))))) (ih x12 x13 M11 h)
        · refine r_aload_n (pc := 109) C dX10_tell_109 rfl rfl ?_
          refine r_getR (pc := 110) C kX10_18 hp0 (by decide) dX10_tell_110 ?_
          refine r_iload (pc := 113) C dX10_tell_113 rfl ?_
          refine r_vV1 (pc := 115) C (fun M' e => zX6_cut X.1 (xrf p0 1) (xtk hp0 (by decide) rfl rfl) r7 M11 M' e) (xtk hp0 (by decide) rfl rfl) (by decide) rfl mX6_cut lX10_79 (by decide) (Nat.le_of_ble_eq_true rfl) dX10_tell_115 h (fun M14 h => ?_)
          refine r_iload_n (pc := 118) C dX10_tell_118 rfl rfl ?_
          exact r_iret (pc := 119) C R0 h dX10_tell_119
      refine r_if_eq (pc := 49) (tgt := 75) C dX10_tell_49 (by decide) h (fun _ h => ?_) (fun _ h => ?_)
      · exact hJ75  M  h
      · refine r_aload_n (pc := 52) C dX10_tell_52 rfl rfl ?_
        refine r_getR (pc := 53) C kX10_24 hp0 (by decide) dX10_tell_53 ?_
        refine r_getR (pc := 56) C kX10_114 (xtk hp0 (by decide) rfl rfl) (by decide) dX10_tell_56 ?_
        refine r_getR (pc := 59) C kX10_239 (xtk (xtk hp0 (by decide) rfl rfl) (by decide) rfl rfl) (by decide) dX10_tell_59 ?_
        refine r_iconst (pc := 62) (v := (nI 0)) C dX10_tell_62 (by decide) ?_
        obtain ⟨g15, h⟩ := xGb_of h
        refine r_aaldI (pc := 63) C (xtk (xtk (xtk hp0 (by decide) rfl rfl) (by decide) rfl rfl) (by decide) rfl rfl) g15 dX10_tell_63 ?_
        refine r_iload_n (pc := 64) C dX10_tell_64 rfl rfl ?_
        obtain ⟨g16, h⟩ := xGb_of h
        refine r_iald (pc := 65) C (xkeI (xtk (xtk (xtk hp0 (by decide) rfl rfl) (by decide) rfl rfl) (by decide) rfl rfl) (xin_lt g15)) g16 dX10_tell_65 ?_
        refine r_iload_n (pc := 66) C dX10_tell_66 rfl rfl ?_
        refine r_iconst (pc := 67) (v := (nI 1)) C dX10_tell_67 (by decide) ?_
        refine r_isub (pc := 68) C dX10_tell_68 ?_
        refine r_icmp_eq (pc := 69) (tgt := 75) C dX10_tell_69 (by decide) h (fun _ h => ?_) (fun _ h => ?_)
        · exact hJ75  M  h
        · refine r_goto (pc := 72) (tgt := 123) C dX10_tell_72 (by decide) ?_
          refine r_iincL (pc := 123) (c := nI 1) C dX10_tell_123 rfl (by decide) hn3 h (fun x17 h => ?_)
          refine r_lvE (lv' := [_, _, _, _, _]) rfl ?_
          refine r_goto (pc := 126) (tgt := 34) C dX10_tell_126 (by decide) ?_
          exact ih v2 x17 M h
set_option maxRecDepth 100000 in
set_option maxHeartbeats 4000000 in
theorem zX10_tell (G : xGX) (a0 : Nat) (h0 : xkd a0 = 10) (a1 : Int32) (M : xMem) (r : Int32) (M' : xMem) (h : fX10_tell a0 a1 M = some (r, M')) : xCt G yX10_tell cX10_tell 5 (some .int) 7 [vr G a0, .int a1] M (some (.int r), M') := by
  refine xMet (lv := [some (vr G a0), some (.int a1), none, none, none]) (by decide) (Nat.le_of_ble_eq_true rfl) rfl ?_
  intro X hG hnL C R0
  subst hG
  have C : xCk X cX10_tell RX10 7 := C
  have hn2 : 2 < X.2.2.2.2.2.2.2.2.2.2.2.2.2 := by rw [hnL]; decide
  have hn3 : 3 < X.2.2.2.2.2.2.2.2.2.2.2.2.2 := by rw [hnL]; decide
  have hn4 : 4 < X.2.2.2.2.2.2.2.2.2.2.2.2.2 := by rw [hnL]; decide
  unfold fX10_tell at h
  refine r_aload_n (pc := 0) C dX10_tell_0 rfl rfl ?_
  refine r_getR (pc := 1) C kX10_24 h0 (by decide) dX10_tell_1 ?_
  refine r_vI0 (pc := 4) C (fun r M' e => zX2_isTold X.1 (xrf a0 2) (xtk h0 (by decide) rfl rfl) M r M' e) (xtk h0 (by decide) rfl rfl) (by decide) rfl mX2_isTold lX10_135 (by decide) (Nat.le_of_ble_eq_true rfl) dX10_tell_4 h (fun r1 M2 h => ?_)
  refine r_if_eq (pc := 7) (tgt := 19) C dX10_tell_7 (by decide) h (fun _ h => ?_) (fun _ h => ?_)
  · refine r_bipush (pc := 19) (v := (-2)) C dX10_tell_19 (by decide) ?_
    exact r_iret (pc := 21) C R0 h dX10_tell_21
  · refine r_iload_n (pc := 10) C dX10_tell_10 rfl rfl ?_
    refine r_iconst (pc := 11) (v := (nI 0)) C dX10_tell_11 (by decide) ?_
    refine r_iconst (pc := 12) (v := (nI 2)) C dX10_tell_12 (by decide) ?_
    refine r_sI3 (pc := 13) C (fun r M' e => zX10_isWithin X.1 a1 (nI 0) (nI 2) M2 r M' e) mX10_isWithin lX10_152 (by decide) (Nat.le_of_ble_eq_true rfl) dX10_tell_13 h (fun r3 M4 h => ?_)
    refine r_if_ne (pc := 16) (tgt := 22) C dX10_tell_16 (by decide) h (fun _ h => ?_) (fun _ h => ?_)
    · refine r_aload_n (pc := 22) C dX10_tell_22 rfl rfl ?_
      refine r_getR (pc := 23) C kX10_18 h0 (by decide) dX10_tell_23 ?_
      refine r_iconst (pc := 26) (v := (nI 0)) C dX10_tell_26 (by decide) ?_
      refine r_vV1 (pc := 27) C (fun M' e => zX6_cut X.1 (xrf a0 1) (xtk h0 (by decide) rfl rfl) (nI 0) M4 M' e) (xtk h0 (by decide) rfl rfl) (by decide) rfl mX6_cut lX10_79 (by decide) (Nat.le_of_ble_eq_true rfl) dX10_tell_27 h (fun M5 h => ?_)
      refine r_iconst (pc := 30) (v := (nI 0)) C dX10_tell_30 (by decide) ?_
      refine r_istore_n (pc := 31) (lv' := [_, _, _, _, _]) C dX10_tell_31 rfl hn2 rfl ?_
      refine r_iconst (pc := 32) (v := (nI 0)) C dX10_tell_32 (by decide) ?_
      refine r_istore_n (pc := 33) (lv' := [_, _, _, _, _]) C dX10_tell_33 rfl hn3 rfl ?_
      refine lX10_tell_34 C R0 hnL a0 h0 a1 _ (fun v18 v19 M20 h => ?_) _ _ _ _ h
      refine r_iload_n (pc := 129) C dX10_tell_129 rfl rfl ?_
      exact r_iret (pc := 130) C R0 h dX10_tell_130
    · refine r_bipush (pc := 19) (v := (-2)) C dX10_tell_19 (by decide) ?_
      exact r_iret (pc := 21) C R0 h dX10_tell_21
theorem dX10_octet_0 : decode cX10_octet 0 = .ok (.aload_n 0, 1) := by decide +kernel
theorem dX10_octet_1 : decode cX10_octet 1 = .ok (.getfield 18, 3) := by decide +kernel
theorem dX10_octet_4 : decode cX10_octet 4 = .ok (.iload_n 1, 1) := by decide +kernel
theorem dX10_octet_5 : decode cX10_octet 5 = .ok (.invokevirtual 142, 3) := by decide +kernel
theorem dX10_octet_8 : decode cX10_octet 8 = .ok (.ireturn, 1) := by decide +kernel
def fX10_octet (a0 : Nat) (a1 : Int32) (M : xMem) : Option (Int32 × xMem) :=
  xBn (fX6_at (xrf a0 1) a1 M) fun r1 M2 => some (r1, M2)
set_option maxRecDepth 100000 in
set_option maxHeartbeats 4000000 in
theorem zX10_octet (G : xGX) (a0 : Nat) (h0 : xkd a0 = 10) (a1 : Int32) (M : xMem) (r : Int32) (M' : xMem) (h : fX10_octet a0 a1 M = some (r, M')) : xCt G yX10_octet cX10_octet 2 (some .int) 2 [vr G a0, .int a1] M (some (.int r), M') := by
  refine xMet (lv := [some (vr G a0), some (.int a1)]) (by decide) (Nat.le_of_ble_eq_true rfl) rfl ?_
  intro X hG hnL C R0
  subst hG
  have C : xCk X cX10_octet RX10 2 := C
  unfold fX10_octet at h
  refine r_aload_n (pc := 0) C dX10_octet_0 rfl rfl ?_
  refine r_getR (pc := 1) C kX10_18 h0 (by decide) dX10_octet_1 ?_
  refine r_iload_n (pc := 4) C dX10_octet_4 rfl rfl ?_
  refine r_vI1 (pc := 5) C (fun r M' e => zX6_at X.1 (xrf a0 1) (xtk h0 (by decide) rfl rfl) a1 M r M' e) (xtk h0 (by decide) rfl rfl) (by decide) rfl mX6_at lX10_142 (by decide) (Nat.le_of_ble_eq_true rfl) dX10_octet_5 h (fun r1 M2 h => ?_)
  exact r_iret (pc := 8) C R0 h dX10_octet_8
