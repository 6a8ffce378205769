theorem dX11_undo_0 : decode cX11_undo 0 = .ok (.aload_n 0, 1) := by decide +kernel
theorem dX11_undo_1 : decode cX11_undo 1 = .ok (.getfield 338, 3) := by decide +kernel
theorem dX11_undo_4 : decode cX11_undo 4 = .ok (.ifCond .ne 5, 3) := by decide +kernel
theorem dX11_undo_7 : decode cX11_undo 7 = .ok (.iconst (-1), 1) := by decide +kernel
theorem dX11_undo_8 : decode cX11_undo 8 = .ok (.ireturn, 1) := by decide +kernel
theorem dX11_undo_9 : decode cX11_undo 9 = .ok (.aload_n 0, 1) := by decide +kernel
theorem dX11_undo_10 : decode cX11_undo 10 = .ok (.dup, 1) := by decide +kernel
theorem dX11_undo_11 : decode cX11_undo 11 = .ok (.getfield 338, 3) := by decide +kernel
theorem dX11_undo_14 : decode cX11_undo 14 = .ok (.iconst 1, 1) := by decide +kernel
theorem dX11_undo_15 : decode cX11_undo 15 = .ok (.isub, 1) := by decide +kernel
theorem dX11_undo_16 : decode cX11_undo 16 = .ok (.putfield 338, 3) := by decide +kernel
theorem dX11_undo_19 : decode cX11_undo 19 = .ok (.iconst 0, 1) := by decide +kernel
theorem dX11_undo_20 : decode cX11_undo 20 = .ok (.istore_n 1, 1) := by decide +kernel
theorem dX11_undo_21 : decode cX11_undo 21 = .ok (.iload_n 1, 1) := by decide +kernel
theorem dX11_undo_22 : decode cX11_undo 22 = .ok (.sipush 3235, 3) := by decide +kernel
theorem dX11_undo_25 : decode cX11_undo 25 = .ok (.if_icmp .ge 30, 3) := by decide +kernel
theorem dX11_undo_28 : decode cX11_undo 28 = .ok (.aload_n 0, 1) := by decide +kernel
theorem dX11_undo_29 : decode cX11_undo 29 = .ok (.getfield 9, 3) := by decide +kernel
theorem dX11_undo_32 : decode cX11_undo 32 = .ok (.iload_n 1, 1) := by decide +kernel
theorem dX11_undo_33 : decode cX11_undo 33 = .ok (.aload_n 0, 1) := by decide +kernel
theorem dX11_undo_34 : decode cX11_undo 34 = .ok (.getfield 31, 3) := by decide +kernel
theorem dX11_undo_37 : decode cX11_undo 37 = .ok (.sipush 3235, 3) := by decide +kernel
theorem dX11_undo_40 : decode cX11_undo 40 = .ok (.aload_n 0, 1) := by decide +kernel
theorem dX11_undo_41 : decode cX11_undo 41 = .ok (.getfield 338, 3) := by decide +kernel
theorem dX11_undo_44 : decode cX11_undo 44 = .ok (.imul, 1) := by decide +kernel
theorem dX11_undo_45 : decode cX11_undo 45 = .ok (.iload_n 1, 1) := by decide +kernel
theorem dX11_undo_46 : decode cX11_undo 46 = .ok (.iadd, 1) := by decide +kernel
theorem dX11_undo_47 : decode cX11_undo 47 = .ok (.laload, 1) := by decide +kernel
theorem dX11_undo_48 : decode cX11_undo 48 = .ok (.lastore, 1) := by decide +kernel
theorem dX11_undo_49 : decode cX11_undo 49 = .ok (.iinc 1 1, 3) := by decide +kernel
theorem dX11_undo_52 : decode cX11_undo 52 = .ok (.goto (-31), 3) := by decide +kernel
theorem dX11_undo_55 : decode cX11_undo 55 = .ok (.aload_n 0, 1) := by decide +kernel
theorem dX11_undo_56 : decode cX11_undo 56 = .ok (.getfield 338, 3) := by decide +kernel
theorem dX11_undo_59 : decode cX11_undo 59 = .ok (.ireturn, 1) := by decide +kernel
def fX11_undo_l21 (p0 : Nat) (K : Int32 → xMem → Option (Int32 × xMem)) : Nat → Int32 → xMem → Option (Int32 × xMem)
  | 0, _, _ => none
  | n + 1, v1, M => if (nI 3235) ≤ v1 then (K v1 M) else (xGb (((nI 3235) * (M.1 p0 19)) + v1) (xln (xrf p0 20)) (xGb v1 (xln (xrf p0 1)) (xLt (xwL M (xrf p0 1) (Int32.toNatClampNeg v1) (M.2.1 (xrf p0 20) (Int32.toNatClampNeg (((nI 3235) * (M.1 p0 19)) + v1)))) fun M4 => xLt (v1 + nI 1) fun x5 => fX11_undo_l21 p0 K n x5 M4)))
def fX11_undo (a0 : Nat) (M : xMem) : Option (Int32 × xMem) :=
  if (M.1 a0 19) = 0 then (some ((-1), M)) else (xLt (xwI M a0 19 ((M.1 a0 19) - (nI 1))) fun M1 => fX11_undo_l21 a0 (fun (v6 : Int32) (M7 : xMem) => some ((M7.1 a0 19), M7)) xFU (nI 0) M1)
set_option maxRecDepth 100000 in
set_option maxHeartbeats 4000000 in
theorem lX11_undo_21 {X : xCX} {r : Int32} {M' : xMem} (C : xCk X cX11_undo RX11 1) (R0 : xRk X (some .int) (some (.int r), M')) (hnL : X.2.2.2.2.2.2.2.2.2.2.2.2.2 = 2) (p0 : Nat) (hp0 : xkd p0 = 11) (K : Int32 → xMem → Option (Int32 × xMem)) (hK : ∀ (v1 : Int32) (M : xMem), K v1 M = some (r, M') → WW X 55 [some (vr X.1 p0), some (.int v1)] [] M) : ∀ (n : Nat) (v1 : Int32) (M : xMem), fX11_undo_l21 p0 K n v1 M = some (r, M') → WW X 21 [some (vr X.1 p0), some (.int v1)] [] M := by
  have hn1 : 1 < X.2.2.2.2.2.2.2.2.2.2.2.2.2 := by rw [hnL]; decide
  intro n
  induction n with
  | zero =>
    intro v1 M h
    cases (show (none : Option (Int32 × xMem)) = some (r, M') from h)
  | succ n ih =>
    intro v1 M h
    rw [fX11_undo_l21.eq_2] at h
    refine r_iload_n (pc := 21) C dX11_undo_21 rfl rfl ?_
    refine r_sipush (pc := 22) (v := (nI 3235)) C dX11_undo_22 (by decide) ?_
    refine r_icmp_ge (pc := 25) (tgt := 55) C dX11_undo_25 (by decide) h (fun _ h => ?_) (fun _ h => ?_)
    · exact hK v1 M h
    · refine r_aload_n (pc := 28) C dX11_undo_28 rfl rfl ?_
      refine r_getR (pc := 29) C kX11_9 hp0 (by decide) dX11_undo_29 ?_
      refine r_iload_n (pc := 32) C dX11_undo_32 rfl rfl ?_
      refine r_aload_n (pc := 33) C dX11_undo_33 rfl rfl ?_
      refine r_getR (pc := 34) C kX11_31 hp0 (by decide) dX11_undo_34 ?_
      refine r_sipush (pc := 37) (v := (nI 3235)) C dX11_undo_37 (by decide) ?_
      refine r_aload_n (pc := 40) C dX11_undo_40 rfl rfl ?_
      refine r_getI (pc := 41) C kX11_338 hp0 dX11_undo_41 ?_
      refine r_imul (pc := 44) C dX11_undo_44 ?_
      refine r_iload_n (pc := 45) C dX11_undo_45 rfl rfl ?_
      refine r_iadd (pc := 46) C dX11_undo_46 ?_
      obtain ⟨g2, h⟩ := xGb_of h
      refine r_lald (pc := 47) C (xtk hp0 (by decide) rfl rfl) g2 dX11_undo_47 ?_
      obtain ⟨g3, h⟩ := xGb_of h
      refine r_last (pc := 48) C (xtk hp0 (by decide) rfl rfl) g3 dX11_undo_48 ?_
      refine r_letM h (fun M4 h => ?_)
      refine r_iincL (pc := 49) (c := nI 1) C dX11_undo_49 rfl (by decide) hn1 h (fun x5 h => ?_)
      refine r_lvE (lv' := [_, _]) rfl ?_
      refine r_goto (pc := 52) (tgt := 21) C dX11_undo_52 (by decide) ?_
      exact ih x5 M4 h
set_option maxRecDepth 100000 in
set_option maxHeartbeats 4000000 in
theorem zX11_undo (G : xGX) (a0 : Nat) (h0 : xkd a0 = 11) (M : xMem) (r : Int32) (M' : xMem) (h : fX11_undo a0 M = some (r, M')) : xCt G yX11_undo cX11_undo 2 (some .int) 1 [vr G a0] M (some (.int r), M') := by
  refine xMet (lv := [some (vr G a0), none]) (by decide) (Nat.le_of_ble_eq_true rfl) rfl ?_
  intro X hG hnL C R0
  subst hG
  have C : xCk X cX11_undo RX11 1 := C
  have hn1 : 1 < X.2.2.2.2.2.2.2.2.2.2.2.2.2 := by rw [hnL]; decide
  unfold fX11_undo at h
  refine r_aload_n (pc := 0) C dX11_undo_0 rfl rfl ?_
  refine r_getI (pc := 1) C kX11_338 h0 dX11_undo_1 ?_
  refine r_if_ne (pc := 4) (tgt := 9) C dX11_undo_4 (by decide) h (fun _ h => ?_) (fun _ h => ?_)
  · refine r_aload_n (pc := 9) C dX11_undo_9 rfl rfl ?_
    refine r_dup (pc := 10) C rfl dX11_undo_10 ?_
    refine r_getI (pc := 11) C kX11_338 h0 dX11_undo_11 ?_
    refine r_iconst (pc := 14) (v := (nI 1)) C dX11_undo_14 (by decide) ?_
    refine r_isub (pc := 15) C dX11_undo_15 ?_
    refine r_putI (pc := 16) C kX11_338 h0 dX11_undo_16 ?_
    refine r_letM h (fun M1 h => ?_)
    refine r_iconst (pc := 19) (v := (nI 0)) C dX11_undo_19 (by decide) ?_
    refine r_istore_n (pc := 20) (lv' := [_, _]) C dX11_undo_20 rfl hn1 rfl ?_
    refine lX11_undo_21 C R0 hnL a0 h0 _ (fun v6 M7 h => ?_) _ _ _ h
    refine r_aload_n (pc := 55) C dX11_undo_55 rfl rfl ?_
    refine r_getI (pc := 56) C kX11_338 h0 dX11_undo_56 ?_
    exact r_iret (pc := 59) C R0 h dX11_undo_59
  · refine r_iconst (pc := 7) (v := (-1)) C dX11_undo_7 (by decide) ?_
    exact r_iret (pc := 8) C R0 h dX11_undo_8
theorem dX11_count_0 : decode cX11_count 0 = .ok (.iload_n 1, 1) := by decide +kernel
theorem dX11_count_1 : decode cX11_count 1 = .ok (.tableswitch 95 0 7 #[47, 53, 59, 66, 73, 80, 85, 90], 47) := by decide +kernel
theorem dX11_count_48 : decode cX11_count 48 = .ok (.aload_n 0, 1) := by decide +kernel
theorem dX11_count_49 : decode cX11_count 49 = .ok (.iconst 0, 1) := by decide +kernel
theorem dX11_count_50 : decode cX11_count 50 = .ok (.invokevirtual 59, 3) := by decide +kernel
theorem dX11_count_53 : decode cX11_count 53 = .ok (.ireturn, 1) := by decide +kernel
theorem dX11_count_54 : decode cX11_count 54 = .ok (.aload_n 0, 1) := by decide +kernel
theorem dX11_count_55 : decode cX11_count 55 = .ok (.iconst 1, 1) := by decide +kernel
theorem dX11_count_56 : decode cX11_count 56 = .ok (.invokevirtual 59, 3) := by decide +kernel
theorem dX11_count_59 : decode cX11_count 59 = .ok (.ireturn, 1) := by decide +kernel
theorem dX11_count_60 : decode cX11_count 60 = .ok (.aload_n 0, 1) := by decide +kernel
theorem dX11_count_61 : decode cX11_count 61 = .ok (.bipush 25, 2) := by decide +kernel
theorem dX11_count_63 : decode cX11_count 63 = .ok (.invokevirtual 43, 3) := by decide +kernel
theorem dX11_count_66 : decode cX11_count 66 = .ok (.ireturn, 1) := by decide +kernel
theorem dX11_count_67 : decode cX11_count 67 = .ok (.aload_n 0, 1) := by decide +kernel
theorem dX11_count_68 : decode cX11_count 68 = .ok (.bipush 26, 2) := by decide +kernel
theorem dX11_count_70 : decode cX11_count 70 = .ok (.invokevirtual 43, 3) := by decide +kernel
theorem dX11_count_73 : decode cX11_count 73 = .ok (.ireturn, 1) := by decide +kernel
theorem dX11_count_74 : decode cX11_count 74 = .ok (.aload_n 0, 1) := by decide +kernel
theorem dX11_count_75 : decode cX11_count 75 = .ok (.bipush 27, 2) := by decide +kernel
theorem dX11_count_77 : decode cX11_count 77 = .ok (.invokevirtual 43, 3) := by decide +kernel
theorem dX11_count_80 : decode cX11_count 80 = .ok (.ireturn, 1) := by decide +kernel
theorem dX11_count_81 : decode cX11_count 81 = .ok (.aload_n 0, 1) := by decide +kernel
theorem dX11_count_82 : decode cX11_count 82 = .ok (.getfield 338, 3) := by decide +kernel
theorem dX11_count_85 : decode cX11_count 85 = .ok (.ireturn, 1) := by decide +kernel
theorem dX11_count_86 : decode cX11_count 86 = .ok (.aload_n 0, 1) := by decide +kernel
theorem dX11_count_87 : decode cX11_count 87 = .ok (.getfield 139, 3) := by decide +kernel
theorem dX11_count_90 : decode cX11_count 90 = .ok (.ireturn, 1) := by decide +kernel
theorem dX11_count_91 : decode cX11_count 91 = .ok (.aload_n 0, 1) := by decide +kernel
theorem dX11_count_92 : decode cX11_count 92 = .ok (.getfield 341, 3) := by decide +kernel
theorem dX11_count_95 : decode cX11_count 95 = .ok (.ireturn, 1) := by decide +kernel
theorem dX11_count_96 : decode cX11_count 96 = .ok (.iconst (-1), 1) := by decide +kernel
theorem dX11_count_97 : decode cX11_count 97 = .ok (.ireturn, 1) := by decide +kernel
def fX11_count (a0 : Nat) (a1 : Int32) (M : xMem) : Option (Int32 × xMem) :=
  if a1 = nI 0 then (xBn (fX11_many a0 (nI 0) M) fun r2 M3 => some (r2, M3)) else (if a1 = nI 1 then (xBn (fX11_many a0 (nI 1) M) fun r5 M6 => some (r5, M6)) else (if a1 = nI 2 then (xBn (fX11_get a0 (nI 25) M) fun r8 M9 => some (r8, M9)) else (if a1 = nI 3 then (xBn (fX11_get a0 (nI 26) M) fun r11 M12 => some (r11, M12)) else (if a1 = nI 4 then (xBn (fX11_get a0 (nI 27) M) fun r14 M15 => some (r14, M15)) else (if a1 = nI 5 then (some ((M.1 a0 19), M)) else (if a1 = nI 6 then (some ((M.1 a0 11), M)) else (if a1 = nI 7 then (some ((M.1 a0 22), M)) else (some ((-1), M)))))))))
set_option maxRecDepth 100000 in
set_option maxHeartbeats 4000000 in
theorem zX11_count (G : xGX) (a0 : Nat) (h0 : xkd a0 = 11) (a1 : Int32) (M : xMem) (r : Int32) (M' : xMem) (h : fX11_count a0 a1 M = some (r, M')) : xCt G yX11_count cX11_count 2 (some .int) 3 [vr G a0, .int a1] M (some (.int r), M') := by
  refine xMet (lv := [some (vr G a0), some (.int a1)]) (by decide) (Nat.le_of_ble_eq_true rfl) rfl ?_
  intro X hG hnL C R0
  subst hG
  have C : xCk X cX11_count RX11 3 := C
  unfold fX11_count at h
  refine r_iload_n (pc := 0) C dX11_count_0 rfl rfl ?_
  refine r_tb h (fun e1 h => ?_) (fun e1 h => ?_)
  · refine r_tabInE (pc := 1) (tgt := 48) e1 C dX11_count_1 (by decide) (by decide) rfl (by decide) ?_
    refine r_aload_n (pc := 48) C dX11_count_48 rfl rfl ?_
    refine r_iconst (pc := 49) (v := (nI 0)) C dX11_count_49 (by decide) ?_
    refine r_vI1 (pc := 50) C (fun r M' e => zX11_many X.1 a0 h0 (nI 0) M r M' e) h0 (by decide) rfl mX11_many lX11_59 (by decide) (Nat.le_of_ble_eq_true rfl) dX11_count_50 h (fun r2 M3 h => ?_)
    exact r_iret (pc := 53) C R0 h dX11_count_53
  refine r_tb h (fun e4 h => ?_) (fun e4 h => ?_)
  · refine r_tabInE (pc := 1) (tgt := 54) e4 C dX11_count_1 (by decide) (by decide) rfl (by decide) ?_
    refine r_aload_n (pc := 54) C dX11_count_54 rfl rfl ?_
    refine r_iconst (pc := 55) (v := (nI 1)) C dX11_count_55 (by decide) ?_
    refine r_vI1 (pc := 56) C (fun r M' e => zX11_many X.1 a0 h0 (nI 1) M r M' e) h0 (by decide) rfl mX11_many lX11_59 (by decide) (Nat.le_of_ble_eq_true rfl) dX11_count_56 h (fun r5 M6 h => ?_)
    exact r_iret (pc := 59) C R0 h dX11_count_59
  refine r_tb h (fun e7 h => ?_) (fun e7 h => ?_)
  · refine r_tabInE (pc := 1) (tgt := 60) e7 C dX11_count_1 (by decide) (by decide) rfl (by decide) ?_
    refine r_aload_n (pc := 60) C dX11_count_60 rfl rfl ?_
    refine r_bipush (pc := 61) (v := (nI 25)) C dX11_count_61 (by decide) ?_
    refine r_vI1 (pc := 63) C (fun r M' e => zX11_get X.1 a0 h0 (nI 25) M r M' e) h0 (by decide) rfl mX11_get lX11_43 (by decide) (Nat.le_of_ble_eq_true rfl) dX11_count_63 h (fun r8 M9 h => ?_)
    exact r_iret (pc := 66) C R0 h dX11_count_66
  refine r_tb h (fun e10 h => ?_) (fun e10 h => ?_)
  · refine r_tabInE (pc := 1) (tgt := 67) e10 C dX11_count_1 (by decide) (by decide) rfl (by decide) ?_
    refine r_aload_n (pc := 67) C dX11_count_67 rfl rfl ?_
    refine r_bipush (pc := 68) (v := (nI 26)) C dX11_count_68 (by decide) ?_
    refine r_vI1 (pc := 70) C (fun r M' e => zX11_get X.1 a0 h0 (nI 26) M r M' e) h0 (by decide) rfl mX11_get lX11_43 (by decide) (Nat.le_of_ble_eq_true rfl) dX11_count_70 h (fun r11 M12 h => ?_)
    exact r_iret (pc := 73) C R0 h dX11_count_73
  refine r_tb h (fun e13 h => ?_) (fun e13 h => ?_)
  · refine r_tabInE (pc := 1) (tgt := 74) e13 C dX11_count_1 (by decide) (by decide) rfl (by decide) ?_
    refine r_aload_n (pc := 74) C dX11_count_74 rfl rfl ?_
    refine r_bipush (pc := 75) (v := (nI 27)) C dX11_count_75 (by decide) ?_
    refine r_vI1 (pc := 77) C (fun r M' e => zX11_get X.1 a0 h0 (nI 27) M r M' e) h0 (by decide) rfl mX11_get lX11_43 (by decide) (Nat.le_of_ble_eq_true rfl) dX11_count_77 h (fun r14 M15 h => ?_)
    exact r_iret (pc := 80) C R0 h dX11_count_80
  refine r_tb h (fun e16 h => ?_) (fun e16 h => ?_)
  · refine r_tabInE (pc := 1) (tgt := 81) e16 C dX11_count_1 (by decide) (by decide) rfl (by decide) ?_
    refine r_aload_n (pc := 81) C dX11_count_81 rfl rfl ?_
    refine r_getI (pc := 82) C kX11_338 h0 dX11_count_82 ?_
    exact r_iret (pc := 85) C R0 h dX11_count_85
  refine r_tb h (fun e17 h => ?_) (fun e17 h => ?_)
  · refine r_tabInE (pc := 1) (tgt := 86) e17 C dX11_count_1 (by decide) (by decide) rfl (by decide) ?_
    refine r_aload_n (pc := 86) C dX11_count_86 rfl rfl ?_
    refine r_getI (pc := 87) C kX11_139 h0 dX11_count_87 ?_
    exact r_iret (pc := 90) C R0 h dX11_count_90
  refine r_tb h (fun e18 h => ?_) (fun e18 h => ?_)
  · refine r_tabInE (pc := 1) (tgt := 91) e18 C dX11_count_1 (by decide) (by decide) rfl (by decide) ?_
    refine r_aload_n (pc := 91) C dX11_count_91 rfl rfl ?_
    refine r_getI (pc := 92) C kX11_341 h0 dX11_count_92 ?_
    exact r_iret (pc := 95) C R0 h dX11_count_95
  refine r_tabOut (pc := 1) (tgt := 96) C dX11_count_1 (xtabout 0 7 (fun k hk hk2 => by rcases (show k = 0 ∨ k = 1 ∨ k = 2 ∨ k = 3 ∨ k = 4 ∨ k = 5 ∨ k = 6 ∨ k = 7 by omega) with rfl | rfl | rfl | rfl | rfl | rfl | rfl | rfl <;> assumption)) (by decide) ?_
  refine r_iconst (pc := 96) (v := (-1)) C dX11_count_96 (by decide) ?_
  exact r_iret (pc := 97) C R0 h dX11_count_97
theorem dX11_letter_0 : decode cX11_letter 0 = .ok (.aload_n 0, 1) := by decide +kernel
theorem dX11_letter_1 : decode cX11_letter 1 = .ok (.iload_n 1, 1) := by decide +kernel
theorem dX11_letter_2 : decode cX11_letter 2 = .ok (.invokevirtual 55, 3) := by decide +kernel
theorem dX11_letter_5 : decode cX11_letter 5 = .ok (.ifCond .eq 15, 3) := by decide +kernel
theorem dX11_letter_8 : decode cX11_letter 8 = .ok (.iload_n 2, 1) := by decide +kernel
theorem dX11_letter_9 : decode cX11_letter 9 = .ok (.i2l, 1) := by decide +kernel
theorem dX11_letter_10 : decode cX11_letter 10 = .ok (.lconst 0, 1) := by decide +kernel
theorem dX11_letter_11 : decode cX11_letter 11 = .ok (.ldc2_w 296, 3) := by decide +kernel
theorem dX11_letter_14 : decode cX11_letter 14 = .ok (.invokestatic 51, 3) := by decide +kernel
theorem dX11_letter_17 : decode cX11_letter 17 = .ok (.ifCond .ne 6, 3) := by decide +kernel
theorem dX11_letter_20 : decode cX11_letter 20 = .ok (.bipush (-2), 2) := by decide +kernel
theorem dX11_letter_22 : decode cX11_letter 22 = .ok (.ireturn, 1) := by decide +kernel
theorem dX11_letter_23 : decode cX11_letter 23 = .ok (.aload_n 0, 1) := by decide +kernel
theorem dX11_letter_24 : decode cX11_letter 24 = .ok (.iconst 3, 1) := by decide +kernel
theorem dX11_letter_25 : decode cX11_letter 25 = .ok (.iload_n 1, 1) := by decide +kernel
theorem dX11_letter_26 : decode cX11_letter 26 = .ok (.iadd, 1) := by decide +kernel
theorem dX11_letter_27 : decode cX11_letter 27 = .ok (.invokevirtual 43, 3) := by decide +kernel
theorem dX11_letter_30 : decode cX11_letter 30 = .ok (.istore_n 3, 1) := by decide +kernel
theorem dX11_letter_31 : decode cX11_letter 31 = .ok (.iload_n 2, 1) := by decide +kernel
theorem dX11_letter_32 : decode cX11_letter 32 = .ok (.istore 4, 2) := by decide +kernel
theorem dX11_letter_34 : decode cX11_letter 34 = .ok (.iload 4, 2) := by decide +kernel
theorem dX11_letter_36 : decode cX11_letter 36 = .ok (.iconst 5, 1) := by decide +kernel
theorem dX11_letter_37 : decode cX11_letter 37 = .ok (.if_icmp .ge 14, 3) := by decide +kernel
theorem dX11_letter_40 : decode cX11_letter 40 = .ok (.iload_n 3, 1) := by decide +kernel
theorem dX11_letter_41 : decode cX11_letter 41 = .ok (.bipush 27, 2) := by decide +kernel
theorem dX11_letter_43 : decode cX11_letter 43 = .ok (.idiv, 1) := by decide +kernel
theorem dX11_letter_44 : decode cX11_letter 44 = .ok (.istore_n 3, 1) := by decide +kernel
theorem dX11_letter_45 : decode cX11_letter 45 = .ok (.iinc 4 1, 3) := by decide +kernel
theorem dX11_letter_48 : decode cX11_letter 48 = .ok (.goto (-14), 3) := by decide +kernel
theorem dX11_letter_51 : decode cX11_letter 51 = .ok (.iload_n 3, 1) := by decide +kernel
theorem dX11_letter_52 : decode cX11_letter 52 = .ok (.bipush 27, 2) := by decide +kernel
theorem dX11_letter_54 : decode cX11_letter 54 = .ok (.irem, 1) := by decide +kernel
theorem dX11_letter_55 : decode cX11_letter 55 = .ok (.ireturn, 1) := by decide +kernel
def fX11_letter_l34 (p0 : Nat) (p1 : Int32) (p2 : Int32) (K : Int32 → Int32 → xMem → Option (Int32 × xMem)) : Nat → Int32 → Int32 → xMem → Option (Int32 × xMem)
  | 0, _, _, _ => none
  | n + 1, v3, v4, M => if (nI 5) ≤ v4 then (K v3 v4 M) else (xLt (v3 / (nI 27)) fun x7 => xLt (v4 + nI 1) fun x8 => fX11_letter_l34 p0 p1 p2 K n x7 x8 M)
def fX11_letter (a0 : Nat) (a1 : Int32) (a2 : Int32) (M : xMem) : Option (Int32 × xMem) :=
  xBn (fX11_isTeam a0 a1 M) fun r1 M2 => if r1 = 0 then (some ((-2), M2)) else (xBn (fX11_in (Int32.toInt64 a2) (lN 0) (lN 5) M2) fun r3 M4 => if r3 = 0 then (some ((-2), M4)) else (xBn (fX11_get a0 ((nI 3) + a1) M4) fun r5 M6 => fX11_letter_l34 a0 a1 a2 (fun (v9 : Int32) (v10 : Int32) (M11 : xMem) => some ((v9 - v9 / (nI 27) * (nI 27)), M11)) xFU r5 a2 M6))
set_option maxRecDepth 100000 in
set_option maxHeartbeats 4000000 in
theorem lX11_letter_34 {X : xCX} {r : Int32} {M' : xMem} (C : xCk X cX11_letter RX11 3) (R0 : xRk X (some .int) (some (.int r), M')) (hnL : X.2.2.2.2.2.2.2.2.2.2.2.2.2 = 5) (p0 : Nat) (hp0 : xkd p0 = 11) (p1 : Int32) (p2 : Int32) (K : Int32 → Int32 → xMem → Option (Int32 × xMem)) (hK : ∀ (v3 : Int32) (v4 : Int32) (M : xMem), K v3 v4 M = some (r, M') → WW X 51 [some (vr X.1 p0), some (.int p1), some (.int p2), some (.int v3), some (.int v4)] [] M) : ∀ (n : Nat) (v3 : Int32) (v4 : Int32) (M : xMem), fX11_letter_l34 p0 p1 p2 K n v3 v4 M = some (r, M') → WW X 34 [some (vr X.1 p0), some (.int p1), some (.int p2), some (.int v3), some (.int v4)] [] M := by
  have hn3 : 3 < X.2.2.2.2.2.2.2.2.2.2.2.2.2 := by rw [hnL]; decide
  have hn4 : 4 < X.2.2.2.2.2.2.2.2.2.2.2.2.2 := by rw [hnL]; decide
  intro n
  induction n with
  | zero =>
    intro v3 v4 M h
    cases (show (none : Option (Int32 × xMem)) = some (r, M') from h)
  | succ n ih =>
    intro v3 v4 M h
    rw [fX11_letter_l34.eq_2] at h
    refine r_iload (pc := 34) C dX11_letter_34 rfl ?_
    refine r_iconst (pc := 36) (v := (nI 5)) C dX11_letter_36 (by decide) ?_
    refine r_icmp_ge (pc := 37) (tgt := 51) C dX11_letter_37 (by decide) h (fun _ h => ?_) (fun _ h => ?_)
    · exact hK v3 v4 M h
    · refine r_iload_n (pc := 40) C dX11_letter_40 rfl rfl ?_
      refine r_bipush (pc := 41) (v := (nI 27)) C dX11_letter_41 (by decide) ?_
      refine r_idiv (pc := 43) C (by decide) dX11_letter_43 ?_
      refine r_letI h (fun x7 h => ?_)
      refine r_istore_n (pc := 44) (lv' := [_, _, _, _, _]) C dX11_letter_44 rfl hn3 rfl ?_
      refine r_iincL (pc := 45) (c := nI 1) C dX11_letter_45 rfl (by decide) hn4 h (fun x8 h => ?_)
      refine r_lvE (lv' := [_, _, _, _, _]) rfl ?_
      refine r_goto (pc := 48) (tgt := 34) C dX11_letter_48 (by decide) ?_
      exact ih x7 x8 M h
set_option maxRecDepth 100000 in
set_option maxHeartbeats 4000000 in
theorem zX11_letter (G : xGX) (a0 : Nat) (h0 : xkd a0 = 11) (a1 : Int32) (a2 : Int32) (M : xMem) (r : Int32) (M' : xMem) (h : fX11_letter a0 a1 a2 M = some (r, M')) : xCt G yX11_letter cX11_letter 5 (some .int) 3 [vr G a0, .int a1, .int a2] M (some (.int r), M') := by
  refine xMet (lv := [some (vr G a0), some (.int a1), some (.int a2), none, none]) (by decide) (Nat.le_of_ble_eq_true rfl) rfl ?_
  intro X hG hnL C R0
  subst hG
  have C : xCk X cX11_letter RX11 3 := C
  have hn3 : 3 < X.2.2.2.2.2.2.2.2.2.2.2.2.2 := by rw [hnL]; decide
  have hn4 : 4 < X.2.2.2.2.2.2.2.2.2.2.2.2.2 := by rw [hnL]; decide
  unfold fX11_letter at h
  refine r_aload_n (pc := 0) C dX11_letter_0 rfl rfl ?_
  refine r_iload_n (pc := 1) C dX11_letter_1 rfl rfl ?_
  refine r_vI1 (pc := 2) C (fun r M' e => zX11_isTeam X.1 a0 h0 a1 M r M' e) h0 (by decide) rfl mX11_isTeam lX11_55 (by decide) (Nat.le_of_ble_eq_true rfl) dX11_letter_2 h (fun r1 M2 h => ?_)
  refine r_if_eq (pc := 5) (tgt := 20) C dX11_letter_5 (by decide) h (fun _ h => ?_) (fun _ h => ?_)
  · refine r_bipush (pc := 20) (v := (-2)) C dX11_letter_20 (by decide) ?_
    exact r_iret (pc := 22) C R0 h dX11_letter_22
  · refine r_iload_n (pc := 8) C dX11_letter_8 rfl rfl ?_
    refine r_i2l (pc := 9) C dX11_letter_9 ?_
    refine r_lconst (pc := 10) (v := lN 0) C dX11_letter_10 rfl ?_
    refine r_ldc2 (pc := 11) C nX11_296 dX11_letter_11 ?_
    refine r_sI3 (pc := 14) C (fun r M' e => zX11_in X.1 (Int32.toInt64 a2) (lN 0) (lN 5) M2 r M' e) mX11_in lX11_51 (by decide) (Nat.le_of_ble_eq_true rfl) dX11_letter_14 h (fun r3 M4 h => ?_)
    refine r_if_ne (pc := 17) (tgt := 23) C dX11_letter_17 (by decide) h (fun _ h => ?_) (fun _ h => ?_)
    · refine r_aload_n (pc := 23) C dX11_letter_23 rfl rfl ?_
      refine r_iconst (pc := 24) (v := (nI 3)) C dX11_letter_24 (by decide) ?_
      refine r_iload_n (pc := 25) C dX11_letter_25 rfl rfl ?_
      refine r_iadd (pc := 26) C dX11_letter_26 ?_
      refine r_vI1 (pc := 27) C (fun r M' e => zX11_get X.1 a0 h0 ((nI 3) + a1) M4 r M' e) h0 (by decide) rfl mX11_get lX11_43 (by decide) (Nat.le_of_ble_eq_true rfl) dX11_letter_27 h (fun r5 M6 h => ?_)
      refine r_istore_n (pc := 30) (lv' := [_, _, _, _, _]) C dX11_letter_30 rfl hn3 rfl ?_
      refine r_iload_n (pc := 31) C dX11_letter_31 rfl rfl ?_
      refine r_istore (pc := 32) (lv' := [_, _, _, _, _]) C dX11_letter_32 hn4 rfl ?_
      refine lX11_letter_34 C R0 hnL a0 h0 a1 a2 _ (fun v9 v10 M11 h => ?_) _ _ _ _ h
      refine r_iload_n (pc := 51) C dX11_letter_51 rfl rfl ?_
      refine r_bipush (pc := 52) (v := (nI 27)) C dX11_letter_52 (by decide) ?_
      refine r_irem (pc := 54) C (by decide) dX11_letter_54 ?_
      exact r_iret (pc := 55) C R0 h dX11_letter_55
    · refine r_bipush (pc := 20) (v := (-2)) C dX11_letter_20 (by decide) ?_
      exact r_iret (pc := 22) C R0 h dX11_letter_22
theorem dX11_shirt_0 : decode cX11_shirt 0 = .ok (.aload_n 0, 1) := by decide +kernel
theorem dX11_shirt_1 : decode cX11_shirt 1 = .ok (.iload_n 1, 1) := by decide +kernel
theorem dX11_shirt_2 : decode cX11_shirt 2 = .ok (.iload_n 2, 1) := by decide +kernel
theorem dX11_shirt_3 : decode cX11_shirt 3 = .ok (.invokevirtual 344, 3) := by decide +kernel
theorem dX11_shirt_6 : decode cX11_shirt 6 = .ok (.ifCond .eq 18, 3) := by decide +kernel
theorem dX11_shirt_9 : decode cX11_shirt 9 = .ok (.aload_n 0, 1) := by decide +kernel
theorem dX11_shirt_10 : decode cX11_shirt 10 = .ok (.iconst 5, 1) := by decide +kernel
theorem dX11_shirt_11 : decode cX11_shirt 11 = .ok (.bipush 10, 2) := by decide +kernel
theorem dX11_shirt_13 : decode cX11_shirt 13 = .ok (.iload_n 1, 1) := by decide +kernel
theorem dX11_shirt_14 : decode cX11_shirt 14 = .ok (.imul, 1) := by decide +kernel
theorem dX11_shirt_15 : decode cX11_shirt 15 = .ok (.iadd, 1) := by decide +kernel
theorem dX11_shirt_16 : decode cX11_shirt 16 = .ok (.iload_n 2, 1) := by decide +kernel
theorem dX11_shirt_17 : decode cX11_shirt 17 = .ok (.iadd, 1) := by decide +kernel
theorem dX11_shirt_18 : decode cX11_shirt 18 = .ok (.invokevirtual 43, 3) := by decide +kernel
theorem dX11_shirt_21 : decode cX11_shirt 21 = .ok (.goto 5, 3) := by decide +kernel
theorem dX11_shirt_24 : decode cX11_shirt 24 = .ok (.bipush (-2), 2) := by decide +kernel
theorem dX11_shirt_26 : decode cX11_shirt 26 = .ok (.ireturn, 1) := by decide +kernel
def fX11_shirt (a0 : Nat) (a1 : Int32) (a2 : Int32) (M : xMem) : Option (Int32 × xMem) :=
  xBn (fX11_isOne a0 a1 a2 M) fun r1 M2 => if r1 = 0 then (some ((-2), M2)) else (xBn (fX11_get a0 (((nI 5) + ((nI 10) * a1)) + a2) M2) fun r3 M4 => some (r3, M4))
set_option maxRecDepth 100000 in
set_option maxHeartbeats 4000000 in
theorem zX11_shirt (G : xGX) (a0 : Nat) (h0 : xkd a0 = 11) (a1 : Int32) (a2 : Int32) (M : xMem) (r : Int32) (M' : xMem) (h : fX11_shirt a0 a1 a2 M = some (r, M')) : xCt G yX11_shirt cX11_shirt 3 (some .int) 4 [vr G a0, .int a1, .int a2] M (some (.int r), M') := by
  refine xMet (lv := [some (vr G a0), some (.int a1), some (.int a2)]) (by decide) (Nat.le_of_ble_eq_true rfl) rfl ?_
  intro X hG hnL C R0
  subst hG
  have C : xCk X cX11_shirt RX11 4 := C
  unfold fX11_shirt at h
  refine r_aload_n (pc := 0) C dX11_shirt_0 rfl rfl ?_
  refine r_iload_n (pc := 1) C dX11_shirt_1 rfl rfl ?_
  refine r_iload_n (pc := 2) C dX11_shirt_2 rfl rfl ?_
  refine r_vI2 (pc := 3) C (fun r M' e => zX11_isOne X.1 a0 h0 a1 a2 M r M' e) h0 (by decide) rfl mX11_isOne lX11_344 (by decide) (Nat.le_of_ble_eq_true rfl) dX11_shirt_3 h (fun r1 M2 h => ?_)
  refine r_if_eq (pc := 6) (tgt := 24) C dX11_shirt_6 (by decide) h (fun _ h => ?_) (fun _ h => ?_)
  · refine r_bipush (pc := 24) (v := (-2)) C dX11_shirt_24 (by decide) ?_
    exact r_iret (pc := 26) C R0 h dX11_shirt_26
  · refine r_aload_n (pc := 9) C dX11_shirt_9 rfl rfl ?_
    refine r_iconst (pc := 10) (v := (nI 5)) C dX11_shirt_10 (by decide) ?_
    refine r_bipush (pc := 11) (v := (nI 10)) C dX11_shirt_11 (by decide) ?_
    refine r_iload_n (pc := 13) C dX11_shirt_13 rfl rfl ?_
    refine r_imul (pc := 14) C dX11_shirt_14 ?_
    refine r_iadd (pc := 15) C dX11_shirt_15 ?_
    refine r_iload_n (pc := 16) C dX11_shirt_16 rfl rfl ?_
    refine r_iadd (pc := 17) C dX11_shirt_17 ?_
    refine r_vI1 (pc := 18) C (fun r M' e => zX11_get X.1 a0 h0 (((nI 5) + ((nI 10) * a1)) + a2) M2 r M' e) h0 (by decide) rfl mX11_get lX11_43 (by decide) (Nat.le_of_ble_eq_true rfl) dX11_shirt_18 h (fun r3 M4 h => ?_)
    refine r_goto (pc := 21) (tgt := 26) C dX11_shirt_21 (by decide) ?_
    exact r_iret (pc := 26) C R0 h dX11_shirt_26
theorem dX11_who_0 : decode cX11_who 0 = .ok (.aload_n 0, 1) := by decide +kernel
theorem dX11_who_1 : decode cX11_who 1 = .ok (.iload_n 1, 1) := by decide +kernel
theorem dX11_who_2 : decode cX11_who 2 = .ok (.invokevirtual 55, 3) := by decide +kernel
theorem dX11_who_5 : decode cX11_who 5 = .ok (.ifCond .eq 24, 3) := by decide +kernel
theorem dX11_who_8 : decode cX11_who 8 = .ok (.iload_n 2, 1) := by decide +kernel
theorem dX11_who_9 : decode cX11_who 9 = .ok (.i2l, 1) := by decide +kernel
theorem dX11_who_10 : decode cX11_who 10 = .ok (.lconst 1, 1) := by decide +kernel
theorem dX11_who_11 : decode cX11_who 11 = .ok (.ldc2_w 250, 3) := by decide +kernel
theorem dX11_who_14 : decode cX11_who 14 = .ok (.invokestatic 51, 3) := by decide +kernel
theorem dX11_who_17 : decode cX11_who 17 = .ok (.ifCond .eq 12, 3) := by decide +kernel
theorem dX11_who_20 : decode cX11_who 20 = .ok (.aload_n 0, 1) := by decide +kernel
theorem dX11_who_21 : decode cX11_who 21 = .ok (.iload_n 1, 1) := by decide +kernel
theorem dX11_who_22 : decode cX11_who 22 = .ok (.iload_n 2, 1) := by decide +kernel
theorem dX11_who_23 : decode cX11_who 23 = .ok (.invokevirtual 255, 3) := by decide +kernel
theorem dX11_who_26 : decode cX11_who 26 = .ok (.goto 5, 3) := by decide +kernel
theorem dX11_who_29 : decode cX11_who 29 = .ok (.bipush (-2), 2) := by decide +kernel
theorem dX11_who_31 : decode cX11_who 31 = .ok (.ireturn, 1) := by decide +kernel
def fX11_who (a0 : Nat) (a1 : Int32) (a2 : Int32) (M : xMem) : Option (Int32 × xMem) :=
  xBn (fX11_isTeam a0 a1 M) fun r1 M2 => if r1 = 0 then (some ((-2), M2)) else (xBn (fX11_in (Int32.toInt64 a2) (lN 1) (lN 99) M2) fun r3 M4 => if r3 = 0 then (some ((-2), M4)) else (xBn (fX11_findShirt a0 a1 a2 M4) fun r5 M6 => some (r5, M6)))
set_option maxRecDepth 100000 in
set_option maxHeartbeats 4000000 in
theorem zX11_who (G : xGX) (a0 : Nat) (h0 : xkd a0 = 11) (a1 : Int32) (a2 : Int32) (M : xMem) (r : Int32) (M' : xMem) (h : fX11_who a0 a1 a2 M = some (r, M')) : xCt G yX11_who cX11_who 3 (some .int) 4 [vr G a0, .int a1, .int a2] M (some (.int r), M') := by
  refine xMet (lv := [some (vr G a0), some (.int a1), some (.int a2)]) (by decide) (Nat.le_of_ble_eq_true rfl) rfl ?_
  intro X hG hnL C R0
  subst hG
  have C : xCk X cX11_who RX11 4 := C
  unfold fX11_who at h
  refine r_aload_n (pc := 0) C dX11_who_0 rfl rfl ?_
  refine r_iload_n (pc := 1) C dX11_who_1 rfl rfl ?_
  refine r_vI1 (pc := 2) C (fun r M' e => zX11_isTeam X.1 a0 h0 a1 M r M' e) h0 (by decide) rfl mX11_isTeam lX11_55 (by decide) (Nat.le_of_ble_eq_true rfl) dX11_who_2 h (fun r1 M2 h => ?_)
  refine r_if_eq (pc := 5) (tgt := 29) C dX11_who_5 (by decide) h (fun _ h => ?_) (fun _ h => ?_)
  · refine r_bipush (pc := 29) (v := (-2)) C dX11_who_29 (by decide) ?_
    exact r_iret (pc := 31) C R0 h dX11_who_31
  · refine r_iload_n (pc := 8) C dX11_who_8 rfl rfl ?_
    refine r_i2l (pc := 9) C dX11_who_9 ?_
    refine r_lconst (pc := 10) (v := lN 1) C dX11_who_10 rfl ?_
    refine r_ldc2 (pc := 11) C nX11_250 dX11_who_11 ?_
    refine r_sI3 (pc := 14) C (fun r M' e => zX11_in X.1 (Int32.toInt64 a2) (lN 1) (lN 99) M2 r M' e) mX11_in lX11_51 (by decide) (Nat.le_of_ble_eq_true rfl) dX11_who_14 h (fun r3 M4 h => ?_)
    refine r_if_eq (pc := 17) (tgt := 29) C dX11_who_17 (by decide) h (fun _ h => ?_) (fun _ h => ?_)
    · refine r_bipush (pc := 29) (v := (-2)) C dX11_who_29 (by decide) ?_
      exact r_iret (pc := 31) C R0 h dX11_who_31
    · refine r_aload_n (pc := 20) C dX11_who_20 rfl rfl ?_
      refine r_iload_n (pc := 21) C dX11_who_21 rfl rfl ?_
      refine r_iload_n (pc := 22) C dX11_who_22 rfl rfl ?_
      refine r_vI2 (pc := 23) C (fun r M' e => zX11_findShirt X.1 a0 h0 a1 a2 M4 r M' e) h0 (by decide) rfl mX11_findShirt lX11_255 (by decide) (Nat.le_of_ble_eq_true rfl) dX11_who_23 h (fun r5 M6 h => ?_)
      refine r_goto (pc := 26) (tgt := 31) C dX11_who_26 (by decide) ?_
      exact r_iret (pc := 31) C R0 h dX11_who_31
theorem dX11_is_0 : decode cX11_is 0 = .ok (.aload_n 0, 1) := by decide +kernel
theorem dX11_is_1 : decode cX11_is 1 = .ok (.iload_n 1, 1) := by decide +kernel
theorem dX11_is_2 : decode cX11_is 2 = .ok (.iload_n 2, 1) := by decide +kernel
theorem dX11_is_3 : decode cX11_is 3 = .ok (.invokevirtual 344, 3) := by decide +kernel
theorem dX11_is_6 : decode cX11_is 6 = .ok (.ifCond .eq 12, 3) := by decide +kernel
theorem dX11_is_9 : decode cX11_is 9 = .ok (.aload_n 0, 1) := by decide +kernel
theorem dX11_is_10 : decode cX11_is 10 = .ok (.iload_n 1, 1) := by decide +kernel
theorem dX11_is_11 : decode cX11_is 11 = .ok (.iload_n 2, 1) := by decide +kernel
theorem dX11_is_12 : decode cX11_is 12 = .ok (.invokevirtual 62, 3) := by decide +kernel
theorem dX11_is_15 : decode cX11_is 15 = .ok (.goto 5, 3) := by decide +kernel
theorem dX11_is_18 : decode cX11_is 18 = .ok (.bipush (-2), 2) := by decide +kernel
theorem dX11_is_20 : decode cX11_is 20 = .ok (.ireturn, 1) := by decide +kernel
def fX11_is (a0 : Nat) (a1 : Int32) (a2 : Int32) (M : xMem) : Option (Int32 × xMem) :=
  xBn (fX11_isOne a0 a1 a2 M) fun r1 M2 => if r1 = 0 then (some ((-2), M2)) else (xBn (fX11_isOf a0 a1 a2 M2) fun r3 M4 => some (r3, M4))
set_option maxRecDepth 100000 in
set_option maxHeartbeats 4000000 in
theorem zX11_is (G : xGX) (a0 : Nat) (h0 : xkd a0 = 11) (a1 : Int32) (a2 : Int32) (M : xMem) (r : Int32) (M' : xMem) (h : fX11_is a0 a1 a2 M = some (r, M')) : xCt G yX11_is cX11_is 3 (some .int) 4 [vr G a0, .int a1, .int a2] M (some (.int r), M') := by
  refine xMet (lv := [some (vr G a0), some (.int a1), some (.int a2)]) (by decide) (Nat.le_of_ble_eq_true rfl) rfl ?_
  intro X hG hnL C R0
  subst hG
  have C : xCk X cX11_is RX11 4 := C
  unfold fX11_is at h
  refine r_aload_n (pc := 0) C dX11_is_0 rfl rfl ?_
  refine r_iload_n (pc := 1) C dX11_is_1 rfl rfl ?_
  refine r_iload_n (pc := 2) C dX11_is_2 rfl rfl ?_
  refine r_vI2 (pc := 3) C (fun r M' e => zX11_isOne X.1 a0 h0 a1 a2 M r M' e) h0 (by decide) rfl mX11_isOne lX11_344 (by decide) (Nat.le_of_ble_eq_true rfl) dX11_is_3 h (fun r1 M2 h => ?_)
  refine r_if_eq (pc := 6) (tgt := 18) C dX11_is_6 (by decide) h (fun _ h => ?_) (fun _ h => ?_)
  · refine r_bipush (pc := 18) (v := (-2)) C dX11_is_18 (by decide) ?_
    exact r_iret (pc := 20) C R0 h dX11_is_20
  · refine r_aload_n (pc := 9) C dX11_is_9 rfl rfl ?_
    refine r_iload_n (pc := 10) C dX11_is_10 rfl rfl ?_
    refine r_iload_n (pc := 11) C dX11_is_11 rfl rfl ?_
    refine r_vI2 (pc := 12) C (fun r M' e => zX11_isOf X.1 a0 h0 a1 a2 M2 r M' e) h0 (by decide) rfl mX11_isOf lX11_62 (by decide) (Nat.le_of_ble_eq_true rfl) dX11_is_12 h (fun r3 M4 h => ?_)
    refine r_goto (pc := 15) (tgt := 20) C dX11_is_15 (by decide) ?_
    exact r_iret (pc := 20) C R0 h dX11_is_20
theorem dX11_those_0 : decode cX11_those 0 = .ok (.aload_n 0, 1) := by decide +kernel
theorem dX11_those_1 : decode cX11_those 1 = .ok (.iload_n 1, 1) := by decide +kernel
theorem dX11_those_2 : decode cX11_those 2 = .ok (.invokevirtual 55, 3) := by decide +kernel
theorem dX11_those_5 : decode cX11_those 5 = .ok (.ifCond .eq 24, 3) := by decide +kernel
theorem dX11_those_8 : decode cX11_those 8 = .ok (.iload_n 2, 1) := by decide +kernel
theorem dX11_those_9 : decode cX11_those 9 = .ok (.i2l, 1) := by decide +kernel
theorem dX11_those_10 : decode cX11_those 10 = .ok (.lconst 0, 1) := by decide +kernel
theorem dX11_those_11 : decode cX11_those 11 = .ok (.ldc2_w 127, 3) := by decide +kernel
theorem dX11_those_14 : decode cX11_those 14 = .ok (.invokestatic 51, 3) := by decide +kernel
theorem dX11_those_17 : decode cX11_those 17 = .ok (.ifCond .eq 12, 3) := by decide +kernel
theorem dX11_those_20 : decode cX11_those 20 = .ok (.aload_n 0, 1) := by decide +kernel
theorem dX11_those_21 : decode cX11_those 21 = .ok (.iload_n 1, 1) := by decide +kernel
theorem dX11_those_22 : decode cX11_those 22 = .ok (.iload_n 2, 1) := by decide +kernel
theorem dX11_those_23 : decode cX11_those 23 = .ok (.invokevirtual 72, 3) := by decide +kernel
theorem dX11_those_26 : decode cX11_those 26 = .ok (.goto 5, 3) := by decide +kernel
theorem dX11_those_29 : decode cX11_those 29 = .ok (.bipush (-2), 2) := by decide +kernel
theorem dX11_those_31 : decode cX11_those 31 = .ok (.ireturn, 1) := by decide +kernel
def fX11_those (a0 : Nat) (a1 : Int32) (a2 : Int32) (M : xMem) : Option (Int32 × xMem) :=
  xBn (fX11_isTeam a0 a1 M) fun r1 M2 => if r1 = 0 then (some ((-2), M2)) else (xBn (fX11_in (Int32.toInt64 a2) (lN 0) (lN 4) M2) fun r3 M4 => if r3 = 0 then (some ((-2), M4)) else (xBn (fX11_thoseOf a0 a1 a2 M4) fun r5 M6 => some (r5, M6)))
set_option maxRecDepth 100000 in
set_option maxHeartbeats 4000000 in
theorem zX11_those (G : xGX) (a0 : Nat) (h0 : xkd a0 = 11) (a1 : Int32) (a2 : Int32) (M : xMem) (r : Int32) (M' : xMem) (h : fX11_those a0 a1 a2 M = some (r, M')) : xCt G yX11_those cX11_those 3 (some .int) 4 [vr G a0, .int a1, .int a2] M (some (.int r), M') := by
  refine xMet (lv := [some (vr G a0), some (.int a1), some (.int a2)]) (by decide) (Nat.le_of_ble_eq_true rfl) rfl ?_
  intro X hG hnL C R0
  subst hG
  have C : xCk X cX11_those RX11 4 := C
  unfold fX11_those at h
  refine r_aload_n (pc := 0) C dX11_those_0 rfl rfl ?_
  refine r_iload_n (pc := 1) C dX11_those_1 rfl rfl ?_
  refine r_vI1 (pc := 2) C (fun r M' e => zX11_isTeam X.1 a0 h0 a1 M r M' e) h0 (by decide) rfl mX11_isTeam lX11_55 (by decide) (Nat.le_of_ble_eq_true rfl) dX11_those_2 h (fun r1 M2 h => ?_)
  refine r_if_eq (pc := 5) (tgt := 29) C dX11_those_5 (by decide) h (fun _ h => ?_) (fun _ h => ?_)
  · refine r_bipush (pc := 29) (v := (-2)) C dX11_those_29 (by decide) ?_
    exact r_iret (pc := 31) C R0 h dX11_those_31
  · refine r_iload_n (pc := 8) C dX11_those_8 rfl rfl ?_
    refine r_i2l (pc := 9) C dX11_those_9 ?_
    refine r_lconst (pc := 10) (v := lN 0) C dX11_those_10 rfl ?_
    refine r_ldc2 (pc := 11) C nX11_127 dX11_those_11 ?_
    refine r_sI3 (pc := 14) C (fun r M' e => zX11_in X.1 (Int32.toInt64 a2) (lN 0) (lN 4) M2 r M' e) mX11_in lX11_51 (by decide) (Nat.le_of_ble_eq_true rfl) dX11_those_14 h (fun r3 M4 h => ?_)
    refine r_if_eq (pc := 17) (tgt := 29) C dX11_those_17 (by decide) h (fun _ h => ?_) (fun _ h => ?_)
    · refine r_bipush (pc := 29) (v := (-2)) C dX11_those_29 (by decide) ?_
      exact r_iret (pc := 31) C R0 h dX11_those_31
    · refine r_aload_n (pc := 20) C dX11_those_20 rfl rfl ?_
      refine r_iload_n (pc := 21) C dX11_those_21 rfl rfl ?_
      refine r_iload_n (pc := 22) C dX11_those_22 rfl rfl ?_
      refine r_vI2 (pc := 23) C (fun r M' e => zX11_thoseOf X.1 a0 h0 a1 a2 M4 r M' e) h0 (by decide) rfl mX11_thoseOf lX11_72 (by decide) (Nat.le_of_ble_eq_true rfl) dX11_those_23 h (fun r5 M6 h => ?_)
      refine r_goto (pc := 26) (tgt := 31) C dX11_those_26 (by decide) ?_
      exact r_iret (pc := 31) C R0 h dX11_those_31
theorem dX11_outs_0 : decode cX11_outs 0 = .ok (.aload_n 0, 1) := by decide +kernel
theorem dX11_outs_1 : decode cX11_outs 1 = .ok (.iload_n 1, 1) := by decide +kernel
theorem dX11_outs_2 : decode cX11_outs 2 = .ok (.invokevirtual 55, 3) := by decide +kernel
theorem dX11_outs_5 : decode cX11_outs 5 = .ok (.ifCond .eq 7, 3) := by decide +kernel
theorem dX11_outs_8 : decode cX11_outs 8 = .ok (.iload_n 2, 1) := by decide +kernel
theorem dX11_outs_9 : decode cX11_outs 9 = .ok (.ifCond .ge 6, 3) := by decide +kernel
theorem dX11_outs_12 : decode cX11_outs 12 = .ok (.bipush (-2), 2) := by decide +kernel
theorem dX11_outs_14 : decode cX11_outs 14 = .ok (.ireturn, 1) := by decide +kernel
theorem dX11_outs_15 : decode cX11_outs 15 = .ok (.iload_n 2, 1) := by decide +kernel
theorem dX11_outs_16 : decode cX11_outs 16 = .ok (.aload_n 0, 1) := by decide +kernel
theorem dX11_outs_17 : decode cX11_outs 17 = .ok (.bipush 108, 2) := by decide +kernel
theorem dX11_outs_19 : decode cX11_outs 19 = .ok (.iload_n 1, 1) := by decide +kernel
theorem dX11_outs_20 : decode cX11_outs 20 = .ok (.iadd, 1) := by decide +kernel
theorem dX11_outs_21 : decode cX11_outs 21 = .ok (.invokevirtual 43, 3) := by decide +kernel
theorem dX11_outs_24 : decode cX11_outs 24 = .ok (.if_icmp .ge 19, 3) := by decide +kernel
theorem dX11_outs_27 : decode cX11_outs 27 = .ok (.aload_n 0, 1) := by decide +kernel
theorem dX11_outs_28 : decode cX11_outs 28 = .ok (.bipush 110, 2) := by decide +kernel
theorem dX11_outs_30 : decode cX11_outs 30 = .ok (.bipush 10, 2) := by decide +kernel
theorem dX11_outs_32 : decode cX11_outs 32 = .ok (.iload_n 1, 1) := by decide +kernel
theorem dX11_outs_33 : decode cX11_outs 33 = .ok (.imul, 1) := by decide +kernel
theorem dX11_outs_34 : decode cX11_outs 34 = .ok (.iadd, 1) := by decide +kernel
theorem dX11_outs_35 : decode cX11_outs 35 = .ok (.iload_n 2, 1) := by decide +kernel
theorem dX11_outs_36 : decode cX11_outs 36 = .ok (.iadd, 1) := by decide +kernel
theorem dX11_outs_37 : decode cX11_outs 37 = .ok (.invokevirtual 43, 3) := by decide +kernel
theorem dX11_outs_40 : decode cX11_outs 40 = .ok (.goto 4, 3) := by decide +kernel
theorem dX11_outs_43 : decode cX11_outs 43 = .ok (.iconst (-1), 1) := by decide +kernel
theorem dX11_outs_44 : decode cX11_outs 44 = .ok (.ireturn, 1) := by decide +kernel
def fX11_outs (a0 : Nat) (a1 : Int32) (a2 : Int32) (M : xMem) : Option (Int32 × xMem) :=
  xBn (fX11_isTeam a0 a1 M) fun r1 M2 => if r1 = 0 then (some ((-2), M2)) else (if 0 ≤ a2 then (xBn (fX11_get a0 ((nI 108) + a1) M2) fun r3 M4 => if r3 ≤ a2 then (some ((-1), M4)) else (xBn (fX11_get a0 (((nI 110) + ((nI 10) * a1)) + a2) M4) fun r5 M6 => some (r5, M6))) else (some ((-2), M2)))
set_option maxRecDepth 100000 in
set_option maxHeartbeats 4000000 in
theorem zX11_outs (G : xGX) (a0 : Nat) (h0 : xkd a0 = 11) (a1 : Int32) (a2 : Int32) (M : xMem) (r : Int32) (M' : xMem) (h : fX11_outs a0 a1 a2 M = some (r, M')) : xCt G yX11_outs cX11_outs 3 (some .int) 3 [vr G a0, .int a1, .int a2] M (some (.int r), M') := by
  refine xMet (lv := [some (vr G a0), some (.int a1), some (.int a2)]) (by decide) (Nat.le_of_ble_eq_true rfl) rfl ?_
  intro X hG hnL C R0
  subst hG
  have C : xCk X cX11_outs RX11 3 := C
  unfold fX11_outs at h
  refine r_aload_n (pc := 0) C dX11_outs_0 rfl rfl ?_
  refine r_iload_n (pc := 1) C dX11_outs_1 rfl rfl ?_
  refine r_vI1 (pc := 2) C (fun r M' e => zX11_isTeam X.1 a0 h0 a1 M r M' e) h0 (by decide) rfl mX11_isTeam lX11_55 (by decide) (Nat.le_of_ble_eq_true rfl) dX11_outs_2 h (fun r1 M2 h => ?_)
  refine r_if_eq (pc := 5) (tgt := 12) C dX11_outs_5 (by decide) h (fun _ h => ?_) (fun _ h => ?_)
  · refine r_bipush (pc := 12) (v := (-2)) C dX11_outs_12 (by decide) ?_
    exact r_iret (pc := 14) C R0 h dX11_outs_14
  · refine r_iload_n (pc := 8) C dX11_outs_8 rfl rfl ?_
    refine r_if_ge (pc := 9) (tgt := 15) C dX11_outs_9 (by decide) h (fun _ h => ?_) (fun _ h => ?_)
    · refine r_iload_n (pc := 15) C dX11_outs_15 rfl rfl ?_
      refine r_aload_n (pc := 16) C dX11_outs_16 rfl rfl ?_
      refine r_bipush (pc := 17) (v := (nI 108)) C dX11_outs_17 (by decide) ?_
      refine r_iload_n (pc := 19) C dX11_outs_19 rfl rfl ?_
      refine r_iadd (pc := 20) C dX11_outs_20 ?_
      refine r_vI1 (pc := 21) C (fun r M' e => zX11_get X.1 a0 h0 ((nI 108) + a1) M2 r M' e) h0 (by decide) rfl mX11_get lX11_43 (by decide) (Nat.le_of_ble_eq_true rfl) dX11_outs_21 h (fun r3 M4 h => ?_)
      refine r_icmp_ge (pc := 24) (tgt := 43) C dX11_outs_24 (by decide) h (fun _ h => ?_) (fun _ h => ?_)
      · refine r_iconst (pc := 43) (v := (-1)) C dX11_outs_43 (by decide) ?_
        exact r_iret (pc := 44) C R0 h dX11_outs_44
      · refine r_aload_n (pc := 27) C dX11_outs_27 rfl rfl ?_
        refine r_bipush (pc := 28) (v := (nI 110)) C dX11_outs_28 (by decide) ?_
        refine r_bipush (pc := 30) (v := (nI 10)) C dX11_outs_30 (by decide) ?_
        refine r_iload_n (pc := 32) C dX11_outs_32 rfl rfl ?_
        refine r_imul (pc := 33) C dX11_outs_33 ?_
        refine r_iadd (pc := 34) C dX11_outs_34 ?_
        refine r_iload_n (pc := 35) C dX11_outs_35 rfl rfl ?_
        refine r_iadd (pc := 36) C dX11_outs_36 ?_
        refine r_vI1 (pc := 37) C (fun r M' e => zX11_get X.1 a0 h0 (((nI 110) + ((nI 10) * a1)) + a2) M4 r M' e) h0 (by decide) rfl mX11_get lX11_43 (by decide) (Nat.le_of_ble_eq_true rfl) dX11_outs_37 h (fun r5 M6 h => ?_)
        refine r_goto (pc := 40) (tgt := 44) C dX11_outs_40 (by decide) ?_
        exact r_iret (pc := 44) C R0 h dX11_outs_44
    · refine r_bipush (pc := 12) (v := (-2)) C dX11_outs_12 (by decide) ?_
      exact r_iret (pc := 14) C R0 h dX11_outs_14
theorem dX11_wait_0 : decode cX11_wait 0 = .ok (.aload_n 0, 1) := by decide +kernel
theorem dX11_wait_1 : decode cX11_wait 1 = .ok (.iload_n 1, 1) := by decide +kernel
theorem dX11_wait_2 : decode cX11_wait 2 = .ok (.iload_n 2, 1) := by decide +kernel
theorem dX11_wait_3 : decode cX11_wait 3 = .ok (.invokevirtual 344, 3) := by decide +kernel
theorem dX11_wait_6 : decode cX11_wait 6 = .ok (.ifCond .ne 6, 3) := by decide +kernel
theorem dX11_wait_9 : decode cX11_wait 9 = .ok (.bipush (-2), 2) := by decide +kernel
theorem dX11_wait_11 : decode cX11_wait 11 = .ok (.ireturn, 1) := by decide +kernel
theorem dX11_wait_12 : decode cX11_wait 12 = .ok (.aload_n 0, 1) := by decide +kernel
theorem dX11_wait_13 : decode cX11_wait 13 = .ok (.iload_n 1, 1) := by decide +kernel
theorem dX11_wait_14 : decode cX11_wait 14 = .ok (.iload_n 2, 1) := by decide +kernel
theorem dX11_wait_15 : decode cX11_wait 15 = .ok (.invokevirtual 62, 3) := by decide +kernel
theorem dX11_wait_18 : decode cX11_wait 18 = .ok (.iconst 3, 1) := by decide +kernel
theorem dX11_wait_19 : decode cX11_wait 19 = .ok (.if_icmp .ne 19, 3) := by decide +kernel
theorem dX11_wait_22 : decode cX11_wait 22 = .ok (.aload_n 0, 1) := by decide +kernel
theorem dX11_wait_23 : decode cX11_wait 23 = .ok (.bipush 68, 2) := by decide +kernel
theorem dX11_wait_25 : decode cX11_wait 25 = .ok (.bipush 10, 2) := by decide +kernel
theorem dX11_wait_27 : decode cX11_wait 27 = .ok (.iload_n 1, 1) := by decide +kernel
theorem dX11_wait_28 : decode cX11_wait 28 = .ok (.imul, 1) := by decide +kernel
theorem dX11_wait_29 : decode cX11_wait 29 = .ok (.iadd, 1) := by decide +kernel
theorem dX11_wait_30 : decode cX11_wait 30 = .ok (.iload_n 2, 1) := by decide +kernel
theorem dX11_wait_31 : decode cX11_wait 31 = .ok (.iadd, 1) := by decide +kernel
theorem dX11_wait_32 : decode cX11_wait 32 = .ok (.invokevirtual 43, 3) := by decide +kernel
theorem dX11_wait_35 : decode cX11_wait 35 = .ok (.goto 4, 3) := by decide +kernel
theorem dX11_wait_38 : decode cX11_wait 38 = .ok (.iconst 0, 1) := by decide +kernel
theorem dX11_wait_39 : decode cX11_wait 39 = .ok (.ireturn, 1) := by decide +kernel
def fX11_wait (a0 : Nat) (a1 : Int32) (a2 : Int32) (M : xMem) : Option (Int32 × xMem) :=
  xBn (fX11_isOne a0 a1 a2 M) fun r1 M2 => if r1 = 0 then (some ((-2), M2)) else (xBn (fX11_isOf a0 a1 a2 M2) fun r3 M4 => if r3 = (nI 3) then (xBn (fX11_get a0 (((nI 68) + ((nI 10) * a1)) + a2) M4) fun r5 M6 => some (r5, M6)) else (some ((nI 0), M4)))
set_option maxRecDepth 100000 in
set_option maxHeartbeats 4000000 in
theorem zX11_wait (G : xGX) (a0 : Nat) (h0 : xkd a0 = 11) (a1 : Int32) (a2 : Int32) (M : xMem) (r : Int32) (M' : xMem) (h : fX11_wait a0 a1 a2 M = some (r, M')) : xCt G yX11_wait cX11_wait 3 (some .int) 4 [vr G a0, .int a1, .int a2] M (some (.int r), M') := by
  refine xMet (lv := [some (vr G a0), some (.int a1), some (.int a2)]) (by decide) (Nat.le_of_ble_eq_true rfl) rfl ?_
  intro X hG hnL C R0
  subst hG
  have C : xCk X cX11_wait RX11 4 := C
  unfold fX11_wait at h
  refine r_aload_n (pc := 0) C dX11_wait_0 rfl rfl ?_
  refine r_iload_n (pc := 1) C dX11_wait_1 rfl rfl ?_
  refine r_iload_n (pc := 2) C dX11_wait_2 rfl rfl ?_
  refine r_vI2 (pc := 3) C (fun r M' e => zX11_isOne X.1 a0 h0 a1 a2 M r M' e) h0 (by decide) rfl mX11_isOne lX11_344 (by decide) (Nat.le_of_ble_eq_true rfl) dX11_wait_3 h (fun r1 M2 h => ?_)
  refine r_if_ne (pc := 6) (tgt := 12) C dX11_wait_6 (by decide) h (fun _ h => ?_) (fun _ h => ?_)
  · refine r_aload_n (pc := 12) C dX11_wait_12 rfl rfl ?_
    refine r_iload_n (pc := 13) C dX11_wait_13 rfl rfl ?_
    refine r_iload_n (pc := 14) C dX11_wait_14 rfl rfl ?_
    refine r_vI2 (pc := 15) C (fun r M' e => zX11_isOf X.1 a0 h0 a1 a2 M2 r M' e) h0 (by decide) rfl mX11_isOf lX11_62 (by decide) (Nat.le_of_ble_eq_true rfl) dX11_wait_15 h (fun r3 M4 h => ?_)
    refine r_iconst (pc := 18) (v := (nI 3)) C dX11_wait_18 (by decide) ?_
    refine r_icmp_ne (pc := 19) (tgt := 38) C dX11_wait_19 (by decide) h (fun _ h => ?_) (fun _ h => ?_)
    · refine r_iconst (pc := 38) (v := (nI 0)) C dX11_wait_38 (by decide) ?_
      exact r_iret (pc := 39) C R0 h dX11_wait_39
    · refine r_aload_n (pc := 22) C dX11_wait_22 rfl rfl ?_
      refine r_bipush (pc := 23) (v := (nI 68)) C dX11_wait_23 (by decide) ?_
      refine r_bipush (pc := 25) (v := (nI 10)) C dX11_wait_25 (by decide) ?_
      refine r_iload_n (pc := 27) C dX11_wait_27 rfl rfl ?_
      refine r_imul (pc := 28) C dX11_wait_28 ?_
      refine r_iadd (pc := 29) C dX11_wait_29 ?_
      refine r_iload_n (pc := 30) C dX11_wait_30 rfl rfl ?_
      refine r_iadd (pc := 31) C dX11_wait_31 ?_
      refine r_vI1 (pc := 32) C (fun r M' e => zX11_get X.1 a0 h0 (((nI 68) + ((nI 10) * a1)) + a2) M4 r M' e) h0 (by decide) rfl mX11_get lX11_43 (by decide) (Nat.le_of_ble_eq_true rfl) dX11_wait_32 h (fun r5 M6 h => ?_)
      refine r_goto (pc := 35) (tgt := 39) C dX11_wait_35 (by decide) ?_
      exact r_iret (pc := 39) C R0 h dX11_wait_39
  · refine r_bipush (pc := 9) (v := (-2)) C dX11_wait_9 (by decide) ?_
    exact r_iret (pc := 11) C R0 h dX11_wait_11
theorem dX11_score_0 : decode cX11_score 0 = .ok (.aload_n 0, 1) := by decide +kernel
theorem dX11_score_1 : decode cX11_score 1 = .ok (.iload_n 1, 1) := by decide +kernel
theorem dX11_score_2 : decode cX11_score 2 = .ok (.invokevirtual 55, 3) := by decide +kernel
theorem dX11_score_5 : decode cX11_score 5 = .ok (.ifCond .eq 11, 3) := by decide +kernel
theorem dX11_score_8 : decode cX11_score 8 = .ok (.aload_n 0, 1) := by decide +kernel
theorem dX11_score_9 : decode cX11_score 9 = .ok (.iload_n 1, 1) := by decide +kernel
theorem dX11_score_10 : decode cX11_score 10 = .ok (.invokevirtual 90, 3) := by decide +kernel
theorem dX11_score_13 : decode cX11_score 13 = .ok (.goto 5, 3) := by decide +kernel
theorem dX11_score_16 : decode cX11_score 16 = .ok (.bipush (-2), 2) := by decide +kernel
theorem dX11_score_18 : decode cX11_score 18 = .ok (.ireturn, 1) := by decide +kernel
def fX11_score (a0 : Nat) (a1 : Int32) (M : xMem) : Option (Int32 × xMem) :=
  xBn (fX11_isTeam a0 a1 M) fun r1 M2 => if r1 = 0 then (some ((-2), M2)) else (xBn (fX11_scoreOf a0 a1 M2) fun r3 M4 => some (r3, M4))
set_option maxRecDepth 100000 in
set_option maxHeartbeats 4000000 in
theorem zX11_score (G : xGX) (a0 : Nat) (h0 : xkd a0 = 11) (a1 : Int32) (M : xMem) (r : Int32) (M' : xMem) (h : fX11_score a0 a1 M = some (r, M')) : xCt G yX11_score cX11_score 2 (some .int) 3 [vr G a0, .int a1] M (some (.int r), M') := by
  refine xMet (lv := [some (vr G a0), some (.int a1)]) (by decide) (Nat.le_of_ble_eq_true rfl) rfl ?_
  intro X hG hnL C R0
  subst hG
  have C : xCk X cX11_score RX11 3 := C
  unfold fX11_score at h
  refine r_aload_n (pc := 0) C dX11_score_0 rfl rfl ?_
  refine r_iload_n (pc := 1) C dX11_score_1 rfl rfl ?_
  refine r_vI1 (pc := 2) C (fun r M' e => zX11_isTeam X.1 a0 h0 a1 M r M' e) h0 (by decide) rfl mX11_isTeam lX11_55 (by decide) (Nat.le_of_ble_eq_true rfl) dX11_score_2 h (fun r1 M2 h => ?_)
  refine r_if_eq (pc := 5) (tgt := 16) C dX11_score_5 (by decide) h (fun _ h => ?_) (fun _ h => ?_)
  · refine r_bipush (pc := 16) (v := (-2)) C dX11_score_16 (by decide) ?_
    exact r_iret (pc := 18) C R0 h dX11_score_18
  · refine r_aload_n (pc := 8) C dX11_score_8 rfl rfl ?_
    refine r_iload_n (pc := 9) C dX11_score_9 rfl rfl ?_
    refine r_vI1 (pc := 10) C (fun r M' e => zX11_scoreOf X.1 a0 h0 a1 M2 r M' e) h0 (by decide) rfl mX11_scoreOf lX11_90 (by decide) (Nat.le_of_ble_eq_true rfl) dX11_score_10 h (fun r3 M4 h => ?_)
    refine r_goto (pc := 13) (tgt := 18) C dX11_score_13 (by decide) ?_
    exact r_iret (pc := 18) C R0 h dX11_score_18
theorem dX11_turn_0 : decode cX11_turn 0 = .ok (.aload_n 0, 1) := by decide +kernel
theorem dX11_turn_1 : decode cX11_turn 1 = .ok (.invokevirtual 47, 3) := by decide +kernel
theorem dX11_turn_4 : decode cX11_turn 4 = .ok (.ifCond .ne 8, 3) := by decide +kernel
theorem dX11_turn_7 : decode cX11_turn 7 = .ok (.bipush (-2), 2) := by decide +kernel
theorem dX11_turn_9 : decode cX11_turn 9 = .ok (.goto 20, 3) := by decide +kernel
theorem dX11_turn_12 : decode cX11_turn 12 = .ok (.aload_n 0, 1) := by decide +kernel
theorem dX11_turn_13 : decode cX11_turn 13 = .ok (.invokevirtual 134, 3) := by decide +kernel
theorem dX11_turn_16 : decode cX11_turn 16 = .ok (.ifCond .eq 7, 3) := by decide +kernel
theorem dX11_turn_19 : decode cX11_turn 19 = .ok (.iconst (-1), 1) := by decide +kernel
theorem dX11_turn_20 : decode cX11_turn 20 = .ok (.goto 9, 3) := by decide +kernel
theorem dX11_turn_23 : decode cX11_turn 23 = .ok (.aload_n 0, 1) := by decide +kernel
theorem dX11_turn_24 : decode cX11_turn 24 = .ok (.bipush 28, 2) := by decide +kernel
theorem dX11_turn_26 : decode cX11_turn 26 = .ok (.invokevirtual 43, 3) := by decide +kernel
theorem dX11_turn_29 : decode cX11_turn 29 = .ok (.ireturn, 1) := by decide +kernel
def fX11_turn (a0 : Nat) (M : xMem) : Option (Int32 × xMem) :=
  xBn (fX11_isThere a0 M) fun r1 M2 => if r1 = 0 then (some ((-2), M2)) else (xBn (fX11_isOver a0 M2) fun r3 M4 => if r3 = 0 then (xBn (fX11_get a0 (nI 28) M4) fun r5 M6 => some (r5, M6)) else (some ((-1), M4)))
set_option maxRecDepth 100000 in
set_option maxHeartbeats 4000000 in
theorem zX11_turn (G : xGX) (a0 : Nat) (h0 : xkd a0 = 11) (M : xMem) (r : Int32) (M' : xMem) (h : fX11_turn a0 M = some (r, M')) : xCt G yX11_turn cX11_turn 1 (some .int) 2 [vr G a0] M (some (.int r), M') := by
  refine xMet (lv := [some (vr G a0)]) (by decide) (Nat.le_of_ble_eq_true rfl) rfl ?_
  intro X hG hnL C R0
  subst hG
  have C : xCk X cX11_turn RX11 2 := C
  unfold fX11_turn at h
  refine r_aload_n (pc := 0) C dX11_turn_0 rfl rfl ?_
  refine r_vI0 (pc := 1) C (fun r M' e => zX11_isThere X.1 a0 h0 M r M' e) h0 (by decide) rfl mX11_isThere lX11_47 (by decide) (Nat.le_of_ble_eq_true rfl) dX11_turn_1 h (fun r1 M2 h => ?_)
  refine r_if_ne (pc := 4) (tgt := 12) C dX11_turn_4 (by decide) h (fun _ h => ?_) (fun _ h => ?_)
  · refine r_aload_n (pc := 12) C dX11_turn_12 rfl rfl ?_
    refine r_vI0 (pc := 13) C (fun r M' e => zX11_isOver X.1 a0 h0 M2 r M' e) h0 (by decide) rfl mX11_isOver lX11_134 (by decide) (Nat.le_of_ble_eq_true rfl) dX11_turn_13 h (fun r3 M4 h => ?_)
    refine r_if_eq (pc := 16) (tgt := 23) C dX11_turn_16 (by decide) h (fun _ h => ?_) (fun _ h => ?_)
    · refine r_aload_n (pc := 23) C dX11_turn_23 rfl rfl ?_
      refine r_bipush (pc := 24) (v := (nI 28)) C dX11_turn_24 (by decide) ?_
      refine r_vI1 (pc := 26) C (fun r M' e => zX11_get X.1 a0 h0 (nI 28) M4 r M' e) h0 (by decide) rfl mX11_get lX11_43 (by decide) (Nat.le_of_ble_eq_true rfl) dX11_turn_26 h (fun r5 M6 h => ?_)
      exact r_iret (pc := 29) C R0 h dX11_turn_29
    · refine r_iconst (pc := 19) (v := (-1)) C dX11_turn_19 (by decide) ?_
      refine r_goto (pc := 20) (tgt := 29) C dX11_turn_20 (by decide) ?_
      exact r_iret (pc := 29) C R0 h dX11_turn_29
  · refine r_bipush (pc := 7) (v := (-2)) C dX11_turn_7 (by decide) ?_
    refine r_goto (pc := 9) (tgt := 29) C dX11_turn_9 (by decide) ?_
    exact r_iret (pc := 29) C R0 h dX11_turn_29
theorem dX11_empties_0 : decode cX11_empties 0 = .ok (.aload_n 0, 1) := by decide +kernel
theorem dX11_empties_1 : decode cX11_empties 1 = .ok (.iload_n 1, 1) := by decide +kernel
theorem dX11_empties_2 : decode cX11_empties 2 = .ok (.invokevirtual 55, 3) := by decide +kernel
theorem dX11_empties_5 : decode cX11_empties 5 = .ok (.ifCond .eq 14, 3) := by decide +kernel
theorem dX11_empties_8 : decode cX11_empties 8 = .ok (.aload_n 0, 1) := by decide +kernel
theorem dX11_empties_9 : decode cX11_empties 9 = .ok (.bipush 30, 2) := by decide +kernel
theorem dX11_empties_11 : decode cX11_empties 11 = .ok (.iload_n 1, 1) := by decide +kernel
theorem dX11_empties_12 : decode cX11_empties 12 = .ok (.iadd, 1) := by decide +kernel
theorem dX11_empties_13 : decode cX11_empties 13 = .ok (.invokevirtual 43, 3) := by decide +kernel
theorem dX11_empties_16 : decode cX11_empties 16 = .ok (.goto 5, 3) := by decide +kernel
theorem dX11_empties_19 : decode cX11_empties 19 = .ok (.bipush (-2), 2) := by decide +kernel
theorem dX11_empties_21 : decode cX11_empties 21 = .ok (.ireturn, 1) := by decide +kernel
def fX11_empties (a0 : Nat) (a1 : Int32) (M : xMem) : Option (Int32 × xMem) :=
  xBn (fX11_isTeam a0 a1 M) fun r1 M2 => if r1 = 0 then (some ((-2), M2)) else (xBn (fX11_get a0 ((nI 30) + a1) M2) fun r3 M4 => some (r3, M4))
set_option maxRecDepth 100000 in
set_option maxHeartbeats 4000000 in
theorem zX11_empties (G : xGX) (a0 : Nat) (h0 : xkd a0 = 11) (a1 : Int32) (M : xMem) (r : Int32) (M' : xMem) (h : fX11_empties a0 a1 M = some (r, M')) : xCt G yX11_empties cX11_empties 2 (some .int) 3 [vr G a0, .int a1] M (some (.int r), M') := by
  refine xMet (lv := [some (vr G a0), some (.int a1)]) (by decide) (Nat.le_of_ble_eq_true rfl) rfl ?_
  intro X hG hnL C R0
  subst hG
  have C : xCk X cX11_empties RX11 3 := C
  unfold fX11_empties at h
  refine r_aload_n (pc := 0) C dX11_empties_0 rfl rfl ?_
  refine r_iload_n (pc := 1) C dX11_empties_1 rfl rfl ?_
  refine r_vI1 (pc := 2) C (fun r M' e => zX11_isTeam X.1 a0 h0 a1 M r M' e) h0 (by decide) rfl mX11_isTeam lX11_55 (by decide) (Nat.le_of_ble_eq_true rfl) dX11_empties_2 h (fun r1 M2 h => ?_)
  refine r_if_eq (pc := 5) (tgt := 19) C dX11_empties_5 (by decide) h (fun _ h => ?_) (fun _ h => ?_)
  · refine r_bipush (pc := 19) (v := (-2)) C dX11_empties_19 (by decide) ?_
    exact r_iret (pc := 21) C R0 h dX11_empties_21
  · refine r_aload_n (pc := 8) C dX11_empties_8 rfl rfl ?_
    refine r_bipush (pc := 9) (v := (nI 30)) C dX11_empties_9 (by decide) ?_
    refine r_iload_n (pc := 11) C dX11_empties_11 rfl rfl ?_
    refine r_iadd (pc := 12) C dX11_empties_12 ?_
    refine r_vI1 (pc := 13) C (fun r M' e => zX11_get X.1 a0 h0 ((nI 30) + a1) M2 r M' e) h0 (by decide) rfl mX11_get lX11_43 (by decide) (Nat.le_of_ble_eq_true rfl) dX11_empties_13 h (fun r3 M4 h => ?_)
    refine r_goto (pc := 16) (tgt := 21) C dX11_empties_16 (by decide) ?_
    exact r_iret (pc := 21) C R0 h dX11_empties_21
theorem dX11_bonus_0 : decode cX11_bonus 0 = .ok (.aload_n 0, 1) := by decide +kernel
theorem dX11_bonus_1 : decode cX11_bonus 1 = .ok (.invokevirtual 47, 3) := by decide +kernel
theorem dX11_bonus_4 : decode cX11_bonus 4 = .ok (.ifCond .ne 8, 3) := by decide +kernel
theorem dX11_bonus_7 : decode cX11_bonus 7 = .ok (.bipush (-2), 2) := by decide +kernel
theorem dX11_bonus_9 : decode cX11_bonus 9 = .ok (.goto 28, 3) := by decide +kernel
theorem dX11_bonus_12 : decode cX11_bonus 12 = .ok (.aload_n 0, 1) := by decide +kernel
theorem dX11_bonus_13 : decode cX11_bonus 13 = .ok (.invokevirtual 134, 3) := by decide +kernel
theorem dX11_bonus_16 : decode cX11_bonus 16 = .ok (.ifCond .eq 7, 3) := by decide +kernel
theorem dX11_bonus_19 : decode cX11_bonus 19 = .ok (.iconst (-1), 1) := by decide +kernel
theorem dX11_bonus_20 : decode cX11_bonus 20 = .ok (.goto 17, 3) := by decide +kernel
theorem dX11_bonus_23 : decode cX11_bonus 23 = .ok (.aload_n 0, 1) := by decide +kernel
theorem dX11_bonus_24 : decode cX11_bonus 24 = .ok (.invokevirtual 265, 3) := by decide +kernel
theorem dX11_bonus_27 : decode cX11_bonus 27 = .ok (.bipush 6, 2) := by decide +kernel
theorem dX11_bonus_29 : decode cX11_bonus 29 = .ok (.if_icmp .lt 7, 3) := by decide +kernel
theorem dX11_bonus_32 : decode cX11_bonus 32 = .ok (.iconst 1, 1) := by decide +kernel
theorem dX11_bonus_33 : decode cX11_bonus 33 = .ok (.goto 4, 3) := by decide +kernel
theorem dX11_bonus_36 : decode cX11_bonus 36 = .ok (.iconst 0, 1) := by decide +kernel
theorem dX11_bonus_37 : decode cX11_bonus 37 = .ok (.ireturn, 1) := by decide +kernel
def fX11_bonus (a0 : Nat) (M : xMem) : Option (Int32 × xMem) :=
  xBn (fX11_isThere a0 M) fun r1 M2 => if r1 = 0 then (some ((-2), M2)) else (xBn (fX11_isOver a0 M2) fun r3 M4 => if r3 = 0 then (xBn (fX11_standing a0 M4) fun r5 M6 => if r5 < (nI 6) then (some ((nI 0), M6)) else (some ((nI 1), M6))) else (some ((-1), M4)))
set_option maxRecDepth 100000 in
set_option maxHeartbeats 4000000 in
theorem zX11_bonus (G : xGX) (a0 : Nat) (h0 : xkd a0 = 11) (M : xMem) (r : Int32) (M' : xMem) (h : fX11_bonus a0 M = some (r, M')) : xCt G yX11_bonus cX11_bonus 1 (some .int) 5 [vr G a0] M (some (.int r), M') := by
  refine xMet (lv := [some (vr G a0)]) (by decide) (Nat.le_of_ble_eq_true rfl) rfl ?_
  intro X hG hnL C R0
  subst hG
  have C : xCk X cX11_bonus RX11 5 := C
  unfold fX11_bonus at h
  refine r_aload_n (pc := 0) C dX11_bonus_0 rfl rfl ?_
  refine r_vI0 (pc := 1) C (fun r M' e => zX11_isThere X.1 a0 h0 M r M' e) h0 (by decide) rfl mX11_isThere lX11_47 (by decide) (Nat.le_of_ble_eq_true rfl) dX11_bonus_1 h (fun r1 M2 h => ?_)
  refine r_if_ne (pc := 4) (tgt := 12) C dX11_bonus_4 (by decide) h (fun _ h => ?_) (fun _ h => ?_)
  · refine r_aload_n (pc := 12) C dX11_bonus_12 rfl rfl ?_
    refine r_vI0 (pc := 13) C (fun r M' e => zX11_isOver X.1 a0 h0 M2 r M' e) h0 (by decide) rfl mX11_isOver lX11_134 (by decide) (Nat.le_of_ble_eq_true rfl) dX11_bonus_13 h (fun r3 M4 h => ?_)
    refine r_if_eq (pc := 16) (tgt := 23) C dX11_bonus_16 (by decide) h (fun _ h => ?_) (fun _ h => ?_)
    · refine r_aload_n (pc := 23) C dX11_bonus_23 rfl rfl ?_
      refine r_vI0 (pc := 24) C (fun r M' e => zX11_standing X.1 a0 h0 M4 r M' e) h0 (by decide) rfl mX11_standing lX11_265 (by decide) (Nat.le_of_ble_eq_true rfl) dX11_bonus_24 h (fun r5 M6 h => ?_)
      refine r_bipush (pc := 27) (v := (nI 6)) C dX11_bonus_27 (by decide) ?_
      refine r_icmp_lt (pc := 29) (tgt := 36) C dX11_bonus_29 (by decide) h (fun _ h => ?_) (fun _ h => ?_)
      · refine r_iconst (pc := 36) (v := (nI 0)) C dX11_bonus_36 (by decide) ?_
        exact r_iret (pc := 37) C R0 h dX11_bonus_37
      · refine r_iconst (pc := 32) (v := (nI 1)) C dX11_bonus_32 (by decide) ?_
        refine r_goto (pc := 33) (tgt := 37) C dX11_bonus_33 (by decide) ?_
        exact r_iret (pc := 37) C R0 h dX11_bonus_37
    · refine r_iconst (pc := 19) (v := (-1)) C dX11_bonus_19 (by decide) ?_
      refine r_goto (pc := 20) (tgt := 37) C dX11_bonus_20 (by decide) ?_
      exact r_iret (pc := 37) C R0 h dX11_bonus_37
  · refine r_bipush (pc := 7) (v := (-2)) C dX11_bonus_7 (by decide) ?_
    refine r_goto (pc := 9) (tgt := 37) C dX11_bonus_9 (by decide) ?_
    exact r_iret (pc := 37) C R0 h dX11_bonus_37
theorem dX11_shirts_0 : decode cX11_shirts 0 = .ok (.aload_n 0, 1) := by decide +kernel
theorem dX11_shirts_1 : decode cX11_shirts 1 = .ok (.iload_n 1, 1) := by decide +kernel
theorem dX11_shirts_2 : decode cX11_shirts 2 = .ok (.invokevirtual 55, 3) := by decide +kernel
theorem dX11_shirts_5 : decode cX11_shirts 5 = .ok (.ifCond .eq 19, 3) := by decide +kernel
theorem dX11_shirts_8 : decode cX11_shirts 8 = .ok (.iload_n 2, 1) := by decide +kernel
theorem dX11_shirts_9 : decode cX11_shirts 9 = .ok (.i2l, 1) := by decide +kernel
theorem dX11_shirts_10 : decode cX11_shirts 10 = .ok (.lconst 0, 1) := by decide +kernel
theorem dX11_shirts_11 : decode cX11_shirts 11 = .ok (.ldc2_w 127, 3) := by decide +kernel
theorem dX11_shirts_14 : decode cX11_shirts 14 = .ok (.invokestatic 51, 3) := by decide +kernel
theorem dX11_shirts_17 : decode cX11_shirts 17 = .ok (.ifCond .eq 7, 3) := by decide +kernel
theorem dX11_shirts_20 : decode cX11_shirts 20 = .ok (.iload_n 3, 1) := by decide +kernel
theorem dX11_shirts_21 : decode cX11_shirts 21 = .ok (.ifCond .ge 6, 3) := by decide +kernel
theorem dX11_shirts_24 : decode cX11_shirts 24 = .ok (.bipush (-2), 2) := by decide +kernel
theorem dX11_shirts_26 : decode cX11_shirts 26 = .ok (.ireturn, 1) := by decide +kernel
theorem dX11_shirts_27 : decode cX11_shirts 27 = .ok (.iload_n 3, 1) := by decide +kernel
theorem dX11_shirts_28 : decode cX11_shirts 28 = .ok (.istore 4, 2) := by decide +kernel
theorem dX11_shirts_30 : decode cX11_shirts 30 = .ok (.iconst 1, 1) := by decide +kernel
theorem dX11_shirts_31 : decode cX11_shirts 31 = .ok (.istore 5, 2) := by decide +kernel
theorem dX11_shirts_33 : decode cX11_shirts 33 = .ok (.iload 5, 2) := by decide +kernel
theorem dX11_shirts_35 : decode cX11_shirts 35 = .ok (.bipush 99, 2) := by decide +kernel
theorem dX11_shirts_37 : decode cX11_shirts 37 = .ok (.if_icmp .gt 49, 3) := by decide +kernel
theorem dX11_shirts_40 : decode cX11_shirts 40 = .ok (.aload_n 0, 1) := by decide +kernel
theorem dX11_shirts_41 : decode cX11_shirts 41 = .ok (.iload_n 1, 1) := by decide +kernel
theorem dX11_shirts_42 : decode cX11_shirts 42 = .ok (.iload 5, 2) := by decide +kernel
theorem dX11_shirts_44 : decode cX11_shirts 44 = .ok (.invokevirtual 255, 3) := by decide +kernel
theorem dX11_shirts_47 : decode cX11_shirts 47 = .ok (.istore 6, 2) := by decide +kernel
theorem dX11_shirts_49 : decode cX11_shirts 49 = .ok (.iload 6, 2) := by decide +kernel
theorem dX11_shirts_51 : decode cX11_shirts 51 = .ok (.iconst (-1), 1) := by decide +kernel
theorem dX11_shirts_52 : decode cX11_shirts 52 = .ok (.if_icmp .eq 28, 3) := by decide +kernel
theorem dX11_shirts_55 : decode cX11_shirts 55 = .ok (.aload_n 0, 1) := by decide +kernel
theorem dX11_shirts_56 : decode cX11_shirts 56 = .ok (.iload_n 1, 1) := by decide +kernel
theorem dX11_shirts_57 : decode cX11_shirts 57 = .ok (.iload 6, 2) := by decide +kernel
theorem dX11_shirts_59 : decode cX11_shirts 59 = .ok (.invokevirtual 62, 3) := by decide +kernel
theorem dX11_shirts_62 : decode cX11_shirts 62 = .ok (.iload_n 2, 1) := by decide +kernel
theorem dX11_shirts_63 : decode cX11_shirts 63 = .ok (.if_icmp .eq 6, 3) := by decide +kernel
theorem dX11_shirts_66 : decode cX11_shirts 66 = .ok (.goto 14, 3) := by decide +kernel
theorem dX11_shirts_69 : decode cX11_shirts 69 = .ok (.iload 4, 2) := by decide +kernel
theorem dX11_shirts_71 : decode cX11_shirts 71 = .ok (.ifCond .ne 6, 3) := by decide +kernel
theorem dX11_shirts_74 : decode cX11_shirts 74 = .ok (.iload 5, 2) := by decide +kernel
theorem dX11_shirts_76 : decode cX11_shirts 76 = .ok (.ireturn, 1) := by decide +kernel
theorem dX11_shirts_77 : decode cX11_shirts 77 = .ok (.iinc 4 (-1), 3) := by decide +kernel
theorem dX11_shirts_80 : decode cX11_shirts 80 = .ok (.iinc 5 1, 3) := by decide +kernel
theorem dX11_shirts_83 : decode cX11_shirts 83 = .ok (.goto (-50), 3) := by decide +kernel
theorem dX11_shirts_86 : decode cX11_shirts 86 = .ok (.iconst (-1), 1) := by decide +kernel
theorem dX11_shirts_87 : decode cX11_shirts 87 = .ok (.ireturn, 1) := by decide +kernel
def fX11_shirts_l33 (p0 : Nat) (p1 : Int32) (p2 : Int32) (p3 : Int32) (K : Int32 → Int32 → xMem → Option (Int32 × xMem)) : Nat → Int32 → Int32 → xMem → Option (Int32 × xMem)
  | 0, _, _, _ => none
  | n + 1, v4, v5, M => if (nI 99) < v5 then (K v4 v5 M) else (xBn (fX11_findShirt p0 p1 v5 M) fun r5 M6 => if r5 = (-1) then (xLt (v5 + nI 1) fun x7 => fX11_shirts_l33 p0 p1 p2 p3 K n v4 x7 M6) else (xBn (fX11_isOf p0 p1 r5 M6) fun r8 M9 => if r8 = p2 then (if v4 = 0 then (some (v5, M9)) else (xLt (v4 + (-1)) fun x10 => xLt (v5 + nI 1) fun x11 => fX11_shirts_l33 p0 p1 p2 p3 K n x10 x11 M9)) else (xLt (v5 + nI 1) fun x12 => fX11_shirts_l33 p0 p1 p2 p3 K n v4 x12 M9)))
def fX11_shirts (a0 : Nat) (a1 : Int32) (a2 : Int32) (a3 : Int32) (M : xMem) : Option (Int32 × xMem) :=
  xBn (fX11_isTeam a0 a1 M) fun r1 M2 => if r1 = 0 then (some ((-2), M2)) else (xBn (fX11_in (Int32.toInt64 a2) (lN 0) (lN 4) M2) fun r3 M4 => if r3 = 0 then (some ((-2), M4)) else (if 0 ≤ a3 then (fX11_shirts_l33 a0 a1 a2 a3 (fun (v13 : Int32) (v14 : Int32) (M15 : xMem) => some ((-1), M15)) xFU a3 (nI 1) M4) else (some ((-2), M4))))
set_option maxRecDepth 100000 in
set_option maxHeartbeats 4000000 in
theorem lX11_shirts_33 {X : xCX} {r : Int32} {M' : xMem} (C : xCk X cX11_shirts RX11 4) (R0 : xRk X (some .int) (some (.int r), M')) (hnL : X.2.2.2.2.2.2.2.2.2.2.2.2.2 = 7) (p0 : Nat) (hp0 : xkd p0 = 11) (p1 : Int32) (p2 : Int32) (p3 : Int32) (K : Int32 → Int32 → xMem → Option (Int32 × xMem)) (hK : ∀ (v4 : Int32) (v5 : Int32) (M : xMem), K v4 v5 M = some (r, M') → WW X 86 [some (vr X.1 p0), some (.int p1), some (.int p2), some (.int p3), some (.int v4), some (.int v5), none] [] M) : ∀ (n : Nat) (v4 : Int32) (v5 : Int32) (M : xMem), fX11_shirts_l33 p0 p1 p2 p3 K n v4 v5 M = some (r, M') → WW X 33 [some (vr X.1 p0), some (.int p1), some (.int p2), some (.int p3), some (.int v4), some (.int v5), none] [] M := by
  have hn4 : 4 < X.2.2.2.2.2.2.2.2.2.2.2.2.2 := by rw [hnL]; decide
  have hn5 : 5 < X.2.2.2.2.2.2.2.2.2.2.2.2.2 := by rw [hnL]; decide
  have hn6 : 6 < X.2.2.2.2.2.2.2.2.2.2.2.2.2 := by rw [hnL]; decide
  intro n
  induction n with
  | zero =>
    intro v4 v5 M h
    cases (show (none : Option (Int32 × xMem)) = some (r, M') from h)
  | succ n ih =>
    intro v4 v5 M h
    rw [fX11_shirts_l33.eq_2] at h
    refine r_iload (pc := 33) C dX11_shirts_33 rfl ?_
    refine r_bipush (pc := 35) (v := (nI 99)) C dX11_shirts_35 (by decide) ?_
    refine r_icmp_gt (pc := 37) (tgt := 86) C dX11_shirts_37 (by decide) h (fun _ h => ?_) (fun _ h => ?_)
    · exact hK v4 v5 M h
    · refine r_aload_n (pc := 40) C dX11_shirts_40 rfl rfl ?_
      refine r_iload_n (pc := 41) C dX11_shirts_41 rfl rfl ?_
      refine r_iload (pc := 42) C dX11_shirts_42 rfl ?_
      refine r_vI2 (pc := 44) C (fun r M' e => zX11_findShirt X.1 p0 hp0 p1 v5 M r M' e) hp0 (by decide) rfl mX11_findShirt lX11_255 (by decide) (Nat.le_of_ble_eq_true rfl) dX11_shirts_44 h (fun r5 M6 h => ?_)
      refine r_istore (pc := 47) (lv' := [_, _, _, _, _, _, _]) C dX11_shirts_47 hn6 rfl ?_
      refine r_iload (pc := 49) C dX11_shirts_49 rfl ?_
      refine r_iconst (pc := 51) (v := (-1)) C dX11_shirts_51 (by decide) ?_
      refine r_icmp_eq (pc := 52) (tgt := 80) C dX11_shirts_52 (by decide) h (fun _ h => ?_) (fun _ h => ?_)
      · refine r_iincL (pc := 80) (c := nI 1) C dX11_shirts_80 rfl (by decide) hn5 h (fun x7 h => ?_)
        refine r_lvE (lv' := [_, _, _, _, _, _, _]) rfl ?_
        refine r_goto (pc := 83) (tgt := 33) C dX11_shirts_83 (by decide) ?_
        exact r_lv (xle_at (xle_some rfl (xle_some rfl (xle_some rfl (xle_some rfl (xle_some rfl (xle_some rfl (xle_none xle_nil)))))))) (ih v4 x7 M6 h)
      · refine r_aload_n (pc := 55) C dX11_shirts_55 rfl rfl ?_
        refine r_iload_n (pc := 56) C dX11_shirts_56 rfl rfl ?_
        refine r_iload (pc := 57) C dX11_shirts_57 rfl ?_
        refine r_vI2 (pc := 59) C (fun r M' e => zX11_isOf X.1 p0 hp0 p1 r5 M6 r M' e) hp0 (by decide) rfl mX11_isOf lX11_62 (by decide) (Nat.le_of_ble_eq_true rfl) dX11_shirts_59 h (fun r8 M9 h => ?_)
        refine r_iload_n (pc := 62) C dX11_shirts_62 rfl rfl ?_
        refine r_icmp_eq (pc := 63) (tgt := 69) C dX11_shirts_63 (by decide) h (fun _ h => ?_) (fun _ h => ?_)
        · refine r_iload (pc := 69) C dX11_shirts_69 rfl ?_
          refine r_if_ne (pc := 71) (tgt := 77) C dX11_shirts_71 (by decide) h (fun _ h => ?_) (fun _ h => ?_)
          · refine r_iincL (pc := 77) (c := (-1)) C dX11_shirts_77 rfl (by decide) hn4 h (fun x10 h => ?_)
            refine r_lvE (lv' := [_, _, _, _, _, _, _]) rfl ?_
            refine r_iincL (pc := 80) (c := nI 1) C dX11_shirts_80 rfl (by decide) hn5 h (fun x11 h => ?_)
            refine r_lvE (lv' := [_, _, _, _, _, _, _]) rfl ?_
            refine r_goto (pc := 83) (tgt := 33) C dX11_shirts_83 (by decide) ?_
            exact r_lv (xle_at (xle_some rfl (xle_some rfl (xle_some rfl (xle_some rfl (xle_some rfl (xle_some rfl (xle_none xle_nil)))))))) (ih x10 x11 M9 h)
          · refine r_iload (pc := 74) C dX11_shirts_74 rfl ?_
            exact r_iret (pc := 76) C R0 h dX11_shirts_76
        · refine r_goto (pc := 66) (tgt := 80) C dX11_shirts_66 (by decide) ?_
          refine r_iincL (pc := 80) (c := nI 1) C dX11_shirts_80 rfl (by decide) hn5 h (fun x12 h => ?_)
          refine r_lvE (lv' := [_, _, _, _, _, _, _]) rfl ?_
          refine r_goto (pc := 83) (tgt := 33) C dX11_shirts_83 (by decide) ?_
          exact r_lv (xle_at (xle_some rfl (xle_some rfl (xle_some rfl (xle_some rfl (xle_some rfl (xle_some rfl (xle_none xle_nil)))))))) (ih v4 x12 M9 h)
set_option maxRecDepth 100000 in
set_option maxHeartbeats 4000000 in
theorem zX11_shirts (G : xGX) (a0 : Nat) (h0 : xkd a0 = 11) (a1 : Int32) (a2 : Int32) (a3 : Int32) (M : xMem) (r : Int32) (M' : xMem) (h : fX11_shirts a0 a1 a2 a3 M = some (r, M')) : xCt G yX11_shirts cX11_shirts 7 (some .int) 4 [vr G a0, .int a1, .int a2, .int a3] M (some (.int r), M') := by
  refine xMet (lv := [some (vr G a0), some (.int a1), some (.int a2), some (.int a3), none, none, none]) (by decide) (Nat.le_of_ble_eq_true rfl) rfl ?_
  intro X hG hnL C R0
  subst hG
  have C : xCk X cX11_shirts RX11 4 := C
  have hn4 : 4 < X.2.2.2.2.2.2.2.2.2.2.2.2.2 := by rw [hnL]; decide
  have hn5 : 5 < X.2.2.2.2.2.2.2.2.2.2.2.2.2 := by rw [hnL]; decide
  have hn6 : 6 < X.2.2.2.2.2.2.2.2.2.2.2.2.2 := by rw [hnL]; decide
  unfold fX11_shirts at h
  refine r_aload_n (pc := 0) C dX11_shirts_0 rfl rfl ?_
  refine r_iload_n (pc := 1) C dX11_shirts_1 rfl rfl ?_
  refine r_vI1 (pc := 2) C (fun r M' e => zX11_isTeam X.1 a0 h0 a1 M r M' e) h0 (by decide) rfl mX11_isTeam lX11_55 (by decide) (Nat.le_of_ble_eq_true rfl) dX11_shirts_2 h (fun r1 M2 h => ?_)
  refine r_if_eq (pc := 5) (tgt := 24) C dX11_shirts_5 (by decide) h (fun _ h => ?_) (fun _ h => ?_)
  · refine r_bipush (pc := 24) (v := (-2)) C dX11_shirts_24 (by decide) ?_
    exact r_iret (pc := 26) C R0 h dX11_shirts_26
  · refine r_iload_n (pc := 8) C dX11_shirts_8 rfl rfl ?_
    refine r_i2l (pc := 9) C dX11_shirts_9 ?_
    refine r_lconst (pc := 10) (v := lN 0) C dX11_shirts_10 rfl ?_
    refine r_ldc2 (pc := 11) C nX11_127 dX11_shirts_11 ?_
    refine r_sI3 (pc := 14) C (fun r M' e => zX11_in X.1 (Int32.toInt64 a2) (lN 0) (lN 4) M2 r M' e) mX11_in lX11_51 (by decide) (Nat.le_of_ble_eq_true rfl) dX11_shirts_14 h (fun r3 M4 h => ?_)
    refine r_if_eq (pc := 17) (tgt := 24) C dX11_shirts_17 (by decide) h (fun _ h => ?_) (fun _ h => ?_)
    · refine r_bipush (pc := 24) (v := (-2)) C dX11_shirts_24 (by decide) ?_
      exact r_iret (pc := 26) C R0 h dX11_shirts_26
    · refine r_iload_n (pc := 20) C dX11_shirts_20 rfl rfl ?_
      refine r_if_ge (pc := 21) (tgt := 27) C dX11_shirts_21 (by decide) h (fun _ h => ?_) (fun _ h => ?_)
      · refine r_iload_n (pc := 27) C dX11_shirts_27 rfl rfl ?_
        refine r_istore (pc := 28) (lv' := [_, _, _, _, _, _, _]) C dX11_shirts_28 hn4 rfl ?_
        refine r_iconst (pc := 30) (v := (nI 1)) C dX11_shirts_30 (by decide) ?_
        refine r_istore (pc := 31) (lv' := [_, _, _, _, _, _, _]) C dX11_shirts_31 hn5 rfl ?_
        refine lX11_shirts_33 C R0 hnL a0 h0 a1 a2 a3 _ (fun v13 v14 M15 h => ?_) _ _ _ _ h
        refine r_iconst (pc := 86) (v := (-1)) C dX11_shirts_86 (by decide) ?_
        exact r_iret (pc := 87) C R0 h dX11_shirts_87
      · refine r_bipush (pc := 24) (v := (-2)) C dX11_shirts_24 (by decide) ?_
        exact r_iret (pc := 26) C R0 h dX11_shirts_26
theorem dX11_pointsBy_0 : decode cX11_pointsBy 0 = .ok (.aload_n 0, 1) := by decide +kernel
theorem dX11_pointsBy_1 : decode cX11_pointsBy 1 = .ok (.iload_n 1, 1) := by decide +kernel
theorem dX11_pointsBy_2 : decode cX11_pointsBy 2 = .ok (.iconst 2, 1) := by decide +kernel
theorem dX11_pointsBy_3 : decode cX11_pointsBy 3 = .ok (.invokevirtual 347, 3) := by decide +kernel
theorem dX11_pointsBy_6 : decode cX11_pointsBy 6 = .ok (.iconst 1, 1) := by decide +kernel
theorem dX11_pointsBy_7 : decode cX11_pointsBy 7 = .ok (.if_icmp .ne 15, 3) := by decide +kernel
theorem dX11_pointsBy_10 : decode cX11_pointsBy 10 = .ok (.aload_n 0, 1) := by decide +kernel
theorem dX11_pointsBy_11 : decode cX11_pointsBy 11 = .ok (.iload_n 1, 1) := by decide +kernel
theorem dX11_pointsBy_12 : decode cX11_pointsBy 12 = .ok (.iconst 5, 1) := by decide +kernel
theorem dX11_pointsBy_13 : decode cX11_pointsBy 13 = .ok (.invokevirtual 347, 3) := by decide +kernel
theorem dX11_pointsBy_16 : decode cX11_pointsBy 16 = .ok (.invokestatic 87, 3) := by decide +kernel
theorem dX11_pointsBy_19 : decode cX11_pointsBy 19 = .ok (.goto 18, 3) := by decide +kernel
theorem dX11_pointsBy_22 : decode cX11_pointsBy 22 = .ok (.aload_n 0, 1) := by decide +kernel
theorem dX11_pointsBy_23 : decode cX11_pointsBy 23 = .ok (.iload_n 1, 1) := by decide +kernel
theorem dX11_pointsBy_24 : decode cX11_pointsBy 24 = .ok (.iconst 2, 1) := by decide +kernel
theorem dX11_pointsBy_25 : decode cX11_pointsBy 25 = .ok (.invokevirtual 347, 3) := by decide +kernel
theorem dX11_pointsBy_28 : decode cX11_pointsBy 28 = .ok (.iconst 2, 1) := by decide +kernel
theorem dX11_pointsBy_29 : decode cX11_pointsBy 29 = .ok (.if_icmp .ne 7, 3) := by decide +kernel
theorem dX11_pointsBy_32 : decode cX11_pointsBy 32 = .ok (.iconst 1, 1) := by decide +kernel
theorem dX11_pointsBy_33 : decode cX11_pointsBy 33 = .ok (.goto 4, 3) := by decide +kernel
theorem dX11_pointsBy_36 : decode cX11_pointsBy 36 = .ok (.iconst 0, 1) := by decide +kernel
theorem dX11_pointsBy_37 : decode cX11_pointsBy 37 = .ok (.aload_n 0, 1) := by decide +kernel
theorem dX11_pointsBy_38 : decode cX11_pointsBy 38 = .ok (.iload_n 1, 1) := by decide +kernel
theorem dX11_pointsBy_39 : decode cX11_pointsBy 39 = .ok (.bipush 6, 2) := by decide +kernel
theorem dX11_pointsBy_41 : decode cX11_pointsBy 41 = .ok (.invokevirtual 347, 3) := by decide +kernel
theorem dX11_pointsBy_44 : decode cX11_pointsBy 44 = .ok (.iadd, 1) := by decide +kernel
theorem dX11_pointsBy_45 : decode cX11_pointsBy 45 = .ok (.ireturn, 1) := by decide +kernel
def fX11_pointsBy (a0 : Nat) (a1 : Int32) (M : xMem) : Option (Int32 × xMem) :=
  xBn (fX11_rec a0 a1 (nI 2) M) fun r1 M2 => xLt (fun (s3 : Int32) (M4 : xMem) => (xBn (fX11_rec a0 a1 (nI 6) M4) fun r5 M6 => some ((s3 + r5), M6) : Option (Int32 × xMem))) fun J37 => if r1 = (nI 1) then (xBn (fX11_rec a0 a1 (nI 5) M2) fun r9 M10 => xBn (fX11_bits r9 M10) fun r11 M12 => J37 r11 M12) else (xBn (fX11_rec a0 a1 (nI 2) M2) fun r7 M8 => if r7 = (nI 2) then (J37 (nI 1) M8) else (J37 (nI 0) M8))
set_option maxRecDepth 100000 in
set_option maxHeartbeats 4000000 in
theorem zX11_pointsBy (G : xGX) (a0 : Nat) (h0 : xkd a0 = 11) (a1 : Int32) (M : xMem) (r : Int32) (M' : xMem) (h : fX11_pointsBy a0 a1 M = some (r, M')) : xCt G yX11_pointsBy cX11_pointsBy 2 (some .int) 3 [vr G a0, .int a1] M (some (.int r), M') := by
  refine xMet (lv := [some (vr G a0), some (.int a1)]) (by decide) (Nat.le_of_ble_eq_true rfl) rfl ?_
  intro X hG hnL C R0
  subst hG
  have C : xCk X cX11_pointsBy RX11 3 := C
  unfold fX11_pointsBy at h
  refine r_aload_n (pc := 0) C dX11_pointsBy_0 rfl rfl ?_
  refine r_iload_n (pc := 1) C dX11_pointsBy_1 rfl rfl ?_
  refine r_iconst (pc := 2) (v := (nI 2)) C dX11_pointsBy_2 (by decide) ?_
  refine r_vI2 (pc := 3) C (fun r M' e => zX11_rec X.1 a0 h0 a1 (nI 2) M r M' e) h0 (by decide) rfl mX11_rec lX11_347 (by decide) (Nat.le_of_ble_eq_true rfl) dX11_pointsBy_3 h (fun r1 M2 h => ?_)
  refine r_iconst (pc := 6) (v := (nI 1)) C dX11_pointsBy_6 (by decide) ?_
  refine r_jn (fun J => ∀ (s3 : Int32) (M4 : xMem) , J s3 M4 = some (r, M') → WW X 37 [some (vr X.1 a0), some (.int a1)] [.int s3] M4) h (fun s3 M4  h => ?_) (fun J37 hJ37 h => ?_)
  · refine r_aload_n (pc := 37) C dX11_pointsBy_37 rfl rfl ?_
    refine r_iload_n (pc := 38) C dX11_pointsBy_38 rfl rfl ?_
    refine r_bipush (pc := 39) (v := (nI 6)) C dX11_pointsBy_39 (by decide) ?_
    refine r_vI2 (pc := 41) C (fun r M' e => zX11_rec X.1 a0 h0 a1 (nI 6) M4 r M' e) h0 (by decide) rfl mX11_rec lX11_347 (by decide) (Nat.le_of_ble_eq_true rfl) dX11_pointsBy_41 h (fun r5 M6 h => ?_)
    refine r_iadd (pc := 44) C dX11_pointsBy_44 ?_
    exact r_iret (pc := 45) C R0 h dX11_pointsBy_45
  refine r_icmp_ne (pc := 7) (tgt := 22) C dX11_pointsBy_7 (by decide) h (fun _ h => ?_) (fun _ h => ?_)
  · refine r_aload_n (pc := 22) C dX11_pointsBy_22 rfl rfl ?_
    refine r_iload_n (pc := 23) C dX11_pointsBy_23 rfl rfl ?_
    refine r_iconst (pc := 24) (v := (nI 2)) C dX11_pointsBy_24 (by decide) ?_
    refine r_vI2 (pc := 25) C (fun r M' e => zX11_rec X.1 a0 h0 a1 (nI 2) M2 r M' e) h0 (by decide) rfl mX11_rec lX11_347 (by decide) (Nat.le_of_ble_eq_true rfl) dX11_pointsBy_25 h (fun r7 M8 h => ?_)
    refine r_iconst (pc := 28) (v := (nI 2)) C dX11_pointsBy_28 (by decide) ?_
    refine r_icmp_ne (pc := 29) (tgt := 36) C dX11_pointsBy_29 (by decide) h (fun _ h => ?_) (fun _ h => ?_)
    · refine r_iconst (pc := 36) (v := (nI 0)) C dX11_pointsBy_36 (by decide) ?_
      exact hJ37 (nI 0) M8  h
    · refine r_iconst (pc := 32) (v := (nI 1)) C dX11_pointsBy_32 (by decide) ?_
      refine r_goto (pc := 33) (tgt := 37) C dX11_pointsBy_33 (by decide) ?_
      exact hJ37 (nI 1) M8  h
  · refine r_aload_n (pc := 10) C dX11_pointsBy_10 rfl rfl ?_
    refine r_iload_n (pc := 11) C dX11_pointsBy_11 rfl rfl ?_
    refine r_iconst (pc := 12) (v := (nI 5)) C dX11_pointsBy_12 (by decide) ?_
    refine r_vI2 (pc := 13) C (fun r M' e => zX11_rec X.1 a0 h0 a1 (nI 5) M2 r M' e) h0 (by decide) rfl mX11_rec lX11_347 (by decide) (Nat.le_of_ble_eq_true rfl) dX11_pointsBy_13 h (fun r9 M10 h => ?_)
    refine r_sI1 (pc := 16) C (fun r M' e => zX11_bits X.1 r9 M10 r M' e) mX11_bits lX11_87 (by decide) (Nat.le_of_ble_eq_true rfl) dX11_pointsBy_16 h (fun r11 M12 h => ?_)
    refine r_goto (pc := 19) (tgt := 37) C dX11_pointsBy_19 (by decide) ?_
    exact hJ37 r11 M12  h
theorem dX11_isRaider_0 : decode cX11_isRaider 0 = .ok (.aload_n 0, 1) := by decide +kernel
theorem dX11_isRaider_1 : decode cX11_isRaider 1 = .ok (.iload_n 1, 1) := by decide +kernel
theorem dX11_isRaider_2 : decode cX11_isRaider 2 = .ok (.iconst 0, 1) := by decide +kernel
theorem dX11_isRaider_3 : decode cX11_isRaider 3 = .ok (.invokevirtual 347, 3) := by decide +kernel
theorem dX11_isRaider_6 : decode cX11_isRaider 6 = .ok (.iload_n 2, 1) := by decide +kernel
theorem dX11_isRaider_7 : decode cX11_isRaider 7 = .ok (.if_icmp .ne 17, 3) := by decide +kernel
theorem dX11_isRaider_10 : decode cX11_isRaider 10 = .ok (.aload_n 0, 1) := by decide +kernel
theorem dX11_isRaider_11 : decode cX11_isRaider 11 = .ok (.iload_n 1, 1) := by decide +kernel
theorem dX11_isRaider_12 : decode cX11_isRaider 12 = .ok (.iconst 1, 1) := by decide +kernel
theorem dX11_isRaider_13 : decode cX11_isRaider 13 = .ok (.invokevirtual 347, 3) := by decide +kernel
theorem dX11_isRaider_16 : decode cX11_isRaider 16 = .ok (.iload_n 3, 1) := by decide +kernel
theorem dX11_isRaider_17 : decode cX11_isRaider 17 = .ok (.if_icmp .ne 7, 3) := by decide +kernel
theorem dX11_isRaider_20 : decode cX11_isRaider 20 = .ok (.iconst 1, 1) := by decide +kernel
theorem dX11_isRaider_21 : decode cX11_isRaider 21 = .ok (.goto 4, 3) := by decide +kernel
theorem dX11_isRaider_24 : decode cX11_isRaider 24 = .ok (.iconst 0, 1) := by decide +kernel
theorem dX11_isRaider_25 : decode cX11_isRaider 25 = .ok (.ireturn, 1) := by decide +kernel
def fX11_isRaider (a0 : Nat) (a1 : Int32) (a2 : Int32) (a3 : Int32) (M : xMem) : Option (Int32 × xMem) :=
  xBn (fX11_rec a0 a1 (nI 0) M) fun r1 M2 => if r1 = a2 then (xBn (fX11_rec a0 a1 (nI 1) M2) fun r3 M4 => if r3 = a3 then (some ((nI 1), M4)) else (some ((nI 0), M4))) else (some ((nI 0), M2))
set_option maxRecDepth 100000 in
set_option maxHeartbeats 4000000 in
theorem zX11_isRaider (G : xGX) (a0 : Nat) (h0 : xkd a0 = 11) (a1 : Int32) (a2 : Int32) (a3 : Int32) (M : xMem) (r : Int32) (M' : xMem) (h : fX11_isRaider a0 a1 a2 a3 M = some (r, M')) : xCt G yX11_isRaider cX11_isRaider 4 (some .boolean) 3 [vr G a0, .int a1, .int a2, .int a3] M (some (.int r), M') := by
  refine xMet (lv := [some (vr G a0), some (.int a1), some (.int a2), some (.int a3)]) (by decide) (Nat.le_of_ble_eq_true rfl) rfl ?_
  intro X hG hnL C R0
  subst hG
  have C : xCk X cX11_isRaider RX11 3 := C
  unfold fX11_isRaider at h
  refine r_aload_n (pc := 0) C dX11_isRaider_0 rfl rfl ?_
  refine r_iload_n (pc := 1) C dX11_isRaider_1 rfl rfl ?_
  refine r_iconst (pc := 2) (v := (nI 0)) C dX11_isRaider_2 (by decide) ?_
  refine r_vI2 (pc := 3) C (fun r M' e => zX11_rec X.1 a0 h0 a1 (nI 0) M r M' e) h0 (by decide) rfl mX11_rec lX11_347 (by decide) (Nat.le_of_ble_eq_true rfl) dX11_isRaider_3 h (fun r1 M2 h => ?_)
  refine r_iload_n (pc := 6) C dX11_isRaider_6 rfl rfl ?_
  refine r_icmp_ne (pc := 7) (tgt := 24) C dX11_isRaider_7 (by decide) h (fun _ h => ?_) (fun _ h => ?_)
  · refine r_iconst (pc := 24) (v := (nI 0)) C dX11_isRaider_24 (by decide) ?_
    exact r_zret (pc := 25) (Or.inl (by decide)) C R0 h dX11_isRaider_25
  · refine r_aload_n (pc := 10) C dX11_isRaider_10 rfl rfl ?_
    refine r_iload_n (pc := 11) C dX11_isRaider_11 rfl rfl ?_
    refine r_iconst (pc := 12) (v := (nI 1)) C dX11_isRaider_12 (by decide) ?_
    refine r_vI2 (pc := 13) C (fun r M' e => zX11_rec X.1 a0 h0 a1 (nI 1) M2 r M' e) h0 (by decide) rfl mX11_rec lX11_347 (by decide) (Nat.le_of_ble_eq_true rfl) dX11_isRaider_13 h (fun r3 M4 h => ?_)
    refine r_iload_n (pc := 16) C dX11_isRaider_16 rfl rfl ?_
    refine r_icmp_ne (pc := 17) (tgt := 24) C dX11_isRaider_17 (by decide) h (fun _ h => ?_) (fun _ h => ?_)
    · refine r_iconst (pc := 24) (v := (nI 0)) C dX11_isRaider_24 (by decide) ?_
      exact r_zret (pc := 25) (Or.inl (by decide)) C R0 h dX11_isRaider_25
    · refine r_iconst (pc := 20) (v := (nI 1)) C dX11_isRaider_20 (by decide) ?_
      refine r_goto (pc := 21) (tgt := 25) C dX11_isRaider_21 (by decide) ?_
      exact r_zret (pc := 25) (Or.inr (by decide)) C R0 h dX11_isRaider_25
theorem dX11_isTackler_0 : decode cX11_isTackler 0 = .ok (.aload_n 0, 1) := by decide +kernel
theorem dX11_isTackler_1 : decode cX11_isTackler 1 = .ok (.iload_n 1, 1) := by decide +kernel
theorem dX11_isTackler_2 : decode cX11_isTackler 2 = .ok (.iconst 0, 1) := by decide +kernel
theorem dX11_isTackler_3 : decode cX11_isTackler 3 = .ok (.invokevirtual 347, 3) := by decide +kernel
theorem dX11_isTackler_6 : decode cX11_isTackler 6 = .ok (.iload_n 2, 1) := by decide +kernel
theorem dX11_isTackler_7 : decode cX11_isTackler 7 = .ok (.if_icmp .eq 27, 3) := by decide +kernel
theorem dX11_isTackler_10 : decode cX11_isTackler 10 = .ok (.aload_n 0, 1) := by decide +kernel
theorem dX11_isTackler_11 : decode cX11_isTackler 11 = .ok (.iload_n 1, 1) := by decide +kernel
theorem dX11_isTackler_12 : decode cX11_isTackler 12 = .ok (.iconst 2, 1) := by decide +kernel
theorem dX11_isTackler_13 : decode cX11_isTackler 13 = .ok (.invokevirtual 347, 3) := by decide +kernel
theorem dX11_isTackler_16 : decode cX11_isTackler 16 = .ok (.iconst 3, 1) := by decide +kernel
theorem dX11_isTackler_17 : decode cX11_isTackler 17 = .ok (.if_icmp .ne 17, 3) := by decide +kernel
theorem dX11_isTackler_20 : decode cX11_isTackler 20 = .ok (.aload_n 0, 1) := by decide +kernel
theorem dX11_isTackler_21 : decode cX11_isTackler 21 = .ok (.iload_n 1, 1) := by decide +kernel
theorem dX11_isTackler_22 : decode cX11_isTackler 22 = .ok (.iconst 5, 1) := by decide +kernel
theorem dX11_isTackler_23 : decode cX11_isTackler 23 = .ok (.invokevirtual 347, 3) := by decide +kernel
theorem dX11_isTackler_26 : decode cX11_isTackler 26 = .ok (.iload_n 3, 1) := by decide +kernel
theorem dX11_isTackler_27 : decode cX11_isTackler 27 = .ok (.if_icmp .ne 7, 3) := by decide +kernel
theorem dX11_isTackler_30 : decode cX11_isTackler 30 = .ok (.iconst 1, 1) := by decide +kernel
theorem dX11_isTackler_31 : decode cX11_isTackler 31 = .ok (.goto 4, 3) := by decide +kernel
theorem dX11_isTackler_34 : decode cX11_isTackler 34 = .ok (.iconst 0, 1) := by decide +kernel
theorem dX11_isTackler_35 : decode cX11_isTackler 35 = .ok (.ireturn, 1) := by decide +kernel
def fX11_isTackler (a0 : Nat) (a1 : Int32) (a2 : Int32) (a3 : Int32) (M : xMem) : Option (Int32 × xMem) :=
  xBn (fX11_rec a0 a1 (nI 0) M) fun r1 M2 => if r1 = a2 then (some ((nI 0), M2)) else (xBn (fX11_rec a0 a1 (nI 2) M2) fun r3 M4 => if r3 = (nI 3) then (xBn (fX11_rec a0 a1 (nI 5) M4) fun r5 M6 => if r5 = a3 then (some ((nI 1), M6)) else (some ((nI 0), M6))) else (some ((nI 0), M4)))
set_option maxRecDepth 100000 in
set_option maxHeartbeats 4000000 in
theorem zX11_isTackler (G : xGX) (a0 : Nat) (h0 : xkd a0 = 11) (a1 : Int32) (a2 : Int32) (a3 : Int32) (M : xMem) (r : Int32) (M' : xMem) (h : fX11_isTackler a0 a1 a2 a3 M = some (r, M')) : xCt G yX11_isTackler cX11_isTackler 4 (some .boolean) 3 [vr G a0, .int a1, .int a2, .int a3] M (some (.int r), M') := by
  refine xMet (lv := [some (vr G a0), some (.int a1), some (.int a2), some (.int a3)]) (by decide) (Nat.le_of_ble_eq_true rfl) rfl ?_
  intro X hG hnL C R0
  subst hG
  have C : xCk X cX11_isTackler RX11 3 := C
  unfold fX11_isTackler at h
  refine r_aload_n (pc := 0) C dX11_isTackler_0 rfl rfl ?_
  refine r_iload_n (pc := 1) C dX11_isTackler_1 rfl rfl ?_
  refine r_iconst (pc := 2) (v := (nI 0)) C dX11_isTackler_2 (by decide) ?_
  refine r_vI2 (pc := 3) C (fun r M' e => zX11_rec X.1 a0 h0 a1 (nI 0) M r M' e) h0 (by decide) rfl mX11_rec lX11_347 (by decide) (Nat.le_of_ble_eq_true rfl) dX11_isTackler_3 h (fun r1 M2 h => ?_)
  refine r_iload_n (pc := 6) C dX11_isTackler_6 rfl rfl ?_
  refine r_icmp_eq (pc := 7) (tgt := 34) C dX11_isTackler_7 (by decide) h (fun _ h => ?_) (fun _ h => ?_)
  · refine r_iconst (pc := 34) (v := (nI 0)) C dX11_isTackler_34 (by decide) ?_
    exact r_zret (pc := 35) (Or.inl (by decide)) C R0 h dX11_isTackler_35
  · refine r_aload_n (pc := 10) C dX11_isTackler_10 rfl rfl ?_
    refine r_iload_n (pc := 11) C dX11_isTackler_11 rfl rfl ?_
    refine r_iconst (pc := 12) (v := (nI 2)) C dX11_isTackler_12 (by decide) ?_
    refine r_vI2 (pc := 13) C (fun r M' e => zX11_rec X.1 a0 h0 a1 (nI 2) M2 r M' e) h0 (by decide) rfl mX11_rec lX11_347 (by decide) (Nat.le_of_ble_eq_true rfl) dX11_isTackler_13 h (fun r3 M4 h => ?_)
    refine r_iconst (pc := 16) (v := (nI 3)) C dX11_isTackler_16 (by decide) ?_
    refine r_icmp_ne (pc := 17) (tgt := 34) C dX11_isTackler_17 (by decide) h (fun _ h => ?_) (fun _ h => ?_)
    · refine r_iconst (pc := 34) (v := (nI 0)) C dX11_isTackler_34 (by decide) ?_
      exact r_zret (pc := 35) (Or.inl (by decide)) C R0 h dX11_isTackler_35
    · refine r_aload_n (pc := 20) C dX11_isTackler_20 rfl rfl ?_
      refine r_iload_n (pc := 21) C dX11_isTackler_21 rfl rfl ?_
      refine r_iconst (pc := 22) (v := (nI 5)) C dX11_isTackler_22 (by decide) ?_
      refine r_vI2 (pc := 23) C (fun r M' e => zX11_rec X.1 a0 h0 a1 (nI 5) M4 r M' e) h0 (by decide) rfl mX11_rec lX11_347 (by decide) (Nat.le_of_ble_eq_true rfl) dX11_isTackler_23 h (fun r5 M6 h => ?_)
      refine r_iload_n (pc := 26) C dX11_isTackler_26 rfl rfl ?_
      refine r_icmp_ne (pc := 27) (tgt := 34) C dX11_isTackler_27 (by decide) h (fun _ h => ?_) (fun _ h => ?_)
      · refine r_iconst (pc := 34) (v := (nI 0)) C dX11_isTackler_34 (by decide) ?_
        exact r_zret (pc := 35) (Or.inl (by decide)) C R0 h dX11_isTackler_35
      · refine r_iconst (pc := 30) (v := (nI 1)) C dX11_isTackler_30 (by decide) ?_
        refine r_goto (pc := 31) (tgt := 35) C dX11_isTackler_31 (by decide) ?_
        exact r_zret (pc := 35) (Or.inr (by decide)) C R0 h dX11_isTackler_35
theorem dX11_tackleOf_0 : decode cX11_tackleOf 0 = .ok (.aload_n 0, 1) := by decide +kernel
theorem dX11_tackleOf_1 : decode cX11_tackleOf 1 = .ok (.iload_n 1, 1) := by decide +kernel
theorem dX11_tackleOf_2 : decode cX11_tackleOf 2 = .ok (.bipush 11, 2) := by decide +kernel
theorem dX11_tackleOf_4 : decode cX11_tackleOf 4 = .ok (.aload_n 0, 1) := by decide +kernel
theorem dX11_tackleOf_5 : decode cX11_tackleOf 5 = .ok (.iload_n 1, 1) := by decide +kernel
theorem dX11_tackleOf_6 : decode cX11_tackleOf 6 = .ok (.iconst 0, 1) := by decide +kernel
theorem dX11_tackleOf_7 : decode cX11_tackleOf 7 = .ok (.invokevirtual 347, 3) := by decide +kernel
theorem dX11_tackleOf_10 : decode cX11_tackleOf 10 = .ok (.isub, 1) := by decide +kernel
theorem dX11_tackleOf_11 : decode cX11_tackleOf 11 = .ok (.invokevirtual 347, 3) := by decide +kernel
theorem dX11_tackleOf_14 : decode cX11_tackleOf 14 = .ok (.invokestatic 87, 3) := by decide +kernel
theorem dX11_tackleOf_17 : decode cX11_tackleOf 17 = .ok (.iconst 3, 1) := by decide +kernel
theorem dX11_tackleOf_18 : decode cX11_tackleOf 18 = .ok (.if_icmp .gt 7, 3) := by decide +kernel
theorem dX11_tackleOf_21 : decode cX11_tackleOf 21 = .ok (.iconst 2, 1) := by decide +kernel
theorem dX11_tackleOf_22 : decode cX11_tackleOf 22 = .ok (.goto 4, 3) := by decide +kernel
theorem dX11_tackleOf_25 : decode cX11_tackleOf 25 = .ok (.iconst 1, 1) := by decide +kernel
theorem dX11_tackleOf_26 : decode cX11_tackleOf 26 = .ok (.ireturn, 1) := by decide +kernel
def fX11_tackleOf (a0 : Nat) (a1 : Int32) (M : xMem) : Option (Int32 × xMem) :=
  xBn (fX11_rec a0 a1 (nI 0) M) fun r1 M2 => xBn (fX11_rec a0 a1 ((nI 11) - r1) M2) fun r3 M4 => xBn (fX11_bits r3 M4) fun r5 M6 => if (nI 3) < r5 then (some ((nI 1), M6)) else (some ((nI 2), M6))
set_option maxRecDepth 100000 in
set_option maxHeartbeats 4000000 in
theorem zX11_tackleOf (G : xGX) (a0 : Nat) (h0 : xkd a0 = 11) (a1 : Int32) (M : xMem) (r : Int32) (M' : xMem) (h : fX11_tackleOf a0 a1 M = some (r, M')) : xCt G yX11_tackleOf cX11_tackleOf 2 (some .int) 3 [vr G a0, .int a1] M (some (.int r), M') := by
  refine xMet (lv := [some (vr G a0), some (.int a1)]) (by decide) (Nat.le_of_ble_eq_true rfl) rfl ?_
  intro X hG hnL C R0
  subst hG
  have C : xCk X cX11_tackleOf RX11 3 := C
  unfold fX11_tackleOf at h
  refine r_aload_n (pc := 0) C dX11_tackleOf_0 rfl rfl ?_
  refine r_iload_n (pc := 1) C dX11_tackleOf_1 rfl rfl ?_
  refine r_bipush (pc := 2) (v := (nI 11)) C dX11_tackleOf_2 (by decide) ?_
  refine r_aload_n (pc := 4) C dX11_tackleOf_4 rfl rfl ?_
  refine r_iload_n (pc := 5) C dX11_tackleOf_5 rfl rfl ?_
  refine r_iconst (pc := 6) (v := (nI 0)) C dX11_tackleOf_6 (by decide) ?_
  refine r_vI2 (pc := 7) C (fun r M' e => zX11_rec X.1 a0 h0 a1 (nI 0) M r M' e) h0 (by decide) rfl mX11_rec lX11_347 (by decide) (Nat.le_of_ble_eq_true rfl) dX11_tackleOf_7 h (fun r1 M2 h => ?_)
  refine r_isub (pc := 10) C dX11_tackleOf_10 ?_
  refine r_vI2 (pc := 11) C (fun r M' e => zX11_rec X.1 a0 h0 a1 ((nI 11) - r1) M2 r M' e) h0 (by decide) rfl mX11_rec lX11_347 (by decide) (Nat.le_of_ble_eq_true rfl) dX11_tackleOf_11 h (fun r3 M4 h => ?_)
  refine r_sI1 (pc := 14) C (fun r M' e => zX11_bits X.1 r3 M4 r M' e) mX11_bits lX11_87 (by decide) (Nat.le_of_ble_eq_true rfl) dX11_tackleOf_14 h (fun r5 M6 h => ?_)
  refine r_iconst (pc := 17) (v := (nI 3)) C dX11_tackleOf_17 (by decide) ?_
  refine r_icmp_gt (pc := 18) (tgt := 25) C dX11_tackleOf_18 (by decide) h (fun _ h => ?_) (fun _ h => ?_)
  · refine r_iconst (pc := 25) (v := (nI 1)) C dX11_tackleOf_25 (by decide) ?_
    exact r_iret (pc := 26) C R0 h dX11_tackleOf_26
  · refine r_iconst (pc := 21) (v := (nI 2)) C dX11_tackleOf_21 (by decide) ?_
    refine r_goto (pc := 22) (tgt := 26) C dX11_tackleOf_22 (by decide) ?_
    exact r_iret (pc := 26) C R0 h dX11_tackleOf_26
theorem dX11_wentOut_0 : decode cX11_wentOut 0 = .ok (.aload_n 0, 1) := by decide +kernel
theorem dX11_wentOut_1 : decode cX11_wentOut 1 = .ok (.iload_n 1, 1) := by decide +kernel
theorem dX11_wentOut_2 : decode cX11_wentOut 2 = .ok (.iconst 2, 1) := by decide +kernel
theorem dX11_wentOut_3 : decode cX11_wentOut 3 = .ok (.invokevirtual 347, 3) := by decide +kernel
theorem dX11_wentOut_6 : decode cX11_wentOut 6 = .ok (.istore_n 2, 1) := by decide +kernel
theorem dX11_wentOut_7 : decode cX11_wentOut 7 = .ok (.iload_n 2, 1) := by decide +kernel
theorem dX11_wentOut_8 : decode cX11_wentOut 8 = .ok (.iconst 3, 1) := by decide +kernel
theorem dX11_wentOut_9 : decode cX11_wentOut 9 = .ok (.if_icmp .eq 23, 3) := by decide +kernel
theorem dX11_wentOut_12 : decode cX11_wentOut 12 = .ok (.iload_n 2, 1) := by decide +kernel
theorem dX11_wentOut_13 : decode cX11_wentOut 13 = .ok (.iconst 4, 1) := by decide +kernel
theorem dX11_wentOut_14 : decode cX11_wentOut 14 = .ok (.if_icmp .eq 18, 3) := by decide +kernel
theorem dX11_wentOut_17 : decode cX11_wentOut 17 = .ok (.iload_n 2, 1) := by decide +kernel
theorem dX11_wentOut_18 : decode cX11_wentOut 18 = .ok (.ifCond .ne 18, 3) := by decide +kernel
theorem dX11_wentOut_21 : decode cX11_wentOut 21 = .ok (.aload_n 0, 1) := by decide +kernel
theorem dX11_wentOut_22 : decode cX11_wentOut 22 = .ok (.iload_n 1, 1) := by decide +kernel
theorem dX11_wentOut_23 : decode cX11_wentOut 23 = .ok (.bipush 7, 2) := by decide +kernel
theorem dX11_wentOut_25 : decode cX11_wentOut 25 = .ok (.invokevirtual 347, 3) := by decide +kernel
theorem dX11_wentOut_28 : decode cX11_wentOut 28 = .ok (.iconst 1, 1) := by decide +kernel
theorem dX11_wentOut_29 : decode cX11_wentOut 29 = .ok (.if_icmp .ne 7, 3) := by decide +kernel
theorem dX11_wentOut_32 : decode cX11_wentOut 32 = .ok (.iconst 1, 1) := by decide +kernel
theorem dX11_wentOut_33 : decode cX11_wentOut 33 = .ok (.goto 4, 3) := by decide +kernel
theorem dX11_wentOut_36 : decode cX11_wentOut 36 = .ok (.iconst 0, 1) := by decide +kernel
theorem dX11_wentOut_37 : decode cX11_wentOut 37 = .ok (.ireturn, 1) := by decide +kernel
def fX11_wentOut (a0 : Nat) (a1 : Int32) (M : xMem) : Option (Int32 × xMem) :=
  xBn (fX11_rec a0 a1 (nI 2) M) fun r1 M2 => if r1 = (nI 3) then (some ((nI 1), M2)) else (if r1 = (nI 4) then (some ((nI 1), M2)) else (if r1 = 0 then (xBn (fX11_rec a0 a1 (nI 7) M2) fun r3 M4 => if r3 = (nI 1) then (some ((nI 1), M4)) else (some ((nI 0), M4))) else (some ((nI 0), M2))))
set_option maxRecDepth 100000 in
set_option maxHeartbeats 4000000 in
theorem zX11_wentOut (G : xGX) (a0 : Nat) (h0 : xkd a0 = 11) (a1 : Int32) (M : xMem) (r : Int32) (M' : xMem) (h : fX11_wentOut a0 a1 M = some (r, M')) : xCt G yX11_wentOut cX11_wentOut 3 (some .boolean) 3 [vr G a0, .int a1] M (some (.int r), M') := by
  refine xMet (lv := [some (vr G a0), some (.int a1), none]) (by decide) (Nat.le_of_ble_eq_true rfl) rfl ?_
  intro X hG hnL C R0
  subst hG
  have C : xCk X cX11_wentOut RX11 3 := C
  have hn2 : 2 < X.2.2.2.2.2.2.2.2.2.2.2.2.2 := by rw [hnL]; decide
  unfold fX11_wentOut at h
  refine r_aload_n (pc := 0) C dX11_wentOut_0 rfl rfl ?_
  refine r_iload_n (pc := 1) C dX11_wentOut_1 rfl rfl ?_
  refine r_iconst (pc := 2) (v := (nI 2)) C dX11_wentOut_2 (by decide) ?_
  refine r_vI2 (pc := 3) C (fun r M' e => zX11_rec X.1 a0 h0 a1 (nI 2) M r M' e) h0 (by decide) rfl mX11_rec lX11_347 (by decide) (Nat.le_of_ble_eq_true rfl) dX11_wentOut_3 h (fun r1 M2 h => ?_)
  refine r_istore_n (pc := 6) (lv' := [_, _, _]) C dX11_wentOut_6 rfl hn2 rfl ?_
  refine r_iload_n (pc := 7) C dX11_wentOut_7 rfl rfl ?_
  refine r_iconst (pc := 8) (v := (nI 3)) C dX11_wentOut_8 (by decide) ?_
  refine r_icmp_eq (pc := 9) (tgt := 32) C dX11_wentOut_9 (by decide) h (fun _ h => ?_) (fun _ h => ?_)
  · refine r_iconst (pc := 32) (v := (nI 1)) C dX11_wentOut_32 (by decide) ?_
    refine r_goto (pc := 33) (tgt := 37) C dX11_wentOut_33 (by decide) ?_
    exact r_zret (pc := 37) (Or.inr (by decide)) C R0 h dX11_wentOut_37
  · refine r_iload_n (pc := 12) C dX11_wentOut_12 rfl rfl ?_
    refine r_iconst (pc := 13) (v := (nI 4)) C dX11_wentOut_13 (by decide) ?_
    refine r_icmp_eq (pc := 14) (tgt := 32) C dX11_wentOut_14 (by decide) h (fun _ h => ?_) (fun _ h => ?_)
    · refine r_iconst (pc := 32) (v := (nI 1)) C dX11_wentOut_32 (by decide) ?_
      refine r_goto (pc := 33) (tgt := 37) C dX11_wentOut_33 (by decide) ?_
      exact r_zret (pc := 37) (Or.inr (by decide)) C R0 h dX11_wentOut_37
    · refine r_iload_n (pc := 17) C dX11_wentOut_17 rfl rfl ?_
      refine r_if_ne (pc := 18) (tgt := 36) C dX11_wentOut_18 (by decide) h (fun _ h => ?_) (fun _ h => ?_)
      · refine r_iconst (pc := 36) (v := (nI 0)) C dX11_wentOut_36 (by decide) ?_
        exact r_zret (pc := 37) (Or.inl (by decide)) C R0 h dX11_wentOut_37
      · refine r_aload_n (pc := 21) C dX11_wentOut_21 rfl rfl ?_
        refine r_iload_n (pc := 22) C dX11_wentOut_22 rfl rfl ?_
        refine r_bipush (pc := 23) (v := (nI 7)) C dX11_wentOut_23 (by decide) ?_
        refine r_vI2 (pc := 25) C (fun r M' e => zX11_rec X.1 a0 h0 a1 (nI 7) M2 r M' e) h0 (by decide) rfl mX11_rec lX11_347 (by decide) (Nat.le_of_ble_eq_true rfl) dX11_wentOut_25 h (fun r3 M4 h => ?_)
        refine r_iconst (pc := 28) (v := (nI 1)) C dX11_wentOut_28 (by decide) ?_
        refine r_icmp_ne (pc := 29) (tgt := 36) C dX11_wentOut_29 (by decide) h (fun _ h => ?_) (fun _ h => ?_)
        · refine r_iconst (pc := 36) (v := (nI 0)) C dX11_wentOut_36 (by decide) ?_
          exact r_zret (pc := 37) (Or.inl (by decide)) C R0 h dX11_wentOut_37
        · refine r_iconst (pc := 32) (v := (nI 1)) C dX11_wentOut_32 (by decide) ?_
          refine r_goto (pc := 33) (tgt := 37) C dX11_wentOut_33 (by decide) ?_
          exact r_zret (pc := 37) (Or.inr (by decide)) C R0 h dX11_wentOut_37
theorem dX11_isTouched_0 : decode cX11_isTouched 0 = .ok (.aload_n 0, 1) := by decide +kernel
theorem dX11_isTouched_1 : decode cX11_isTouched 1 = .ok (.iload_n 1, 1) := by decide +kernel
theorem dX11_isTouched_2 : decode cX11_isTouched 2 = .ok (.iconst 0, 1) := by decide +kernel
theorem dX11_isTouched_3 : decode cX11_isTouched 3 = .ok (.invokevirtual 347, 3) := by decide +kernel
theorem dX11_isTouched_6 : decode cX11_isTouched 6 = .ok (.iload_n 2, 1) := by decide +kernel
theorem dX11_isTouched_7 : decode cX11_isTouched 7 = .ok (.if_icmp .eq 30, 3) := by decide +kernel
theorem dX11_isTouched_10 : decode cX11_isTouched 10 = .ok (.aload_n 0, 1) := by decide +kernel
theorem dX11_isTouched_11 : decode cX11_isTouched 11 = .ok (.iload_n 1, 1) := by decide +kernel
theorem dX11_isTouched_12 : decode cX11_isTouched 12 = .ok (.iconst 2, 1) := by decide +kernel
theorem dX11_isTouched_13 : decode cX11_isTouched 13 = .ok (.invokevirtual 347, 3) := by decide +kernel
theorem dX11_isTouched_16 : decode cX11_isTouched 16 = .ok (.iconst 1, 1) := by decide +kernel
theorem dX11_isTouched_17 : decode cX11_isTouched 17 = .ok (.if_icmp .ne 20, 3) := by decide +kernel
theorem dX11_isTouched_20 : decode cX11_isTouched 20 = .ok (.aload_n 0, 1) := by decide +kernel
theorem dX11_isTouched_21 : decode cX11_isTouched 21 = .ok (.iload_n 1, 1) := by decide +kernel
theorem dX11_isTouched_22 : decode cX11_isTouched 22 = .ok (.iconst 5, 1) := by decide +kernel
theorem dX11_isTouched_23 : decode cX11_isTouched 23 = .ok (.invokevirtual 347, 3) := by decide +kernel
theorem dX11_isTouched_26 : decode cX11_isTouched 26 = .ok (.iload_n 3, 1) := by decide +kernel
theorem dX11_isTouched_27 : decode cX11_isTouched 27 = .ok (.invokestatic 275, 3) := by decide +kernel
theorem dX11_isTouched_30 : decode cX11_isTouched 30 = .ok (.ifCond .eq 7, 3) := by decide +kernel
theorem dX11_isTouched_33 : decode cX11_isTouched 33 = .ok (.iconst 1, 1) := by decide +kernel
theorem dX11_isTouched_34 : decode cX11_isTouched 34 = .ok (.goto 4, 3) := by decide +kernel
theorem dX11_isTouched_37 : decode cX11_isTouched 37 = .ok (.iconst 0, 1) := by decide +kernel
theorem dX11_isTouched_38 : decode cX11_isTouched 38 = .ok (.ireturn, 1) := by decide +kernel
def fX11_isTouched (a0 : Nat) (a1 : Int32) (a2 : Int32) (a3 : Int32) (M : xMem) : Option (Int32 × xMem) :=
  xBn (fX11_rec a0 a1 (nI 0) M) fun r1 M2 => if r1 = a2 then (some ((nI 0), M2)) else (xBn (fX11_rec a0 a1 (nI 2) M2) fun r3 M4 => if r3 = (nI 1) then (xBn (fX11_rec a0 a1 (nI 5) M4) fun r5 M6 => xBn (fX11_has r5 a3 M6) fun r7 M8 => if r7 = 0 then (some ((nI 0), M8)) else (some ((nI 1), M8))) else (some ((nI 0), M4)))
set_option maxRecDepth 100000 in
set_option maxHeartbeats 4000000 in
theorem zX11_isTouched (G : xGX) (a0 : Nat) (h0 : xkd a0 = 11) (a1 : Int32) (a2 : Int32) (a3 : Int32) (M : xMem) (r : Int32) (M' : xMem) (h : fX11_isTouched a0 a1 a2 a3 M = some (r, M')) : xCt G yX11_isTouched cX11_isTouched 4 (some .boolean) 3 [vr G a0, .int a1, .int a2, .int a3] M (some (.int r), M') := by
  refine xMet (lv := [some (vr G a0), some (.int a1), some (.int a2), some (.int a3)]) (by decide) (Nat.le_of_ble_eq_true rfl) rfl ?_
  intro X hG hnL C R0
  subst hG
  have C : xCk X cX11_isTouched RX11 3 := C
  unfold fX11_isTouched at h
  refine r_aload_n (pc := 0) C dX11_isTouched_0 rfl rfl ?_
  refine r_iload_n (pc := 1) C dX11_isTouched_1 rfl rfl ?_
  refine r_iconst (pc := 2) (v := (nI 0)) C dX11_isTouched_2 (by decide) ?_
  refine r_vI2 (pc := 3) C (fun r M' e => zX11_rec X.1 a0 h0 a1 (nI 0) M r M' e) h0 (by decide) rfl mX11_rec lX11_347 (by decide) (Nat.le_of_ble_eq_true rfl) dX11_isTouched_3 h (fun r1 M2 h => ?_)
  refine r_iload_n (pc := 6) C dX11_isTouched_6 rfl rfl ?_
  refine r_icmp_eq (pc := 7) (tgt := 37) C dX11_isTouched_7 (by decide) h (fun _ h => ?_) (fun _ h => ?_)
  · refine r_iconst (pc := 37) (v := (nI 0)) C dX11_isTouched_37 (by decide) ?_
    exact r_zret (pc := 38) (Or.inl (by decide)) C R0 h dX11_isTouched_38
  · refine r_aload_n (pc := 10) C dX11_isTouched_10 rfl rfl ?_
    refine r_iload_n (pc := 11) C dX11_isTouched_11 rfl rfl ?_
    refine r_iconst (pc := 12) (v := (nI 2)) C dX11_isTouched_12 (by decide) ?_
    refine r_vI2 (pc := 13) C (fun r M' e => zX11_rec X.1 a0 h0 a1 (nI 2) M2 r M' e) h0 (by decide) rfl mX11_rec lX11_347 (by decide) (Nat.le_of_ble_eq_true rfl) dX11_isTouched_13 h (fun r3 M4 h => ?_)
    refine r_iconst (pc := 16) (v := (nI 1)) C dX11_isTouched_16 (by decide) ?_
    refine r_icmp_ne (pc := 17) (tgt := 37) C dX11_isTouched_17 (by decide) h (fun _ h => ?_) (fun _ h => ?_)
    · refine r_iconst (pc := 37) (v := (nI 0)) C dX11_isTouched_37 (by decide) ?_
      exact r_zret (pc := 38) (Or.inl (by decide)) C R0 h dX11_isTouched_38
    · refine r_aload_n (pc := 20) C dX11_isTouched_20 rfl rfl ?_
      refine r_iload_n (pc := 21) C dX11_isTouched_21 rfl rfl ?_
      refine r_iconst (pc := 22) (v := (nI 5)) C dX11_isTouched_22 (by decide) ?_
      refine r_vI2 (pc := 23) C (fun r M' e => zX11_rec X.1 a0 h0 a1 (nI 5) M4 r M' e) h0 (by decide) rfl mX11_rec lX11_347 (by decide) (Nat.le_of_ble_eq_true rfl) dX11_isTouched_23 h (fun r5 M6 h => ?_)
      refine r_iload_n (pc := 26) C dX11_isTouched_26 rfl rfl ?_
      refine r_sI2 (pc := 27) C (fun r M' e => zX11_has X.1 r5 a3 M6 r M' e) mX11_has lX11_275 (by decide) (Nat.le_of_ble_eq_true rfl) dX11_isTouched_27 h (fun r7 M8 h => ?_)
      refine r_if_eq (pc := 30) (tgt := 37) C dX11_isTouched_30 (by decide) h (fun _ h => ?_) (fun _ h => ?_)
      · refine r_iconst (pc := 37) (v := (nI 0)) C dX11_isTouched_37 (by decide) ?_
        exact r_zret (pc := 38) (Or.inl (by decide)) C R0 h dX11_isTouched_38
      · refine r_iconst (pc := 33) (v := (nI 1)) C dX11_isTouched_33 (by decide) ?_
        refine r_goto (pc := 34) (tgt := 38) C dX11_isTouched_34 (by decide) ?_
        exact r_zret (pc := 38) (Or.inr (by decide)) C R0 h dX11_isTouched_38
theorem dX11_inRaid_0 : decode cX11_inRaid 0 = .ok (.aload_n 0, 1) := by decide +kernel
theorem dX11_inRaid_1 : decode cX11_inRaid 1 = .ok (.iload_n 1, 1) := by decide +kernel
theorem dX11_inRaid_2 : decode cX11_inRaid 2 = .ok (.iload_n 2, 1) := by decide +kernel
theorem dX11_inRaid_3 : decode cX11_inRaid 3 = .ok (.iload_n 3, 1) := by decide +kernel
theorem dX11_inRaid_4 : decode cX11_inRaid 4 = .ok (.invokevirtual 350, 3) := by decide +kernel
theorem dX11_inRaid_7 : decode cX11_inRaid 7 = .ok (.istore 5, 2) := by decide +kernel
theorem dX11_inRaid_9 : decode cX11_inRaid 9 = .ok (.iload 4, 2) := by decide +kernel
theorem dX11_inRaid_11 : decode cX11_inRaid 11 = .ok (.tableswitch 157 0 5 #[37, 48, 63, 92, 108, 128], 37) := by decide +kernel
theorem dX11_inRaid_48 : decode cX11_inRaid 48 = .ok (.iload 5, 2) := by decide +kernel
theorem dX11_inRaid_50 : decode cX11_inRaid 50 = .ok (.ifCond .eq 7, 3) := by decide +kernel
theorem dX11_inRaid_53 : decode cX11_inRaid 53 = .ok (.iconst 1, 1) := by decide +kernel
theorem dX11_inRaid_54 : decode cX11_inRaid 54 = .ok (.goto 4, 3) := by decide +kernel
theorem dX11_inRaid_57 : decode cX11_inRaid 57 = .ok (.iconst 0, 1) := by decide +kernel
theorem dX11_inRaid_58 : decode cX11_inRaid 58 = .ok (.ireturn, 1) := by decide +kernel
theorem dX11_inRaid_59 : decode cX11_inRaid 59 = .ok (.iload 5, 2) := by decide +kernel
theorem dX11_inRaid_61 : decode cX11_inRaid 61 = .ok (.ifCond .eq 11, 3) := by decide +kernel
theorem dX11_inRaid_64 : decode cX11_inRaid 64 = .ok (.aload_n 0, 1) := by decide +kernel
theorem dX11_inRaid_65 : decode cX11_inRaid 65 = .ok (.iload_n 1, 1) := by decide +kernel
theorem dX11_inRaid_66 : decode cX11_inRaid 66 = .ok (.invokevirtual 354, 3) := by decide +kernel
theorem dX11_inRaid_69 : decode cX11_inRaid 69 = .ok (.goto 4, 3) := by decide +kernel
theorem dX11_inRaid_72 : decode cX11_inRaid 72 = .ok (.iconst 0, 1) := by decide +kernel
theorem dX11_inRaid_73 : decode cX11_inRaid 73 = .ok (.ireturn, 1) := by decide +kernel
theorem dX11_inRaid_74 : decode cX11_inRaid 74 = .ok (.iload 5, 2) := by decide +kernel
theorem dX11_inRaid_76 : decode cX11_inRaid 76 = .ok (.ifCond .eq 25, 3) := by decide +kernel
theorem dX11_inRaid_79 : decode cX11_inRaid 79 = .ok (.aload_n 0, 1) := by decide +kernel
theorem dX11_inRaid_80 : decode cX11_inRaid 80 = .ok (.iload_n 1, 1) := by decide +kernel
theorem dX11_inRaid_81 : decode cX11_inRaid 81 = .ok (.iconst 2, 1) := by decide +kernel
theorem dX11_inRaid_82 : decode cX11_inRaid 82 = .ok (.invokevirtual 347, 3) := by decide +kernel
theorem dX11_inRaid_85 : decode cX11_inRaid 85 = .ok (.iconst 1, 1) := by decide +kernel
theorem dX11_inRaid_86 : decode cX11_inRaid 86 = .ok (.if_icmp .ne 15, 3) := by decide +kernel
theorem dX11_inRaid_89 : decode cX11_inRaid 89 = .ok (.aload_n 0, 1) := by decide +kernel
theorem dX11_inRaid_90 : decode cX11_inRaid 90 = .ok (.iload_n 1, 1) := by decide +kernel
theorem dX11_inRaid_91 : decode cX11_inRaid 91 = .ok (.iconst 5, 1) := by decide +kernel
theorem dX11_inRaid_92 : decode cX11_inRaid 92 = .ok (.invokevirtual 347, 3) := by decide +kernel
theorem dX11_inRaid_95 : decode cX11_inRaid 95 = .ok (.invokestatic 87, 3) := by decide +kernel
theorem dX11_inRaid_98 : decode cX11_inRaid 98 = .ok (.goto 4, 3) := by decide +kernel
theorem dX11_inRaid_101 : decode cX11_inRaid 101 = .ok (.iconst 0, 1) := by decide +kernel
theorem dX11_inRaid_102 : decode cX11_inRaid 102 = .ok (.ireturn, 1) := by decide +kernel
theorem dX11_inRaid_103 : decode cX11_inRaid 103 = .ok (.aload_n 0, 1) := by decide +kernel
theorem dX11_inRaid_104 : decode cX11_inRaid 104 = .ok (.iload_n 1, 1) := by decide +kernel
theorem dX11_inRaid_105 : decode cX11_inRaid 105 = .ok (.iload_n 2, 1) := by decide +kernel
theorem dX11_inRaid_106 : decode cX11_inRaid 106 = .ok (.iload_n 3, 1) := by decide +kernel
theorem dX11_inRaid_107 : decode cX11_inRaid 107 = .ok (.invokevirtual 357, 3) := by decide +kernel
theorem dX11_inRaid_110 : decode cX11_inRaid 110 = .ok (.ifCond .eq 7, 3) := by decide +kernel
theorem dX11_inRaid_113 : decode cX11_inRaid 113 = .ok (.iconst 1, 1) := by decide +kernel
theorem dX11_inRaid_114 : decode cX11_inRaid 114 = .ok (.goto 4, 3) := by decide +kernel
theorem dX11_inRaid_117 : decode cX11_inRaid 117 = .ok (.iconst 0, 1) := by decide +kernel
theorem dX11_inRaid_118 : decode cX11_inRaid 118 = .ok (.ireturn, 1) := by decide +kernel
theorem dX11_inRaid_119 : decode cX11_inRaid 119 = .ok (.aload_n 0, 1) := by decide +kernel
theorem dX11_inRaid_120 : decode cX11_inRaid 120 = .ok (.iload_n 1, 1) := by decide +kernel
theorem dX11_inRaid_121 : decode cX11_inRaid 121 = .ok (.iload_n 2, 1) := by decide +kernel
theorem dX11_inRaid_122 : decode cX11_inRaid 122 = .ok (.iload_n 3, 1) := by decide +kernel
theorem dX11_inRaid_123 : decode cX11_inRaid 123 = .ok (.invokevirtual 357, 3) := by decide +kernel
theorem dX11_inRaid_126 : decode cX11_inRaid 126 = .ok (.ifCond .eq 11, 3) := by decide +kernel
theorem dX11_inRaid_129 : decode cX11_inRaid 129 = .ok (.aload_n 0, 1) := by decide +kernel
theorem dX11_inRaid_130 : decode cX11_inRaid 130 = .ok (.iload_n 1, 1) := by decide +kernel
theorem dX11_inRaid_131 : decode cX11_inRaid 131 = .ok (.invokevirtual 360, 3) := by decide +kernel
theorem dX11_inRaid_134 : decode cX11_inRaid 134 = .ok (.goto 4, 3) := by decide +kernel
theorem dX11_inRaid_137 : decode cX11_inRaid 137 = .ok (.iconst 0, 1) := by decide +kernel
theorem dX11_inRaid_138 : decode cX11_inRaid 138 = .ok (.ireturn, 1) := by decide +kernel
theorem dX11_inRaid_139 : decode cX11_inRaid 139 = .ok (.iload 5, 2) := by decide +kernel
theorem dX11_inRaid_141 : decode cX11_inRaid 141 = .ok (.ifCond .eq 11, 3) := by decide +kernel
theorem dX11_inRaid_144 : decode cX11_inRaid 144 = .ok (.aload_n 0, 1) := by decide +kernel
theorem dX11_inRaid_145 : decode cX11_inRaid 145 = .ok (.iload_n 1, 1) := by decide +kernel
theorem dX11_inRaid_146 : decode cX11_inRaid 146 = .ok (.invokevirtual 363, 3) := by decide +kernel
theorem dX11_inRaid_149 : decode cX11_inRaid 149 = .ok (.ifCond .ne 13, 3) := by decide +kernel
theorem dX11_inRaid_152 : decode cX11_inRaid 152 = .ok (.aload_n 0, 1) := by decide +kernel
theorem dX11_inRaid_153 : decode cX11_inRaid 153 = .ok (.iload_n 1, 1) := by decide +kernel
theorem dX11_inRaid_154 : decode cX11_inRaid 154 = .ok (.iload_n 2, 1) := by decide +kernel
theorem dX11_inRaid_155 : decode cX11_inRaid 155 = .ok (.iload_n 3, 1) := by decide +kernel
theorem dX11_inRaid_156 : decode cX11_inRaid 156 = .ok (.invokevirtual 366, 3) := by decide +kernel
theorem dX11_inRaid_159 : decode cX11_inRaid 159 = .ok (.ifCond .eq 7, 3) := by decide +kernel
theorem dX11_inRaid_162 : decode cX11_inRaid 162 = .ok (.iconst 1, 1) := by decide +kernel
theorem dX11_inRaid_163 : decode cX11_inRaid 163 = .ok (.goto 4, 3) := by decide +kernel
theorem dX11_inRaid_166 : decode cX11_inRaid 166 = .ok (.iconst 0, 1) := by decide +kernel
theorem dX11_inRaid_167 : decode cX11_inRaid 167 = .ok (.ireturn, 1) := by decide +kernel
theorem dX11_inRaid_168 : decode cX11_inRaid 168 = .ok (.iload 5, 2) := by decide +kernel
theorem dX11_inRaid_170 : decode cX11_inRaid 170 = .ok (.ifCond .eq 16, 3) := by decide +kernel
theorem dX11_inRaid_173 : decode cX11_inRaid 173 = .ok (.aload_n 0, 1) := by decide +kernel
theorem dX11_inRaid_174 : decode cX11_inRaid 174 = .ok (.iload_n 1, 1) := by decide +kernel
theorem dX11_inRaid_175 : decode cX11_inRaid 175 = .ok (.iconst 2, 1) := by decide +kernel
theorem dX11_inRaid_176 : decode cX11_inRaid 176 = .ok (.invokevirtual 347, 3) := by decide +kernel
theorem dX11_inRaid_179 : decode cX11_inRaid 179 = .ok (.ifCond .ne 7, 3) := by decide +kernel
theorem dX11_inRaid_182 : decode cX11_inRaid 182 = .ok (.iconst 1, 1) := by decide +kernel
theorem dX11_inRaid_183 : decode cX11_inRaid 183 = .ok (.goto 4, 3) := by decide +kernel
theorem dX11_inRaid_186 : decode cX11_inRaid 186 = .ok (.iconst 0, 1) := by decide +kernel
theorem dX11_inRaid_187 : decode cX11_inRaid 187 = .ok (.ireturn, 1) := by decide +kernel
def fX11_inRaid (a0 : Nat) (a1 : Int32) (a2 : Int32) (a3 : Int32) (a4 : Int32) (M : xMem) : Option (Int32 × xMem) :=
  xBn (fX11_isRaider a0 a1 a2 a3 M) fun r1 M2 => if a4 = nI 0 then (if r1 = 0 then (some ((nI 0), M2)) else (some ((nI 1), M2))) else (if a4 = nI 1 then (if r1 = 0 then (some ((nI 0), M2)) else (xBn (fX11_pointsBy a0 a1 M2) fun r5 M6 => some (r5, M6))) else (if a4 = nI 2 then (if r1 = 0 then (some ((nI 0), M2)) else (xBn (fX11_rec a0 a1 (nI 2) M2) fun r8 M9 => if r8 = (nI 1) then (xBn (fX11_rec a0 a1 (nI 5) M9) fun r10 M11 => xBn (fX11_bits r10 M11) fun r12 M13 => some (r12, M13)) else (some ((nI 0), M9)))) else (if a4 = nI 3 then (xBn (fX11_isTackler a0 a1 a2 a3 M2) fun r15 M16 => if r15 = 0 then (some ((nI 0), M16)) else (some ((nI 1), M16))) else (if a4 = nI 4 then (xBn (fX11_isTackler a0 a1 a2 a3 M2) fun r18 M19 => if r18 = 0 then (some ((nI 0), M19)) else (xBn (fX11_tackleOf a0 a1 M19) fun r20 M21 => some (r20, M21))) else (if a4 = nI 5 then (xLt (fun  (M23 : xMem) => (xBn (fX11_isTouched a0 a1 a2 a3 M23) fun r24 M25 => if r24 = 0 then (some ((nI 0), M25)) else (some ((nI 1), M25)) : Option (Int32 × xMem))) fun J152 => if r1 = 0 then (J152  M2) else (xBn (fX11_wentOut a0 a1 M2) fun r26 M27 => if r26 = 0 then (J152  M27) else (some ((nI 1), M27)))) else (if r1 = 0 then (some ((nI 0), M2)) else (xBn (fX11_rec a0 a1 (nI 2) M2) fun r28 M29 => if r28 = 0 then (some ((nI 1), M29)) else (some ((nI 0), M29)))))))))
set_option maxRecDepth 100000 in
set_option maxHeartbeats 4000000 in
theorem zX11_inRaid (G : xGX) (a0 : Nat) (h0 : xkd a0 = 11) (a1 : Int32) (a2 : Int32) (a3 : Int32) (a4 : Int32) (M : xMem) (r : Int32) (M' : xMem) (h : fX11_inRaid a0 a1 a2 a3 a4 M = some (r, M')) : xCt G yX11_inRaid cX11_inRaid 6 (some .int) 4 [vr G a0, .int a1, .int a2, .int a3, .int a4] M (some (.int r), M') := by
  refine xMet (lv := [some (vr G a0), some (.int a1), some (.int a2), some (.int a3), some (.int a4), none]) (by decide) (Nat.le_of_ble_eq_true rfl) rfl ?_
  intro X hG hnL C R0
  subst hG
  have C : xCk X cX11_inRaid RX11 4 := C
  have hn5 : 5 < X.2.2.2.2.2.2.2.2.2.2.2.2.2 := by rw [hnL]; decide
  unfold fX11_inRaid at h
  refine r_aload_n (pc := 0) C dX11_inRaid_0 rfl rfl ?_
  refine r_iload_n (pc := 1) C dX11_inRaid_1 rfl rfl ?_
  refine r_iload_n (pc := 2) C dX11_inRaid_2 rfl rfl ?_
  refine r_iload_n (pc := 3) C dX11_inRaid_3 rfl rfl ?_
  refine r_vI3 (pc := 4) C (fun r M' e => zX11_isRaider X.1 a0 h0 a1 a2 a3 M r M' e) h0 (by decide) rfl mX11_isRaider lX11_350 (by decide) (Nat.le_of_ble_eq_true rfl) dX11_inRaid_4 h (fun r1 M2 h => ?_)
  refine r_istore (pc := 7) (lv' := [_, _, _, _, _, _]) C dX11_inRaid_7 hn5 rfl ?_
  refine r_iload (pc := 9) C dX11_inRaid_9 rfl ?_
  refine r_tb h (fun e3 h => ?_) (fun e3 h => ?_)
  · refine r_tabInE (pc := 11) (tgt := 48) e3 C dX11_inRaid_11 (by decide) (by decide) rfl (by decide) ?_
    refine r_iload (pc := 48) C dX11_inRaid_48 rfl ?_
    refine r_if_eq (pc := 50) (tgt := 57) C dX11_inRaid_50 (by decide) h (fun _ h => ?_) (fun _ h => ?_)
    · refine r_iconst (pc := 57) (v := (nI 0)) C dX11_inRaid_57 (by decide) ?_
      exact r_iret (pc := 58) C R0 h dX11_inRaid_58
    · refine r_iconst (pc := 53) (v := (nI 1)) C dX11_inRaid_53 (by decide) ?_
      refine r_goto (pc := 54) (tgt := 58) C dX11_inRaid_54 (by decide) ?_
      exact r_iret (pc := 58) C R0 h dX11_inRaid_58
  refine r_tb h (fun e4 h => ?_) (fun e4 h => ?_)
  · refine r_tabInE (pc := 11) (tgt := 59) e4 C dX11_inRaid_11 (by decide) (by decide) rfl (by decide) ?_
    refine r_iload (pc := 59) C dX11_inRaid_59 rfl ?_
    refine r_if_eq (pc := 61) (tgt := 72) C dX11_inRaid_61 (by decide) h (fun _ h => ?_) (fun _ h => ?_)
    · refine r_iconst (pc := 72) (v := (nI 0)) C dX11_inRaid_72 (by decide) ?_
      exact r_iret (pc := 73) C R0 h dX11_inRaid_73
    · refine r_aload_n (pc := 64) C dX11_inRaid_64 rfl rfl ?_
      refine r_iload_n (pc := 65) C dX11_inRaid_65 rfl rfl ?_
      refine r_vI1 (pc := 66) C (fun r M' e => zX11_pointsBy X.1 a0 h0 a1 M2 r M' e) h0 (by decide) rfl mX11_pointsBy lX11_354 (by decide) (Nat.le_of_ble_eq_true rfl) dX11_inRaid_66 h (fun r5 M6 h => ?_)
      refine r_goto (pc := 69) (tgt := 73) C dX11_inRaid_69 (by decide) ?_
      exact r_iret (pc := 73) C R0 h dX11_inRaid_73
  refine r_tb h (fun e7 h => ?_) (fun e7 h => ?_)
  · refine r_tabInE (pc := 11) (tgt := 74) e7 C dX11_inRaid_11 (by decide) (by decide) rfl (by decide) ?_
    refine r_iload (pc := 74) C dX11_inRaid_74 rfl ?_
    refine r_if_eq (pc := 76) (tgt := 101) C dX11_inRaid_76 (by decide) h (fun _ h => ?_) (fun _ h => ?_)
    · refine r_iconst (pc := 101) (v := (nI 0)) C dX11_inRaid_101 (by decide) ?_
      exact r_iret (pc := 102) C R0 h dX11_inRaid_102
    · refine r_aload_n (pc := 79) C dX11_inRaid_79 rfl rfl ?_
      refine r_iload_n (pc := 80) C dX11_inRaid_80 rfl rfl ?_
      refine r_iconst (pc := 81) (v := (nI 2)) C dX11_inRaid_81 (by decide) ?_
      refine r_vI2 (pc := 82) C (fun r M' e => zX11_rec X.1 a0 h0 a1 (nI 2) M2 r M' e) h0 (by decide) rfl mX11_rec lX11_347 (by decide) (Nat.le_of_ble_eq_true rfl) dX11_inRaid_82 h (fun r8 M9 h => ?_)
      refine r_iconst (pc := 85) (v := (nI 1)) C dX11_inRaid_85 (by decide) ?_
      refine r_icmp_ne (pc := 86) (tgt := 101) C dX11_inRaid_86 (by decide) h (fun _ h => ?_) (fun _ h => ?_)
      · refine r_iconst (pc := 101) (v := (nI 0)) C dX11_inRaid_101 (by decide) ?_
        exact r_iret (pc := 102) C R0 h dX11_inRaid_102
      · refine r_aload_n (pc := 89) C dX11_inRaid_89 rfl rfl ?_
        refine r_iload_n (pc := 90) C dX11_inRaid_90 rfl rfl ?_
        refine r_iconst (pc := 91) (v := (nI 5)) C dX11_inRaid_91 (by decide) ?_
        refine r_vI2 (pc := 92) C (fun r M' e => zX11_rec X.1 a0 h0 a1 (nI 5) M9 r M' e) h0 (by decide) rfl mX11_rec lX11_347 (by decide) (Nat.le_of_ble_eq_true rfl) dX11_inRaid_92 h (fun r10 M11 h => ?_)
        refine r_sI1 (pc := 95) C (fun r M' e => zX11_bits X.1 r10 M11 r M' e) mX11_bits lX11_87 (by decide) (Nat.le_of_ble_eq_true rfl) dX11_inRaid_95 h (fun r12 M13 h => ?_)
        refine r_goto (pc := 98) (tgt := 102) C dX11_inRaid_98 (by decide) ?_
        exact r_iret (pc := 102) C R0 h dX11_inRaid_102
  refine r_tb h (fun e14 h => ?_) (fun e14 h => ?_)
  · refine r_tabInE (pc := 11) (tgt := 103) e14 C dX11_inRaid_11 (by decide) (by decide) rfl (by decide) ?_
    refine r_aload_n (pc := 103) C dX11_inRaid_103 rfl rfl ?_
    refine r_iload_n (pc := 104) C dX11_inRaid_104 rfl rfl ?_
    refine r_iload_n (pc := 105) C dX11_inRaid_105 rfl rfl ?_
    refine r_iload_n (pc := 106) C dX11_inRaid_106 rfl rfl ?_
    refine r_vI3 (pc := 107) C (fun r M' e => zX11_isTackler X.1 a0 h0 a1 a2 a3 M2 r M' e) h0 (by decide) rfl mX11_isTackler lX11_357 (by decide) (Nat.le_of_ble_eq_true rfl) dX11_inRaid_107 h (fun r15 M16 h => ?_)
    refine r_if_eq (pc := 110) (tgt := 117) C dX11_inRaid_110 (by decide) h (fun _ h => ?_) (fun _ h => ?_)
    · refine r_iconst (pc := 117) (v := (nI 0)) C dX11_inRaid_117 (by decide) ?_
      exact r_iret (pc := 118) C R0 h dX11_inRaid_118
    · refine r_iconst (pc := 113) (v := (nI 1)) C dX11_inRaid_113 (by decide) ?_
      refine r_goto (pc := 114) (tgt := 118) C dX11_inRaid_114 (by decide) ?_
      exact r_iret (pc := 118) C R0 h dX11_inRaid_118
  refine r_tb h (fun e17 h => ?_) (fun e17 h => ?_)
  · refine r_tabInE (pc := 11) (tgt := 119) e17 C dX11_inRaid_11 (by decide) (by decide) rfl (by decide) ?_
    refine r_aload_n (pc := 119) C dX11_inRaid_119 rfl rfl ?_
    refine r_iload_n (pc := 120) C dX11_inRaid_120 rfl rfl ?_
    refine r_iload_n (pc := 121) C dX11_inRaid_121 rfl rfl ?_
    refine r_iload_n (pc := 122) C dX11_inRaid_122 rfl rfl ?_
    refine r_vI3 (pc := 123) C (fun r M' e => zX11_isTackler X.1 a0 h0 a1 a2 a3 M2 r M' e) h0 (by decide) rfl mX11_isTackler lX11_357 (by decide) (Nat.le_of_ble_eq_true rfl) dX11_inRaid_123 h (fun r18 M19 h => ?_)
    refine r_if_eq (pc := 126) (tgt := 137) C dX11_inRaid_126 (by decide) h (fun _ h => ?_) (fun _ h => ?_)
    · refine r_iconst (pc := 137) (v := (nI 0)) C dX11_inRaid_137 (by decide) ?_
      exact r_iret (pc := 138) C R0 h dX11_inRaid_138
    · refine r_aload_n (pc := 129) C dX11_inRaid_129 rfl rfl ?_
      refine r_iload_n (pc := 130) C dX11_inRaid_130 rfl rfl ?_
      refine r_vI1 (pc := 131) C (fun r M' e => zX11_tackleOf X.1 a0 h0 a1 M19 r M' e) h0 (by decide) rfl mX11_tackleOf lX11_360 (by decide) (Nat.le_of_ble_eq_true rfl) dX11_inRaid_131 h (fun r20 M21 h => ?_)
      refine r_goto (pc := 134) (tgt := 138) C dX11_inRaid_134 (by decide) ?_
      exact r_iret (pc := 138) C R0 h dX11_inRaid_138
  refine r_tb h (fun e22 h => ?_) (fun e22 h => ?_)
  · refine r_tabInE (pc := 11) (tgt := 139) e22 C dX11_inRaid_11 (by decide) (by decide) rfl (by decide) ?_
    refine r_iload (pc := 139) C dX11_inRaid_139 rfl ?_
    refine r_jn (fun J => ∀  (M23 : xMem) , J  M23 = some (r, M') → WW X 152 [some (vr X.1 a0), some (.int a1), some (.int a2), some (.int a3), some (.int a4), some (.int r1)] [] M23) h (fun  M23  h => ?_) (fun J152 hJ152 h => ?_)
    · refine r_aload_n (pc := 152) C dX11_inRaid_152 rfl rfl ?_
      refine r_iload_n (pc := 153) C dX11_inRaid_153 rfl rfl ?_
      refine r_iload_n (pc := 154) C dX11_inRaid_154 rfl rfl ?_
      refine r_iload_n (pc := 155) C dX11_inRaid_155 rfl rfl ?_
      refine r_vI3 (pc := 156) C (fun r M' e => zX11_isTouched X.1 a0 h0 a1 a2 a3 M23 r M' e) h0 (by decide) rfl mX11_isTouched lX11_366 (by decide) (Nat.le_of_ble_eq_true rfl) dX11_inRaid_156 h (fun r24 M25 h => ?_)
      refine r_if_eq (pc := 159) (tgt := 166) C dX11_inRaid_159 (by decide) h (fun _ h => ?_) (fun _ h => ?_)
      · refine r_iconst (pc := 166) (v := (nI 0)) C dX11_inRaid_166 (by decide) ?_
        exact r_iret (pc := 167) C R0 h dX11_inRaid_167
      · refine r_iconst (pc := 162) (v := (nI 1)) C dX11_inRaid_162 (by decide) ?_
        refine r_goto (pc := 163) (tgt := 167) C dX11_inRaid_163 (by decide) ?_
        exact r_iret (pc := 167) C R0 h dX11_inRaid_167
    refine r_if_eq (pc := 141) (tgt := 152) C dX11_inRaid_141 (by decide) h (fun _ h => ?_) (fun _ h => ?_)
    · exact hJ152  M2  h
    · refine r_aload_n (pc := 144) C dX11_inRaid_144 rfl rfl ?_
      refine r_iload_n (pc := 145) C dX11_inRaid_145 rfl rfl ?_
      refine r_vI1 (pc := 146) C (fun r M' e => zX11_wentOut X.1 a0 h0 a1 M2 r M' e) h0 (by decide) rfl mX11_wentOut lX11_363 (by decide) (Nat.le_of_ble_eq_true rfl) dX11_inRaid_146 h (fun r26 M27 h => ?_)
      refine r_if_ne (pc := 149) (tgt := 162) C dX11_inRaid_149 (by decide) h (fun _ h => ?_) (fun _ h => ?_)
      · refine r_iconst (pc := 162) (v := (nI 1)) C dX11_inRaid_162 (by decide) ?_
        refine r_goto (pc := 163) (tgt := 167) C dX11_inRaid_163 (by decide) ?_
        exact r_iret (pc := 167) C R0 h dX11_inRaid_167
      · exact hJ152  M27  h
  refine r_tabOut (pc := 11) (tgt := 168) C dX11_inRaid_11 (xtabout 0 5 (fun k hk hk2 => by rcases (show k = 0 ∨ k = 1 ∨ k = 2 ∨ k = 3 ∨ k = 4 ∨ k = 5 by omega) with rfl | rfl | rfl | rfl | rfl | rfl <;> assumption)) (by decide) ?_
  refine r_iload (pc := 168) C dX11_inRaid_168 rfl ?_
  refine r_if_eq (pc := 170) (tgt := 186) C dX11_inRaid_170 (by decide) h (fun _ h => ?_) (fun _ h => ?_)
  · refine r_iconst (pc := 186) (v := (nI 0)) C dX11_inRaid_186 (by decide) ?_
    exact r_iret (pc := 187) C R0 h dX11_inRaid_187
  · refine r_aload_n (pc := 173) C dX11_inRaid_173 rfl rfl ?_
    refine r_iload_n (pc := 174) C dX11_inRaid_174 rfl rfl ?_
    refine r_iconst (pc := 175) (v := (nI 2)) C dX11_inRaid_175 (by decide) ?_
    refine r_vI2 (pc := 176) C (fun r M' e => zX11_rec X.1 a0 h0 a1 (nI 2) M2 r M' e) h0 (by decide) rfl mX11_rec lX11_347 (by decide) (Nat.le_of_ble_eq_true rfl) dX11_inRaid_176 h (fun r28 M29 h => ?_)
    refine r_if_ne (pc := 179) (tgt := 186) C dX11_inRaid_179 (by decide) h (fun _ h => ?_) (fun _ h => ?_)
    · refine r_iconst (pc := 186) (v := (nI 0)) C dX11_inRaid_186 (by decide) ?_
      exact r_iret (pc := 187) C R0 h dX11_inRaid_187
    · refine r_iconst (pc := 182) (v := (nI 1)) C dX11_inRaid_182 (by decide) ?_
      refine r_goto (pc := 183) (tgt := 187) C dX11_inRaid_183 (by decide) ?_
      exact r_iret (pc := 187) C R0 h dX11_inRaid_187
theorem dX11_ofOne_0 : decode cX11_ofOne 0 = .ok (.iload_n 3, 1) := by decide +kernel
theorem dX11_ofOne_1 : decode cX11_ofOne 1 = .ok (.bipush 7, 2) := by decide +kernel
theorem dX11_ofOne_3 : decode cX11_ofOne 3 = .ok (.if_icmp .ne 17, 3) := by decide +kernel
theorem dX11_ofOne_6 : decode cX11_ofOne 6 = .ok (.aload_n 0, 1) := by decide +kernel
theorem dX11_ofOne_7 : decode cX11_ofOne 7 = .ok (.bipush 88, 2) := by decide +kernel
theorem dX11_ofOne_9 : decode cX11_ofOne 9 = .ok (.bipush 10, 2) := by decide +kernel
theorem dX11_ofOne_11 : decode cX11_ofOne 11 = .ok (.iload_n 1, 1) := by decide +kernel
theorem dX11_ofOne_12 : decode cX11_ofOne 12 = .ok (.imul, 1) := by decide +kernel
theorem dX11_ofOne_13 : decode cX11_ofOne 13 = .ok (.iadd, 1) := by decide +kernel
theorem dX11_ofOne_14 : decode cX11_ofOne 14 = .ok (.iload_n 2, 1) := by decide +kernel
theorem dX11_ofOne_15 : decode cX11_ofOne 15 = .ok (.iadd, 1) := by decide +kernel
theorem dX11_ofOne_16 : decode cX11_ofOne 16 = .ok (.invokevirtual 43, 3) := by decide +kernel
theorem dX11_ofOne_19 : decode cX11_ofOne 19 = .ok (.ireturn, 1) := by decide +kernel
theorem dX11_ofOne_20 : decode cX11_ofOne 20 = .ok (.iconst 0, 1) := by decide +kernel
theorem dX11_ofOne_21 : decode cX11_ofOne 21 = .ok (.istore 4, 2) := by decide +kernel
theorem dX11_ofOne_23 : decode cX11_ofOne 23 = .ok (.iconst 0, 1) := by decide +kernel
theorem dX11_ofOne_24 : decode cX11_ofOne 24 = .ok (.istore 5, 2) := by decide +kernel
theorem dX11_ofOne_26 : decode cX11_ofOne 26 = .ok (.iload 5, 2) := by decide +kernel
theorem dX11_ofOne_28 : decode cX11_ofOne 28 = .ok (.aload_n 0, 1) := by decide +kernel
theorem dX11_ofOne_29 : decode cX11_ofOne 29 = .ok (.bipush 25, 2) := by decide +kernel
theorem dX11_ofOne_31 : decode cX11_ofOne 31 = .ok (.invokevirtual 43, 3) := by decide +kernel
theorem dX11_ofOne_34 : decode cX11_ofOne 34 = .ok (.if_icmp .ge 23, 3) := by decide +kernel
theorem dX11_ofOne_37 : decode cX11_ofOne 37 = .ok (.iload 4, 2) := by decide +kernel
theorem dX11_ofOne_39 : decode cX11_ofOne 39 = .ok (.aload_n 0, 1) := by decide +kernel
theorem dX11_ofOne_40 : decode cX11_ofOne 40 = .ok (.iload 5, 2) := by decide +kernel
theorem dX11_ofOne_42 : decode cX11_ofOne 42 = .ok (.iload_n 1, 1) := by decide +kernel
theorem dX11_ofOne_43 : decode cX11_ofOne 43 = .ok (.iload_n 2, 1) := by decide +kernel
theorem dX11_ofOne_44 : decode cX11_ofOne 44 = .ok (.iload_n 3, 1) := by decide +kernel
theorem dX11_ofOne_45 : decode cX11_ofOne 45 = .ok (.invokevirtual 369, 3) := by decide +kernel
theorem dX11_ofOne_48 : decode cX11_ofOne 48 = .ok (.iadd, 1) := by decide +kernel
theorem dX11_ofOne_49 : decode cX11_ofOne 49 = .ok (.istore 4, 2) := by decide +kernel
theorem dX11_ofOne_51 : decode cX11_ofOne 51 = .ok (.iinc 5 1, 3) := by decide +kernel
theorem dX11_ofOne_54 : decode cX11_ofOne 54 = .ok (.goto (-28), 3) := by decide +kernel
theorem dX11_ofOne_57 : decode cX11_ofOne 57 = .ok (.iload 4, 2) := by decide +kernel
theorem dX11_ofOne_59 : decode cX11_ofOne 59 = .ok (.ireturn, 1) := by decide +kernel
def fX11_ofOne_l26 (p0 : Nat) (p1 : Int32) (p2 : Int32) (p3 : Int32) (K : Int32 → Int32 → xMem → Option (Int32 × xMem)) : Nat → Int32 → Int32 → xMem → Option (Int32 × xMem)
  | 0, _, _, _ => none
  | n + 1, v4, v5, M => xBn (fX11_get p0 (nI 25) M) fun r1 M2 => if r1 ≤ v5 then (K v4 v5 M2) else (xBn (fX11_inRaid p0 v5 p1 p2 p3 M2) fun r3 M4 => xLt (v4 + r3) fun x5 => xLt (v5 + nI 1) fun x6 => fX11_ofOne_l26 p0 p1 p2 p3 K n x5 x6 M4)
def fX11_ofOne (a0 : Nat) (a1 : Int32) (a2 : Int32) (a3 : Int32) (M : xMem) : Option (Int32 × xMem) :=
  if a3 = (nI 7) then (xBn (fX11_get a0 (((nI 88) + ((nI 10) * a1)) + a2) M) fun r10 M11 => some (r10, M11)) else (fX11_ofOne_l26 a0 a1 a2 a3 (fun (v7 : Int32) (v8 : Int32) (M9 : xMem) => some (v7, M9)) xFU (nI 0) (nI 0) M)
set_option maxRecDepth 100000 in
set_option maxHeartbeats 4000000 in
theorem lX11_ofOne_26 {X : xCX} {r : Int32} {M' : xMem} (C : xCk X cX11_ofOne RX11 5) (R0 : xRk X (some .int) (some (.int r), M')) (hnL : X.2.2.2.2.2.2.2.2.2.2.2.2.2 = 6) (p0 : Nat) (hp0 : xkd p0 = 11) (p1 : Int32) (p2 : Int32) (p3 : Int32) (K : Int32 → Int32 → xMem → Option (Int32 × xMem)) (hK : ∀ (v4 : Int32) (v5 : Int32) (M : xMem), K v4 v5 M = some (r, M') → WW X 57 [some (vr X.1 p0), some (.int p1), some (.int p2), some (.int p3), some (.int v4), some (.int v5)] [] M) : ∀ (n : Nat) (v4 : Int32) (v5 : Int32) (M : xMem), fX11_ofOne_l26 p0 p1 p2 p3 K n v4 v5 M = some (r, M') → WW X 26 [some (vr X.1 p0), some (.int p1), some (.int p2), some (.int p3), some (.int v4), some (.int v5)] [] M := by
  have hn4 : 4 < X.2.2.2.2.2.2.2.2.2.2.2.2.2 := by rw [hnL]; decide
  have hn5 : 5 < X.2.2.2.2.2.2.2.2.2.2.2.2.2 := by rw [hnL]; decide
  intro n
  induction n with
  | zero =>
    intro v4 v5 M h
    cases (show (none : Option (Int32 × xMem)) = some (r, M') from h)
  | succ n ih =>
    intro v4 v5 M h
    rw [fX11_ofOne_l26.eq_2] at h
    refine r_iload (pc := 26) C dX11_ofOne_26 rfl ?_
    refine r_aload_n (pc := 28) C dX11_ofOne_28 rfl rfl ?_
    refine r_bipush (pc := 29) (v := (nI 25)) C dX11_ofOne_29 (by decide) ?_
    refine r_vI1 (pc := 31) C (fun r M' e => zX11_get X.1 p0 hp0 (nI 25) M r M' e) hp0 (by decide) rfl mX11_get lX11_43 (by decide) (Nat.le_of_ble_eq_true rfl) dX11_ofOne_31 h (fun r1 M2 h => ?_)
    refine r_icmp_ge (pc := 34) (tgt := 57) C dX11_ofOne_34 (by decide) h (fun _ h => ?_) (fun _ h => ?_)
    · exact hK v4 v5 M2 h
    · refine r_iload (pc := 37) C dX11_ofOne_37 rfl ?_
      refine r_aload_n (pc := 39) C dX11_ofOne_39 rfl rfl ?_
      refine r_iload (pc := 40) C dX11_ofOne_40 rfl ?_
      refine r_iload_n (pc := 42) C dX11_ofOne_42 rfl rfl ?_
      refine r_iload_n (pc := 43) C dX11_ofOne_43 rfl rfl ?_
      refine r_iload_n (pc := 44) C dX11_ofOne_44 rfl rfl ?_
      refine r_vI4 (pc := 45) C (fun r M' e => zX11_inRaid X.1 p0 hp0 v5 p1 p2 p3 M2 r M' e) hp0 (by decide) rfl mX11_inRaid lX11_369 (by decide) (Nat.le_of_ble_eq_true rfl) dX11_ofOne_45 h (fun r3 M4 h => ?_)
      refine r_iadd (pc := 48) C dX11_ofOne_48 ?_
      refine r_letI h (fun x5 h => ?_)
      refine r_istore (pc := 49) (lv' := [_, _, _, _, _, _]) C dX11_ofOne_49 hn4 rfl ?_
      refine r_iincL (pc := 51) (c := nI 1) C dX11_ofOne_51 rfl (by decide) hn5 h (fun x6 h => ?_)
      refine r_lvE (lv' := [_, _, _, _, _, _]) rfl ?_
      refine r_goto (pc := 54) (tgt := 26) C dX11_ofOne_54 (by decide) ?_
      exact ih x5 x6 M4 h
set_option maxRecDepth 100000 in
set_option maxHeartbeats 4000000 in
theorem zX11_ofOne (G : xGX) (a0 : Nat) (h0 : xkd a0 = 11) (a1 : Int32) (a2 : Int32) (a3 : Int32) (M : xMem) (r : Int32) (M' : xMem) (h : fX11_ofOne a0 a1 a2 a3 M = some (r, M')) : xCt G yX11_ofOne cX11_ofOne 6 (some .int) 5 [vr G a0, .int a1, .int a2, .int a3] M (some (.int r), M') := by
  refine xMet (lv := [some (vr G a0), some (.int a1), some (.int a2), some (.int a3), none, none]) (by decide) (Nat.le_of_ble_eq_true rfl) rfl ?_
  intro X hG hnL C R0
  subst hG
  have C : xCk X cX11_ofOne RX11 5 := C
  have hn4 : 4 < X.2.2.2.2.2.2.2.2.2.2.2.2.2 := by rw [hnL]; decide
  have hn5 : 5 < X.2.2.2.2.2.2.2.2.2.2.2.2.2 := by rw [hnL]; decide
  unfold fX11_ofOne at h
  refine r_iload_n (pc := 0) C dX11_ofOne_0 rfl rfl ?_
  refine r_bipush (pc := 1) (v := (nI 7)) C dX11_ofOne_1 (by decide) ?_
  refine r_icmp_ne (pc := 3) (tgt := 20) C dX11_ofOne_3 (by decide) h (fun _ h => ?_) (fun _ h => ?_)
  · refine r_iconst (pc := 20) (v := (nI 0)) C dX11_ofOne_20 (by decide) ?_
    refine r_istore (pc := 21) (lv' := [_, _, _, _, _, _]) C dX11_ofOne_21 hn4 rfl ?_
    refine r_iconst (pc := 23) (v := (nI 0)) C dX11_ofOne_23 (by decide) ?_
    refine r_istore (pc := 24) (lv' := [_, _, _, _, _, _]) C dX11_ofOne_24 hn5 rfl ?_
    refine lX11_ofOne_26 C R0 hnL a0 h0 a1 a2 a3 _ (fun v7 v8 M9 h => ?_) _ _ _ _ h
    refine r_iload (pc := 57) C dX11_ofOne_57 rfl ?_
    exact r_iret (pc := 59) C R0 h dX11_ofOne_59
  · refine r_aload_n (pc := 6) C dX11_ofOne_6 rfl rfl ?_
    refine r_bipush (pc := 7) (v := (nI 88)) C dX11_ofOne_7 (by decide) ?_
    refine r_bipush (pc := 9) (v := (nI 10)) C dX11_ofOne_9 (by decide) ?_
    refine r_iload_n (pc := 11) C dX11_ofOne_11 rfl rfl ?_
    refine r_imul (pc := 12) C dX11_ofOne_12 ?_
    refine r_iadd (pc := 13) C dX11_ofOne_13 ?_
    refine r_iload_n (pc := 14) C dX11_ofOne_14 rfl rfl ?_
    refine r_iadd (pc := 15) C dX11_ofOne_15 ?_
    refine r_vI1 (pc := 16) C (fun r M' e => zX11_get X.1 a0 h0 (((nI 88) + ((nI 10) * a1)) + a2) M r M' e) h0 (by decide) rfl mX11_get lX11_43 (by decide) (Nat.le_of_ble_eq_true rfl) dX11_ofOne_16 h (fun r10 M11 h => ?_)
    exact r_iret (pc := 19) C R0 h dX11_ofOne_19
theorem dX11_of_0 : decode cX11_of 0 = .ok (.aload_n 0, 1) := by decide +kernel
theorem dX11_of_1 : decode cX11_of 1 = .ok (.iload_n 1, 1) := by decide +kernel
theorem dX11_of_2 : decode cX11_of 2 = .ok (.iload_n 2, 1) := by decide +kernel
theorem dX11_of_3 : decode cX11_of 3 = .ok (.invokevirtual 344, 3) := by decide +kernel
theorem dX11_of_6 : decode cX11_of 6 = .ok (.ifCond .eq 25, 3) := by decide +kernel
theorem dX11_of_9 : decode cX11_of 9 = .ok (.iload_n 3, 1) := by decide +kernel
theorem dX11_of_10 : decode cX11_of 10 = .ok (.i2l, 1) := by decide +kernel
theorem dX11_of_11 : decode cX11_of 11 = .ok (.lconst 0, 1) := by decide +kernel
theorem dX11_of_12 : decode cX11_of 12 = .ok (.ldc2_w 373, 3) := by decide +kernel
theorem dX11_of_15 : decode cX11_of 15 = .ok (.invokestatic 51, 3) := by decide +kernel
theorem dX11_of_18 : decode cX11_of 18 = .ok (.ifCond .eq 13, 3) := by decide +kernel
theorem dX11_of_21 : decode cX11_of 21 = .ok (.aload_n 0, 1) := by decide +kernel
theorem dX11_of_22 : decode cX11_of 22 = .ok (.iload_n 1, 1) := by decide +kernel
theorem dX11_of_23 : decode cX11_of 23 = .ok (.iload_n 2, 1) := by decide +kernel
theorem dX11_of_24 : decode cX11_of 24 = .ok (.iload_n 3, 1) := by decide +kernel
theorem dX11_of_25 : decode cX11_of 25 = .ok (.invokevirtual 375, 3) := by decide +kernel
theorem dX11_of_28 : decode cX11_of 28 = .ok (.goto 5, 3) := by decide +kernel
theorem dX11_of_31 : decode cX11_of 31 = .ok (.bipush (-2), 2) := by decide +kernel
theorem dX11_of_33 : decode cX11_of 33 = .ok (.ireturn, 1) := by decide +kernel
def fX11_of (a0 : Nat) (a1 : Int32) (a2 : Int32) (a3 : Int32) (M : xMem) : Option (Int32 × xMem) :=
  xBn (fX11_isOne a0 a1 a2 M) fun r1 M2 => if r1 = 0 then (some ((-2), M2)) else (xBn (fX11_in (Int32.toInt64 a3) (lN 0) (lN 7) M2) fun r3 M4 => if r3 = 0 then (some ((-2), M4)) else (xBn (fX11_ofOne a0 a1 a2 a3 M4) fun r5 M6 => some (r5, M6)))
set_option maxRecDepth 100000 in
set_option maxHeartbeats 4000000 in
theorem zX11_of (G : xGX) (a0 : Nat) (h0 : xkd a0 = 11) (a1 : Int32) (a2 : Int32) (a3 : Int32) (M : xMem) (r : Int32) (M' : xMem) (h : fX11_of a0 a1 a2 a3 M = some (r, M')) : xCt G yX11_of cX11_of 4 (some .int) 6 [vr G a0, .int a1, .int a2, .int a3] M (some (.int r), M') := by
  refine xMet (lv := [some (vr G a0), some (.int a1), some (.int a2), some (.int a3)]) (by decide) (Nat.le_of_ble_eq_true rfl) rfl ?_
  intro X hG hnL C R0
  subst hG
  have C : xCk X cX11_of RX11 6 := C
  unfold fX11_of at h
  refine r_aload_n (pc := 0) C dX11_of_0 rfl rfl ?_
  refine r_iload_n (pc := 1) C dX11_of_1 rfl rfl ?_
  refine r_iload_n (pc := 2) C dX11_of_2 rfl rfl ?_
  refine r_vI2 (pc := 3) C (fun r M' e => zX11_isOne X.1 a0 h0 a1 a2 M r M' e) h0 (by decide) rfl mX11_isOne lX11_344 (by decide) (Nat.le_of_ble_eq_true rfl) dX11_of_3 h (fun r1 M2 h => ?_)
  refine r_if_eq (pc := 6) (tgt := 31) C dX11_of_6 (by decide) h (fun _ h => ?_) (fun _ h => ?_)
  · refine r_bipush (pc := 31) (v := (-2)) C dX11_of_31 (by decide) ?_
    exact r_iret (pc := 33) C R0 h dX11_of_33
  · refine r_iload_n (pc := 9) C dX11_of_9 rfl rfl ?_
    refine r_i2l (pc := 10) C dX11_of_10 ?_
    refine r_lconst (pc := 11) (v := lN 0) C dX11_of_11 rfl ?_
    refine r_ldc2 (pc := 12) C nX11_373 dX11_of_12 ?_
    refine r_sI3 (pc := 15) C (fun r M' e => zX11_in X.1 (Int32.toInt64 a3) (lN 0) (lN 7) M2 r M' e) mX11_in lX11_51 (by decide) (Nat.le_of_ble_eq_true rfl) dX11_of_15 h (fun r3 M4 h => ?_)
    refine r_if_eq (pc := 18) (tgt := 31) C dX11_of_18 (by decide) h (fun _ h => ?_) (fun _ h => ?_)
    · refine r_bipush (pc := 31) (v := (-2)) C dX11_of_31 (by decide) ?_
      exact r_iret (pc := 33) C R0 h dX11_of_33
    · refine r_aload_n (pc := 21) C dX11_of_21 rfl rfl ?_
      refine r_iload_n (pc := 22) C dX11_of_22 rfl rfl ?_
      refine r_iload_n (pc := 23) C dX11_of_23 rfl rfl ?_
      refine r_iload_n (pc := 24) C dX11_of_24 rfl rfl ?_
      refine r_vI3 (pc := 25) C (fun r M' e => zX11_ofOne X.1 a0 h0 a1 a2 a3 M4 r M' e) h0 (by decide) rfl mX11_ofOne lX11_375 (by decide) (Nat.le_of_ble_eq_true rfl) dX11_of_25 h (fun r5 M6 h => ?_)
      refine r_goto (pc := 28) (tgt := 33) C dX11_of_28 (by decide) ?_
      exact r_iret (pc := 33) C R0 h dX11_of_33
theorem dX11_parts_0 : decode cX11_parts 0 = .ok (.aload_n 0, 1) := by decide +kernel
theorem dX11_parts_1 : decode cX11_parts 1 = .ok (.iload_n 1, 1) := by decide +kernel
theorem dX11_parts_2 : decode cX11_parts 2 = .ok (.invokevirtual 55, 3) := by decide +kernel
theorem dX11_parts_5 : decode cX11_parts 5 = .ok (.ifCond .eq 31, 3) := by decide +kernel
theorem dX11_parts_8 : decode cX11_parts 8 = .ok (.iload_n 2, 1) := by decide +kernel
theorem dX11_parts_9 : decode cX11_parts 9 = .ok (.i2l, 1) := by decide +kernel
theorem dX11_parts_10 : decode cX11_parts 10 = .ok (.lconst 0, 1) := by decide +kernel
theorem dX11_parts_11 : decode cX11_parts 11 = .ok (.ldc2_w 296, 3) := by decide +kernel
theorem dX11_parts_14 : decode cX11_parts 14 = .ok (.invokestatic 51, 3) := by decide +kernel
theorem dX11_parts_17 : decode cX11_parts 17 = .ok (.ifCond .eq 19, 3) := by decide +kernel
theorem dX11_parts_20 : decode cX11_parts 20 = .ok (.aload_n 0, 1) := by decide +kernel
theorem dX11_parts_21 : decode cX11_parts 21 = .ok (.bipush 36, 2) := by decide +kernel
theorem dX11_parts_23 : decode cX11_parts 23 = .ok (.bipush 6, 2) := by decide +kernel
theorem dX11_parts_25 : decode cX11_parts 25 = .ok (.iload_n 1, 1) := by decide +kernel
theorem dX11_parts_26 : decode cX11_parts 26 = .ok (.imul, 1) := by decide +kernel
theorem dX11_parts_27 : decode cX11_parts 27 = .ok (.iadd, 1) := by decide +kernel
theorem dX11_parts_28 : decode cX11_parts 28 = .ok (.iload_n 2, 1) := by decide +kernel
theorem dX11_parts_29 : decode cX11_parts 29 = .ok (.iadd, 1) := by decide +kernel
theorem dX11_parts_30 : decode cX11_parts 30 = .ok (.invokevirtual 43, 3) := by decide +kernel
theorem dX11_parts_33 : decode cX11_parts 33 = .ok (.goto 5, 3) := by decide +kernel
theorem dX11_parts_36 : decode cX11_parts 36 = .ok (.bipush (-2), 2) := by decide +kernel
theorem dX11_parts_38 : decode cX11_parts 38 = .ok (.ireturn, 1) := by decide +kernel
def fX11_parts (a0 : Nat) (a1 : Int32) (a2 : Int32) (M : xMem) : Option (Int32 × xMem) :=
  xBn (fX11_isTeam a0 a1 M) fun r1 M2 => if r1 = 0 then (some ((-2), M2)) else (xBn (fX11_in (Int32.toInt64 a2) (lN 0) (lN 5) M2) fun r3 M4 => if r3 = 0 then (some ((-2), M4)) else (xBn (fX11_get a0 (((nI 36) + ((nI 6) * a1)) + a2) M4) fun r5 M6 => some (r5, M6)))
set_option maxRecDepth 100000 in
set_option maxHeartbeats 4000000 in
theorem zX11_parts (G : xGX) (a0 : Nat) (h0 : xkd a0 = 11) (a1 : Int32) (a2 : Int32) (M : xMem) (r : Int32) (M' : xMem) (h : fX11_parts a0 a1 a2 M = some (r, M')) : xCt G yX11_parts cX11_parts 3 (some .int) 3 [vr G a0, .int a1, .int a2] M (some (.int r), M') := by
  refine xMet (lv := [some (vr G a0), some (.int a1), some (.int a2)]) (by decide) (Nat.le_of_ble_eq_true rfl) rfl ?_
  intro X hG hnL C R0
  subst hG
  have C : xCk X cX11_parts RX11 3 := C
  unfold fX11_parts at h
  refine r_aload_n (pc := 0) C dX11_parts_0 rfl rfl ?_
  refine r_iload_n (pc := 1) C dX11_parts_1 rfl rfl ?_
  refine r_vI1 (pc := 2) C (fun r M' e => zX11_isTeam X.1 a0 h0 a1 M r M' e) h0 (by decide) rfl mX11_isTeam lX11_55 (by decide) (Nat.le_of_ble_eq_true rfl) dX11_parts_2 h (fun r1 M2 h => ?_)
  refine r_if_eq (pc := 5) (tgt := 36) C dX11_parts_5 (by decide) h (fun _ h => ?_) (fun _ h => ?_)
  · refine r_bipush (pc := 36) (v := (-2)) C dX11_parts_36 (by decide) ?_
    exact r_iret (pc := 38) C R0 h dX11_parts_38
  · refine r_iload_n (pc := 8) C dX11_parts_8 rfl rfl ?_
    refine r_i2l (pc := 9) C dX11_parts_9 ?_
    refine r_lconst (pc := 10) (v := lN 0) C dX11_parts_10 rfl ?_
    refine r_ldc2 (pc := 11) C nX11_296 dX11_parts_11 ?_
    refine r_sI3 (pc := 14) C (fun r M' e => zX11_in X.1 (Int32.toInt64 a2) (lN 0) (lN 5) M2 r M' e) mX11_in lX11_51 (by decide) (Nat.le_of_ble_eq_true rfl) dX11_parts_14 h (fun r3 M4 h => ?_)
    refine r_if_eq (pc := 17) (tgt := 36) C dX11_parts_17 (by decide) h (fun _ h => ?_) (fun _ h => ?_)
    · refine r_bipush (pc := 36) (v := (-2)) C dX11_parts_36 (by decide) ?_
      exact r_iret (pc := 38) C R0 h dX11_parts_38
    · refine r_aload_n (pc := 20) C dX11_parts_20 rfl rfl ?_
      refine r_bipush (pc := 21) (v := (nI 36)) C dX11_parts_21 (by decide) ?_
      refine r_bipush (pc := 23) (v := (nI 6)) C dX11_parts_23 (by decide) ?_
      refine r_iload_n (pc := 25) C dX11_parts_25 rfl rfl ?_
      refine r_imul (pc := 26) C dX11_parts_26 ?_
      refine r_iadd (pc := 27) C dX11_parts_27 ?_
      refine r_iload_n (pc := 28) C dX11_parts_28 rfl rfl ?_
      refine r_iadd (pc := 29) C dX11_parts_29 ?_
      refine r_vI1 (pc := 30) C (fun r M' e => zX11_get X.1 a0 h0 (((nI 36) + ((nI 6) * a1)) + a2) M4 r M' e) h0 (by decide) rfl mX11_get lX11_43 (by decide) (Nat.le_of_ble_eq_true rfl) dX11_parts_30 h (fun r5 M6 h => ?_)
      refine r_goto (pc := 33) (tgt := 38) C dX11_parts_33 (by decide) ?_
      exact r_iret (pc := 38) C R0 h dX11_parts_38
theorem dX11_raidOf_0 : decode cX11_raidOf 0 = .ok (.aload_n 0, 1) := by decide +kernel
theorem dX11_raidOf_1 : decode cX11_raidOf 1 = .ok (.invokevirtual 47, 3) := by decide +kernel
theorem dX11_raidOf_4 : decode cX11_raidOf 4 = .ok (.ifCond .eq 19, 3) := by decide +kernel
theorem dX11_raidOf_7 : decode cX11_raidOf 7 = .ok (.iload_n 1, 1) := by decide +kernel
theorem dX11_raidOf_8 : decode cX11_raidOf 8 = .ok (.ifCond .lt 15, 3) := by decide +kernel
theorem dX11_raidOf_11 : decode cX11_raidOf 11 = .ok (.iload_n 2, 1) := by decide +kernel
theorem dX11_raidOf_12 : decode cX11_raidOf 12 = .ok (.i2l, 1) := by decide +kernel
theorem dX11_raidOf_13 : decode cX11_raidOf 13 = .ok (.lconst 0, 1) := by decide +kernel
theorem dX11_raidOf_14 : decode cX11_raidOf 14 = .ok (.ldc2_w 379, 3) := by decide +kernel
theorem dX11_raidOf_17 : decode cX11_raidOf 17 = .ok (.invokestatic 51, 3) := by decide +kernel
theorem dX11_raidOf_20 : decode cX11_raidOf 20 = .ok (.ifCond .ne 6, 3) := by decide +kernel
theorem dX11_raidOf_23 : decode cX11_raidOf 23 = .ok (.bipush (-2), 2) := by decide +kernel
theorem dX11_raidOf_25 : decode cX11_raidOf 25 = .ok (.ireturn, 1) := by decide +kernel
theorem dX11_raidOf_26 : decode cX11_raidOf 26 = .ok (.iload_n 1, 1) := by decide +kernel
theorem dX11_raidOf_27 : decode cX11_raidOf 27 = .ok (.aload_n 0, 1) := by decide +kernel
theorem dX11_raidOf_28 : decode cX11_raidOf 28 = .ok (.bipush 25, 2) := by decide +kernel
theorem dX11_raidOf_30 : decode cX11_raidOf 30 = .ok (.invokevirtual 43, 3) := by decide +kernel
theorem dX11_raidOf_33 : decode cX11_raidOf 33 = .ok (.if_icmp .lt 5, 3) := by decide +kernel
theorem dX11_raidOf_36 : decode cX11_raidOf 36 = .ok (.iconst (-1), 1) := by decide +kernel
theorem dX11_raidOf_37 : decode cX11_raidOf 37 = .ok (.ireturn, 1) := by decide +kernel
theorem dX11_raidOf_38 : decode cX11_raidOf 38 = .ok (.iload_n 2, 1) := by decide +kernel
theorem dX11_raidOf_39 : decode cX11_raidOf 39 = .ok (.iconst 5, 1) := by decide +kernel
theorem dX11_raidOf_40 : decode cX11_raidOf 40 = .ok (.if_icmp .ne 10, 3) := by decide +kernel
theorem dX11_raidOf_43 : decode cX11_raidOf 43 = .ok (.aload_n 0, 1) := by decide +kernel
theorem dX11_raidOf_44 : decode cX11_raidOf 44 = .ok (.iload_n 1, 1) := by decide +kernel
theorem dX11_raidOf_45 : decode cX11_raidOf 45 = .ok (.iconst 5, 1) := by decide +kernel
theorem dX11_raidOf_46 : decode cX11_raidOf 46 = .ok (.invokevirtual 347, 3) := by decide +kernel
theorem dX11_raidOf_49 : decode cX11_raidOf 49 = .ok (.ireturn, 1) := by decide +kernel
theorem dX11_raidOf_50 : decode cX11_raidOf 50 = .ok (.aload_n 0, 1) := by decide +kernel
theorem dX11_raidOf_51 : decode cX11_raidOf 51 = .ok (.iload_n 1, 1) := by decide +kernel
theorem dX11_raidOf_52 : decode cX11_raidOf 52 = .ok (.iload_n 2, 1) := by decide +kernel
theorem dX11_raidOf_53 : decode cX11_raidOf 53 = .ok (.invokevirtual 347, 3) := by decide +kernel
theorem dX11_raidOf_56 : decode cX11_raidOf 56 = .ok (.ireturn, 1) := by decide +kernel
def fX11_raidOf (a0 : Nat) (a1 : Int32) (a2 : Int32) (M : xMem) : Option (Int32 × xMem) :=
  xBn (fX11_isThere a0 M) fun r1 M2 => if r1 = 0 then (some ((-2), M2)) else (if a1 < 0 then (some ((-2), M2)) else (xBn (fX11_in (Int32.toInt64 a2) (lN 0) (lN 8) M2) fun r3 M4 => if r3 = 0 then (some ((-2), M4)) else (xBn (fX11_get a0 (nI 25) M4) fun r5 M6 => if a1 < r5 then (if a2 = (nI 5) then (xBn (fX11_rec a0 a1 (nI 5) M6) fun r9 M10 => some (r9, M10)) else (xBn (fX11_rec a0 a1 a2 M6) fun r7 M8 => some (r7, M8))) else (some ((-1), M6)))))
set_option maxRecDepth 100000 in
set_option maxHeartbeats 4000000 in
theorem zX11_raidOf (G : xGX) (a0 : Nat) (h0 : xkd a0 = 11) (a1 : Int32) (a2 : Int32) (M : xMem) (r : Int32) (M' : xMem) (h : fX11_raidOf a0 a1 a2 M = some (r, M')) : xCt G yX11_raidOf cX11_raidOf 3 (some .int) 3 [vr G a0, .int a1, .int a2] M (some (.int r), M') := by
  refine xMet (lv := [some (vr G a0), some (.int a1), some (.int a2)]) (by decide) (Nat.le_of_ble_eq_true rfl) rfl ?_
  intro X hG hnL C R0
  subst hG
  have C : xCk X cX11_raidOf RX11 3 := C
  unfold fX11_raidOf at h
  refine r_aload_n (pc := 0) C dX11_raidOf_0 rfl rfl ?_
  refine r_vI0 (pc := 1) C (fun r M' e => zX11_isThere X.1 a0 h0 M r M' e) h0 (by decide) rfl mX11_isThere lX11_47 (by decide) (Nat.le_of_ble_eq_true rfl) dX11_raidOf_1 h (fun r1 M2 h => ?_)
  refine r_if_eq (pc := 4) (tgt := 23) C dX11_raidOf_4 (by decide) h (fun _ h => ?_) (fun _ h => ?_)
  · refine r_bipush (pc := 23) (v := (-2)) C dX11_raidOf_23 (by decide) ?_
    exact r_iret (pc := 25) C R0 h dX11_raidOf_25
  · refine r_iload_n (pc := 7) C dX11_raidOf_7 rfl rfl ?_
    refine r_if_lt (pc := 8) (tgt := 23) C dX11_raidOf_8 (by decide) h (fun _ h => ?_) (fun _ h => ?_)
    · refine r_bipush (pc := 23) (v := (-2)) C dX11_raidOf_23 (by decide) ?_
      exact r_iret (pc := 25) C R0 h dX11_raidOf_25
    · refine r_iload_n (pc := 11) C dX11_raidOf_11 rfl rfl ?_
      refine r_i2l (pc := 12) C dX11_raidOf_12 ?_
      refine r_lconst (pc := 13) (v := lN 0) C dX11_raidOf_13 rfl ?_
      refine r_ldc2 (pc := 14) C nX11_379 dX11_raidOf_14 ?_
      refine r_sI3 (pc := 17) C (fun r M' e => zX11_in X.1 (Int32.toInt64 a2) (lN 0) (lN 8) M2 r M' e) mX11_in lX11_51 (by decide) (Nat.le_of_ble_eq_true rfl) dX11_raidOf_17 h (fun r3 M4 h => ?_)
      refine r_if_ne (pc := 20) (tgt := 26) C dX11_raidOf_20 (by decide) h (fun _ h => ?_) (fun _ h => ?_)
      · refine r_iload_n (pc := 26) C dX11_raidOf_26 rfl rfl ?_
        refine r_aload_n (pc := 27) C dX11_raidOf_27 rfl rfl ?_
        refine r_bipush (pc := 28) (v := (nI 25)) C dX11_raidOf_28 (by decide) ?_
        refine r_vI1 (pc := 30) C (fun r M' e => zX11_get X.1 a0 h0 (nI 25) M4 r M' e) h0 (by decide) rfl mX11_get lX11_43 (by decide) (Nat.le_of_ble_eq_true rfl) dX11_raidOf_30 h (fun r5 M6 h => ?_)
        refine r_icmp_lt (pc := 33) (tgt := 38) C dX11_raidOf_33 (by decide) h (fun _ h => ?_) (fun _ h => ?_)
        · refine r_iload_n (pc := 38) C dX11_raidOf_38 rfl rfl ?_
          refine r_iconst (pc := 39) (v := (nI 5)) C dX11_raidOf_39 (by decide) ?_
          refine r_icmp_ne (pc := 40) (tgt := 50) C dX11_raidOf_40 (by decide) h (fun _ h => ?_) (fun _ h => ?_)
          · refine r_aload_n (pc := 50) C dX11_raidOf_50 rfl rfl ?_
            refine r_iload_n (pc := 51) C dX11_raidOf_51 rfl rfl ?_
            refine r_iload_n (pc := 52) C dX11_raidOf_52 rfl rfl ?_
            refine r_vI2 (pc := 53) C (fun r M' e => zX11_rec X.1 a0 h0 a1 a2 M6 r M' e) h0 (by decide) rfl mX11_rec lX11_347 (by decide) (Nat.le_of_ble_eq_true rfl) dX11_raidOf_53 h (fun r7 M8 h => ?_)
            exact r_iret (pc := 56) C R0 h dX11_raidOf_56
          · refine r_aload_n (pc := 43) C dX11_raidOf_43 rfl rfl ?_
            refine r_iload_n (pc := 44) C dX11_raidOf_44 rfl rfl ?_
            refine r_iconst (pc := 45) (v := (nI 5)) C dX11_raidOf_45 (by decide) ?_
            refine r_vI2 (pc := 46) C (fun r M' e => zX11_rec X.1 a0 h0 a1 (nI 5) M6 r M' e) h0 (by decide) rfl mX11_rec lX11_347 (by decide) (Nat.le_of_ble_eq_true rfl) dX11_raidOf_46 h (fun r9 M10 h => ?_)
            exact r_iret (pc := 49) C R0 h dX11_raidOf_49
        · refine r_iconst (pc := 36) (v := (-1)) C dX11_raidOf_36 (by decide) ?_
          exact r_iret (pc := 37) C R0 h dX11_raidOf_37
      · refine r_bipush (pc := 23) (v := (-2)) C dX11_raidOf_23 (by decide) ?_
        exact r_iret (pc := 25) C R0 h dX11_raidOf_25
theorem dX11_isRaid_0 : decode cX11_isRaid 0 = .ok (.iload_n 1, 1) := by decide +kernel
theorem dX11_isRaid_1 : decode cX11_isRaid 1 = .ok (.i2l, 1) := by decide +kernel
theorem dX11_isRaid_2 : decode cX11_isRaid 2 = .ok (.lconst 0, 1) := by decide +kernel
theorem dX11_isRaid_3 : decode cX11_isRaid 3 = .ok (.aload_n 0, 1) := by decide +kernel
theorem dX11_isRaid_4 : decode cX11_isRaid 4 = .ok (.bipush 25, 2) := by decide +kernel
theorem dX11_isRaid_6 : decode cX11_isRaid 6 = .ok (.invokevirtual 43, 3) := by decide +kernel
theorem dX11_isRaid_9 : decode cX11_isRaid 9 = .ok (.iconst 1, 1) := by decide +kernel
theorem dX11_isRaid_10 : decode cX11_isRaid 10 = .ok (.isub, 1) := by decide +kernel
theorem dX11_isRaid_11 : decode cX11_isRaid 11 = .ok (.i2l, 1) := by decide +kernel
theorem dX11_isRaid_12 : decode cX11_isRaid 12 = .ok (.invokestatic 51, 3) := by decide +kernel
theorem dX11_isRaid_15 : decode cX11_isRaid 15 = .ok (.ireturn, 1) := by decide +kernel
def fX11_isRaid (a0 : Nat) (a1 : Int32) (M : xMem) : Option (Int32 × xMem) :=
  xBn (fX11_get a0 (nI 25) M) fun r1 M2 => xBn (fX11_in (Int32.toInt64 a1) (lN 0) (Int32.toInt64 (r1 - (nI 1))) M2) fun r3 M4 => xGd (r3 = 0 ∨ r3 = 1) (some (r3, M4))
set_option maxRecDepth 100000 in
set_option maxHeartbeats 4000000 in
theorem zX11_isRaid (G : xGX) (a0 : Nat) (h0 : xkd a0 = 11) (a1 : Int32) (M : xMem) (r : Int32) (M' : xMem) (h : fX11_isRaid a0 a1 M = some (r, M')) : xCt G yX11_isRaid cX11_isRaid 2 (some .boolean) 2 [vr G a0, .int a1] M (some (.int r), M') := by
  refine xMet (lv := [some (vr G a0), some (.int a1)]) (by decide) (Nat.le_of_ble_eq_true rfl) rfl ?_
  intro X hG hnL C R0
  subst hG
  have C : xCk X cX11_isRaid RX11 2 := C
  unfold fX11_isRaid at h
  refine r_iload_n (pc := 0) C dX11_isRaid_0 rfl rfl ?_
  refine r_i2l (pc := 1) C dX11_isRaid_1 ?_
  refine r_lconst (pc := 2) (v := lN 0) C dX11_isRaid_2 rfl ?_
  refine r_aload_n (pc := 3) C dX11_isRaid_3 rfl rfl ?_
  refine r_bipush (pc := 4) (v := (nI 25)) C dX11_isRaid_4 (by decide) ?_
  refine r_vI1 (pc := 6) C (fun r M' e => zX11_get X.1 a0 h0 (nI 25) M r M' e) h0 (by decide) rfl mX11_get lX11_43 (by decide) (Nat.le_of_ble_eq_true rfl) dX11_isRaid_6 h (fun r1 M2 h => ?_)
  refine r_iconst (pc := 9) (v := (nI 1)) C dX11_isRaid_9 (by decide) ?_
  refine r_isub (pc := 10) C dX11_isRaid_10 ?_
  refine r_i2l (pc := 11) C dX11_isRaid_11 ?_
  refine r_sI3 (pc := 12) C (fun r M' e => zX11_in X.1 (Int32.toInt64 a1) (lN 0) (Int32.toInt64 (r1 - (nI 1))) M2 r M' e) mX11_in lX11_51 (by decide) (Nat.le_of_ble_eq_true rfl) dX11_isRaid_12 h (fun r3 M4 h => ?_)
  obtain ⟨g5, h⟩ := xGd_of h
  exact r_zret (pc := 15) g5 C R0 h dX11_isRaid_15
theorem dX11_gains_0 : decode cX11_gains 0 = .ok (.aload_n 0, 1) := by decide +kernel
theorem dX11_gains_1 : decode cX11_gains 1 = .ok (.iload_n 1, 1) := by decide +kernel
theorem dX11_gains_2 : decode cX11_gains 2 = .ok (.aload_n 0, 1) := by decide +kernel
theorem dX11_gains_3 : decode cX11_gains 3 = .ok (.iload_n 1, 1) := by decide +kernel
theorem dX11_gains_4 : decode cX11_gains 4 = .ok (.iconst 0, 1) := by decide +kernel
theorem dX11_gains_5 : decode cX11_gains 5 = .ok (.invokevirtual 347, 3) := by decide +kernel
theorem dX11_gains_8 : decode cX11_gains 8 = .ok (.iload_n 2, 1) := by decide +kernel
theorem dX11_gains_9 : decode cX11_gains 9 = .ok (.if_icmp .ne 7, 3) := by decide +kernel
theorem dX11_gains_12 : decode cX11_gains 12 = .ok (.iconst 3, 1) := by decide +kernel
theorem dX11_gains_13 : decode cX11_gains 13 = .ok (.goto 4, 3) := by decide +kernel
theorem dX11_gains_16 : decode cX11_gains 16 = .ok (.iconst 4, 1) := by decide +kernel
theorem dX11_gains_17 : decode cX11_gains 17 = .ok (.invokevirtual 347, 3) := by decide +kernel
theorem dX11_gains_20 : decode cX11_gains 20 = .ok (.iload_n 3, 1) := by decide +kernel
theorem dX11_gains_21 : decode cX11_gains 21 = .ok (.ifCond .eq 15, 3) := by decide +kernel
theorem dX11_gains_24 : decode cX11_gains 24 = .ok (.aload_n 0, 1) := by decide +kernel
theorem dX11_gains_25 : decode cX11_gains 25 = .ok (.iload_n 1, 1) := by decide +kernel
theorem dX11_gains_26 : decode cX11_gains 26 = .ok (.bipush 13, 2) := by decide +kernel
theorem dX11_gains_28 : decode cX11_gains 28 = .ok (.iload_n 2, 1) := by decide +kernel
theorem dX11_gains_29 : decode cX11_gains 29 = .ok (.iadd, 1) := by decide +kernel
theorem dX11_gains_30 : decode cX11_gains 30 = .ok (.invokevirtual 347, 3) := by decide +kernel
theorem dX11_gains_33 : decode cX11_gains 33 = .ok (.goto 4, 3) := by decide +kernel
theorem dX11_gains_36 : decode cX11_gains 36 = .ok (.iconst 0, 1) := by decide +kernel
theorem dX11_gains_37 : decode cX11_gains 37 = .ok (.iadd, 1) := by decide +kernel
theorem dX11_gains_38 : decode cX11_gains 38 = .ok (.ireturn, 1) := by decide +kernel
def fX11_gains (a0 : Nat) (a1 : Int32) (a2 : Int32) (a3 : Int32) (M : xMem) : Option (Int32 × xMem) :=
  xBn (fX11_rec a0 a1 (nI 0) M) fun r1 M2 => xLt (fun (s3 : Int32) (M4 : xMem) => (xBn (fX11_rec a0 a1 s3 M4) fun r5 M6 => if a3 = 0 then (some ((r5 + (nI 0)), M6)) else (xBn (fX11_rec a0 a1 ((nI 13) + a2) M6) fun r7 M8 => some ((r5 + r7), M8)) : Option (Int32 × xMem))) fun J17 => if r1 = a2 then (J17 (nI 3) M2) else (J17 (nI 4) M2)
set_option maxRecDepth 100000 in
set_option maxHeartbeats 4000000 in
theorem zX11_gains (G : xGX) (a0 : Nat) (h0 : xkd a0 = 11) (a1 : Int32) (a2 : Int32) (a3 : Int32) (M : xMem) (r : Int32) (M' : xMem) (h : fX11_gains a0 a1 a2 a3 M = some (r, M')) : xCt G yX11_gains cX11_gains 4 (some .int) 3 [vr G a0, .int a1, .int a2, .int a3] M (some (.int r), M') := by
  refine xMet (lv := [some (vr G a0), some (.int a1), some (.int a2), some (.int a3)]) (by decide) (Nat.le_of_ble_eq_true rfl) rfl ?_
  intro X hG hnL C R0
  subst hG
  have C : xCk X cX11_gains RX11 3 := C
  unfold fX11_gains at h
  refine r_aload_n (pc := 0) C dX11_gains_0 rfl rfl ?_
  refine r_iload_n (pc := 1) C dX11_gains_1 rfl rfl ?_
  refine r_aload_n (pc := 2) C dX11_gains_2 rfl rfl ?_
  refine r_iload_n (pc := 3) C dX11_gains_3 rfl rfl ?_
  refine r_iconst (pc := 4) (v := (nI 0)) C dX11_gains_4 (by decide) ?_
  refine r_vI2 (pc := 5) C (fun r M' e => zX11_rec X.1 a0 h0 a1 (nI 0) M r M' e) h0 (by decide) rfl mX11_rec lX11_347 (by decide) (Nat.le_of_ble_eq_true rfl) dX11_gains_5 h (fun r1 M2 h => ?_)
  refine r_iload_n (pc := 8) C dX11_gains_8 rfl rfl ?_
  refine r_jn (fun J => ∀ (s3 : Int32) (M4 : xMem) , J s3 M4 = some (r, M') → WW X 17 [some (vr X.1 a0), some (.int a1), some (.int a2), some (.int a3)] [.int s3, .int a1, vr X.1 a0] M4) h (fun s3 M4  h => ?_) (fun J17 hJ17 h => ?_)
  · refine r_vI2 (pc := 17) C (fun r M' e => zX11_rec X.1 a0 h0 a1 s3 M4 r M' e) h0 (by decide) rfl mX11_rec lX11_347 (by decide) (Nat.le_of_ble_eq_true rfl) dX11_gains_17 h (fun r5 M6 h => ?_)
    refine r_iload_n (pc := 20) C dX11_gains_20 rfl rfl ?_
    refine r_if_eq (pc := 21) (tgt := 36) C dX11_gains_21 (by decide) h (fun _ h => ?_) (fun _ h => ?_)
    · refine r_iconst (pc := 36) (v := (nI 0)) C dX11_gains_36 (by decide) ?_
      refine r_iadd (pc := 37) C dX11_gains_37 ?_
      exact r_iret (pc := 38) C R0 h dX11_gains_38
    · refine r_aload_n (pc := 24) C dX11_gains_24 rfl rfl ?_
      refine r_iload_n (pc := 25) C dX11_gains_25 rfl rfl ?_
      refine r_bipush (pc := 26) (v := (nI 13)) C dX11_gains_26 (by decide) ?_
      refine r_iload_n (pc := 28) C dX11_gains_28 rfl rfl ?_
      refine r_iadd (pc := 29) C dX11_gains_29 ?_
      refine r_vI2 (pc := 30) C (fun r M' e => zX11_rec X.1 a0 h0 a1 ((nI 13) + a2) M6 r M' e) h0 (by decide) rfl mX11_rec lX11_347 (by decide) (Nat.le_of_ble_eq_true rfl) dX11_gains_30 h (fun r7 M8 h => ?_)
      refine r_goto (pc := 33) (tgt := 37) C dX11_gains_33 (by decide) ?_
      refine r_iadd (pc := 37) C dX11_gains_37 ?_
      exact r_iret (pc := 38) C R0 h dX11_gains_38
  refine r_icmp_ne (pc := 9) (tgt := 16) C dX11_gains_9 (by decide) h (fun _ h => ?_) (fun _ h => ?_)
  · refine r_iconst (pc := 16) (v := (nI 4)) C dX11_gains_16 (by decide) ?_
    exact hJ17 (nI 4) M2  h
  · refine r_iconst (pc := 12) (v := (nI 3)) C dX11_gains_12 (by decide) ?_
    refine r_goto (pc := 13) (tgt := 17) C dX11_gains_13 (by decide) ?_
    exact hJ17 (nI 3) M2  h
theorem dX11_leadAt_0 : decode cX11_leadAt 0 = .ok (.iconst 0, 1) := by decide +kernel
theorem dX11_leadAt_1 : decode cX11_leadAt 1 = .ok (.istore_n 2, 1) := by decide +kernel
theorem dX11_leadAt_2 : decode cX11_leadAt 2 = .ok (.iconst 0, 1) := by decide +kernel
theorem dX11_leadAt_3 : decode cX11_leadAt 3 = .ok (.istore_n 3, 1) := by decide +kernel
theorem dX11_leadAt_4 : decode cX11_leadAt 4 = .ok (.iload_n 3, 1) := by decide +kernel
theorem dX11_leadAt_5 : decode cX11_leadAt 5 = .ok (.iload_n 1, 1) := by decide +kernel
theorem dX11_leadAt_6 : decode cX11_leadAt 6 = .ok (.if_icmp .ge 27, 3) := by decide +kernel
theorem dX11_leadAt_9 : decode cX11_leadAt 9 = .ok (.iload_n 2, 1) := by decide +kernel
theorem dX11_leadAt_10 : decode cX11_leadAt 10 = .ok (.aload_n 0, 1) := by decide +kernel
theorem dX11_leadAt_11 : decode cX11_leadAt 11 = .ok (.iload_n 3, 1) := by decide +kernel
theorem dX11_leadAt_12 : decode cX11_leadAt 12 = .ok (.iconst 0, 1) := by decide +kernel
theorem dX11_leadAt_13 : decode cX11_leadAt 13 = .ok (.iconst 1, 1) := by decide +kernel
theorem dX11_leadAt_14 : decode cX11_leadAt 14 = .ok (.invokevirtual 381, 3) := by decide +kernel
theorem dX11_leadAt_17 : decode cX11_leadAt 17 = .ok (.aload_n 0, 1) := by decide +kernel
theorem dX11_leadAt_18 : decode cX11_leadAt 18 = .ok (.iload_n 3, 1) := by decide +kernel
theorem dX11_leadAt_19 : decode cX11_leadAt 19 = .ok (.iconst 1, 1) := by decide +kernel
theorem dX11_leadAt_20 : decode cX11_leadAt 20 = .ok (.iconst 1, 1) := by decide +kernel
theorem dX11_leadAt_21 : decode cX11_leadAt 21 = .ok (.invokevirtual 381, 3) := by decide +kernel
theorem dX11_leadAt_24 : decode cX11_leadAt 24 = .ok (.isub, 1) := by decide +kernel
theorem dX11_leadAt_25 : decode cX11_leadAt 25 = .ok (.iadd, 1) := by decide +kernel
theorem dX11_leadAt_26 : decode cX11_leadAt 26 = .ok (.istore_n 2, 1) := by decide +kernel
theorem dX11_leadAt_27 : decode cX11_leadAt 27 = .ok (.iinc 3 1, 3) := by decide +kernel
theorem dX11_leadAt_30 : decode cX11_leadAt 30 = .ok (.goto (-26), 3) := by decide +kernel
theorem dX11_leadAt_33 : decode cX11_leadAt 33 = .ok (.iload_n 2, 1) := by decide +kernel
theorem dX11_leadAt_34 : decode cX11_leadAt 34 = .ok (.ireturn, 1) := by decide +kernel
def fX11_leadAt_l4 (p0 : Nat) (p1 : Int32) (K : Int32 → Int32 → xMem → Option (Int32 × xMem)) : Nat → Int32 → Int32 → xMem → Option (Int32 × xMem)
  | 0, _, _, _ => none
  | n + 1, v2, v3, M => if p1 ≤ v3 then (K v2 v3 M) else (xBn (fX11_gains p0 v3 (nI 0) (nI 1) M) fun r1 M2 => xBn (fX11_gains p0 v3 (nI 1) (nI 1) M2) fun r3 M4 => xLt (v2 + (r1 - r3)) fun x5 => xLt (v3 + nI 1) fun x6 => fX11_leadAt_l4 p0 p1 K n x5 x6 M4)
def fX11_leadAt (a0 : Nat) (a1 : Int32) (M : xMem) : Option (Int32 × xMem) :=
  fX11_leadAt_l4 a0 a1 (fun (v7 : Int32) (v8 : Int32) (M9 : xMem) => some (v7, M9)) xFU (nI 0) (nI 0) M
set_option maxRecDepth 100000 in
set_option maxHeartbeats 4000000 in
theorem lX11_leadAt_4 {X : xCX} {r : Int32} {M' : xMem} (C : xCk X cX11_leadAt RX11 4) (R0 : xRk X (some .int) (some (.int r), M')) (hnL : X.2.2.2.2.2.2.2.2.2.2.2.2.2 = 4) (p0 : Nat) (hp0 : xkd p0 = 11) (p1 : Int32) (K : Int32 → Int32 → xMem → Option (Int32 × xMem)) (hK : ∀ (v2 : Int32) (v3 : Int32) (M : xMem), K v2 v3 M = some (r, M') → WW X 33 [some (vr X.1 p0), some (.int p1), some (.int v2), some (.int v3)] [] M) : ∀ (n : Nat) (v2 : Int32) (v3 : Int32) (M : xMem), fX11_leadAt_l4 p0 p1 K n v2 v3 M = some (r, M') → WW X 4 [some (vr X.1 p0), some (.int p1), some (.int v2), some (.int v3)] [] M := by
  have hn2 : 2 < X.2.2.2.2.2.2.2.2.2.2.2.2.2 := by rw [hnL]; decide
  have hn3 : 3 < X.2.2.2.2.2.2.2.2.2.2.2.2.2 := by rw [hnL]; decide
  intro n
  induction n with
  | zero =>
    intro v2 v3 M h
    cases (show (none : Option (Int32 × xMem)) = some (r, M') from h)
  | succ n ih =>
    intro v2 v3 M h
    rw [fX11_leadAt_l4.eq_2] at h
    refine r_iload_n (pc := 4) C dX11_leadAt_4 rfl rfl ?_
    refine r_iload_n (pc := 5) C dX11_leadAt_5 rfl rfl ?_
    refine r_icmp_ge (pc := 6) (tgt := 33) C dX11_leadAt_6 (by decide) h (fun _ h => ?_) (fun _ h => ?_)
    · exact hK v2 v3 M h
    · refine r_iload_n (pc := 9) C dX11_leadAt_9 rfl rfl ?_
      refine r_aload_n (pc := 10) C dX11_leadAt_10 rfl rfl ?_
      refine r_iload_n (pc := 11) C dX11_leadAt_11 rfl rfl ?_
      refine r_iconst (pc := 12) (v := (nI 0)) C dX11_leadAt_12 (by decide) ?_
      refine r_iconst (pc := 13) (v := (nI 1)) C dX11_leadAt_13 (by decide) ?_
      refine r_vI3 (pc := 14) C (fun r M' e => zX11_gains X.1 p0 hp0 v3 (nI 0) (nI 1) M r M' e) hp0 (by decide) rfl mX11_gains lX11_381 (by decide) (Nat.le_of_ble_eq_true rfl) dX11_leadAt_14 h (fun r1 M2 h => ?_)
      refine r_aload_n (pc := 17) C dX11_leadAt_17 rfl rfl ?_
      refine r_iload_n (pc := 18) C dX11_leadAt_18 rfl rfl ?_
      refine r_iconst (pc := 19) (v := (nI 1)) C dX11_leadAt_19 (by decide) ?_
      refine r_iconst (pc := 20) (v := (nI 1)) C dX11_leadAt_20 (by decide) ?_
      refine r_vI3 (pc := 21) C (fun r M' e => zX11_gains X.1 p0 hp0 v3 (nI 1) (nI 1) M2 r M' e) hp0 (by decide) rfl mX11_gains lX11_381 (by decide) (Nat.le_of_ble_eq_true rfl) dX11_leadAt_21 h (fun r3 M4 h => ?_)
      refine r_isub (pc := 24) C dX11_leadAt_24 ?_
      refine r_iadd (pc := 25) C dX11_leadAt_25 ?_
      refine r_letI h (fun x5 h => ?_)
      refine r_istore_n (pc := 26) (lv' := [_, _, _, _]) C dX11_leadAt_26 rfl hn2 rfl ?_
      refine r_iincL (pc := 27) (c := nI 1) C dX11_leadAt_27 rfl (by decide) hn3 h (fun x6 h => ?_)
      refine r_lvE (lv' := [_, _, _, _]) rfl ?_
      refine r_goto (pc := 30) (tgt := 4) C dX11_leadAt_30 (by decide) ?_
      exact ih x5 x6 M4 h
set_option maxRecDepth 100000 in
set_option maxHeartbeats 4000000 in
theorem zX11_leadAt (G : xGX) (a0 : Nat) (h0 : xkd a0 = 11) (a1 : Int32) (M : xMem) (r : Int32) (M' : xMem) (h : fX11_leadAt a0 a1 M = some (r, M')) : xCt G yX11_leadAt cX11_leadAt 4 (some .int) 4 [vr G a0, .int a1] M (some (.int r), M') := by
  refine xMet (lv := [some (vr G a0), some (.int a1), none, none]) (by decide) (Nat.le_of_ble_eq_true rfl) rfl ?_
  intro X hG hnL C R0
  subst hG
  have C : xCk X cX11_leadAt RX11 4 := C
  have hn2 : 2 < X.2.2.2.2.2.2.2.2.2.2.2.2.2 := by rw [hnL]; decide
  have hn3 : 3 < X.2.2.2.2.2.2.2.2.2.2.2.2.2 := by rw [hnL]; decide
  unfold fX11_leadAt at h
  refine r_iconst (pc := 0) (v := (nI 0)) C dX11_leadAt_0 (by decide) ?_
  refine r_istore_n (pc := 1) (lv' := [_, _, _, _]) C dX11_leadAt_1 rfl hn2 rfl ?_
  refine r_iconst (pc := 2) (v := (nI 0)) C dX11_leadAt_2 (by decide) ?_
  refine r_istore_n (pc := 3) (lv' := [_, _, _, _]) C dX11_leadAt_3 rfl hn3 rfl ?_
  refine lX11_leadAt_4 C R0 hnL a0 h0 a1 _ (fun v7 v8 M9 h => ?_) _ _ _ _ h
  refine r_iload_n (pc := 33) C dX11_leadAt_33 rfl rfl ?_
  exact r_iret (pc := 34) C R0 h dX11_leadAt_34
theorem dX11_lead_0 : decode cX11_lead 0 = .ok (.aload_n 0, 1) := by decide +kernel
theorem dX11_lead_1 : decode cX11_lead 1 = .ok (.invokevirtual 47, 3) := by decide +kernel
theorem dX11_lead_4 : decode cX11_lead 4 = .ok (.ifCond .eq 27, 3) := by decide +kernel
theorem dX11_lead_7 : decode cX11_lead 7 = .ok (.iload_n 1, 1) := by decide +kernel
theorem dX11_lead_8 : decode cX11_lead 8 = .ok (.i2l, 1) := by decide +kernel
theorem dX11_lead_9 : decode cX11_lead 9 = .ok (.lconst 0, 1) := by decide +kernel
theorem dX11_lead_10 : decode cX11_lead 10 = .ok (.aload_n 0, 1) := by decide +kernel
theorem dX11_lead_11 : decode cX11_lead 11 = .ok (.bipush 25, 2) := by decide +kernel
theorem dX11_lead_13 : decode cX11_lead 13 = .ok (.invokevirtual 43, 3) := by decide +kernel
theorem dX11_lead_16 : decode cX11_lead 16 = .ok (.i2l, 1) := by decide +kernel
theorem dX11_lead_17 : decode cX11_lead 17 = .ok (.invokestatic 51, 3) := by decide +kernel
theorem dX11_lead_20 : decode cX11_lead 20 = .ok (.ifCond .eq 11, 3) := by decide +kernel
theorem dX11_lead_23 : decode cX11_lead 23 = .ok (.aload_n 0, 1) := by decide +kernel
theorem dX11_lead_24 : decode cX11_lead 24 = .ok (.iload_n 1, 1) := by decide +kernel
theorem dX11_lead_25 : decode cX11_lead 25 = .ok (.invokevirtual 385, 3) := by decide +kernel
theorem dX11_lead_28 : decode cX11_lead 28 = .ok (.goto 6, 3) := by decide +kernel
theorem dX11_lead_31 : decode cX11_lead 31 = .ok (.sipush (-1000), 3) := by decide +kernel
theorem dX11_lead_34 : decode cX11_lead 34 = .ok (.ireturn, 1) := by decide +kernel
def fX11_lead (a0 : Nat) (a1 : Int32) (M : xMem) : Option (Int32 × xMem) :=
  xBn (fX11_isThere a0 M) fun r1 M2 => if r1 = 0 then (some ((-1000), M2)) else (xBn (fX11_get a0 (nI 25) M2) fun r3 M4 => xBn (fX11_in (Int32.toInt64 a1) (lN 0) (Int32.toInt64 r3) M4) fun r5 M6 => if r5 = 0 then (some ((-1000), M6)) else (xBn (fX11_leadAt a0 a1 M6) fun r7 M8 => some (r7, M8)))
set_option maxRecDepth 100000 in
set_option maxHeartbeats 4000000 in
theorem zX11_lead (G : xGX) (a0 : Nat) (h0 : xkd a0 = 11) (a1 : Int32) (M : xMem) (r : Int32) (M' : xMem) (h : fX11_lead a0 a1 M = some (r, M')) : xCt G yX11_lead cX11_lead 2 (some .int) 5 [vr G a0, .int a1] M (some (.int r), M') := by
  refine xMet (lv := [some (vr G a0), some (.int a1)]) (by decide) (Nat.le_of_ble_eq_true rfl) rfl ?_
  intro X hG hnL C R0
  subst hG
  have C : xCk X cX11_lead RX11 5 := C
  unfold fX11_lead at h
  refine r_aload_n (pc := 0) C dX11_lead_0 rfl rfl ?_
  refine r_vI0 (pc := 1) C (fun r M' e => zX11_isThere X.1 a0 h0 M r M' e) h0 (by decide) rfl mX11_isThere lX11_47 (by decide) (Nat.le_of_ble_eq_true rfl) dX11_lead_1 h (fun r1 M2 h => ?_)
  refine r_if_eq (pc := 4) (tgt := 31) C dX11_lead_4 (by decide) h (fun _ h => ?_) (fun _ h => ?_)
  · refine r_sipush (pc := 31) (v := (-1000)) C dX11_lead_31 (by decide) ?_
    exact r_iret (pc := 34) C R0 h dX11_lead_34
  · refine r_iload_n (pc := 7) C dX11_lead_7 rfl rfl ?_
    refine r_i2l (pc := 8) C dX11_lead_8 ?_
    refine r_lconst (pc := 9) (v := lN 0) C dX11_lead_9 rfl ?_
    refine r_aload_n (pc := 10) C dX11_lead_10 rfl rfl ?_
    refine r_bipush (pc := 11) (v := (nI 25)) C dX11_lead_11 (by decide) ?_
    refine r_vI1 (pc := 13) C (fun r M' e => zX11_get X.1 a0 h0 (nI 25) M2 r M' e) h0 (by decide) rfl mX11_get lX11_43 (by decide) (Nat.le_of_ble_eq_true rfl) dX11_lead_13 h (fun r3 M4 h => ?_)
    refine r_i2l (pc := 16) C dX11_lead_16 ?_
    refine r_sI3 (pc := 17) C (fun r M' e => zX11_in X.1 (Int32.toInt64 a1) (lN 0) (Int32.toInt64 r3) M4 r M' e) mX11_in lX11_51 (by decide) (Nat.le_of_ble_eq_true rfl) dX11_lead_17 h (fun r5 M6 h => ?_)
    refine r_if_eq (pc := 20) (tgt := 31) C dX11_lead_20 (by decide) h (fun _ h => ?_) (fun _ h => ?_)
    · refine r_sipush (pc := 31) (v := (-1000)) C dX11_lead_31 (by decide) ?_
      exact r_iret (pc := 34) C R0 h dX11_lead_34
    · refine r_aload_n (pc := 23) C dX11_lead_23 rfl rfl ?_
      refine r_iload_n (pc := 24) C dX11_lead_24 rfl rfl ?_
      refine r_vI1 (pc := 25) C (fun r M' e => zX11_leadAt X.1 a0 h0 a1 M6 r M' e) h0 (by decide) rfl mX11_leadAt lX11_385 (by decide) (Nat.le_of_ble_eq_true rfl) dX11_lead_25 h (fun r7 M8 h => ?_)
      refine r_goto (pc := 28) (tgt := 34) C dX11_lead_28 (by decide) ?_
      exact r_iret (pc := 34) C R0 h dX11_lead_34
theorem dX11_changes_0 : decode cX11_changes 0 = .ok (.aload_n 0, 1) := by decide +kernel
theorem dX11_changes_1 : decode cX11_changes 1 = .ok (.invokevirtual 47, 3) := by decide +kernel
theorem dX11_changes_4 : decode cX11_changes 4 = .ok (.ifCond .ne 6, 3) := by decide +kernel
theorem dX11_changes_7 : decode cX11_changes 7 = .ok (.bipush (-2), 2) := by decide +kernel
theorem dX11_changes_9 : decode cX11_changes 9 = .ok (.ireturn, 1) := by decide +kernel
theorem dX11_changes_10 : decode cX11_changes 10 = .ok (.iconst 0, 1) := by decide +kernel
theorem dX11_changes_11 : decode cX11_changes 11 = .ok (.istore_n 1, 1) := by decide +kernel
theorem dX11_changes_12 : decode cX11_changes 12 = .ok (.iconst 0, 1) := by decide +kernel
theorem dX11_changes_13 : decode cX11_changes 13 = .ok (.istore_n 2, 1) := by decide +kernel
theorem dX11_changes_14 : decode cX11_changes 14 = .ok (.iconst 1, 1) := by decide +kernel
theorem dX11_changes_15 : decode cX11_changes 15 = .ok (.istore_n 3, 1) := by decide +kernel
theorem dX11_changes_16 : decode cX11_changes 16 = .ok (.iload_n 3, 1) := by decide +kernel
theorem dX11_changes_17 : decode cX11_changes 17 = .ok (.aload_n 0, 1) := by decide +kernel
theorem dX11_changes_18 : decode cX11_changes 18 = .ok (.bipush 25, 2) := by decide +kernel
theorem dX11_changes_20 : decode cX11_changes 20 = .ok (.invokevirtual 43, 3) := by decide +kernel
theorem dX11_changes_23 : decode cX11_changes 23 = .ok (.if_icmp .gt 61, 3) := by decide +kernel
theorem dX11_changes_26 : decode cX11_changes 26 = .ok (.aload_n 0, 1) := by decide +kernel
theorem dX11_changes_27 : decode cX11_changes 27 = .ok (.iload_n 3, 1) := by decide +kernel
theorem dX11_changes_28 : decode cX11_changes 28 = .ok (.invokevirtual 385, 3) := by decide +kernel
theorem dX11_changes_31 : decode cX11_changes 31 = .ok (.istore 4, 2) := by decide +kernel
theorem dX11_changes_33 : decode cX11_changes 33 = .ok (.iload 4, 2) := by decide +kernel
theorem dX11_changes_35 : decode cX11_changes 35 = .ok (.ifCond .ne 6, 3) := by decide +kernel
theorem dX11_changes_38 : decode cX11_changes 38 = .ok (.goto 40, 3) := by decide +kernel
theorem dX11_changes_41 : decode cX11_changes 41 = .ok (.iload_n 1, 1) := by decide +kernel
theorem dX11_changes_42 : decode cX11_changes 42 = .ok (.iload_n 2, 1) := by decide +kernel
theorem dX11_changes_43 : decode cX11_changes 43 = .ok (.ifCond .eq 29, 3) := by decide +kernel
theorem dX11_changes_46 : decode cX11_changes 46 = .ok (.iload_n 2, 1) := by decide +kernel
theorem dX11_changes_47 : decode cX11_changes 47 = .ok (.ifCond .le 7, 3) := by decide +kernel
theorem dX11_changes_50 : decode cX11_changes 50 = .ok (.iconst 1, 1) := by decide +kernel
theorem dX11_changes_51 : decode cX11_changes 51 = .ok (.goto 4, 3) := by decide +kernel
theorem dX11_changes_54 : decode cX11_changes 54 = .ok (.iconst 0, 1) := by decide +kernel
theorem dX11_changes_55 : decode cX11_changes 55 = .ok (.iload 4, 2) := by decide +kernel
theorem dX11_changes_57 : decode cX11_changes 57 = .ok (.ifCond .le 7, 3) := by decide +kernel
theorem dX11_changes_60 : decode cX11_changes 60 = .ok (.iconst 1, 1) := by decide +kernel
theorem dX11_changes_61 : decode cX11_changes 61 = .ok (.goto 4, 3) := by decide +kernel
theorem dX11_changes_64 : decode cX11_changes 64 = .ok (.iconst 0, 1) := by decide +kernel
theorem dX11_changes_65 : decode cX11_changes 65 = .ok (.if_icmp .eq 7, 3) := by decide +kernel
theorem dX11_changes_68 : decode cX11_changes 68 = .ok (.iconst 1, 1) := by decide +kernel
theorem dX11_changes_69 : decode cX11_changes 69 = .ok (.goto 4, 3) := by decide +kernel
theorem dX11_changes_72 : decode cX11_changes 72 = .ok (.iconst 0, 1) := by decide +kernel
theorem dX11_changes_73 : decode cX11_changes 73 = .ok (.iadd, 1) := by decide +kernel
theorem dX11_changes_74 : decode cX11_changes 74 = .ok (.istore_n 1, 1) := by decide +kernel
theorem dX11_changes_75 : decode cX11_changes 75 = .ok (.iload 4, 2) := by decide +kernel
theorem dX11_changes_77 : decode cX11_changes 77 = .ok (.istore_n 2, 1) := by decide +kernel
theorem dX11_changes_78 : decode cX11_changes 78 = .ok (.iinc 3 1, 3) := by decide +kernel
theorem dX11_changes_81 : decode cX11_changes 81 = .ok (.goto (-65), 3) := by decide +kernel
theorem dX11_changes_84 : decode cX11_changes 84 = .ok (.iload_n 1, 1) := by decide +kernel
theorem dX11_changes_85 : decode cX11_changes 85 = .ok (.ireturn, 1) := by decide +kernel
def fX11_changes_l16 (p0 : Nat) (K : Int32 → Int32 → Int32 → xMem → Option (Int32 × xMem)) : Nat → Int32 → Int32 → Int32 → xMem → Option (Int32 × xMem)
  | 0, _, _, _, _ => none
  | n + 1, v1, v2, v3, M => xBn (fX11_get p0 (nI 25) M) fun r3 M4 => if r3 < v3 then (K v1 v2 v3 M4) else (xBn (fX11_leadAt p0 v3 M4) fun r5 M6 => if r5 = 0 then (xLt (v3 + nI 1) fun x15 => fX11_changes_l16 p0 K n v1 v2 x15 M6) else (xLt (fun (s7 : Int32) (M8 : xMem) => (xLt (v1 + s7) fun x9 => xLt (v3 + nI 1) fun x10 => fX11_changes_l16 p0 K n x9 r5 x10 M8 : Option (Int32 × xMem))) fun J73 => if v2 = 0 then (J73 (nI 0) M6) else (xLt (fun (s11 : Int32) (M12 : xMem) => (xLt (fun (s13 : Int32) (M14 : xMem) => (if s11 = s13 then (J73 (nI 0) M14) else (J73 (nI 1) M14) : Option (Int32 × xMem))) fun J65 => if r5 ≤ 0 then (J65 (nI 0) M12) else (J65 (nI 1) M12) : Option (Int32 × xMem))) fun J55 => if v2 ≤ 0 then (J55 (nI 0) M6) else (J55 (nI 1) M6))))
def fX11_changes (a0 : Nat) (M : xMem) : Option (Int32 × xMem) :=
  xBn (fX11_isThere a0 M) fun r1 M2 => if r1 = 0 then (some ((-2), M2)) else (fX11_changes_l16 a0 (fun (v16 : Int32) (v17 : Int32) (v18 : Int32) (M19 : xMem) => some (v16, M19)) xFU (nI 0) (nI 0) (nI 1) M2)
set_option maxRecDepth 100000 in
set_option maxHeartbeats 4000000 in
theorem lX11_changes_16 {X : xCX} {r : Int32} {M' : xMem} (C : xCk X cX11_changes RX11 5) (R0 : xRk X (some .int) (some (.int r), M')) (hnL : X.2.2.2.2.2.2.2.2.2.2.2.2.2 = 5) (p0 : Nat) (hp0 : xkd p0 = 11) (K : Int32 → Int32 → Int32 → xMem → Option (Int32 × xMem)) (hK : ∀ (v1 : Int32) (v2 : Int32) (v3 : Int32) (M : xMem), K v1 v2 v3 M = some (r, M') → WW X 84 [some (vr X.1 p0), some (.int v1), some (.int v2), some (.int v3), none] [] M) : ∀ (n : Nat) (v1 : Int32) (v2 : Int32) (v3 : Int32) (M : xMem), fX11_changes_l16 p0 K n v1 v2 v3 M = some (r, M') → WW X 16 [some (vr X.1 p0), some (.int v1), some (.int v2), some (.int v3), none] [] M := by
  have hn1 : 1 < X.2.2.2.2.2.2.2.2.2.2.2.2.2 := by rw [hnL]; decide
  have hn2 : 2 < X.2.2.2.2.2.2.2.2.2.2.2.2.2 := by rw [hnL]; decide
  have hn3 : 3 < X.2.2.2.2.2.2.2.2.2.2.2.2.2 := by rw [hnL]; decide
  have hn4 : 4 < X.2.2.2.2.2.2.2.2.2.2.2.2.2 := by rw [hnL]; decide
  intro n
  induction n with
  | zero =>
    intro v1 v2 v3 M h
    cases (show (none : Option (Int32 × xMem)) = some (r, M') from h)
  | succ n ih =>
    intro v1 v2 v3 M h
    rw [fX11_changes_l16.eq_2] at h
    refine r_iload_n (pc := 16) C dX11_changes_16 rfl rfl ?_
    refine r_aload_n (pc := 17) C dX11_changes_17 rfl rfl ?_
    refine r_bipush (pc := 18) (v := (nI 25)) C dX11_changes_18 (by decide) ?_
    refine r_vI1 (pc := 20) C (fun r M' e => zX11_get X.1 p0 hp0 (nI 25) M r M' e) hp0 (by decide) rfl mX11_get lX11_43 (by decide) (Nat.le_of_ble_eq_true rfl) dX11_changes_20 h (fun r3 M4 h => ?_)
    refine r_icmp_gt (pc := 23) (tgt := 84) C dX11_changes_23 (by decide) h (fun _ h => ?_) (fun _ h => ?_)
    · exact hK v1 v2 v3 M4 h
    · refine r_aload_n (pc := 26) C dX11_changes_26 rfl rfl ?_
      refine r_iload_n (pc := 27) C dX11_changes_27 rfl rfl ?_
      refine r_vI1 (pc := 28) C (fun r M' e => zX11_leadAt X.1 p0 hp0 v3 M4 r M' e) hp0 (by decide) rfl mX11_leadAt lX11_385 (by decide) (Nat.le_of_ble_eq_true rfl) dX11_changes_28 h (fun r5 M6 h => ?_)
      refine r_istore (pc := 31) (lv' := [_, _, _, _, _]) C dX11_changes_31 hn4 rfl ?_
      refine r_iload (pc := 33) C dX11_changes_33 rfl ?_
      refine r_if_ne (pc := 35) (tgt := 41) C dX11_changes_35 (by decide) h (fun _ h => ?_) (fun _ h => ?_)
      · refine r_iload_n (pc := 41) C dX11_changes_41 rfl rfl ?_
        refine r_iload_n (pc := 42) C dX11_changes_42 rfl rfl ?_
        refine r_jn (fun J => ∀ (s7 : Int32) (M8 : xMem) , J s7 M8 = some (r, M') → WW X 73 [some (vr X.1 p0), some (.int v1), some (.int v2), some (.int v3), some (.int r5)] [.int s7, .int v1] M8) h (fun s7 M8  h => ?_) (fun J73 hJ73 h => ?_)
        · refine r_iadd (pc := 73) C dX11_changes_73 ?_
          refine r_letI h (fun x9 h => ?_)
          refine r_istore_n (pc := 74) (lv' := [_, _, _, _, _]) C dX11_changes_74 rfl hn1 rfl ?_
          refine r_iload (pc := 75) C dX11_changes_75 rfl ?_
          refine r_istore_n (pc := 77) (lv' := [_, _, _, _, _]) C dX11_changes_77 rfl hn2 rfl ?_
          refine r_iincL (pc := 78) (c := nI 1) C dX11_changes_78 rfl (by decide) hn3 h (fun x10 h => ?_)
          refine r_lvE (lv' := [_, _, _, _, _]) rfl ?_
          refine r_goto (pc := 81) (tgt := 16) C dX11_changes_81 (by decide) ?_
          exact r_lv (xle_at (xle_some rfl (xle_some rfl (xle_some rfl (xle_some rfl (xle_none xle_nil)))))) (ih x9 r5 x10 M8 h)
        refine r_if_eq (pc := 43) (tgt := 72) C dX11_changes_43 (by decide) h (fun _ h => ?_) (fun _ h => ?_)
        · refine r_iconst (pc := 72) (v := (nI 0)) C dX11_changes_72 (by decide) ?_
          exact hJ73 (nI 0) M6  h
        · refine r_iload_n (pc := 46) C dX11_changes_46 rfl rfl ?_
          refine r_jn (fun J => ∀ (s11 : Int32) (M12 : xMem) , J s11 M12 = some (r, M') → WW X 55 [some (vr X.1 p0), some (.int v1), some (.int v2), some (.int v3), some (.int r5)] [.int s11, .int v1] M12) h (fun s11 M12  h => ?_) (fun J55 hJ55 h => ?_)
          · refine r_iload (pc := 55) C dX11_changes_55 rfl ?_
            refine r_jn (fun J => ∀ (s13 : Int32) (M14 : xMem) , J s13 M14 = some (r, M') → WW X 65 [some (vr X.1 p0), some (.int v1), some (.int v2), some (.int v3), some (.int r5)] [.int s13, .int s11, .int v1] M14) h (fun s13 M14  h => ?_) (fun J65 hJ65 h => ?_)
            · refine r_icmp_eq (pc := 65) (tgt := 72) C dX11_changes_65 (by decide) h (fun _ h => ?_) (fun _ h => ?_)
              · refine r_iconst (pc := 72) (v := (nI 0)) C dX11_changes_72 (by decide) ?_
                exact hJ73 (nI 0) M14  h
              · refine r_iconst (pc := 68) (v := (nI 1)) C dX11_changes_68 (by decide) ?_
                refine r_goto (pc := 69) (tgt := 73) C dX11_changes_69 (by decide) ?_
                exact hJ73 (nI 1) M14  h
            refine r_if_le (pc := 57) (tgt := 64) C dX11_changes_57 (by decide) h (fun _ h => ?_) (fun _ h => ?_)
            · refine r_iconst (pc := 64) (v := (nI 0)) C dX11_changes_64 (by decide) ?_
              exact hJ65 (nI 0) M12  h
            · refine r_iconst (pc := 60) (v := (nI 1)) C dX11_changes_60 (by decide) ?_
              refine r_goto (pc := 61) (tgt := 65) C dX11_changes_61 (by decide) ?_
              exact hJ65 (nI 1) M12  h
          refine r_if_le (pc := 47) (tgt := 54) C dX11_changes_47 (by decide) h (fun _ h => ?_) (fun _ h => ?_)
          · refine r_iconst (pc := 54) (v := (nI 0)) C dX11_changes_54 (by decide) ?_
            exact hJ55 (nI 0) M6  h
          · refine r_iconst (pc := 50) (v := (nI 1)) C dX11_changes_50 (by decide) ?_
            refine r_goto (pc := 51) (tgt := 55) C dX11_changes_51 (by decide) ?_
            exact hJ55 (nI 1) M6  h
      · refine r_goto (pc := 38) (tgt := 78) C dX11_changes_38 (by decide) ?_
        refine r_iincL (pc := 78) (c := nI 1) C dX11_changes_78 rfl (by decide) hn3 h (fun x15 h => ?_)
        refine r_lvE (lv' := [_, _, _, _, _]) rfl ?_
        refine r_goto (pc := 81) (tgt := 16) C dX11_changes_81 (by decide) ?_
        exact r_lv (xle_at (xle_some rfl (xle_some rfl (xle_some rfl (xle_some rfl (xle_none xle_nil)))))) (ih v1 v2 x15 M6 h)
set_option maxRecDepth 100000 in
set_option maxHeartbeats 4000000 in
theorem zX11_changes (G : xGX) (a0 : Nat) (h0 : xkd a0 = 11) (M : xMem) (r : Int32) (M' : xMem) (h : fX11_changes a0 M = some (r, M')) : xCt G yX11_changes cX11_changes 5 (some .int) 5 [vr G a0] M (some (.int r), M') := by
  refine xMet (lv := [some (vr G a0), none, none, none, none]) (by decide) (Nat.le_of_ble_eq_true rfl) rfl ?_
  intro X hG hnL C R0
  subst hG
  have C : xCk X cX11_changes RX11 5 := C
  have hn1 : 1 < X.2.2.2.2.2.2.2.2.2.2.2.2.2 := by rw [hnL]; decide
  have hn2 : 2 < X.2.2.2.2.2.2.2.2.2.2.2.2.2 := by rw [hnL]; decide
  have hn3 : 3 < X.2.2.2.2.2.2.2.2.2.2.2.2.2 := by rw [hnL]; decide
  have hn4 : 4 < X.2.2.2.2.2.2.2.2.2.2.2.2.2 := by rw [hnL]; decide
  unfold fX11_changes at h
  refine r_aload_n (pc := 0) C dX11_changes_0 rfl rfl ?_
  refine r_vI0 (pc := 1) C (fun r M' e => zX11_isThere X.1 a0 h0 M r M' e) h0 (by decide) rfl mX11_isThere lX11_47 (by decide) (Nat.le_of_ble_eq_true rfl) dX11_changes_1 h (fun r1 M2 h => ?_)
  refine r_if_ne (pc := 4) (tgt := 10) C dX11_changes_4 (by decide) h (fun _ h => ?_) (fun _ h => ?_)
  · refine r_iconst (pc := 10) (v := (nI 0)) C dX11_changes_10 (by decide) ?_
    refine r_istore_n (pc := 11) (lv' := [_, _, _, _, _]) C dX11_changes_11 rfl hn1 rfl ?_
    refine r_iconst (pc := 12) (v := (nI 0)) C dX11_changes_12 (by decide) ?_
    refine r_istore_n (pc := 13) (lv' := [_, _, _, _, _]) C dX11_changes_13 rfl hn2 rfl ?_
    refine r_iconst (pc := 14) (v := (nI 1)) C dX11_changes_14 (by decide) ?_
    refine r_istore_n (pc := 15) (lv' := [_, _, _, _, _]) C dX11_changes_15 rfl hn3 rfl ?_
    refine lX11_changes_16 C R0 hnL a0 h0 _ (fun v16 v17 v18 M19 h => ?_) _ _ _ _ _ h
    refine r_iload_n (pc := 84) C dX11_changes_84 rfl rfl ?_
    exact r_iret (pc := 85) C R0 h dX11_changes_85
  · refine r_bipush (pc := 7) (v := (-2)) C dX11_changes_7 (by decide) ?_
    exact r_iret (pc := 9) C R0 h dX11_changes_9
theorem dX11_draws_0 : decode cX11_draws 0 = .ok (.aload_n 0, 1) := by decide +kernel
theorem dX11_draws_1 : decode cX11_draws 1 = .ok (.invokevirtual 47, 3) := by decide +kernel
theorem dX11_draws_4 : decode cX11_draws 4 = .ok (.ifCond .ne 6, 3) := by decide +kernel
theorem dX11_draws_7 : decode cX11_draws 7 = .ok (.bipush (-2), 2) := by decide +kernel
theorem dX11_draws_9 : decode cX11_draws 9 = .ok (.ireturn, 1) := by decide +kernel
theorem dX11_draws_10 : decode cX11_draws 10 = .ok (.iconst 0, 1) := by decide +kernel
theorem dX11_draws_11 : decode cX11_draws 11 = .ok (.istore_n 1, 1) := by decide +kernel
theorem dX11_draws_12 : decode cX11_draws 12 = .ok (.iconst 1, 1) := by decide +kernel
theorem dX11_draws_13 : decode cX11_draws 13 = .ok (.istore_n 2, 1) := by decide +kernel
theorem dX11_draws_14 : decode cX11_draws 14 = .ok (.iload_n 2, 1) := by decide +kernel
theorem dX11_draws_15 : decode cX11_draws 15 = .ok (.aload_n 0, 1) := by decide +kernel
theorem dX11_draws_16 : decode cX11_draws 16 = .ok (.bipush 25, 2) := by decide +kernel
theorem dX11_draws_18 : decode cX11_draws 18 = .ok (.invokevirtual 43, 3) := by decide +kernel
theorem dX11_draws_21 : decode cX11_draws 21 = .ok (.if_icmp .gt 25, 3) := by decide +kernel
theorem dX11_draws_24 : decode cX11_draws 24 = .ok (.iload_n 1, 1) := by decide +kernel
theorem dX11_draws_25 : decode cX11_draws 25 = .ok (.aload_n 0, 1) := by decide +kernel
theorem dX11_draws_26 : decode cX11_draws 26 = .ok (.iload_n 2, 1) := by decide +kernel
theorem dX11_draws_27 : decode cX11_draws 27 = .ok (.invokevirtual 385, 3) := by decide +kernel
theorem dX11_draws_30 : decode cX11_draws 30 = .ok (.ifCond .ne 7, 3) := by decide +kernel
theorem dX11_draws_33 : decode cX11_draws 33 = .ok (.iconst 1, 1) := by decide +kernel
theorem dX11_draws_34 : decode cX11_draws 34 = .ok (.goto 4, 3) := by decide +kernel
theorem dX11_draws_37 : decode cX11_draws 37 = .ok (.iconst 0, 1) := by decide +kernel
theorem dX11_draws_38 : decode cX11_draws 38 = .ok (.iadd, 1) := by decide +kernel
theorem dX11_draws_39 : decode cX11_draws 39 = .ok (.istore_n 1, 1) := by decide +kernel
theorem dX11_draws_40 : decode cX11_draws 40 = .ok (.iinc 2 1, 3) := by decide +kernel
theorem dX11_draws_43 : decode cX11_draws 43 = .ok (.goto (-29), 3) := by decide +kernel
theorem dX11_draws_46 : decode cX11_draws 46 = .ok (.iload_n 1, 1) := by decide +kernel
theorem dX11_draws_47 : decode cX11_draws 47 = .ok (.ireturn, 1) := by decide +kernel
def fX11_draws_l14 (p0 : Nat) (K : Int32 → Int32 → xMem → Option (Int32 × xMem)) : Nat → Int32 → Int32 → xMem → Option (Int32 × xMem)
  | 0, _, _, _ => none
  | n + 1, v1, v2, M => xBn (fX11_get p0 (nI 25) M) fun r3 M4 => if r3 < v2 then (K v1 v2 M4) else (xBn (fX11_leadAt p0 v2 M4) fun r5 M6 => xLt (fun (s7 : Int32) (M8 : xMem) => (xLt (v1 + s7) fun x9 => xLt (v2 + nI 1) fun x10 => fX11_draws_l14 p0 K n x9 x10 M8 : Option (Int32 × xMem))) fun J38 => if r5 = 0 then (J38 (nI 1) M6) else (J38 (nI 0) M6))
def fX11_draws (a0 : Nat) (M : xMem) : Option (Int32 × xMem) :=
  xBn (fX11_isThere a0 M) fun r1 M2 => if r1 = 0 then (some ((-2), M2)) else (fX11_draws_l14 a0 (fun (v11 : Int32) (v12 : Int32) (M13 : xMem) => some (v11, M13)) xFU (nI 0) (nI 1) M2)
set_option maxRecDepth 100000 in
set_option maxHeartbeats 4000000 in
theorem lX11_draws_14 {X : xCX} {r : Int32} {M' : xMem} (C : xCk X cX11_draws RX11 5) (R0 : xRk X (some .int) (some (.int r), M')) (hnL : X.2.2.2.2.2.2.2.2.2.2.2.2.2 = 3) (p0 : Nat) (hp0 : xkd p0 = 11) (K : Int32 → Int32 → xMem → Option (Int32 × xMem)) (hK : ∀ (v1 : Int32) (v2 : Int32) (M : xMem), K v1 v2 M = some (r, M') → WW X 46 [some (vr X.1 p0), some (.int v1), some (.int v2)] [] M) : ∀ (n : Nat) (v1 : Int32) (v2 : Int32) (M : xMem), fX11_draws_l14 p0 K n v1 v2 M = some (r, M') → WW X 14 [some (vr X.1 p0), some (.int v1), some (.int v2)] [] M := by
  have hn1 : 1 < X.2.2.2.2.2.2.2.2.2.2.2.2.2 := by rw [hnL]; decide
  have hn2 : 2 < X.2.2.2.2.2.2.2.2.2.2.2.2.2 := by rw [hnL]; decide
  intro n
  induction n with
  | zero =>
    intro v1 v2 M h
    cases (show (none : Option (Int32 × xMem)) = some (r, M') from h)
  | succ n ih =>
    intro v1 v2 M h
    rw [fX11_draws_l14.eq_2] at h
    refine r_iload_n (pc := 14) C dX11_draws_14 rfl rfl ?_
    refine r_aload_n (pc := 15) C dX11_draws_15 rfl rfl ?_
    refine r_bipush (pc := 16) (v := (nI 25)) C dX11_draws_16 (by decide) ?_
    refine r_vI1 (pc := 18) C (fun r M' e => zX11_get X.1 p0 hp0 (nI 25) M r M' e) hp0 (by decide) rfl mX11_get lX11_43 (by decide) (Nat.le_of_ble_eq_true rfl) dX11_draws_18 h (fun r3 M4 h => ?_)
    refine r_icmp_gt (pc := 21) (tgt := 46) C dX11_draws_21 (by decide) h (fun _ h => ?_) (fun _ h => ?_)
    · exact hK v1 v2 M4 h
    · refine r_iload_n (pc := 24) C dX11_draws_24 rfl rfl ?_
      refine r_aload_n (pc := 25) C dX11_draws_25 rfl rfl ?_
      refine r_iload_n (pc := 26) C dX11_draws_26 rfl rfl ?_
      refine r_vI1 (pc := 27) C (fun r M' e => zX11_leadAt X.1 p0 hp0 v2 M4 r M' e) hp0 (by decide) rfl mX11_leadAt lX11_385 (by decide) (Nat.le_of_ble_eq_true rfl) dX11_draws_27 h (fun r5 M6 h => ?_)
      refine r_jn (fun J => ∀ (s7 : Int32) (M8 : xMem) , J s7 M8 = some (r, M') → WW X 38 [some (vr X.1 p0), some (.int v1), some (.int v2)] [.int s7, .int v1] M8) h (fun s7 M8  h => ?_) (fun J38 hJ38 h => ?_)
      · refine r_iadd (pc := 38) C dX11_draws_38 ?_
        refine r_letI h (fun x9 h => ?_)
        refine r_istore_n (pc := 39) (lv' := [_, _, _]) C dX11_draws_39 rfl hn1 rfl ?_
        refine r_iincL (pc := 40) (c := nI 1) C dX11_draws_40 rfl (by decide) hn2 h (fun x10 h => ?_)
        refine r_lvE (lv' := [_, _, _]) rfl ?_
        refine r_goto (pc := 43) (tgt := 14) C dX11_draws_43 (by decide) ?_
        exact ih x9 x10 M8 h
      refine r_if_ne (pc := 30) (tgt := 37) C dX11_draws_30 (by decide) h (fun _ h => ?_) (fun _ h => ?_)
      · refine r_iconst (pc := 37) (v := (nI 0)) C dX11_draws_37 (by decide) ?_
        exact hJ38 (nI 0) M6  h
      · refine r_iconst (pc := 33) (v := (nI 1)) C dX11_draws_33 (by decide) ?_
        refine r_goto (pc := 34) (tgt := 38) C dX11_draws_34 (by decide) ?_
        exact hJ38 (nI 1) M6  h
set_option maxRecDepth 100000 in
set_option maxHeartbeats 4000000 in
theorem zX11_draws (G : xGX) (a0 : Nat) (h0 : xkd a0 = 11) (M : xMem) (r : Int32) (M' : xMem) (h : fX11_draws a0 M = some (r, M')) : xCt G yX11_draws cX11_draws 3 (some .int) 5 [vr G a0] M (some (.int r), M') := by
  refine xMet (lv := [some (vr G a0), none, none]) (by decide) (Nat.le_of_ble_eq_true rfl) rfl ?_
  intro X hG hnL C R0
  subst hG
  have C : xCk X cX11_draws RX11 5 := C
  have hn1 : 1 < X.2.2.2.2.2.2.2.2.2.2.2.2.2 := by rw [hnL]; decide
  have hn2 : 2 < X.2.2.2.2.2.2.2.2.2.2.2.2.2 := by rw [hnL]; decide
  unfold fX11_draws at h
  refine r_aload_n (pc := 0) C dX11_draws_0 rfl rfl ?_
  refine r_vI0 (pc := 1) C (fun r M' e => zX11_isThere X.1 a0 h0 M r M' e) h0 (by decide) rfl mX11_isThere lX11_47 (by decide) (Nat.le_of_ble_eq_true rfl) dX11_draws_1 h (fun r1 M2 h => ?_)
  refine r_if_ne (pc := 4) (tgt := 10) C dX11_draws_4 (by decide) h (fun _ h => ?_) (fun _ h => ?_)
  · refine r_iconst (pc := 10) (v := (nI 0)) C dX11_draws_10 (by decide) ?_
    refine r_istore_n (pc := 11) (lv' := [_, _, _]) C dX11_draws_11 rfl hn1 rfl ?_
    refine r_iconst (pc := 12) (v := (nI 1)) C dX11_draws_12 (by decide) ?_
    refine r_istore_n (pc := 13) (lv' := [_, _, _]) C dX11_draws_13 rfl hn2 rfl ?_
    refine lX11_draws_14 C R0 hnL a0 h0 _ (fun v11 v12 M13 h => ?_) _ _ _ _ h
    refine r_iload_n (pc := 46) C dX11_draws_46 rfl rfl ?_
    exact r_iret (pc := 47) C R0 h dX11_draws_47
  · refine r_bipush (pc := 7) (v := (-2)) C dX11_draws_7 (by decide) ?_
    exact r_iret (pc := 9) C R0 h dX11_draws_9
theorem dX11_behind_0 : decode cX11_behind 0 = .ok (.aload_n 0, 1) := by decide +kernel
theorem dX11_behind_1 : decode cX11_behind 1 = .ok (.iload_n 1, 1) := by decide +kernel
theorem dX11_behind_2 : decode cX11_behind 2 = .ok (.invokevirtual 55, 3) := by decide +kernel
theorem dX11_behind_5 : decode cX11_behind 5 = .ok (.ifCond .ne 6, 3) := by decide +kernel
theorem dX11_behind_8 : decode cX11_behind 8 = .ok (.bipush (-2), 2) := by decide +kernel
theorem dX11_behind_10 : decode cX11_behind 10 = .ok (.ireturn, 1) := by decide +kernel
theorem dX11_behind_11 : decode cX11_behind 11 = .ok (.iconst 0, 1) := by decide +kernel
theorem dX11_behind_12 : decode cX11_behind 12 = .ok (.istore_n 2, 1) := by decide +kernel
theorem dX11_behind_13 : decode cX11_behind 13 = .ok (.iconst 1, 1) := by decide +kernel
theorem dX11_behind_14 : decode cX11_behind 14 = .ok (.istore_n 3, 1) := by decide +kernel
theorem dX11_behind_15 : decode cX11_behind 15 = .ok (.iload_n 3, 1) := by decide +kernel
theorem dX11_behind_16 : decode cX11_behind 16 = .ok (.aload_n 0, 1) := by decide +kernel
theorem dX11_behind_17 : decode cX11_behind 17 = .ok (.bipush 25, 2) := by decide +kernel
theorem dX11_behind_19 : decode cX11_behind 19 = .ok (.invokevirtual 43, 3) := by decide +kernel
theorem dX11_behind_22 : decode cX11_behind 22 = .ok (.if_icmp .gt 32, 3) := by decide +kernel
theorem dX11_behind_25 : decode cX11_behind 25 = .ok (.iload_n 2, 1) := by decide +kernel
theorem dX11_behind_26 : decode cX11_behind 26 = .ok (.iload_n 1, 1) := by decide +kernel
theorem dX11_behind_27 : decode cX11_behind 27 = .ok (.ifCond .ne 12, 3) := by decide +kernel
theorem dX11_behind_30 : decode cX11_behind 30 = .ok (.aload_n 0, 1) := by decide +kernel
theorem dX11_behind_31 : decode cX11_behind 31 = .ok (.iload_n 3, 1) := by decide +kernel
theorem dX11_behind_32 : decode cX11_behind 32 = .ok (.invokevirtual 385, 3) := by decide +kernel
theorem dX11_behind_35 : decode cX11_behind 35 = .ok (.ineg, 1) := by decide +kernel
theorem dX11_behind_36 : decode cX11_behind 36 = .ok (.goto 8, 3) := by decide +kernel
theorem dX11_behind_39 : decode cX11_behind 39 = .ok (.aload_n 0, 1) := by decide +kernel
theorem dX11_behind_40 : decode cX11_behind 40 = .ok (.iload_n 3, 1) := by decide +kernel
theorem dX11_behind_41 : decode cX11_behind 41 = .ok (.invokevirtual 385, 3) := by decide +kernel
theorem dX11_behind_44 : decode cX11_behind 44 = .ok (.invokestatic 388, 3) := by decide +kernel
theorem dX11_behind_47 : decode cX11_behind 47 = .ok (.istore_n 2, 1) := by decide +kernel
theorem dX11_behind_48 : decode cX11_behind 48 = .ok (.iinc 3 1, 3) := by decide +kernel
theorem dX11_behind_51 : decode cX11_behind 51 = .ok (.goto (-36), 3) := by decide +kernel
theorem dX11_behind_54 : decode cX11_behind 54 = .ok (.iload_n 2, 1) := by decide +kernel
theorem dX11_behind_55 : decode cX11_behind 55 = .ok (.ireturn, 1) := by decide +kernel
def fX11_behind_l15 (p0 : Nat) (p1 : Int32) (K : Int32 → Int32 → xMem → Option (Int32 × xMem)) : Nat → Int32 → Int32 → xMem → Option (Int32 × xMem)
  | 0, _, _, _ => none
  | n + 1, v2, v3, M => xBn (fX11_get p0 (nI 25) M) fun r3 M4 => if r3 < v3 then (K v2 v3 M4) else (xLt (fun (s5 : Int32) (M6 : xMem) => (xLt (if v2 < s5 then s5 else v2) fun x7 => xLt (v3 + nI 1) fun x8 => fX11_behind_l15 p0 p1 K n x7 x8 M6 : Option (Int32 × xMem))) fun J44 => if p1 = 0 then (xBn (fX11_leadAt p0 v3 M4) fun r11 M12 => J44 (-r11) M12) else (xBn (fX11_leadAt p0 v3 M4) fun r9 M10 => J44 r9 M10))
def fX11_behind (a0 : Nat) (a1 : Int32) (M : xMem) : Option (Int32 × xMem) :=
  xBn (fX11_isTeam a0 a1 M) fun r1 M2 => if r1 = 0 then (some ((-2), M2)) else (fX11_behind_l15 a0 a1 (fun (v13 : Int32) (v14 : Int32) (M15 : xMem) => some (v13, M15)) xFU (nI 0) (nI 1) M2)
set_option maxRecDepth 100000 in
set_option maxHeartbeats 4000000 in
theorem lX11_behind_15 {X : xCX} {r : Int32} {M' : xMem} (C : xCk X cX11_behind RX11 5) (R0 : xRk X (some .int) (some (.int r), M')) (hnL : X.2.2.2.2.2.2.2.2.2.2.2.2.2 = 4) (p0 : Nat) (hp0 : xkd p0 = 11) (p1 : Int32) (K : Int32 → Int32 → xMem → Option (Int32 × xMem)) (hK : ∀ (v2 : Int32) (v3 : Int32) (M : xMem), K v2 v3 M = some (r, M') → WW X 54 [some (vr X.1 p0), some (.int p1), some (.int v2), some (.int v3)] [] M) : ∀ (n : Nat) (v2 : Int32) (v3 : Int32) (M : xMem), fX11_behind_l15 p0 p1 K n v2 v3 M = some (r, M') → WW X 15 [some (vr X.1 p0), some (.int p1), some (.int v2), some (.int v3)] [] M := by
  have hn2 : 2 < X.2.2.2.2.2.2.2.2.2.2.2.2.2 := by rw [hnL]; decide
  have hn3 : 3 < X.2.2.2.2.2.2.2.2.2.2.2.2.2 := by rw [hnL]; decide
  intro n
  induction n with
  | zero =>
    intro v2 v3 M h
    cases (show (none : Option (Int32 × xMem)) = some (r, M') from h)
  | succ n ih =>
    intro v2 v3 M h
    rw [fX11_behind_l15.eq_2] at h
    refine r_iload_n (pc := 15) C dX11_behind_15 rfl rfl ?_
    refine r_aload_n (pc := 16) C dX11_behind_16 rfl rfl ?_
    refine r_bipush (pc := 17) (v := (nI 25)) C dX11_behind_17 (by decide) ?_
    refine r_vI1 (pc := 19) C (fun r M' e => zX11_get X.1 p0 hp0 (nI 25) M r M' e) hp0 (by decide) rfl mX11_get lX11_43 (by decide) (Nat.le_of_ble_eq_true rfl) dX11_behind_19 h (fun r3 M4 h => ?_)
    refine r_icmp_gt (pc := 22) (tgt := 54) C dX11_behind_22 (by decide) h (fun _ h => ?_) (fun _ h => ?_)
    · exact hK v2 v3 M4 h
    · refine r_iload_n (pc := 25) C dX11_behind_25 rfl rfl ?_
      refine r_iload_n (pc := 26) C dX11_behind_26 rfl rfl ?_
      refine r_jn (fun J => ∀ (s5 : Int32) (M6 : xMem) , J s5 M6 = some (r, M') → WW X 44 [some (vr X.1 p0), some (.int p1), some (.int v2), some (.int v3)] [.int s5, .int v2] M6) h (fun s5 M6  h => ?_) (fun J44 hJ44 h => ?_)
      · refine r_mmax (pc := 44) C lX11_388 (fun _ => by simp [xNM]) (by decide) (Nat.le_of_ble_eq_true rfl) dX11_behind_44 ?_
        refine r_letI h (fun x7 h => ?_)
        refine r_istore_n (pc := 47) (lv' := [_, _, _, _]) C dX11_behind_47 rfl hn2 rfl ?_
        refine r_iincL (pc := 48) (c := nI 1) C dX11_behind_48 rfl (by decide) hn3 h (fun x8 h => ?_)
        refine r_lvE (lv' := [_, _, _, _]) rfl ?_
        refine r_goto (pc := 51) (tgt := 15) C dX11_behind_51 (by decide) ?_
        exact ih x7 x8 M6 h
      refine r_if_ne (pc := 27) (tgt := 39) C dX11_behind_27 (by decide) h (fun _ h => ?_) (fun _ h => ?_)
      · refine r_aload_n (pc := 39) C dX11_behind_39 rfl rfl ?_
        refine r_iload_n (pc := 40) C dX11_behind_40 rfl rfl ?_
        refine r_vI1 (pc := 41) C (fun r M' e => zX11_leadAt X.1 p0 hp0 v3 M4 r M' e) hp0 (by decide) rfl mX11_leadAt lX11_385 (by decide) (Nat.le_of_ble_eq_true rfl) dX11_behind_41 h (fun r9 M10 h => ?_)
        exact hJ44 r9 M10  h
      · refine r_aload_n (pc := 30) C dX11_behind_30 rfl rfl ?_
        refine r_iload_n (pc := 31) C dX11_behind_31 rfl rfl ?_
        refine r_vI1 (pc := 32) C (fun r M' e => zX11_leadAt X.1 p0 hp0 v3 M4 r M' e) hp0 (by decide) rfl mX11_leadAt lX11_385 (by decide) (Nat.le_of_ble_eq_true rfl) dX11_behind_32 h (fun r11 M12 h => ?_)
        refine r_ineg (pc := 35) C dX11_behind_35 ?_
        refine r_goto (pc := 36) (tgt := 44) C dX11_behind_36 (by decide) ?_
        exact hJ44 (-r11) M12  h
set_option maxRecDepth 100000 in
set_option maxHeartbeats 4000000 in
theorem zX11_behind (G : xGX) (a0 : Nat) (h0 : xkd a0 = 11) (a1 : Int32) (M : xMem) (r : Int32) (M' : xMem) (h : fX11_behind a0 a1 M = some (r, M')) : xCt G yX11_behind cX11_behind 4 (some .int) 5 [vr G a0, .int a1] M (some (.int r), M') := by
  refine xMet (lv := [some (vr G a0), some (.int a1), none, none]) (by decide) (Nat.le_of_ble_eq_true rfl) rfl ?_
  intro X hG hnL C R0
  subst hG
  have C : xCk X cX11_behind RX11 5 := C
  have hn2 : 2 < X.2.2.2.2.2.2.2.2.2.2.2.2.2 := by rw [hnL]; decide
  have hn3 : 3 < X.2.2.2.2.2.2.2.2.2.2.2.2.2 := by rw [hnL]; decide
  unfold fX11_behind at h
  refine r_aload_n (pc := 0) C dX11_behind_0 rfl rfl ?_
  refine r_iload_n (pc := 1) C dX11_behind_1 rfl rfl ?_
  refine r_vI1 (pc := 2) C (fun r M' e => zX11_isTeam X.1 a0 h0 a1 M r M' e) h0 (by decide) rfl mX11_isTeam lX11_55 (by decide) (Nat.le_of_ble_eq_true rfl) dX11_behind_2 h (fun r1 M2 h => ?_)
  refine r_if_ne (pc := 5) (tgt := 11) C dX11_behind_5 (by decide) h (fun _ h => ?_) (fun _ h => ?_)
  · refine r_iconst (pc := 11) (v := (nI 0)) C dX11_behind_11 (by decide) ?_
    refine r_istore_n (pc := 12) (lv' := [_, _, _, _]) C dX11_behind_12 rfl hn2 rfl ?_
    refine r_iconst (pc := 13) (v := (nI 1)) C dX11_behind_13 (by decide) ?_
    refine r_istore_n (pc := 14) (lv' := [_, _, _, _]) C dX11_behind_14 rfl hn3 rfl ?_
    refine lX11_behind_15 C R0 hnL a0 h0 a1 _ (fun v13 v14 M15 h => ?_) _ _ _ _ h
    refine r_iload_n (pc := 54) C dX11_behind_54 rfl rfl ?_
    exact r_iret (pc := 55) C R0 h dX11_behind_55
  · refine r_bipush (pc := 8) (v := (-2)) C dX11_behind_8 (by decide) ?_
    exact r_iret (pc := 10) C R0 h dX11_behind_10
theorem dX11_run_0 : decode cX11_run 0 = .ok (.aload_n 0, 1) := by decide +kernel
theorem dX11_run_1 : decode cX11_run 1 = .ok (.iload_n 1, 1) := by decide +kernel
theorem dX11_run_2 : decode cX11_run 2 = .ok (.invokevirtual 55, 3) := by decide +kernel
theorem dX11_run_5 : decode cX11_run 5 = .ok (.ifCond .ne 6, 3) := by decide +kernel
theorem dX11_run_8 : decode cX11_run 8 = .ok (.bipush (-2), 2) := by decide +kernel
theorem dX11_run_10 : decode cX11_run 10 = .ok (.ireturn, 1) := by decide +kernel
theorem dX11_run_11 : decode cX11_run 11 = .ok (.iconst 0, 1) := by decide +kernel
theorem dX11_run_12 : decode cX11_run 12 = .ok (.istore_n 2, 1) := by decide +kernel
theorem dX11_run_13 : decode cX11_run 13 = .ok (.iconst 0, 1) := by decide +kernel
theorem dX11_run_14 : decode cX11_run 14 = .ok (.istore_n 3, 1) := by decide +kernel
theorem dX11_run_15 : decode cX11_run 15 = .ok (.iconst 0, 1) := by decide +kernel
theorem dX11_run_16 : decode cX11_run 16 = .ok (.istore 4, 2) := by decide +kernel
theorem dX11_run_18 : decode cX11_run 18 = .ok (.iload 4, 2) := by decide +kernel
theorem dX11_run_20 : decode cX11_run 20 = .ok (.aload_n 0, 1) := by decide +kernel
theorem dX11_run_21 : decode cX11_run 21 = .ok (.bipush 25, 2) := by decide +kernel
theorem dX11_run_23 : decode cX11_run 23 = .ok (.invokevirtual 43, 3) := by decide +kernel
theorem dX11_run_26 : decode cX11_run 26 = .ok (.if_icmp .ge 47, 3) := by decide +kernel
theorem dX11_run_29 : decode cX11_run 29 = .ok (.aload_n 0, 1) := by decide +kernel
theorem dX11_run_30 : decode cX11_run 30 = .ok (.iload 4, 2) := by decide +kernel
theorem dX11_run_32 : decode cX11_run 32 = .ok (.iload_n 1, 1) := by decide +kernel
theorem dX11_run_33 : decode cX11_run 33 = .ok (.iconst 0, 1) := by decide +kernel
theorem dX11_run_34 : decode cX11_run 34 = .ok (.invokevirtual 381, 3) := by decide +kernel
theorem dX11_run_37 : decode cX11_run 37 = .ok (.ifCond .le 22, 3) := by decide +kernel
theorem dX11_run_40 : decode cX11_run 40 = .ok (.aload_n 0, 1) := by decide +kernel
theorem dX11_run_41 : decode cX11_run 41 = .ok (.iload 4, 2) := by decide +kernel
theorem dX11_run_43 : decode cX11_run 43 = .ok (.iconst 1, 1) := by decide +kernel
theorem dX11_run_44 : decode cX11_run 44 = .ok (.iload_n 1, 1) := by decide +kernel
theorem dX11_run_45 : decode cX11_run 45 = .ok (.isub, 1) := by decide +kernel
theorem dX11_run_46 : decode cX11_run 46 = .ok (.iconst 0, 1) := by decide +kernel
theorem dX11_run_47 : decode cX11_run 47 = .ok (.invokevirtual 381, 3) := by decide +kernel
theorem dX11_run_50 : decode cX11_run 50 = .ok (.ifCond .ne 9, 3) := by decide +kernel
theorem dX11_run_53 : decode cX11_run 53 = .ok (.iload_n 3, 1) := by decide +kernel
theorem dX11_run_54 : decode cX11_run 54 = .ok (.iconst 1, 1) := by decide +kernel
theorem dX11_run_55 : decode cX11_run 55 = .ok (.iadd, 1) := by decide +kernel
theorem dX11_run_56 : decode cX11_run 56 = .ok (.goto 4, 3) := by decide +kernel
theorem dX11_run_59 : decode cX11_run 59 = .ok (.iconst 0, 1) := by decide +kernel
theorem dX11_run_60 : decode cX11_run 60 = .ok (.istore_n 3, 1) := by decide +kernel
theorem dX11_run_61 : decode cX11_run 61 = .ok (.iload_n 2, 1) := by decide +kernel
theorem dX11_run_62 : decode cX11_run 62 = .ok (.iload_n 3, 1) := by decide +kernel
theorem dX11_run_63 : decode cX11_run 63 = .ok (.invokestatic 388, 3) := by decide +kernel
theorem dX11_run_66 : decode cX11_run 66 = .ok (.istore_n 2, 1) := by decide +kernel
theorem dX11_run_67 : decode cX11_run 67 = .ok (.iinc 4 1, 3) := by decide +kernel
theorem dX11_run_70 : decode cX11_run 70 = .ok (.goto (-52), 3) := by decide +kernel
theorem dX11_run_73 : decode cX11_run 73 = .ok (.iload_n 2, 1) := by decide +kernel
theorem dX11_run_74 : decode cX11_run 74 = .ok (.ireturn, 1) := by decide +kernel
def fX11_run_l18 (p0 : Nat) (p1 : Int32) (K : Int32 → Int32 → Int32 → xMem → Option (Int32 × xMem)) : Nat → Int32 → Int32 → Int32 → xMem → Option (Int32 × xMem)
  | 0, _, _, _, _ => none
  | n + 1, v2, v3, v4, M => xBn (fX11_get p0 (nI 25) M) fun r3 M4 => if r3 ≤ v4 then (K v2 v3 v4 M4) else (xBn (fX11_gains p0 v4 p1 (nI 0) M4) fun r5 M6 => xLt (fun (s7 : Int32) (M8 : xMem) => (xLt (if v2 < s7 then s7 else v2) fun x9 => xLt (v4 + nI 1) fun x10 => fX11_run_l18 p0 p1 K n x9 s7 x10 M8 : Option (Int32 × xMem))) fun J60 => if r5 ≤ 0 then (J60 (nI 0) M6) else (xBn (fX11_gains p0 v4 ((nI 1) - p1) (nI 0) M6) fun r11 M12 => if r11 = 0 then (J60 (v3 + (nI 1)) M12) else (J60 (nI 0) M12)))
def fX11_run (a0 : Nat) (a1 : Int32) (M : xMem) : Option (Int32 × xMem) :=
  xBn (fX11_isTeam a0 a1 M) fun r1 M2 => if r1 = 0 then (some ((-2), M2)) else (fX11_run_l18 a0 a1 (fun (v13 : Int32) (v14 : Int32) (v15 : Int32) (M16 : xMem) => some (v13, M16)) xFU (nI 0) (nI 0) (nI 0) M2)
set_option maxRecDepth 100000 in
set_option maxHeartbeats 4000000 in
theorem lX11_run_18 {X : xCX} {r : Int32} {M' : xMem} (C : xCk X cX11_run RX11 4) (R0 : xRk X (some .int) (some (.int r), M')) (hnL : X.2.2.2.2.2.2.2.2.2.2.2.2.2 = 5) (p0 : Nat) (hp0 : xkd p0 = 11) (p1 : Int32) (K : Int32 → Int32 → Int32 → xMem → Option (Int32 × xMem)) (hK : ∀ (v2 : Int32) (v3 : Int32) (v4 : Int32) (M : xMem), K v2 v3 v4 M = some (r, M') → WW X 73 [some (vr X.1 p0), some (.int p1), some (.int v2), some (.int v3), some (.int v4)] [] M) : ∀ (n : Nat) (v2 : Int32) (v3 : Int32) (v4 : Int32) (M : xMem), fX11_run_l18 p0 p1 K n v2 v3 v4 M = some (r, M') → WW X 18 [some (vr X.1 p0), some (.int p1), some (.int v2), some (.int v3), some (.int v4)] [] M := by
  have hn2 : 2 < X.2.2.2.2.2.2.2.2.2.2.2.2.2 := by rw [hnL]; decide
  have hn3 : 3 < X.2.2.2.2.2.2.2.2.2.2.2.2.2 := by rw [hnL]; decide
  have hn4 : 4 < X.2.2.2.2.2.2.2.2.2.2.2.2.2 := by rw [hnL]; decide
  intro n
  induction n with
  | zero =>
    intro v2 v3 v4 M h
    cases (show (none : Option (Int32 × xMem)) = some (r, M') from h)
  | succ n ih =>
    intro v2 v3 v4 M h
    rw [fX11_run_l18.eq_2] at h
    refine r_iload (pc := 18) C dX11_run_18 rfl ?_
    refine r_aload_n (pc := 20) C dX11_run_20 rfl rfl ?_
    refine r_bipush (pc := 21) (v := (nI 25)) C dX11_run_21 (by decide) ?_
    refine r_vI1 (pc := 23) C (fun r M' e => zX11_get X.1 p0 hp0 (nI 25) M r M' e) hp0 (by decide) rfl mX11_get lX11_43 (by decide) (Nat.le_of_ble_eq_true rfl) dX11_run_23 h (fun r3 M4 h => ?_)
    refine r_icmp_ge (pc := 26) (tgt := 73) C dX11_run_26 (by decide) h (fun _ h => ?_) (fun _ h => ?_)
    · exact hK v2 v3 v4 M4 h
    · refine r_aload_n (pc := 29) C dX11_run_29 rfl rfl ?_
      refine r_iload (pc := 30) C dX11_run_30 rfl ?_
      refine r_iload_n (pc := 32) C dX11_run_32 rfl rfl ?_
      refine r_iconst (pc := 33) (v := (nI 0)) C dX11_run_33 (by decide) ?_
      refine r_vI3 (pc := 34) C (fun r M' e => zX11_gains X.1 p0 hp0 v4 p1 (nI 0) M4 r M' e) hp0 (by decide) rfl mX11_gains lX11_381 (by decide) (Nat.le_of_ble_eq_true rfl) dX11_run_34 h (fun r5 M6 h => ?_)
      refine r_jn (fun J => ∀ (s7 : Int32) (M8 : xMem) , J s7 M8 = some (r, M') → WW X 60 [some (vr X.1 p0), some (.int p1), some (.int v2), some (.int v3), some (.int v4)] [.int s7] M8) h (fun s7 M8  h => ?_) (fun J60 hJ60 h => ?_)
      · refine r_istore_n (pc := 60) (lv' := [_, _, _, _, _]) C dX11_run_60 rfl hn3 rfl ?_
        refine r_iload_n (pc := 61) C dX11_run_61 rfl rfl ?_
        refine r_iload_n (pc := 62) C dX11_run_62 rfl rfl ?_
        refine r_mmax (pc := 63) C lX11_388 (fun _ => by simp [xNM]) (by decide) (Nat.le_of_ble_eq_true rfl) dX11_run_63 ?_
        refine r_letI h (fun x9 h => ?_)
        refine r_istore_n (pc := 66) (lv' := [_, _, _, _, _]) C dX11_run_66 rfl hn2 rfl ?_
        refine r_iincL (pc := 67) (c := nI 1) C dX11_run_67 rfl (by decide) hn4 h (fun x10 h => ?_)
        refine r_lvE (lv' := [_, _, _, _, _]) rfl ?_
        refine r_goto (pc := 70) (tgt := 18) C dX11_run_70 (by decide) ?_
        exact ih x9 s7 x10 M8 h
      refine r_if_le (pc := 37) (tgt := 59) C dX11_run_37 (by decide) h (fun _ h => ?_) (fun _ h => ?_)
      · refine r_iconst (pc := 59) (v := (nI 0)) C dX11_run_59 (by decide) ?_
        exact hJ60 (nI 0) M6  h
      · refine r_aload_n (pc := 40) C dX11_run_40 rfl rfl ?_
        refine r_iload (pc := 41) C dX11_run_41 rfl ?_
        refine r_iconst (pc := 43) (v := (nI 1)) C dX11_run_43 (by decide) ?_
        refine r_iload_n (pc := 44) C dX11_run_44 rfl rfl ?_
        refine r_isub (pc := 45) C dX11_run_45 ?_
        refine r_iconst (pc := 46) (v := (nI 0)) C dX11_run_46 (by decide) ?_
        refine r_vI3 (pc := 47) C (fun r M' e => zX11_gains X.1 p0 hp0 v4 ((nI 1) - p1) (nI 0) M6 r M' e) hp0 (by decide) rfl mX11_gains lX11_381 (by decide) (Nat.le_of_ble_eq_true rfl) dX11_run_47 h (fun r11 M12 h => ?_)
        refine r_if_ne (pc := 50) (tgt := 59) C dX11_run_50 (by decide) h (fun _ h => ?_) (fun _ h => ?_)
        · refine r_iconst (pc := 59) (v := (nI 0)) C dX11_run_59 (by decide) ?_
          exact hJ60 (nI 0) M12  h
        · refine r_iload_n (pc := 53) C dX11_run_53 rfl rfl ?_
          refine r_iconst (pc := 54) (v := (nI 1)) C dX11_run_54 (by decide) ?_
          refine r_iadd (pc := 55) C dX11_run_55 ?_
          refine r_goto (pc := 56) (tgt := 60) C dX11_run_56 (by decide) ?_
          exact hJ60 (v3 + (nI 1)) M12  h
set_option maxRecDepth 100000 in
set_option maxHeartbeats 4000000 in
theorem zX11_run (G : xGX) (a0 : Nat) (h0 : xkd a0 = 11) (a1 : Int32) (M : xMem) (r : Int32) (M' : xMem) (h : fX11_run a0 a1 M = some (r, M')) : xCt G yX11_run cX11_run 5 (some .int) 4 [vr G a0, .int a1] M (some (.int r), M') := by
  refine xMet (lv := [some (vr G a0), some (.int a1), none, none, none]) (by decide) (Nat.le_of_ble_eq_true rfl) rfl ?_
  intro X hG hnL C R0
  subst hG
  have C : xCk X cX11_run RX11 4 := C
  have hn2 : 2 < X.2.2.2.2.2.2.2.2.2.2.2.2.2 := by rw [hnL]; decide
  have hn3 : 3 < X.2.2.2.2.2.2.2.2.2.2.2.2.2 := by rw [hnL]; decide
  have hn4 : 4 < X.2.2.2.2.2.2.2.2.2.2.2.2.2 := by rw [hnL]; decide
  unfold fX11_run at h
  refine r_aload_n (pc := 0) C dX11_run_0 rfl rfl ?_
  refine r_iload_n (pc := 1) C dX11_run_1 rfl rfl ?_
  refine r_vI1 (pc := 2) C (fun r M' e => zX11_isTeam X.1 a0 h0 a1 M r M' e) h0 (by decide) rfl mX11_isTeam lX11_55 (by decide) (Nat.le_of_ble_eq_true rfl) dX11_run_2 h (fun r1 M2 h => ?_)
  refine r_if_ne (pc := 5) (tgt := 11) C dX11_run_5 (by decide) h (fun _ h => ?_) (fun _ h => ?_)
  · refine r_iconst (pc := 11) (v := (nI 0)) C dX11_run_11 (by decide) ?_
    refine r_istore_n (pc := 12) (lv' := [_, _, _, _, _]) C dX11_run_12 rfl hn2 rfl ?_
    refine r_iconst (pc := 13) (v := (nI 0)) C dX11_run_13 (by decide) ?_
    refine r_istore_n (pc := 14) (lv' := [_, _, _, _, _]) C dX11_run_14 rfl hn3 rfl ?_
    refine r_iconst (pc := 15) (v := (nI 0)) C dX11_run_15 (by decide) ?_
    refine r_istore (pc := 16) (lv' := [_, _, _, _, _]) C dX11_run_16 hn4 rfl ?_
    refine lX11_run_18 C R0 hnL a0 h0 a1 _ (fun v13 v14 v15 M16 h => ?_) _ _ _ _ _ h
    refine r_iload_n (pc := 73) C dX11_run_73 rfl rfl ?_
    exact r_iret (pc := 74) C R0 h dX11_run_74
  · refine r_bipush (pc := 8) (v := (-2)) C dX11_run_8 (by decide) ?_
    exact r_iret (pc := 10) C R0 h dX11_run_10
