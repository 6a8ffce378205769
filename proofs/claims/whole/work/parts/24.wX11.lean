theorem dX11_longest_0 : decode cX11_longest 0 = .ok (.aload_n 0, 1) := by decide +kernel
theorem dX11_longest_1 : decode cX11_longest 1 = .ok (.iload_n 1, 1) := by decide +kernel
theorem dX11_longest_2 : decode cX11_longest 2 = .ok (.invokevirtual 55, 3) := by decide +kernel
theorem dX11_longest_5 : decode cX11_longest 5 = .ok (.ifCond .ne 6, 3) := by decide +kernel
theorem dX11_longest_8 : decode cX11_longest 8 = .ok (.bipush (-2), 2) := by decide +kernel
theorem dX11_longest_10 : decode cX11_longest 10 = .ok (.ireturn, 1) := by decide +kernel
theorem dX11_longest_11 : decode cX11_longest 11 = .ok (.iconst 0, 1) := by decide +kernel
theorem dX11_longest_12 : decode cX11_longest 12 = .ok (.istore_n 2, 1) := by decide +kernel
theorem dX11_longest_13 : decode cX11_longest 13 = .ok (.iconst 0, 1) := by decide +kernel
theorem dX11_longest_14 : decode cX11_longest 14 = .ok (.istore_n 3, 1) := by decide +kernel
theorem dX11_longest_15 : decode cX11_longest 15 = .ok (.iconst 0, 1) := by decide +kernel
theorem dX11_longest_16 : decode cX11_longest 16 = .ok (.istore 4, 2) := by decide +kernel
theorem dX11_longest_18 : decode cX11_longest 18 = .ok (.iload 4, 2) := by decide +kernel
theorem dX11_longest_20 : decode cX11_longest 20 = .ok (.aload_n 0, 1) := by decide +kernel
theorem dX11_longest_21 : decode cX11_longest 21 = .ok (.bipush 25, 2) := by decide +kernel
theorem dX11_longest_23 : decode cX11_longest 23 = .ok (.invokevirtual 43, 3) := by decide +kernel
theorem dX11_longest_26 : decode cX11_longest 26 = .ok (.if_icmp .ge 47, 3) := by decide +kernel
theorem dX11_longest_29 : decode cX11_longest 29 = .ok (.aload_n 0, 1) := by decide +kernel
theorem dX11_longest_30 : decode cX11_longest 30 = .ok (.iload 4, 2) := by decide +kernel
theorem dX11_longest_32 : decode cX11_longest 32 = .ok (.iconst 0, 1) := by decide +kernel
theorem dX11_longest_33 : decode cX11_longest 33 = .ok (.invokevirtual 347, 3) := by decide +kernel
theorem dX11_longest_36 : decode cX11_longest 36 = .ok (.iload_n 1, 1) := by decide +kernel
theorem dX11_longest_37 : decode cX11_longest 37 = .ok (.if_icmp .eq 6, 3) := by decide +kernel
theorem dX11_longest_40 : decode cX11_longest 40 = .ok (.goto 27, 3) := by decide +kernel
theorem dX11_longest_43 : decode cX11_longest 43 = .ok (.aload_n 0, 1) := by decide +kernel
theorem dX11_longest_44 : decode cX11_longest 44 = .ok (.iload 4, 2) := by decide +kernel
theorem dX11_longest_46 : decode cX11_longest 46 = .ok (.iconst 3, 1) := by decide +kernel
theorem dX11_longest_47 : decode cX11_longest 47 = .ok (.invokevirtual 347, 3) := by decide +kernel
theorem dX11_longest_50 : decode cX11_longest 50 = .ok (.ifCond .le 9, 3) := by decide +kernel
theorem dX11_longest_53 : decode cX11_longest 53 = .ok (.iload_n 3, 1) := by decide +kernel
theorem dX11_longest_54 : decode cX11_longest 54 = .ok (.iconst 1, 1) := by decide +kernel
theorem dX11_longest_55 : decode cX11_longest 55 = .ok (.iadd, 1) := by decide +kernel
theorem dX11_longest_56 : decode cX11_longest 56 = .ok (.goto 4, 3) := by decide +kernel
theorem dX11_longest_59 : decode cX11_longest 59 = .ok (.iconst 0, 1) := by decide +kernel
theorem dX11_longest_60 : decode cX11_longest 60 = .ok (.istore_n 3, 1) := by decide +kernel
theorem dX11_longest_61 : decode cX11_longest 61 = .ok (.iload_n 2, 1) := by decide +kernel
theorem dX11_longest_62 : decode cX11_longest 62 = .ok (.iload_n 3, 1) := by decide +kernel
theorem dX11_longest_63 : decode cX11_longest 63 = .ok (.invokestatic 388, 3) := by decide +kernel
theorem dX11_longest_66 : decode cX11_longest 66 = .ok (.istore_n 2, 1) := by decide +kernel
theorem dX11_longest_67 : decode cX11_longest 67 = .ok (.iinc 4 1, 3) := by decide +kernel
theorem dX11_longest_70 : decode cX11_longest 70 = .ok (.goto (-52), 3) := by decide +kernel
theorem dX11_longest_73 : decode cX11_longest 73 = .ok (.iload_n 2, 1) := by decide +kernel
theorem dX11_longest_74 : decode cX11_longest 74 = .ok (.ireturn, 1) := by decide +kernel
def fX11_longest_l18 (p0 : Nat) (p1 : Int32) (K : Int32 → Int32 → Int32 → xMem → Option (Int32 × xMem)) : Nat → Int32 → Int32 → Int32 → xMem → Option (Int32 × xMem)
  | 0, _, _, _, _ => none
  | n + 1, v2, v3, v4, M => xBn (fX11_get p0 (nI 25) M) fun r3 M4 => if r3 ≤ v4 then (K v2 v3 v4 M4) else (xBn (fX11_rec p0 v4 (nI 0) M4) fun r5 M6 => if r5 = p1 then (xBn (fX11_rec p0 v4 (nI 3) M6) fun r7 M8 => xLt (fun (s9 : Int32) (M10 : xMem) => (xLt (if v2 < s9 then s9 else v2) fun x11 => xLt (v4 + nI 1) fun x12 => fX11_longest_l18 p0 p1 K n x11 s9 x12 M10 : Option (Int32 × xMem))) fun J60 => if r7 ≤ 0 then (J60 (nI 0) M8) else (J60 (v3 + (nI 1)) M8)) else (xLt (v4 + nI 1) fun x13 => fX11_longest_l18 p0 p1 K n v2 v3 x13 M6))
def fX11_longest (a0 : Nat) (a1 : Int32) (M : xMem) : Option (Int32 × xMem) :=
  xBn (fX11_isTeam a0 a1 M) fun r1 M2 => if r1 = 0 then (some ((-2), M2)) else (fX11_longest_l18 a0 a1 (fun (v14 : Int32) (v15 : Int32) (v16 : Int32) (M17 : xMem) => some (v14, M17)) xFU (nI 0) (nI 0) (nI 0) M2)
set_option maxRecDepth 100000 in
set_option maxHeartbeats 4000000 in
theorem lX11_longest_18 {X : xCX} {r : Int32} {M' : xMem} (C : xCk X cX11_longest RX11 3) (R0 : xRk X (some .int) (some (.int r), M')) (hnL : X.2.2.2.2.2.2.2.2.2.2.2.2.2 = 5) (p0 : Nat) (hp0 : xkd p0 = 11) (p1 : Int32) (K : Int32 → Int32 → Int32 → xMem → Option (Int32 × xMem)) (hK : ∀ (v2 : Int32) (v3 : Int32) (v4 : Int32) (M : xMem), K v2 v3 v4 M = some (r, M') → WW X 73 [some (vr X.1 p0), some (.int p1), some (.int v2), some (.int v3), some (.int v4)] [] M) : ∀ (n : Nat) (v2 : Int32) (v3 : Int32) (v4 : Int32) (M : xMem), fX11_longest_l18 p0 p1 K n v2 v3 v4 M = some (r, M') → WW X 18 [some (vr X.1 p0), some (.int p1), some (.int v2), some (.int v3), some (.int v4)] [] M := by
  have hn2 : 2 < X.2.2.2.2.2.2.2.2.2.2.2.2.2 := by rw [hnL]; decide
  have hn3 : 3 < X.2.2.2.2.2.2.2.2.2.2.2.2.2 := by rw [hnL]; decide
  have hn4 : 4 < X.2.2.2.2.2.2.2.2.2.2.2.2.2 := by rw [hnL]; decide
  intro n
  induction n with
  | zero =>
    intro v2 v3 v4 M h
    cases (show (none : Option (Int32 × xMem)) = some (r, M') from h)
  | succ n ih =>
    intro v2 v3 v4 M h
    rw [fX11_longest_l18.eq_2] at h
    refine r_iload (pc := 18) C dX11_longest_18 rfl ?_
    refine r_aload_n (pc := 20) C dX11_longest_20 rfl rfl ?_
    refine r_bipush (pc := 21) (v := (nI 25)) C dX11_longest_21 (by decide) ?_
    refine r_vI1 (pc := 23) C (fun r M' e => zX11_get X.1 p0 hp0 (nI 25) M r M' e) hp0 (by decide) rfl mX11_get lX11_43 (by decide) (Nat.le_of_ble_eq_true rfl) dX11_longest_23 h (fun r3 M4 h => ?_)
    refine r_icmp_ge (pc := 26) (tgt := 73) C dX11_longest_26 (by decide) h (fun _ h => ?_) (fun _ h => ?_)
    · exact hK v2 v3 v4 M4 h
    · refine r_aload_n (pc := 29) C dX11_longest_29 rfl rfl ?_
      refine r_iload (pc := 30) C dX11_longest_30 rfl ?_
      refine r_iconst (pc := 32) (v := (nI 0)) C dX11_longest_32 (by decide) ?_
      refine r_vI2 (pc := 33) C (fun r M' e => zX11_rec X.1 p0 hp0 v4 (nI 0) M4 r M' e) hp0 (by decide) rfl mX11_rec lX11_347 (by decide) (Nat.le_of_ble_eq_true rfl) dX11_longest_33 h (fun r5 M6 h => ?_)
      refine r_iload_n (pc := 36) C dX11_longest_36 rfl rfl ?_
      refine r_icmp_eq (pc := 37) (tgt := 43) C dX11_longest_37 (by decide) h (fun _ h => ?_) (fun _ h => ?_)
      · refine r_aload_n (pc := 43) C dX11_longest_43 rfl rfl ?_
        refine r_iload (pc := 44) C dX11_longest_44 rfl ?_
        refine r_iconst (pc := 46) (v := (nI 3)) C dX11_longest_46 (by decide) ?_
        refine r_vI2 (pc := 47) C (fun r M' e => zX11_rec X.1 p0 hp0 v4 (nI 3) M6 r M' e) hp0 (by decide) rfl mX11_rec lX11_347 (by decide) (Nat.le_of_ble_eq_true rfl) dX11_longest_47 h (fun r7 M8 h => ?_)
        refine r_jn (fun J => ∀ (s9 : Int32) (M10 : xMem) , J s9 M10 = some (r, M') → WW X 60 [some (vr X.1 p0), some (.int p1), some (.int v2), some (.int v3), some (.int v4)] [.int s9] M10) h (fun s9 M10  h => ?_) (fun J60 hJ60 h => ?_)
        · refine r_istore_n (pc := 60) (lv' := [_, _, _, _, _]) C dX11_longest_60 rfl hn3 rfl ?_
          refine r_iload_n (pc := 61) C dX11_longest_61 rfl rfl ?_
          refine r_iload_n (pc := 62) C dX11_longest_62 rfl rfl ?_
          refine r_mmax (pc := 63) C lX11_388 (fun _ => by simp [xNM]) (by decide) (Nat.le_of_ble_eq_true rfl) dX11_longest_63 ?_
          refine r_letI h (fun x11 h => ?_)
          refine r_istore_n (pc := 66) (lv' := [_, _, _, _, _]) C dX11_longest_66 rfl hn2 rfl ?_
          refine r_iincL (pc := 67) (c := nI 1) C dX11_longest_67 rfl (by decide) hn4 h (fun x12 h => ?_)
          refine r_lvE (lv' := [_, _, _, _, _]) rfl ?_
          refine r_goto (pc := 70) (tgt := 18) C dX11_longest_70 (by decide) ?_
          exact ih x11 s9 x12 M10 h
        refine r_if_le (pc := 50) (tgt := 59) C dX11_longest_50 (by decide) h (fun _ h => ?_) (fun _ h => ?_)
        · refine r_iconst (pc := 59) (v := (nI 0)) C dX11_longest_59 (by decide) ?_
          exact hJ60 (nI 0) M8  h
        · refine r_iload_n (pc := 53) C dX11_longest_53 rfl rfl ?_
          refine r_iconst (pc := 54) (v := (nI 1)) C dX11_longest_54 (by decide) ?_
          refine r_iadd (pc := 55) C dX11_longest_55 ?_
          refine r_goto (pc := 56) (tgt := 60) C dX11_longest_56 (by decide) ?_
          exact hJ60 (v3 + (nI 1)) M8  h
      · refine r_goto (pc := 40) (tgt := 67) C dX11_longest_40 (by decide) ?_
        refine r_iincL (pc := 67) (c := nI 1) C dX11_longest_67 rfl (by decide) hn4 h (fun x13 h => ?_)
        refine r_lvE (lv' := [_, _, _, _, _]) rfl ?_
        refine r_goto (pc := 70) (tgt := 18) C dX11_longest_70 (by decide) ?_
        exact ih v2 v3 x13 M6 h
set_option maxRecDepth 100000 in
set_option maxHeartbeats 4000000 in
theorem zX11_longest (G : xGX) (a0 : Nat) (h0 : xkd a0 = 11) (a1 : Int32) (M : xMem) (r : Int32) (M' : xMem) (h : fX11_longest a0 a1 M = some (r, M')) : xCt G yX11_longest cX11_longest 5 (some .int) 3 [vr G a0, .int a1] M (some (.int r), M') := by
  refine xMet (lv := [some (vr G a0), some (.int a1), none, none, none]) (by decide) (Nat.le_of_ble_eq_true rfl) rfl ?_
  intro X hG hnL C R0
  subst hG
  have C : xCk X cX11_longest RX11 3 := C
  have hn2 : 2 < X.2.2.2.2.2.2.2.2.2.2.2.2.2 := by rw [hnL]; decide
  have hn3 : 3 < X.2.2.2.2.2.2.2.2.2.2.2.2.2 := by rw [hnL]; decide
  have hn4 : 4 < X.2.2.2.2.2.2.2.2.2.2.2.2.2 := by rw [hnL]; decide
  unfold fX11_longest at h
  refine r_aload_n (pc := 0) C dX11_longest_0 rfl rfl ?_
  refine r_iload_n (pc := 1) C dX11_longest_1 rfl rfl ?_
  refine r_vI1 (pc := 2) C (fun r M' e => zX11_isTeam X.1 a0 h0 a1 M r M' e) h0 (by decide) rfl mX11_isTeam lX11_55 (by decide) (Nat.le_of_ble_eq_true rfl) dX11_longest_2 h (fun r1 M2 h => ?_)
  refine r_if_ne (pc := 5) (tgt := 11) C dX11_longest_5 (by decide) h (fun _ h => ?_) (fun _ h => ?_)
  · refine r_iconst (pc := 11) (v := (nI 0)) C dX11_longest_11 (by decide) ?_
    refine r_istore_n (pc := 12) (lv' := [_, _, _, _, _]) C dX11_longest_12 rfl hn2 rfl ?_
    refine r_iconst (pc := 13) (v := (nI 0)) C dX11_longest_13 (by decide) ?_
    refine r_istore_n (pc := 14) (lv' := [_, _, _, _, _]) C dX11_longest_14 rfl hn3 rfl ?_
    refine r_iconst (pc := 15) (v := (nI 0)) C dX11_longest_15 (by decide) ?_
    refine r_istore (pc := 16) (lv' := [_, _, _, _, _]) C dX11_longest_16 hn4 rfl ?_
    refine lX11_longest_18 C R0 hnL a0 h0 a1 _ (fun v14 v15 v16 M17 h => ?_) _ _ _ _ _ h
    refine r_iload_n (pc := 73) C dX11_longest_73 rfl rfl ?_
    exact r_iret (pc := 74) C R0 h dX11_longest_74
  · refine r_bipush (pc := 8) (v := (-2)) C dX11_longest_8 (by decide) ?_
    exact r_iret (pc := 10) C R0 h dX11_longest_10
theorem dX11_great_0 : decode cX11_great 0 = .ok (.aload_n 0, 1) := by decide +kernel
theorem dX11_great_1 : decode cX11_great 1 = .ok (.iload_n 1, 1) := by decide +kernel
theorem dX11_great_2 : decode cX11_great 2 = .ok (.invokevirtual 55, 3) := by decide +kernel
theorem dX11_great_5 : decode cX11_great 5 = .ok (.ifCond .ne 6, 3) := by decide +kernel
theorem dX11_great_8 : decode cX11_great 8 = .ok (.bipush (-2), 2) := by decide +kernel
theorem dX11_great_10 : decode cX11_great 10 = .ok (.ireturn, 1) := by decide +kernel
theorem dX11_great_11 : decode cX11_great 11 = .ok (.iconst 0, 1) := by decide +kernel
theorem dX11_great_12 : decode cX11_great 12 = .ok (.istore_n 2, 1) := by decide +kernel
theorem dX11_great_13 : decode cX11_great 13 = .ok (.iconst 0, 1) := by decide +kernel
theorem dX11_great_14 : decode cX11_great 14 = .ok (.istore_n 3, 1) := by decide +kernel
theorem dX11_great_15 : decode cX11_great 15 = .ok (.iload_n 3, 1) := by decide +kernel
theorem dX11_great_16 : decode cX11_great 16 = .ok (.aload_n 0, 1) := by decide +kernel
theorem dX11_great_17 : decode cX11_great 17 = .ok (.bipush 25, 2) := by decide +kernel
theorem dX11_great_19 : decode cX11_great 19 = .ok (.invokevirtual 43, 3) := by decide +kernel
theorem dX11_great_22 : decode cX11_great 22 = .ok (.if_icmp .ge 36, 3) := by decide +kernel
theorem dX11_great_25 : decode cX11_great 25 = .ok (.iload_n 2, 1) := by decide +kernel
theorem dX11_great_26 : decode cX11_great 26 = .ok (.aload_n 0, 1) := by decide +kernel
theorem dX11_great_27 : decode cX11_great 27 = .ok (.iload_n 3, 1) := by decide +kernel
theorem dX11_great_28 : decode cX11_great 28 = .ok (.iconst 0, 1) := by decide +kernel
theorem dX11_great_29 : decode cX11_great 29 = .ok (.invokevirtual 347, 3) := by decide +kernel
theorem dX11_great_32 : decode cX11_great 32 = .ok (.iload_n 1, 1) := by decide +kernel
theorem dX11_great_33 : decode cX11_great 33 = .ok (.if_icmp .ne 16, 3) := by decide +kernel
theorem dX11_great_36 : decode cX11_great 36 = .ok (.aload_n 0, 1) := by decide +kernel
theorem dX11_great_37 : decode cX11_great 37 = .ok (.iload_n 3, 1) := by decide +kernel
theorem dX11_great_38 : decode cX11_great 38 = .ok (.invokevirtual 354, 3) := by decide +kernel
theorem dX11_great_41 : decode cX11_great 41 = .ok (.iconst 3, 1) := by decide +kernel
theorem dX11_great_42 : decode cX11_great 42 = .ok (.if_icmp .lt 7, 3) := by decide +kernel
theorem dX11_great_45 : decode cX11_great 45 = .ok (.iconst 1, 1) := by decide +kernel
theorem dX11_great_46 : decode cX11_great 46 = .ok (.goto 4, 3) := by decide +kernel
theorem dX11_great_49 : decode cX11_great 49 = .ok (.iconst 0, 1) := by decide +kernel
theorem dX11_great_50 : decode cX11_great 50 = .ok (.iadd, 1) := by decide +kernel
theorem dX11_great_51 : decode cX11_great 51 = .ok (.istore_n 2, 1) := by decide +kernel
theorem dX11_great_52 : decode cX11_great 52 = .ok (.iinc 3 1, 3) := by decide +kernel
theorem dX11_great_55 : decode cX11_great 55 = .ok (.goto (-40), 3) := by decide +kernel
theorem dX11_great_58 : decode cX11_great 58 = .ok (.iload_n 2, 1) := by decide +kernel
theorem dX11_great_59 : decode cX11_great 59 = .ok (.ireturn, 1) := by decide +kernel
def fX11_great_l15 (p0 : Nat) (p1 : Int32) (K : Int32 → Int32 → xMem → Option (Int32 × xMem)) : Nat → Int32 → Int32 → xMem → Option (Int32 × xMem)
  | 0, _, _, _ => none
  | n + 1, v2, v3, M => xBn (fX11_get p0 (nI 25) M) fun r3 M4 => if r3 ≤ v3 then (K v2 v3 M4) else (xBn (fX11_rec p0 v3 (nI 0) M4) fun r5 M6 => xLt (fun (s7 : Int32) (M8 : xMem) => (xLt (v2 + s7) fun x9 => xLt (v3 + nI 1) fun x10 => fX11_great_l15 p0 p1 K n x9 x10 M8 : Option (Int32 × xMem))) fun J50 => if r5 = p1 then (xBn (fX11_pointsBy p0 v3 M6) fun r11 M12 => if r11 < (nI 3) then (J50 (nI 0) M12) else (J50 (nI 1) M12)) else (J50 (nI 0) M6))
def fX11_great (a0 : Nat) (a1 : Int32) (M : xMem) : Option (Int32 × xMem) :=
  xBn (fX11_isTeam a0 a1 M) fun r1 M2 => if r1 = 0 then (some ((-2), M2)) else (fX11_great_l15 a0 a1 (fun (v13 : Int32) (v14 : Int32) (M15 : xMem) => some (v13, M15)) xFU (nI 0) (nI 0) M2)
set_option maxRecDepth 100000 in
set_option maxHeartbeats 4000000 in
theorem lX11_great_15 {X : xCX} {r : Int32} {M' : xMem} (C : xCk X cX11_great RX11 4) (R0 : xRk X (some .int) (some (.int r), M')) (hnL : X.2.2.2.2.2.2.2.2.2.2.2.2.2 = 4) (p0 : Nat) (hp0 : xkd p0 = 11) (p1 : Int32) (K : Int32 → Int32 → xMem → Option (Int32 × xMem)) (hK : ∀ (v2 : Int32) (v3 : Int32) (M : xMem), K v2 v3 M = some (r, M') → WW X 58 [some (vr X.1 p0), some (.int p1), some (.int v2), some (.int v3)] [] M) : ∀ (n : Nat) (v2 : Int32) (v3 : Int32) (M : xMem), fX11_great_l15 p0 p1 K n v2 v3 M = some (r, M') → WW X 15 [some (vr X.1 p0), some (.int p1), some (.int v2), some (.int v3)] [] M := by
  have hn2 : 2 < X.2.2.2.2.2.2.2.2.2.2.2.2.2 := by rw [hnL]; decide
  have hn3 : 3 < X.2.2.2.2.2.2.2.2.2.2.2.2.2 := by rw [hnL]; decide
  intro n
  induction n with
  | zero =>
    intro v2 v3 M h
    cases (show (none : Option (Int32 × xMem)) = some (r, M') from h)
  | succ n ih =>
    intro v2 v3 M h
    rw [fX11_great_l15.eq_2] at h
    refine r_iload_n (pc := 15) C dX11_great_15 rfl rfl ?_
    refine r_aload_n (pc := 16) C dX11_great_16 rfl rfl ?_
    refine r_bipush (pc := 17) (v := (nI 25)) C dX11_great_17 (by decide) ?_
    refine r_vI1 (pc := 19) C (fun r M' e => zX11_get X.1 p0 hp0 (nI 25) M r M' e) hp0 (by decide) rfl mX11_get lX11_43 (by decide) (Nat.le_of_ble_eq_true rfl) dX11_great_19 h (fun r3 M4 h => ?_)
    refine r_icmp_ge (pc := 22) (tgt := 58) C dX11_great_22 (by decide) h (fun _ h => ?_) (fun _ h => ?_)
    · exact hK v2 v3 M4 h
    · refine r_iload_n (pc := 25) C dX11_great_25 rfl rfl ?_
      refine r_aload_n (pc := 26) C dX11_great_26 rfl rfl ?_
      refine r_iload_n (pc := 27) C dX11_great_27 rfl rfl ?_
      refine r_iconst (pc := 28) (v := (nI 0)) C dX11_great_28 (by decide) ?_
      refine r_vI2 (pc := 29) C (fun r M' e => zX11_rec X.1 p0 hp0 v3 (nI 0) M4 r M' e) hp0 (by decide) rfl mX11_rec lX11_347 (by decide) (Nat.le_of_ble_eq_true rfl) dX11_great_29 h (fun r5 M6 h => ?_)
      refine r_iload_n (pc := 32) C dX11_great_32 rfl rfl ?_
      refine r_jn (fun J => ∀ (s7 : Int32) (M8 : xMem) , J s7 M8 = some (r, M') → WW X 50 [some (vr X.1 p0), some (.int p1), some (.int v2), some (.int v3)] [.int s7, .int v2] M8) h (fun s7 M8  h => ?_) (fun J50 hJ50 h => ?_)
      · refine r_iadd (pc := 50) C dX11_great_50 ?_
        refine r_letI h (fun x9 h => ?_)
        refine r_istore_n (pc := 51) (lv' := [_, _, _, _]) C dX11_great_51 rfl hn2 rfl ?_
        refine r_iincL (pc := 52) (c := nI 1) C dX11_great_52 rfl (by decide) hn3 h (fun x10 h => ?_)
        refine r_lvE (lv' := [_, _, _, _]) rfl ?_
        refine r_goto (pc := 55) (tgt := 15) C dX11_great_55 (by decide) ?_
        exact ih x9 x10 M8 h
      refine r_icmp_ne (pc := 33) (tgt := 49) C dX11_great_33 (by decide) h (fun _ h => ?_) (fun _ h => ?_)
      · refine r_iconst (pc := 49) (v := (nI 0)) C dX11_great_49 (by decide) ?_
        exact hJ50 (nI 0) M6  h
      · refine r_aload_n (pc := 36) C dX11_great_36 rfl rfl ?_
        refine r_iload_n (pc := 37) C dX11_great_37 rfl rfl ?_
        refine r_vI1 (pc := 38) C (fun r M' e => zX11_pointsBy X.1 p0 hp0 v3 M6 r M' e) hp0 (by decide) rfl mX11_pointsBy lX11_354 (by decide) (Nat.le_of_ble_eq_true rfl) dX11_great_38 h (fun r11 M12 h => ?_)
        refine r_iconst (pc := 41) (v := (nI 3)) C dX11_great_41 (by decide) ?_
        refine r_icmp_lt (pc := 42) (tgt := 49) C dX11_great_42 (by decide) h (fun _ h => ?_) (fun _ h => ?_)
        · refine r_iconst (pc := 49) (v := (nI 0)) C dX11_great_49 (by decide) ?_
          exact hJ50 (nI 0) M12  h
        · refine r_iconst (pc := 45) (v := (nI 1)) C dX11_great_45 (by decide) ?_
          refine r_goto (pc := 46) (tgt := 50) C dX11_great_46 (by decide) ?_
          exact hJ50 (nI 1) M12  h
set_option maxRecDepth 100000 in
set_option maxHeartbeats 4000000 in
theorem zX11_great (G : xGX) (a0 : Nat) (h0 : xkd a0 = 11) (a1 : Int32) (M : xMem) (r : Int32) (M' : xMem) (h : fX11_great a0 a1 M = some (r, M')) : xCt G yX11_great cX11_great 4 (some .int) 4 [vr G a0, .int a1] M (some (.int r), M') := by
  refine xMet (lv := [some (vr G a0), some (.int a1), none, none]) (by decide) (Nat.le_of_ble_eq_true rfl) rfl ?_
  intro X hG hnL C R0
  subst hG
  have C : xCk X cX11_great RX11 4 := C
  have hn2 : 2 < X.2.2.2.2.2.2.2.2.2.2.2.2.2 := by rw [hnL]; decide
  have hn3 : 3 < X.2.2.2.2.2.2.2.2.2.2.2.2.2 := by rw [hnL]; decide
  unfold fX11_great at h
  refine r_aload_n (pc := 0) C dX11_great_0 rfl rfl ?_
  refine r_iload_n (pc := 1) C dX11_great_1 rfl rfl ?_
  refine r_vI1 (pc := 2) C (fun r M' e => zX11_isTeam X.1 a0 h0 a1 M r M' e) h0 (by decide) rfl mX11_isTeam lX11_55 (by decide) (Nat.le_of_ble_eq_true rfl) dX11_great_2 h (fun r1 M2 h => ?_)
  refine r_if_ne (pc := 5) (tgt := 11) C dX11_great_5 (by decide) h (fun _ h => ?_) (fun _ h => ?_)
  · refine r_iconst (pc := 11) (v := (nI 0)) C dX11_great_11 (by decide) ?_
    refine r_istore_n (pc := 12) (lv' := [_, _, _, _]) C dX11_great_12 rfl hn2 rfl ?_
    refine r_iconst (pc := 13) (v := (nI 0)) C dX11_great_13 (by decide) ?_
    refine r_istore_n (pc := 14) (lv' := [_, _, _, _]) C dX11_great_14 rfl hn3 rfl ?_
    refine lX11_great_15 C R0 hnL a0 h0 a1 _ (fun v13 v14 M15 h => ?_) _ _ _ _ h
    refine r_iload_n (pc := 58) C dX11_great_58 rfl rfl ?_
    exact r_iret (pc := 59) C R0 h dX11_great_59
  · refine r_bipush (pc := 8) (v := (-2)) C dX11_great_8 (by decide) ?_
    exact r_iret (pc := 10) C R0 h dX11_great_10
theorem dX11_pressed_0 : decode cX11_pressed 0 = .ok (.aload_n 0, 1) := by decide +kernel
theorem dX11_pressed_1 : decode cX11_pressed 1 = .ok (.iload_n 1, 1) := by decide +kernel
theorem dX11_pressed_2 : decode cX11_pressed 2 = .ok (.invokevirtual 55, 3) := by decide +kernel
theorem dX11_pressed_5 : decode cX11_pressed 5 = .ok (.ifCond .eq 13, 3) := by decide +kernel
theorem dX11_pressed_8 : decode cX11_pressed 8 = .ok (.iload_n 2, 1) := by decide +kernel
theorem dX11_pressed_9 : decode cX11_pressed 9 = .ok (.i2l, 1) := by decide +kernel
theorem dX11_pressed_10 : decode cX11_pressed 10 = .ok (.lconst 0, 1) := by decide +kernel
theorem dX11_pressed_11 : decode cX11_pressed 11 = .ok (.lconst 1, 1) := by decide +kernel
theorem dX11_pressed_12 : decode cX11_pressed 12 = .ok (.invokestatic 51, 3) := by decide +kernel
theorem dX11_pressed_15 : decode cX11_pressed 15 = .ok (.ifCond .ne 6, 3) := by decide +kernel
theorem dX11_pressed_18 : decode cX11_pressed 18 = .ok (.bipush (-2), 2) := by decide +kernel
theorem dX11_pressed_20 : decode cX11_pressed 20 = .ok (.ireturn, 1) := by decide +kernel
theorem dX11_pressed_21 : decode cX11_pressed 21 = .ok (.iconst 0, 1) := by decide +kernel
theorem dX11_pressed_22 : decode cX11_pressed 22 = .ok (.istore_n 3, 1) := by decide +kernel
theorem dX11_pressed_23 : decode cX11_pressed 23 = .ok (.iconst 0, 1) := by decide +kernel
theorem dX11_pressed_24 : decode cX11_pressed 24 = .ok (.istore 4, 2) := by decide +kernel
theorem dX11_pressed_26 : decode cX11_pressed 26 = .ok (.iload 4, 2) := by decide +kernel
theorem dX11_pressed_28 : decode cX11_pressed 28 = .ok (.aload_n 0, 1) := by decide +kernel
theorem dX11_pressed_29 : decode cX11_pressed 29 = .ok (.bipush 25, 2) := by decide +kernel
theorem dX11_pressed_31 : decode cX11_pressed 31 = .ok (.invokevirtual 43, 3) := by decide +kernel
theorem dX11_pressed_34 : decode cX11_pressed 34 = .ok (.if_icmp .ge 54, 3) := by decide +kernel
theorem dX11_pressed_37 : decode cX11_pressed 37 = .ok (.iload_n 3, 1) := by decide +kernel
theorem dX11_pressed_38 : decode cX11_pressed 38 = .ok (.aload_n 0, 1) := by decide +kernel
theorem dX11_pressed_39 : decode cX11_pressed 39 = .ok (.iload 4, 2) := by decide +kernel
theorem dX11_pressed_41 : decode cX11_pressed 41 = .ok (.iconst 0, 1) := by decide +kernel
theorem dX11_pressed_42 : decode cX11_pressed 42 = .ok (.invokevirtual 347, 3) := by decide +kernel
theorem dX11_pressed_45 : decode cX11_pressed 45 = .ok (.iload_n 1, 1) := by decide +kernel
theorem dX11_pressed_46 : decode cX11_pressed 46 = .ok (.if_icmp .ne 33, 3) := by decide +kernel
theorem dX11_pressed_49 : decode cX11_pressed 49 = .ok (.aload_n 0, 1) := by decide +kernel
theorem dX11_pressed_50 : decode cX11_pressed 50 = .ok (.iload 4, 2) := by decide +kernel
theorem dX11_pressed_52 : decode cX11_pressed 52 = .ok (.bipush 7, 2) := by decide +kernel
theorem dX11_pressed_54 : decode cX11_pressed 54 = .ok (.invokevirtual 347, 3) := by decide +kernel
theorem dX11_pressed_57 : decode cX11_pressed 57 = .ok (.iconst 1, 1) := by decide +kernel
theorem dX11_pressed_58 : decode cX11_pressed 58 = .ok (.if_icmp .ne 21, 3) := by decide +kernel
theorem dX11_pressed_61 : decode cX11_pressed 61 = .ok (.iload_n 2, 1) := by decide +kernel
theorem dX11_pressed_62 : decode cX11_pressed 62 = .ok (.ifCond .eq 13, 3) := by decide +kernel
theorem dX11_pressed_65 : decode cX11_pressed 65 = .ok (.aload_n 0, 1) := by decide +kernel
theorem dX11_pressed_66 : decode cX11_pressed 66 = .ok (.iload 4, 2) := by decide +kernel
theorem dX11_pressed_68 : decode cX11_pressed 68 = .ok (.iconst 3, 1) := by decide +kernel
theorem dX11_pressed_69 : decode cX11_pressed 69 = .ok (.invokevirtual 347, 3) := by decide +kernel
theorem dX11_pressed_72 : decode cX11_pressed 72 = .ok (.ifCond .le 7, 3) := by decide +kernel
theorem dX11_pressed_75 : decode cX11_pressed 75 = .ok (.iconst 1, 1) := by decide +kernel
theorem dX11_pressed_76 : decode cX11_pressed 76 = .ok (.goto 4, 3) := by decide +kernel
theorem dX11_pressed_79 : decode cX11_pressed 79 = .ok (.iconst 0, 1) := by decide +kernel
theorem dX11_pressed_80 : decode cX11_pressed 80 = .ok (.iadd, 1) := by decide +kernel
theorem dX11_pressed_81 : decode cX11_pressed 81 = .ok (.istore_n 3, 1) := by decide +kernel
theorem dX11_pressed_82 : decode cX11_pressed 82 = .ok (.iinc 4 1, 3) := by decide +kernel
theorem dX11_pressed_85 : decode cX11_pressed 85 = .ok (.goto (-59), 3) := by decide +kernel
theorem dX11_pressed_88 : decode cX11_pressed 88 = .ok (.iload_n 3, 1) := by decide +kernel
theorem dX11_pressed_89 : decode cX11_pressed 89 = .ok (.ireturn, 1) := by decide +kernel
def fX11_pressed_l26 (p0 : Nat) (p1 : Int32) (p2 : Int32) (K : Int32 → Int32 → xMem → Option (Int32 × xMem)) : Nat → Int32 → Int32 → xMem → Option (Int32 × xMem)
  | 0, _, _, _ => none
  | n + 1, v3, v4, M => xBn (fX11_get p0 (nI 25) M) fun r5 M6 => if r5 ≤ v4 then (K v3 v4 M6) else (xBn (fX11_rec p0 v4 (nI 0) M6) fun r7 M8 => xLt (fun (s9 : Int32) (M10 : xMem) => (xLt (v3 + s9) fun x11 => xLt (v4 + nI 1) fun x12 => fX11_pressed_l26 p0 p1 p2 K n x11 x12 M10 : Option (Int32 × xMem))) fun J80 => if r7 = p1 then (xBn (fX11_rec p0 v4 (nI 7) M8) fun r13 M14 => if r13 = (nI 1) then (if p2 = 0 then (J80 (nI 1) M14) else (xBn (fX11_rec p0 v4 (nI 3) M14) fun r15 M16 => if r15 ≤ 0 then (J80 (nI 0) M16) else (J80 (nI 1) M16))) else (J80 (nI 0) M14)) else (J80 (nI 0) M8))
def fX11_pressed (a0 : Nat) (a1 : Int32) (a2 : Int32) (M : xMem) : Option (Int32 × xMem) :=
  xBn (fX11_isTeam a0 a1 M) fun r1 M2 => if r1 = 0 then (some ((-2), M2)) else (xBn (fX11_in (Int32.toInt64 a2) (lN 0) (lN 1) M2) fun r3 M4 => if r3 = 0 then (some ((-2), M4)) else (fX11_pressed_l26 a0 a1 a2 (fun (v17 : Int32) (v18 : Int32) (M19 : xMem) => some (v17, M19)) xFU (nI 0) (nI 0) M4))
set_option maxRecDepth 100000 in
set_option maxHeartbeats 4000000 in
theorem lX11_pressed_26 {X : xCX} {r : Int32} {M' : xMem} (C : xCk X cX11_pressed RX11 3) (R0 : xRk X (some .int) (some (.int r), M')) (hnL : X.2.2.2.2.2.2.2.2.2.2.2.2.2 = 5) (p0 : Nat) (hp0 : xkd p0 = 11) (p1 : Int32) (p2 : Int32) (K : Int32 → Int32 → xMem → Option (Int32 × xMem)) (hK : ∀ (v3 : Int32) (v4 : Int32) (M : xMem), K v3 v4 M = some (r, M') → WW X 88 [some (vr X.1 p0), some (.int p1), some (.int p2), some (.int v3), some (.int v4)] [] M) : ∀ (n : Nat) (v3 : Int32) (v4 : Int32) (M : xMem), fX11_pressed_l26 p0 p1 p2 K n v3 v4 M = some (r, M') → WW X 26 [some (vr X.1 p0), some (.int p1), some (.int p2), some (.int v3), some (.int v4)] [] M := by
  have hn3 : 3 < X.2.2.2.2.2.2.2.2.2.2.2.2.2 := by rw [hnL]; decide
  have hn4 : 4 < X.2.2.2.2.2.2.2.2.2.2.2.2.2 := by rw [hnL]; decide
  intro n
  induction n with
  | zero =>
    intro v3 v4 M h
    cases (show (none : Option (Int32 × xMem)) = some (r, M') from h)
  | succ n ih =>
    intro v3 v4 M h
    rw [fX11_pressed_l26.eq_2] at h
    refine r_iload (pc := 26) C dX11_pressed_26 rfl ?_
    refine r_aload_n (pc := 28) C dX11_pressed_28 rfl rfl ?_
    refine r_bipush (pc := 29) (v := (nI 25)) C dX11_pressed_29 (by decide) ?_
    refine r_vI1 (pc := 31) C (fun r M' e => zX11_get X.1 p0 hp0 (nI 25) M r M' e) hp0 (by decide) rfl mX11_get lX11_43 (by decide) (Nat.le_of_ble_eq_true rfl) dX11_pressed_31 h (fun r5 M6 h => ?_)
    refine r_icmp_ge (pc := 34) (tgt := 88) C dX11_pressed_34 (by decide) h (fun _ h => ?_) (fun _ h => ?_)
    · exact hK v3 v4 M6 h
    · refine r_iload_n (pc := 37) C dX11_pressed_37 rfl rfl ?_
      refine r_aload_n (pc := 38) C dX11_pressed_38 rfl rfl ?_
      refine r_iload (pc := 39) C dX11_pressed_39 rfl ?_
      refine r_iconst (pc := 41) (v := (nI 0)) C dX11_pressed_41 (by decide) ?_
      refine r_vI2 (pc := 42) C (fun r M' e => zX11_rec X.1 p0 hp0 v4 (nI 0) M6 r M' e) hp0 (by decide) rfl mX11_rec lX11_347 (by decide) (Nat.le_of_ble_eq_true rfl) dX11_pressed_42 h (fun r7 M8 h => ?_)
      refine r_iload_n (pc := 45) C dX11_pressed_45 rfl rfl ?_
      refine r_jn (fun J => ∀ (s9 : Int32) (M10 : xMem) , J s9 M10 = some (r, M') → WW X 80 [some (vr X.1 p0), some (.int p1), some (.int p2), some (.int v3), some (.int v4)] [.int s9, .int v3] M10) h (fun s9 M10  h => ?_) (fun J80 hJ80 h => ?_)
      · refine r_iadd (pc := 80) C dX11_pressed_80 ?_
        refine r_letI h (fun x11 h => ?_)
        refine r_istore_n (pc := 81) (lv' := [_, _, _, _, _]) C dX11_pressed_81 rfl hn3 rfl ?_
        refine r_iincL (pc := 82) (c := nI 1) C dX11_pressed_82 rfl (by decide) hn4 h (fun x12 h => ?_)
        refine r_lvE (lv' := [_, _, _, _, _]) rfl ?_
        refine r_goto (pc := 85) (tgt := 26) C dX11_pressed_85 (by decide) ?_
        exact ih x11 x12 M10 h
      refine r_icmp_ne (pc := 46) (tgt := 79) C dX11_pressed_46 (by decide) h (fun _ h => ?_) (fun _ h => ?_)
      · refine r_iconst (pc := 79) (v := (nI 0)) C dX11_pressed_79 (by decide) ?_
        exact hJ80 (nI 0) M8  h
      · refine r_aload_n (pc := 49) C dX11_pressed_49 rfl rfl ?_
        refine r_iload (pc := 50) C dX11_pressed_50 rfl ?_
        refine r_bipush (pc := 52) (v := (nI 7)) C dX11_pressed_52 (by decide) ?_
        refine r_vI2 (pc := 54) C (fun r M' e => zX11_rec X.1 p0 hp0 v4 (nI 7) M8 r M' e) hp0 (by decide) rfl mX11_rec lX11_347 (by decide) (Nat.le_of_ble_eq_true rfl) dX11_pressed_54 h (fun r13 M14 h => ?_)
        refine r_iconst (pc := 57) (v := (nI 1)) C dX11_pressed_57 (by decide) ?_
        refine r_icmp_ne (pc := 58) (tgt := 79) C dX11_pressed_58 (by decide) h (fun _ h => ?_) (fun _ h => ?_)
        · refine r_iconst (pc := 79) (v := (nI 0)) C dX11_pressed_79 (by decide) ?_
          exact hJ80 (nI 0) M14  h
        · refine r_iload_n (pc := 61) C dX11_pressed_61 rfl rfl ?_
          refine r_if_eq (pc := 62) (tgt := 75) C dX11_pressed_62 (by decide) h (fun _ h => ?_) (fun _ h => ?_)
          · refine r_iconst (pc := 75) (v := (nI 1)) C dX11_pressed_75 (by decide) ?_
            refine r_goto (pc := 76) (tgt := 80) C dX11_pressed_76 (by decide) ?_
            exact hJ80 (nI 1) M14  h
          · refine r_aload_n (pc := 65) C dX11_pressed_65 rfl rfl ?_
            refine r_iload (pc := 66) C dX11_pressed_66 rfl ?_
            refine r_iconst (pc := 68) (v := (nI 3)) C dX11_pressed_68 (by decide) ?_
            refine r_vI2 (pc := 69) C (fun r M' e => zX11_rec X.1 p0 hp0 v4 (nI 3) M14 r M' e) hp0 (by decide) rfl mX11_rec lX11_347 (by decide) (Nat.le_of_ble_eq_true rfl) dX11_pressed_69 h (fun r15 M16 h => ?_)
            refine r_if_le (pc := 72) (tgt := 79) C dX11_pressed_72 (by decide) h (fun _ h => ?_) (fun _ h => ?_)
            · refine r_iconst (pc := 79) (v := (nI 0)) C dX11_pressed_79 (by decide) ?_
              exact hJ80 (nI 0) M16  h
            · refine r_iconst (pc := 75) (v := (nI 1)) C dX11_pressed_75 (by decide) ?_
              refine r_goto (pc := 76) (tgt := 80) C dX11_pressed_76 (by decide) ?_
              exact hJ80 (nI 1) M16  h
set_option maxRecDepth 100000 in
set_option maxHeartbeats 4000000 in
theorem zX11_pressed (G : xGX) (a0 : Nat) (h0 : xkd a0 = 11) (a1 : Int32) (a2 : Int32) (M : xMem) (r : Int32) (M' : xMem) (h : fX11_pressed a0 a1 a2 M = some (r, M')) : xCt G yX11_pressed cX11_pressed 5 (some .int) 3 [vr G a0, .int a1, .int a2] M (some (.int r), M') := by
  refine xMet (lv := [some (vr G a0), some (.int a1), some (.int a2), none, none]) (by decide) (Nat.le_of_ble_eq_true rfl) rfl ?_
  intro X hG hnL C R0
  subst hG
  have C : xCk X cX11_pressed RX11 3 := C
  have hn3 : 3 < X.2.2.2.2.2.2.2.2.2.2.2.2.2 := by rw [hnL]; decide
  have hn4 : 4 < X.2.2.2.2.2.2.2.2.2.2.2.2.2 := by rw [hnL]; decide
  unfold fX11_pressed at h
  refine r_aload_n (pc := 0) C dX11_pressed_0 rfl rfl ?_
  refine r_iload_n (pc := 1) C dX11_pressed_1 rfl rfl ?_
  refine r_vI1 (pc := 2) C (fun r M' e => zX11_isTeam X.1 a0 h0 a1 M r M' e) h0 (by decide) rfl mX11_isTeam lX11_55 (by decide) (Nat.le_of_ble_eq_true rfl) dX11_pressed_2 h (fun r1 M2 h => ?_)
  refine r_if_eq (pc := 5) (tgt := 18) C dX11_pressed_5 (by decide) h (fun _ h => ?_) (fun _ h => ?_)
  · refine r_bipush (pc := 18) (v := (-2)) C dX11_pressed_18 (by decide) ?_
    exact r_iret (pc := 20) C R0 h dX11_pressed_20
  · refine r_iload_n (pc := 8) C dX11_pressed_8 rfl rfl ?_
    refine r_i2l (pc := 9) C dX11_pressed_9 ?_
    refine r_lconst (pc := 10) (v := lN 0) C dX11_pressed_10 rfl ?_
    refine r_lconst (pc := 11) (v := lN 1) C dX11_pressed_11 rfl ?_
    refine r_sI3 (pc := 12) C (fun r M' e => zX11_in X.1 (Int32.toInt64 a2) (lN 0) (lN 1) M2 r M' e) mX11_in lX11_51 (by decide) (Nat.le_of_ble_eq_true rfl) dX11_pressed_12 h (fun r3 M4 h => ?_)
    refine r_if_ne (pc := 15) (tgt := 21) C dX11_pressed_15 (by decide) h (fun _ h => ?_) (fun _ h => ?_)
    · refine r_iconst (pc := 21) (v := (nI 0)) C dX11_pressed_21 (by decide) ?_
      refine r_istore_n (pc := 22) (lv' := [_, _, _, _, _]) C dX11_pressed_22 rfl hn3 rfl ?_
      refine r_iconst (pc := 23) (v := (nI 0)) C dX11_pressed_23 (by decide) ?_
      refine r_istore (pc := 24) (lv' := [_, _, _, _, _]) C dX11_pressed_24 hn4 rfl ?_
      refine lX11_pressed_26 C R0 hnL a0 h0 a1 a2 _ (fun v17 v18 M19 h => ?_) _ _ _ _ h
      refine r_iload_n (pc := 88) C dX11_pressed_88 rfl rfl ?_
      exact r_iret (pc := 89) C R0 h dX11_pressed_89
    · refine r_bipush (pc := 18) (v := (-2)) C dX11_pressed_18 (by decide) ?_
      exact r_iret (pc := 20) C R0 h dX11_pressed_20
theorem dX11_gained_0 : decode cX11_gained 0 = .ok (.aload_n 0, 1) := by decide +kernel
theorem dX11_gained_1 : decode cX11_gained 1 = .ok (.iload_n 1, 1) := by decide +kernel
theorem dX11_gained_2 : decode cX11_gained 2 = .ok (.invokevirtual 55, 3) := by decide +kernel
theorem dX11_gained_5 : decode cX11_gained 5 = .ok (.ifCond .eq 36, 3) := by decide +kernel
theorem dX11_gained_8 : decode cX11_gained 8 = .ok (.iload_n 2, 1) := by decide +kernel
theorem dX11_gained_9 : decode cX11_gained 9 = .ok (.i2l, 1) := by decide +kernel
theorem dX11_gained_10 : decode cX11_gained 10 = .ok (.lconst 0, 1) := by decide +kernel
theorem dX11_gained_11 : decode cX11_gained 11 = .ok (.aload_n 0, 1) := by decide +kernel
theorem dX11_gained_12 : decode cX11_gained 12 = .ok (.bipush 25, 2) := by decide +kernel
theorem dX11_gained_14 : decode cX11_gained 14 = .ok (.invokevirtual 43, 3) := by decide +kernel
theorem dX11_gained_17 : decode cX11_gained 17 = .ok (.i2l, 1) := by decide +kernel
theorem dX11_gained_18 : decode cX11_gained 18 = .ok (.invokestatic 51, 3) := by decide +kernel
theorem dX11_gained_21 : decode cX11_gained 21 = .ok (.ifCond .eq 20, 3) := by decide +kernel
theorem dX11_gained_24 : decode cX11_gained 24 = .ok (.iload_n 3, 1) := by decide +kernel
theorem dX11_gained_25 : decode cX11_gained 25 = .ok (.i2l, 1) := by decide +kernel
theorem dX11_gained_26 : decode cX11_gained 26 = .ok (.iload_n 2, 1) := by decide +kernel
theorem dX11_gained_27 : decode cX11_gained 27 = .ok (.i2l, 1) := by decide +kernel
theorem dX11_gained_28 : decode cX11_gained 28 = .ok (.aload_n 0, 1) := by decide +kernel
theorem dX11_gained_29 : decode cX11_gained 29 = .ok (.bipush 25, 2) := by decide +kernel
theorem dX11_gained_31 : decode cX11_gained 31 = .ok (.invokevirtual 43, 3) := by decide +kernel
theorem dX11_gained_34 : decode cX11_gained 34 = .ok (.i2l, 1) := by decide +kernel
theorem dX11_gained_35 : decode cX11_gained 35 = .ok (.invokestatic 51, 3) := by decide +kernel
theorem dX11_gained_38 : decode cX11_gained 38 = .ok (.ifCond .ne 6, 3) := by decide +kernel
theorem dX11_gained_41 : decode cX11_gained 41 = .ok (.bipush (-2), 2) := by decide +kernel
theorem dX11_gained_43 : decode cX11_gained 43 = .ok (.ireturn, 1) := by decide +kernel
theorem dX11_gained_44 : decode cX11_gained 44 = .ok (.iconst 0, 1) := by decide +kernel
theorem dX11_gained_45 : decode cX11_gained 45 = .ok (.istore 4, 2) := by decide +kernel
theorem dX11_gained_47 : decode cX11_gained 47 = .ok (.iload_n 2, 1) := by decide +kernel
theorem dX11_gained_48 : decode cX11_gained 48 = .ok (.istore 5, 2) := by decide +kernel
theorem dX11_gained_50 : decode cX11_gained 50 = .ok (.iload 5, 2) := by decide +kernel
theorem dX11_gained_52 : decode cX11_gained 52 = .ok (.iload_n 3, 1) := by decide +kernel
theorem dX11_gained_53 : decode cX11_gained 53 = .ok (.if_icmp .ge 22, 3) := by decide +kernel
theorem dX11_gained_56 : decode cX11_gained 56 = .ok (.iload 4, 2) := by decide +kernel
theorem dX11_gained_58 : decode cX11_gained 58 = .ok (.aload_n 0, 1) := by decide +kernel
theorem dX11_gained_59 : decode cX11_gained 59 = .ok (.iload 5, 2) := by decide +kernel
theorem dX11_gained_61 : decode cX11_gained 61 = .ok (.iload_n 1, 1) := by decide +kernel
theorem dX11_gained_62 : decode cX11_gained 62 = .ok (.iconst 0, 1) := by decide +kernel
theorem dX11_gained_63 : decode cX11_gained 63 = .ok (.invokevirtual 381, 3) := by decide +kernel
theorem dX11_gained_66 : decode cX11_gained 66 = .ok (.iadd, 1) := by decide +kernel
theorem dX11_gained_67 : decode cX11_gained 67 = .ok (.istore 4, 2) := by decide +kernel
theorem dX11_gained_69 : decode cX11_gained 69 = .ok (.iinc 5 1, 3) := by decide +kernel
theorem dX11_gained_72 : decode cX11_gained 72 = .ok (.goto (-22), 3) := by decide +kernel
theorem dX11_gained_75 : decode cX11_gained 75 = .ok (.iload 4, 2) := by decide +kernel
theorem dX11_gained_77 : decode cX11_gained 77 = .ok (.ireturn, 1) := by decide +kernel
def fX11_gained_l50 (p0 : Nat) (p1 : Int32) (p2 : Int32) (p3 : Int32) (K : Int32 → Int32 → xMem → Option (Int32 × xMem)) : Nat → Int32 → Int32 → xMem → Option (Int32 × xMem)
  | 0, _, _, _ => none
  | n + 1, v4, v5, M => if p3 ≤ v5 then (K v4 v5 M) else (xBn (fX11_gains p0 v5 p1 (nI 0) M) fun r11 M12 => xLt (v4 + r11) fun x13 => xLt (v5 + nI 1) fun x14 => fX11_gained_l50 p0 p1 p2 p3 K n x13 x14 M12)
def fX11_gained (a0 : Nat) (a1 : Int32) (a2 : Int32) (a3 : Int32) (M : xMem) : Option (Int32 × xMem) :=
  xBn (fX11_isTeam a0 a1 M) fun r1 M2 => if r1 = 0 then (some ((-2), M2)) else (xBn (fX11_get a0 (nI 25) M2) fun r3 M4 => xBn (fX11_in (Int32.toInt64 a2) (lN 0) (Int32.toInt64 r3) M4) fun r5 M6 => if r5 = 0 then (some ((-2), M6)) else (xBn (fX11_get a0 (nI 25) M6) fun r7 M8 => xBn (fX11_in (Int32.toInt64 a3) (Int32.toInt64 a2) (Int32.toInt64 r7) M8) fun r9 M10 => if r9 = 0 then (some ((-2), M10)) else (fX11_gained_l50 a0 a1 a2 a3 (fun (v15 : Int32) (v16 : Int32) (M17 : xMem) => some (v15, M17)) xFU (nI 0) a2 M10)))
set_option maxRecDepth 100000 in
set_option maxHeartbeats 4000000 in
theorem lX11_gained_50 {X : xCX} {r : Int32} {M' : xMem} (C : xCk X cX11_gained RX11 4) (R0 : xRk X (some .int) (some (.int r), M')) (hnL : X.2.2.2.2.2.2.2.2.2.2.2.2.2 = 6) (p0 : Nat) (hp0 : xkd p0 = 11) (p1 : Int32) (p2 : Int32) (p3 : Int32) (K : Int32 → Int32 → xMem → Option (Int32 × xMem)) (hK : ∀ (v4 : Int32) (v5 : Int32) (M : xMem), K v4 v5 M = some (r, M') → WW X 75 [some (vr X.1 p0), some (.int p1), some (.int p2), some (.int p3), some (.int v4), some (.int v5)] [] M) : ∀ (n : Nat) (v4 : Int32) (v5 : Int32) (M : xMem), fX11_gained_l50 p0 p1 p2 p3 K n v4 v5 M = some (r, M') → WW X 50 [some (vr X.1 p0), some (.int p1), some (.int p2), some (.int p3), some (.int v4), some (.int v5)] [] M := by
  have hn4 : 4 < X.2.2.2.2.2.2.2.2.2.2.2.2.2 := by rw [hnL]; decide
  have hn5 : 5 < X.2.2.2.2.2.2.2.2.2.2.2.2.2 := by rw [hnL]; decide
  intro n
  induction n with
  | zero =>
    intro v4 v5 M h
    cases (show (none : Option (Int32 × xMem)) = some (r, M') from h)
  | succ n ih =>
    intro v4 v5 M h
    rw [fX11_gained_l50.eq_2] at h
    refine r_iload (pc := 50) C dX11_gained_50 rfl ?_
    refine r_iload_n (pc := 52) C dX11_gained_52 rfl rfl ?_
    refine r_icmp_ge (pc := 53) (tgt := 75) C dX11_gained_53 (by decide) h (fun _ h => ?_) (fun _ h => ?_)
    · exact hK v4 v5 M h
    · refine r_iload (pc := 56) C dX11_gained_56 rfl ?_
      refine r_aload_n (pc := 58) C dX11_gained_58 rfl rfl ?_
      refine r_iload (pc := 59) C dX11_gained_59 rfl ?_
      refine r_iload_n (pc := 61) C dX11_gained_61 rfl rfl ?_
      refine r_iconst (pc := 62) (v := (nI 0)) C dX11_gained_62 (by decide) ?_
      refine r_vI3 (pc := 63) C (fun r M' e => zX11_gains X.1 p0 hp0 v5 p1 (nI 0) M r M' e) hp0 (by decide) rfl mX11_gains lX11_381 (by decide) (Nat.le_of_ble_eq_true rfl) dX11_gained_63 h (fun r11 M12 h => ?_)
      refine r_iadd (pc := 66) C dX11_gained_66 ?_
      refine r_letI h (fun x13 h => ?_)
      refine r_istore (pc := 67) (lv' := [_, _, _, _, _, _]) C dX11_gained_67 hn4 rfl ?_
      refine r_iincL (pc := 69) (c := nI 1) C dX11_gained_69 rfl (by decide) hn5 h (fun x14 h => ?_)
      refine r_lvE (lv' := [_, _, _, _, _, _]) rfl ?_
      refine r_goto (pc := 72) (tgt := 50) C dX11_gained_72 (by decide) ?_
      exact ih x13 x14 M12 h
set_option maxRecDepth 100000 in
set_option maxHeartbeats 4000000 in
theorem zX11_gained (G : xGX) (a0 : Nat) (h0 : xkd a0 = 11) (a1 : Int32) (a2 : Int32) (a3 : Int32) (M : xMem) (r : Int32) (M' : xMem) (h : fX11_gained a0 a1 a2 a3 M = some (r, M')) : xCt G yX11_gained cX11_gained 6 (some .int) 4 [vr G a0, .int a1, .int a2, .int a3] M (some (.int r), M') := by
  refine xMet (lv := [some (vr G a0), some (.int a1), some (.int a2), some (.int a3), none, none]) (by decide) (Nat.le_of_ble_eq_true rfl) rfl ?_
  intro X hG hnL C R0
  subst hG
  have C : xCk X cX11_gained RX11 4 := C
  have hn4 : 4 < X.2.2.2.2.2.2.2.2.2.2.2.2.2 := by rw [hnL]; decide
  have hn5 : 5 < X.2.2.2.2.2.2.2.2.2.2.2.2.2 := by rw [hnL]; decide
  unfold fX11_gained at h
  refine r_aload_n (pc := 0) C dX11_gained_0 rfl rfl ?_
  refine r_iload_n (pc := 1) C dX11_gained_1 rfl rfl ?_
  refine r_vI1 (pc := 2) C (fun r M' e => zX11_isTeam X.1 a0 h0 a1 M r M' e) h0 (by decide) rfl mX11_isTeam lX11_55 (by decide) (Nat.le_of_ble_eq_true rfl) dX11_gained_2 h (fun r1 M2 h => ?_)
  refine r_if_eq (pc := 5) (tgt := 41) C dX11_gained_5 (by decide) h (fun _ h => ?_) (fun _ h => ?_)
  · refine r_bipush (pc := 41) (v := (-2)) C dX11_gained_41 (by decide) ?_
    exact r_iret (pc := 43) C R0 h dX11_gained_43
  · refine r_iload_n (pc := 8) C dX11_gained_8 rfl rfl ?_
    refine r_i2l (pc := 9) C dX11_gained_9 ?_
    refine r_lconst (pc := 10) (v := lN 0) C dX11_gained_10 rfl ?_
    refine r_aload_n (pc := 11) C dX11_gained_11 rfl rfl ?_
    refine r_bipush (pc := 12) (v := (nI 25)) C dX11_gained_12 (by decide) ?_
    refine r_vI1 (pc := 14) C (fun r M' e => zX11_get X.1 a0 h0 (nI 25) M2 r M' e) h0 (by decide) rfl mX11_get lX11_43 (by decide) (Nat.le_of_ble_eq_true rfl) dX11_gained_14 h (fun r3 M4 h => ?_)
    refine r_i2l (pc := 17) C dX11_gained_17 ?_
    refine r_sI3 (pc := 18) C (fun r M' e => zX11_in X.1 (Int32.toInt64 a2) (lN 0) (Int32.toInt64 r3) M4 r M' e) mX11_in lX11_51 (by decide) (Nat.le_of_ble_eq_true rfl) dX11_gained_18 h (fun r5 M6 h => ?_)
    refine r_if_eq (pc := 21) (tgt := 41) C dX11_gained_21 (by decide) h (fun _ h => ?_) (fun _ h => ?_)
    · refine r_bipush (pc := 41) (v := (-2)) C dX11_gained_41 (by decide) ?_
      exact r_iret (pc := 43) C R0 h dX11_gained_43
    · refine r_iload_n (pc := 24) C dX11_gained_24 rfl rfl ?_
      refine r_i2l (pc := 25) C dX11_gained_25 ?_
      refine r_iload_n (pc := 26) C dX11_gained_26 rfl rfl ?_
      refine r_i2l (pc := 27) C dX11_gained_27 ?_
      refine r_aload_n (pc := 28) C dX11_gained_28 rfl rfl ?_
      refine r_bipush (pc := 29) (v := (nI 25)) C dX11_gained_29 (by decide) ?_
      refine r_vI1 (pc := 31) C (fun r M' e => zX11_get X.1 a0 h0 (nI 25) M6 r M' e) h0 (by decide) rfl mX11_get lX11_43 (by decide) (Nat.le_of_ble_eq_true rfl) dX11_gained_31 h (fun r7 M8 h => ?_)
      refine r_i2l (pc := 34) C dX11_gained_34 ?_
      refine r_sI3 (pc := 35) C (fun r M' e => zX11_in X.1 (Int32.toInt64 a3) (Int32.toInt64 a2) (Int32.toInt64 r7) M8 r M' e) mX11_in lX11_51 (by decide) (Nat.le_of_ble_eq_true rfl) dX11_gained_35 h (fun r9 M10 h => ?_)
      refine r_if_ne (pc := 38) (tgt := 44) C dX11_gained_38 (by decide) h (fun _ h => ?_) (fun _ h => ?_)
      · refine r_iconst (pc := 44) (v := (nI 0)) C dX11_gained_44 (by decide) ?_
        refine r_istore (pc := 45) (lv' := [_, _, _, _, _, _]) C dX11_gained_45 hn4 rfl ?_
        refine r_iload_n (pc := 47) C dX11_gained_47 rfl rfl ?_
        refine r_istore (pc := 48) (lv' := [_, _, _, _, _, _]) C dX11_gained_48 hn5 rfl ?_
        refine lX11_gained_50 C R0 hnL a0 h0 a1 a2 a3 _ (fun v15 v16 M17 h => ?_) _ _ _ _ h
        refine r_iload (pc := 75) C dX11_gained_75 rfl ?_
        exact r_iret (pc := 77) C R0 h dX11_gained_77
      · refine r_bipush (pc := 41) (v := (-2)) C dX11_gained_41 (by decide) ?_
        exact r_iret (pc := 43) C R0 h dX11_gained_43
theorem dX11_allOut_0 : decode cX11_allOut 0 = .ok (.aload_n 0, 1) := by decide +kernel
theorem dX11_allOut_1 : decode cX11_allOut 1 = .ok (.iload_n 1, 1) := by decide +kernel
theorem dX11_allOut_2 : decode cX11_allOut 2 = .ok (.invokevirtual 55, 3) := by decide +kernel
theorem dX11_allOut_5 : decode cX11_allOut 5 = .ok (.ifCond .eq 7, 3) := by decide +kernel
theorem dX11_allOut_8 : decode cX11_allOut 8 = .ok (.iload_n 2, 1) := by decide +kernel
theorem dX11_allOut_9 : decode cX11_allOut 9 = .ok (.ifCond .ge 6, 3) := by decide +kernel
theorem dX11_allOut_12 : decode cX11_allOut 12 = .ok (.bipush (-2), 2) := by decide +kernel
theorem dX11_allOut_14 : decode cX11_allOut 14 = .ok (.ireturn, 1) := by decide +kernel
theorem dX11_allOut_15 : decode cX11_allOut 15 = .ok (.iload_n 2, 1) := by decide +kernel
theorem dX11_allOut_16 : decode cX11_allOut 16 = .ok (.istore_n 3, 1) := by decide +kernel
theorem dX11_allOut_17 : decode cX11_allOut 17 = .ok (.iconst 0, 1) := by decide +kernel
theorem dX11_allOut_18 : decode cX11_allOut 18 = .ok (.istore 4, 2) := by decide +kernel
theorem dX11_allOut_20 : decode cX11_allOut 20 = .ok (.iload 4, 2) := by decide +kernel
theorem dX11_allOut_22 : decode cX11_allOut 22 = .ok (.aload_n 0, 1) := by decide +kernel
theorem dX11_allOut_23 : decode cX11_allOut 23 = .ok (.bipush 25, 2) := by decide +kernel
theorem dX11_allOut_25 : decode cX11_allOut 25 = .ok (.invokevirtual 43, 3) := by decide +kernel
theorem dX11_allOut_28 : decode cX11_allOut 28 = .ok (.if_icmp .ge 37, 3) := by decide +kernel
theorem dX11_allOut_31 : decode cX11_allOut 31 = .ok (.aload_n 0, 1) := by decide +kernel
theorem dX11_allOut_32 : decode cX11_allOut 32 = .ok (.iload 4, 2) := by decide +kernel
theorem dX11_allOut_34 : decode cX11_allOut 34 = .ok (.bipush 9, 2) := by decide +kernel
theorem dX11_allOut_36 : decode cX11_allOut 36 = .ok (.invokevirtual 347, 3) := by decide +kernel
theorem dX11_allOut_39 : decode cX11_allOut 39 = .ok (.iload_n 1, 1) := by decide +kernel
theorem dX11_allOut_40 : decode cX11_allOut 40 = .ok (.invokestatic 275, 3) := by decide +kernel
theorem dX11_allOut_43 : decode cX11_allOut 43 = .ok (.ifCond .ne 6, 3) := by decide +kernel
theorem dX11_allOut_46 : decode cX11_allOut 46 = .ok (.goto 13, 3) := by decide +kernel
theorem dX11_allOut_49 : decode cX11_allOut 49 = .ok (.iload_n 3, 1) := by decide +kernel
theorem dX11_allOut_50 : decode cX11_allOut 50 = .ok (.ifCond .ne 6, 3) := by decide +kernel
theorem dX11_allOut_53 : decode cX11_allOut 53 = .ok (.iload 4, 2) := by decide +kernel
theorem dX11_allOut_55 : decode cX11_allOut 55 = .ok (.ireturn, 1) := by decide +kernel
theorem dX11_allOut_56 : decode cX11_allOut 56 = .ok (.iinc 3 (-1), 3) := by decide +kernel
theorem dX11_allOut_59 : decode cX11_allOut 59 = .ok (.iinc 4 1, 3) := by decide +kernel
theorem dX11_allOut_62 : decode cX11_allOut 62 = .ok (.goto (-42), 3) := by decide +kernel
theorem dX11_allOut_65 : decode cX11_allOut 65 = .ok (.iconst (-1), 1) := by decide +kernel
theorem dX11_allOut_66 : decode cX11_allOut 66 = .ok (.ireturn, 1) := by decide +kernel
def fX11_allOut_l20 (p0 : Nat) (p1 : Int32) (p2 : Int32) (K : Int32 → Int32 → xMem → Option (Int32 × xMem)) : Nat → Int32 → Int32 → xMem → Option (Int32 × xMem)
  | 0, _, _, _ => none
  | n + 1, v3, v4, M => xBn (fX11_get p0 (nI 25) M) fun r3 M4 => if r3 ≤ v4 then (K v3 v4 M4) else (xBn (fX11_rec p0 v4 (nI 9) M4) fun r5 M6 => xBn (fX11_has r5 p1 M6) fun r7 M8 => if r7 = 0 then (xLt (v4 + nI 1) fun x11 => fX11_allOut_l20 p0 p1 p2 K n v3 x11 M8) else (if v3 = 0 then (some (v4, M8)) else (xLt (v3 + (-1)) fun x9 => xLt (v4 + nI 1) fun x10 => fX11_allOut_l20 p0 p1 p2 K n x9 x10 M8)))
def fX11_allOut (a0 : Nat) (a1 : Int32) (a2 : Int32) (M : xMem) : Option (Int32 × xMem) :=
  xBn (fX11_isTeam a0 a1 M) fun r1 M2 => if r1 = 0 then (some ((-2), M2)) else (if 0 ≤ a2 then (fX11_allOut_l20 a0 a1 a2 (fun (v12 : Int32) (v13 : Int32) (M14 : xMem) => some ((-1), M14)) xFU a2 (nI 0) M2) else (some ((-2), M2)))
set_option maxRecDepth 100000 in
set_option maxHeartbeats 4000000 in
theorem lX11_allOut_20 {X : xCX} {r : Int32} {M' : xMem} (C : xCk X cX11_allOut RX11 3) (R0 : xRk X (some .int) (some (.int r), M')) (hnL : X.2.2.2.2.2.2.2.2.2.2.2.2.2 = 5) (p0 : Nat) (hp0 : xkd p0 = 11) (p1 : Int32) (p2 : Int32) (K : Int32 → Int32 → xMem → Option (Int32 × xMem)) (hK : ∀ (v3 : Int32) (v4 : Int32) (M : xMem), K v3 v4 M = some (r, M') → WW X 65 [some (vr X.1 p0), some (.int p1), some (.int p2), some (.int v3), some (.int v4)] [] M) : ∀ (n : Nat) (v3 : Int32) (v4 : Int32) (M : xMem), fX11_allOut_l20 p0 p1 p2 K n v3 v4 M = some (r, M') → WW X 20 [some (vr X.1 p0), some (.int p1), some (.int p2), some (.int v3), some (.int v4)] [] M := by
  have hn3 : 3 < X.2.2.2.2.2.2.2.2.2.2.2.2.2 := by rw [hnL]; decide
  have hn4 : 4 < X.2.2.2.2.2.2.2.2.2.2.2.2.2 := by rw [hnL]; decide
  intro n
  induction n with
  | zero =>
    intro v3 v4 M h
    cases (show (none : Option (Int32 × xMem)) = some (r, M') from h)
  | succ n ih =>
    intro v3 v4 M h
    rw [fX11_allOut_l20.eq_2] at h
    refine r_iload (pc := 20) C dX11_allOut_20 rfl ?_
    refine r_aload_n (pc := 22) C dX11_allOut_22 rfl rfl ?_
    refine r_bipush (pc := 23) (v := (nI 25)) C dX11_allOut_23 (by decide) ?_
    refine r_vI1 (pc := 25) C (fun r M' e => zX11_get X.1 p0 hp0 (nI 25) M r M' e) hp0 (by decide) rfl mX11_get lX11_43 (by decide) (Nat.le_of_ble_eq_true rfl) dX11_allOut_25 h (fun r3 M4 h => ?_)
    refine r_icmp_ge (pc := 28) (tgt := 65) C dX11_allOut_28 (by decide) h (fun _ h => ?_) (fun _ h => ?_)
    · exact hK v3 v4 M4 h
    · refine r_aload_n (pc := 31) C dX11_allOut_31 rfl rfl ?_
      refine r_iload (pc := 32) C dX11_allOut_32 rfl ?_
      refine r_bipush (pc := 34) (v := (nI 9)) C dX11_allOut_34 (by decide) ?_
      refine r_vI2 (pc := 36) C (fun r M' e => zX11_rec X.1 p0 hp0 v4 (nI 9) M4 r M' e) hp0 (by decide) rfl mX11_rec lX11_347 (by decide) (Nat.le_of_ble_eq_true rfl) dX11_allOut_36 h (fun r5 M6 h => ?_)
      refine r_iload_n (pc := 39) C dX11_allOut_39 rfl rfl ?_
      refine r_sI2 (pc := 40) C (fun r M' e => zX11_has X.1 r5 p1 M6 r M' e) mX11_has lX11_275 (by decide) (Nat.le_of_ble_eq_true rfl) dX11_allOut_40 h (fun r7 M8 h => ?_)
      refine r_if_ne (pc := 43) (tgt := 49) C dX11_allOut_43 (by decide) h (fun _ h => ?_) (fun _ h => ?_)
      · refine r_iload_n (pc := 49) C dX11_allOut_49 rfl rfl ?_
        refine r_if_ne (pc := 50) (tgt := 56) C dX11_allOut_50 (by decide) h (fun _ h => ?_) (fun _ h => ?_)
        · refine r_iincL (pc := 56) (c := (-1)) C dX11_allOut_56 rfl (by decide) hn3 h (fun x9 h => ?_)
          refine r_lvE (lv' := [_, _, _, _, _]) rfl ?_
          refine r_iincL (pc := 59) (c := nI 1) C dX11_allOut_59 rfl (by decide) hn4 h (fun x10 h => ?_)
          refine r_lvE (lv' := [_, _, _, _, _]) rfl ?_
          refine r_goto (pc := 62) (tgt := 20) C dX11_allOut_62 (by decide) ?_
          exact ih x9 x10 M8 h
        · refine r_iload (pc := 53) C dX11_allOut_53 rfl ?_
          exact r_iret (pc := 55) C R0 h dX11_allOut_55
      · refine r_goto (pc := 46) (tgt := 59) C dX11_allOut_46 (by decide) ?_
        refine r_iincL (pc := 59) (c := nI 1) C dX11_allOut_59 rfl (by decide) hn4 h (fun x11 h => ?_)
        refine r_lvE (lv' := [_, _, _, _, _]) rfl ?_
        refine r_goto (pc := 62) (tgt := 20) C dX11_allOut_62 (by decide) ?_
        exact ih v3 x11 M8 h
set_option maxRecDepth 100000 in
set_option maxHeartbeats 4000000 in
theorem zX11_allOut (G : xGX) (a0 : Nat) (h0 : xkd a0 = 11) (a1 : Int32) (a2 : Int32) (M : xMem) (r : Int32) (M' : xMem) (h : fX11_allOut a0 a1 a2 M = some (r, M')) : xCt G yX11_allOut cX11_allOut 5 (some .int) 3 [vr G a0, .int a1, .int a2] M (some (.int r), M') := by
  refine xMet (lv := [some (vr G a0), some (.int a1), some (.int a2), none, none]) (by decide) (Nat.le_of_ble_eq_true rfl) rfl ?_
  intro X hG hnL C R0
  subst hG
  have C : xCk X cX11_allOut RX11 3 := C
  have hn3 : 3 < X.2.2.2.2.2.2.2.2.2.2.2.2.2 := by rw [hnL]; decide
  have hn4 : 4 < X.2.2.2.2.2.2.2.2.2.2.2.2.2 := by rw [hnL]; decide
  unfold fX11_allOut at h
  refine r_aload_n (pc := 0) C dX11_allOut_0 rfl rfl ?_
  refine r_iload_n (pc := 1) C dX11_allOut_1 rfl rfl ?_
  refine r_vI1 (pc := 2) C (fun r M' e => zX11_isTeam X.1 a0 h0 a1 M r M' e) h0 (by decide) rfl mX11_isTeam lX11_55 (by decide) (Nat.le_of_ble_eq_true rfl) dX11_allOut_2 h (fun r1 M2 h => ?_)
  refine r_if_eq (pc := 5) (tgt := 12) C dX11_allOut_5 (by decide) h (fun _ h => ?_) (fun _ h => ?_)
  · refine r_bipush (pc := 12) (v := (-2)) C dX11_allOut_12 (by decide) ?_
    exact r_iret (pc := 14) C R0 h dX11_allOut_14
  · refine r_iload_n (pc := 8) C dX11_allOut_8 rfl rfl ?_
    refine r_if_ge (pc := 9) (tgt := 15) C dX11_allOut_9 (by decide) h (fun _ h => ?_) (fun _ h => ?_)
    · refine r_iload_n (pc := 15) C dX11_allOut_15 rfl rfl ?_
      refine r_istore_n (pc := 16) (lv' := [_, _, _, _, _]) C dX11_allOut_16 rfl hn3 rfl ?_
      refine r_iconst (pc := 17) (v := (nI 0)) C dX11_allOut_17 (by decide) ?_
      refine r_istore (pc := 18) (lv' := [_, _, _, _, _]) C dX11_allOut_18 hn4 rfl ?_
      refine lX11_allOut_20 C R0 hnL a0 h0 a1 a2 _ (fun v12 v13 M14 h => ?_) _ _ _ _ h
      refine r_iconst (pc := 65) (v := (-1)) C dX11_allOut_65 (by decide) ?_
      exact r_iret (pc := 66) C R0 h dX11_allOut_66
    · refine r_bipush (pc := 12) (v := (-2)) C dX11_allOut_12 (by decide) ?_
      exact r_iret (pc := 14) C R0 h dX11_allOut_14
theorem dX11_share_0 : decode cX11_share 0 = .ok (.aload_n 0, 1) := by decide +kernel
theorem dX11_share_1 : decode cX11_share 1 = .ok (.iload_n 1, 1) := by decide +kernel
theorem dX11_share_2 : decode cX11_share 2 = .ok (.iload_n 2, 1) := by decide +kernel
theorem dX11_share_3 : decode cX11_share 3 = .ok (.invokevirtual 344, 3) := by decide +kernel
theorem dX11_share_6 : decode cX11_share 6 = .ok (.ifCond .ne 6, 3) := by decide +kernel
theorem dX11_share_9 : decode cX11_share 9 = .ok (.bipush (-2), 2) := by decide +kernel
theorem dX11_share_11 : decode cX11_share 11 = .ok (.ireturn, 1) := by decide +kernel
theorem dX11_share_12 : decode cX11_share 12 = .ok (.iconst 0, 1) := by decide +kernel
theorem dX11_share_13 : decode cX11_share 13 = .ok (.istore_n 3, 1) := by decide +kernel
theorem dX11_share_14 : decode cX11_share 14 = .ok (.iconst 0, 1) := by decide +kernel
theorem dX11_share_15 : decode cX11_share 15 = .ok (.istore 4, 2) := by decide +kernel
theorem dX11_share_17 : decode cX11_share 17 = .ok (.iload 4, 2) := by decide +kernel
theorem dX11_share_19 : decode cX11_share 19 = .ok (.iconst 3, 1) := by decide +kernel
theorem dX11_share_20 : decode cX11_share 20 = .ok (.if_icmp .gt 26, 3) := by decide +kernel
theorem dX11_share_23 : decode cX11_share 23 = .ok (.iload_n 3, 1) := by decide +kernel
theorem dX11_share_24 : decode cX11_share 24 = .ok (.aload_n 0, 1) := by decide +kernel
theorem dX11_share_25 : decode cX11_share 25 = .ok (.bipush 36, 2) := by decide +kernel
theorem dX11_share_27 : decode cX11_share 27 = .ok (.bipush 6, 2) := by decide +kernel
theorem dX11_share_29 : decode cX11_share 29 = .ok (.iload_n 1, 1) := by decide +kernel
theorem dX11_share_30 : decode cX11_share 30 = .ok (.imul, 1) := by decide +kernel
theorem dX11_share_31 : decode cX11_share 31 = .ok (.iadd, 1) := by decide +kernel
theorem dX11_share_32 : decode cX11_share 32 = .ok (.iload 4, 2) := by decide +kernel
theorem dX11_share_34 : decode cX11_share 34 = .ok (.iadd, 1) := by decide +kernel
theorem dX11_share_35 : decode cX11_share 35 = .ok (.invokevirtual 43, 3) := by decide +kernel
theorem dX11_share_38 : decode cX11_share 38 = .ok (.iadd, 1) := by decide +kernel
theorem dX11_share_39 : decode cX11_share 39 = .ok (.istore_n 3, 1) := by decide +kernel
theorem dX11_share_40 : decode cX11_share 40 = .ok (.iinc 4 1, 3) := by decide +kernel
theorem dX11_share_43 : decode cX11_share 43 = .ok (.goto (-26), 3) := by decide +kernel
theorem dX11_share_46 : decode cX11_share 46 = .ok (.iload_n 3, 1) := by decide +kernel
theorem dX11_share_47 : decode cX11_share 47 = .ok (.ifCond .ne 7, 3) := by decide +kernel
theorem dX11_share_50 : decode cX11_share 50 = .ok (.iconst (-1), 1) := by decide +kernel
theorem dX11_share_51 : decode cX11_share 51 = .ok (.goto 23, 3) := by decide +kernel
theorem dX11_share_54 : decode cX11_share 54 = .ok (.bipush 100, 2) := by decide +kernel
theorem dX11_share_56 : decode cX11_share 56 = .ok (.aload_n 0, 1) := by decide +kernel
theorem dX11_share_57 : decode cX11_share 57 = .ok (.iload_n 1, 1) := by decide +kernel
theorem dX11_share_58 : decode cX11_share 58 = .ok (.iload_n 2, 1) := by decide +kernel
theorem dX11_share_59 : decode cX11_share 59 = .ok (.iconst 1, 1) := by decide +kernel
theorem dX11_share_60 : decode cX11_share 60 = .ok (.invokevirtual 375, 3) := by decide +kernel
theorem dX11_share_63 : decode cX11_share 63 = .ok (.aload_n 0, 1) := by decide +kernel
theorem dX11_share_64 : decode cX11_share 64 = .ok (.iload_n 1, 1) := by decide +kernel
theorem dX11_share_65 : decode cX11_share 65 = .ok (.iload_n 2, 1) := by decide +kernel
theorem dX11_share_66 : decode cX11_share 66 = .ok (.iconst 4, 1) := by decide +kernel
theorem dX11_share_67 : decode cX11_share 67 = .ok (.invokevirtual 375, 3) := by decide +kernel
theorem dX11_share_70 : decode cX11_share 70 = .ok (.iadd, 1) := by decide +kernel
theorem dX11_share_71 : decode cX11_share 71 = .ok (.imul, 1) := by decide +kernel
theorem dX11_share_72 : decode cX11_share 72 = .ok (.iload_n 3, 1) := by decide +kernel
theorem dX11_share_73 : decode cX11_share 73 = .ok (.idiv, 1) := by decide +kernel
theorem dX11_share_74 : decode cX11_share 74 = .ok (.ireturn, 1) := by decide +kernel
def fX11_share_l17 (p0 : Nat) (p1 : Int32) (p2 : Int32) (K : Int32 → Int32 → xMem → Option (Int32 × xMem)) : Nat → Int32 → Int32 → xMem → Option (Int32 × xMem)
  | 0, _, _, _ => none
  | n + 1, v3, v4, M => if (nI 3) < v4 then (K v3 v4 M) else (xBn (fX11_get p0 (((nI 36) + ((nI 6) * p1)) + v4) M) fun r3 M4 => xLt (v3 + r3) fun x5 => xLt (v4 + nI 1) fun x6 => fX11_share_l17 p0 p1 p2 K n x5 x6 M4)
def fX11_share (a0 : Nat) (a1 : Int32) (a2 : Int32) (M : xMem) : Option (Int32 × xMem) :=
  xBn (fX11_isOne a0 a1 a2 M) fun r1 M2 => if r1 = 0 then (some ((-2), M2)) else (fX11_share_l17 a0 a1 a2 (fun (v7 : Int32) (v8 : Int32) (M9 : xMem) => if v7 = 0 then (some ((-1), M9)) else (xBn (fX11_ofOne a0 a1 a2 (nI 1) M9) fun r10 M11 => xBn (fX11_ofOne a0 a1 a2 (nI 4) M11) fun r12 M13 => xGd (¬ v7 = 0) (some ((((nI 100) * (r10 + r12)) / v7), M13)))) xFU (nI 0) (nI 0) M2)
set_option maxRecDepth 100000 in
set_option maxHeartbeats 4000000 in
theorem lX11_share_17 {X : xCX} {r : Int32} {M' : xMem} (C : xCk X cX11_share RX11 6) (R0 : xRk X (some .int) (some (.int r), M')) (hnL : X.2.2.2.2.2.2.2.2.2.2.2.2.2 = 5) (p0 : Nat) (hp0 : xkd p0 = 11) (p1 : Int32) (p2 : Int32) (K : Int32 → Int32 → xMem → Option (Int32 × xMem)) (hK : ∀ (v3 : Int32) (v4 : Int32) (M : xMem), K v3 v4 M = some (r, M') → WW X 46 [some (vr X.1 p0), some (.int p1), some (.int p2), some (.int v3), some (.int v4)] [] M) : ∀ (n : Nat) (v3 : Int32) (v4 : Int32) (M : xMem), fX11_share_l17 p0 p1 p2 K n v3 v4 M = some (r, M') → WW X 17 [some (vr X.1 p0), some (.int p1), some (.int p2), some (.int v3), some (.int v4)] [] M := by
  have hn3 : 3 < X.2.2.2.2.2.2.2.2.2.2.2.2.2 := by rw [hnL]; decide
  have hn4 : 4 < X.2.2.2.2.2.2.2.2.2.2.2.2.2 := by rw [hnL]; decide
  intro n
  induction n with
  | zero =>
    intro v3 v4 M h
    cases (show (none : Option (Int32 × xMem)) = some (r, M') from h)
  | succ n ih =>
    intro v3 v4 M h
    rw [fX11_share_l17.eq_2] at h
    refine r_iload (pc := 17) C dX11_share_17 rfl ?_
    refine r_iconst (pc := 19) (v := (nI 3)) C dX11_share_19 (by decide) ?_
    refine r_icmp_gt (pc := 20) (tgt := 46) C dX11_share_20 (by decide) h (fun _ h => ?_) (fun _ h => ?_)
    · exact hK v3 v4 M h
    · refine r_iload_n (pc := 23) C dX11_share_23 rfl rfl ?_
      refine r_aload_n (pc := 24) C dX11_share_24 rfl rfl ?_
      refine r_bipush (pc := 25) (v := (nI 36)) C dX11_share_25 (by decide) ?_
      refine r_bipush (pc := 27) (v := (nI 6)) C dX11_share_27 (by decide) ?_
      refine r_iload_n (pc := 29) C dX11_share_29 rfl rfl ?_
      refine r_imul (pc := 30) C dX11_share_30 ?_
      refine r_iadd (pc := 31) C dX11_share_31 ?_
      refine r_iload (pc := 32) C dX11_share_32 rfl ?_
      refine r_iadd (pc := 34) C dX11_share_34 ?_
      refine r_vI1 (pc := 35) C (fun r M' e => zX11_get X.1 p0 hp0 (((nI 36) + ((nI 6) * p1)) + v4) M r M' e) hp0 (by decide) rfl mX11_get lX11_43 (by decide) (Nat.le_of_ble_eq_true rfl) dX11_share_35 h (fun r3 M4 h => ?_)
      refine r_iadd (pc := 38) C dX11_share_38 ?_
      refine r_letI h (fun x5 h => ?_)
      refine r_istore_n (pc := 39) (lv' := [_, _, _, _, _]) C dX11_share_39 rfl hn3 rfl ?_
      refine r_iincL (pc := 40) (c := nI 1) C dX11_share_40 rfl (by decide) hn4 h (fun x6 h => ?_)
      refine r_lvE (lv' := [_, _, _, _, _]) rfl ?_
      refine r_goto (pc := 43) (tgt := 17) C dX11_share_43 (by decide) ?_
      exact ih x5 x6 M4 h
set_option maxRecDepth 100000 in
set_option maxHeartbeats 4000000 in
theorem zX11_share (G : xGX) (a0 : Nat) (h0 : xkd a0 = 11) (a1 : Int32) (a2 : Int32) (M : xMem) (r : Int32) (M' : xMem) (h : fX11_share a0 a1 a2 M = some (r, M')) : xCt G yX11_share cX11_share 5 (some .int) 6 [vr G a0, .int a1, .int a2] M (some (.int r), M') := by
  refine xMet (lv := [some (vr G a0), some (.int a1), some (.int a2), none, none]) (by decide) (Nat.le_of_ble_eq_true rfl) rfl ?_
  intro X hG hnL C R0
  subst hG
  have C : xCk X cX11_share RX11 6 := C
  have hn3 : 3 < X.2.2.2.2.2.2.2.2.2.2.2.2.2 := by rw [hnL]; decide
  have hn4 : 4 < X.2.2.2.2.2.2.2.2.2.2.2.2.2 := by rw [hnL]; decide
  unfold fX11_share at h
  refine r_aload_n (pc := 0) C dX11_share_0 rfl rfl ?_
  refine r_iload_n (pc := 1) C dX11_share_1 rfl rfl ?_
  refine r_iload_n (pc := 2) C dX11_share_2 rfl rfl ?_
  refine r_vI2 (pc := 3) C (fun r M' e => zX11_isOne X.1 a0 h0 a1 a2 M r M' e) h0 (by decide) rfl mX11_isOne lX11_344 (by decide) (Nat.le_of_ble_eq_true rfl) dX11_share_3 h (fun r1 M2 h => ?_)
  refine r_if_ne (pc := 6) (tgt := 12) C dX11_share_6 (by decide) h (fun _ h => ?_) (fun _ h => ?_)
  · refine r_iconst (pc := 12) (v := (nI 0)) C dX11_share_12 (by decide) ?_
    refine r_istore_n (pc := 13) (lv' := [_, _, _, _, _]) C dX11_share_13 rfl hn3 rfl ?_
    refine r_iconst (pc := 14) (v := (nI 0)) C dX11_share_14 (by decide) ?_
    refine r_istore (pc := 15) (lv' := [_, _, _, _, _]) C dX11_share_15 hn4 rfl ?_
    refine lX11_share_17 C R0 hnL a0 h0 a1 a2 _ (fun v7 v8 M9 h => ?_) _ _ _ _ h
    refine r_iload_n (pc := 46) C dX11_share_46 rfl rfl ?_
    refine r_if_ne (pc := 47) (tgt := 54) C dX11_share_47 (by decide) h (fun _ h => ?_) (fun _ h => ?_)
    · refine r_bipush (pc := 54) (v := (nI 100)) C dX11_share_54 (by decide) ?_
      refine r_aload_n (pc := 56) C dX11_share_56 rfl rfl ?_
      refine r_iload_n (pc := 57) C dX11_share_57 rfl rfl ?_
      refine r_iload_n (pc := 58) C dX11_share_58 rfl rfl ?_
      refine r_iconst (pc := 59) (v := (nI 1)) C dX11_share_59 (by decide) ?_
      refine r_vI3 (pc := 60) C (fun r M' e => zX11_ofOne X.1 a0 h0 a1 a2 (nI 1) M9 r M' e) h0 (by decide) rfl mX11_ofOne lX11_375 (by decide) (Nat.le_of_ble_eq_true rfl) dX11_share_60 h (fun r10 M11 h => ?_)
      refine r_aload_n (pc := 63) C dX11_share_63 rfl rfl ?_
      refine r_iload_n (pc := 64) C dX11_share_64 rfl rfl ?_
      refine r_iload_n (pc := 65) C dX11_share_65 rfl rfl ?_
      refine r_iconst (pc := 66) (v := (nI 4)) C dX11_share_66 (by decide) ?_
      refine r_vI3 (pc := 67) C (fun r M' e => zX11_ofOne X.1 a0 h0 a1 a2 (nI 4) M11 r M' e) h0 (by decide) rfl mX11_ofOne lX11_375 (by decide) (Nat.le_of_ble_eq_true rfl) dX11_share_67 h (fun r12 M13 h => ?_)
      refine r_iadd (pc := 70) C dX11_share_70 ?_
      refine r_imul (pc := 71) C dX11_share_71 ?_
      refine r_iload_n (pc := 72) C dX11_share_72 rfl rfl ?_
      obtain ⟨g14, h⟩ := xGd_of h
      refine r_idiv (pc := 73) C g14 dX11_share_73 ?_
      exact r_iret (pc := 74) C R0 h dX11_share_74
    · refine r_iconst (pc := 50) (v := (-1)) C dX11_share_50 (by decide) ?_
      refine r_goto (pc := 51) (tgt := 74) C dX11_share_51 (by decide) ?_
      exact r_iret (pc := 74) C R0 h dX11_share_74
  · refine r_bipush (pc := 9) (v := (-2)) C dX11_share_9 (by decide) ?_
    exact r_iret (pc := 11) C R0 h dX11_share_11
theorem dX11_isAhead_0 : decode cX11_isAhead 0 = .ok (.aload_n 0, 1) := by decide +kernel
theorem dX11_isAhead_1 : decode cX11_isAhead 1 = .ok (.iload_n 1, 1) := by decide +kernel
theorem dX11_isAhead_2 : decode cX11_isAhead 2 = .ok (.bipush 10, 2) := by decide +kernel
theorem dX11_isAhead_4 : decode cX11_isAhead 4 = .ok (.idiv, 1) := by decide +kernel
theorem dX11_isAhead_5 : decode cX11_isAhead 5 = .ok (.iload_n 1, 1) := by decide +kernel
theorem dX11_isAhead_6 : decode cX11_isAhead 6 = .ok (.bipush 10, 2) := by decide +kernel
theorem dX11_isAhead_8 : decode cX11_isAhead 8 = .ok (.irem, 1) := by decide +kernel
theorem dX11_isAhead_9 : decode cX11_isAhead 9 = .ok (.iload_n 3, 1) := by decide +kernel
theorem dX11_isAhead_10 : decode cX11_isAhead 10 = .ok (.invokevirtual 375, 3) := by decide +kernel
theorem dX11_isAhead_13 : decode cX11_isAhead 13 = .ok (.istore 4, 2) := by decide +kernel
theorem dX11_isAhead_15 : decode cX11_isAhead 15 = .ok (.aload_n 0, 1) := by decide +kernel
theorem dX11_isAhead_16 : decode cX11_isAhead 16 = .ok (.iload_n 2, 1) := by decide +kernel
theorem dX11_isAhead_17 : decode cX11_isAhead 17 = .ok (.bipush 10, 2) := by decide +kernel
theorem dX11_isAhead_19 : decode cX11_isAhead 19 = .ok (.idiv, 1) := by decide +kernel
theorem dX11_isAhead_20 : decode cX11_isAhead 20 = .ok (.iload_n 2, 1) := by decide +kernel
theorem dX11_isAhead_21 : decode cX11_isAhead 21 = .ok (.bipush 10, 2) := by decide +kernel
theorem dX11_isAhead_23 : decode cX11_isAhead 23 = .ok (.irem, 1) := by decide +kernel
theorem dX11_isAhead_24 : decode cX11_isAhead 24 = .ok (.iload_n 3, 1) := by decide +kernel
theorem dX11_isAhead_25 : decode cX11_isAhead 25 = .ok (.invokevirtual 375, 3) := by decide +kernel
theorem dX11_isAhead_28 : decode cX11_isAhead 28 = .ok (.istore 5, 2) := by decide +kernel
theorem dX11_isAhead_30 : decode cX11_isAhead 30 = .ok (.iload 4, 2) := by decide +kernel
theorem dX11_isAhead_32 : decode cX11_isAhead 32 = .ok (.iload 5, 2) := by decide +kernel
theorem dX11_isAhead_34 : decode cX11_isAhead 34 = .ok (.if_icmp .gt 15, 3) := by decide +kernel
theorem dX11_isAhead_37 : decode cX11_isAhead 37 = .ok (.iload 4, 2) := by decide +kernel
theorem dX11_isAhead_39 : decode cX11_isAhead 39 = .ok (.iload 5, 2) := by decide +kernel
theorem dX11_isAhead_41 : decode cX11_isAhead 41 = .ok (.if_icmp .ne 12, 3) := by decide +kernel
theorem dX11_isAhead_44 : decode cX11_isAhead 44 = .ok (.iload_n 1, 1) := by decide +kernel
theorem dX11_isAhead_45 : decode cX11_isAhead 45 = .ok (.iload_n 2, 1) := by decide +kernel
theorem dX11_isAhead_46 : decode cX11_isAhead 46 = .ok (.if_icmp .ge 7, 3) := by decide +kernel
theorem dX11_isAhead_49 : decode cX11_isAhead 49 = .ok (.iconst 1, 1) := by decide +kernel
theorem dX11_isAhead_50 : decode cX11_isAhead 50 = .ok (.goto 4, 3) := by decide +kernel
theorem dX11_isAhead_53 : decode cX11_isAhead 53 = .ok (.iconst 0, 1) := by decide +kernel
theorem dX11_isAhead_54 : decode cX11_isAhead 54 = .ok (.ireturn, 1) := by decide +kernel
def fX11_isAhead (a0 : Nat) (a1 : Int32) (a2 : Int32) (a3 : Int32) (M : xMem) : Option (Int32 × xMem) :=
  xBn (fX11_ofOne a0 (a1 / (nI 10)) (a1 - a1 / (nI 10) * (nI 10)) a3 M) fun r1 M2 => xBn (fX11_ofOne a0 (a2 / (nI 10)) (a2 - a2 / (nI 10) * (nI 10)) a3 M2) fun r3 M4 => if r3 < r1 then (some ((nI 1), M4)) else (if r1 = r3 then (if a2 ≤ a1 then (some ((nI 0), M4)) else (some ((nI 1), M4))) else (some ((nI 0), M4)))
set_option maxRecDepth 100000 in
set_option maxHeartbeats 4000000 in
theorem zX11_isAhead (G : xGX) (a0 : Nat) (h0 : xkd a0 = 11) (a1 : Int32) (a2 : Int32) (a3 : Int32) (M : xMem) (r : Int32) (M' : xMem) (h : fX11_isAhead a0 a1 a2 a3 M = some (r, M')) : xCt G yX11_isAhead cX11_isAhead 6 (some .boolean) 6 [vr G a0, .int a1, .int a2, .int a3] M (some (.int r), M') := by
  refine xMet (lv := [some (vr G a0), some (.int a1), some (.int a2), some (.int a3), none, none]) (by decide) (Nat.le_of_ble_eq_true rfl) rfl ?_
  intro X hG hnL C R0
  subst hG
  have C : xCk X cX11_isAhead RX11 6 := C
  have hn4 : 4 < X.2.2.2.2.2.2.2.2.2.2.2.2.2 := by rw [hnL]; decide
  have hn5 : 5 < X.2.2.2.2.2.2.2.2.2.2.2.2.2 := by rw [hnL]; decide
  unfold fX11_isAhead at h
  refine r_aload_n (pc := 0) C dX11_isAhead_0 rfl rfl ?_
  refine r_iload_n (pc := 1) C dX11_isAhead_1 rfl rfl ?_
  refine r_bipush (pc := 2) (v := (nI 10)) C dX11_isAhead_2 (by decide) ?_
  refine r_idiv (pc := 4) C (by decide) dX11_isAhead_4 ?_
  refine r_iload_n (pc := 5) C dX11_isAhead_5 rfl rfl ?_
  refine r_bipush (pc := 6) (v := (nI 10)) C dX11_isAhead_6 (by decide) ?_
  refine r_irem (pc := 8) C (by decide) dX11_isAhead_8 ?_
  refine r_iload_n (pc := 9) C dX11_isAhead_9 rfl rfl ?_
  refine r_vI3 (pc := 10) C (fun r M' e => zX11_ofOne X.1 a0 h0 (a1 / (nI 10)) (a1 - a1 / (nI 10) * (nI 10)) a3 M r M' e) h0 (by decide) rfl mX11_ofOne lX11_375 (by decide) (Nat.le_of_ble_eq_true rfl) dX11_isAhead_10 h (fun r1 M2 h => ?_)
  refine r_istore (pc := 13) (lv' := [_, _, _, _, _, _]) C dX11_isAhead_13 hn4 rfl ?_
  refine r_aload_n (pc := 15) C dX11_isAhead_15 rfl rfl ?_
  refine r_iload_n (pc := 16) C dX11_isAhead_16 rfl rfl ?_
  refine r_bipush (pc := 17) (v := (nI 10)) C dX11_isAhead_17 (by decide) ?_
  refine r_idiv (pc := 19) C (by decide) dX11_isAhead_19 ?_
  refine r_iload_n (pc := 20) C dX11_isAhead_20 rfl rfl ?_
  refine r_bipush (pc := 21) (v := (nI 10)) C dX11_isAhead_21 (by decide) ?_
  refine r_irem (pc := 23) C (by decide) dX11_isAhead_23 ?_
  refine r_iload_n (pc := 24) C dX11_isAhead_24 rfl rfl ?_
  refine r_vI3 (pc := 25) C (fun r M' e => zX11_ofOne X.1 a0 h0 (a2 / (nI 10)) (a2 - a2 / (nI 10) * (nI 10)) a3 M2 r M' e) h0 (by decide) rfl mX11_ofOne lX11_375 (by decide) (Nat.le_of_ble_eq_true rfl) dX11_isAhead_25 h (fun r3 M4 h => ?_)
  refine r_istore (pc := 28) (lv' := [_, _, _, _, _, _]) C dX11_isAhead_28 hn5 rfl ?_
  refine r_iload (pc := 30) C dX11_isAhead_30 rfl ?_
  refine r_iload (pc := 32) C dX11_isAhead_32 rfl ?_
  refine r_icmp_gt (pc := 34) (tgt := 49) C dX11_isAhead_34 (by decide) h (fun _ h => ?_) (fun _ h => ?_)
  · refine r_iconst (pc := 49) (v := (nI 1)) C dX11_isAhead_49 (by decide) ?_
    refine r_goto (pc := 50) (tgt := 54) C dX11_isAhead_50 (by decide) ?_
    exact r_zret (pc := 54) (Or.inr (by decide)) C R0 h dX11_isAhead_54
  · refine r_iload (pc := 37) C dX11_isAhead_37 rfl ?_
    refine r_iload (pc := 39) C dX11_isAhead_39 rfl ?_
    refine r_icmp_ne (pc := 41) (tgt := 53) C dX11_isAhead_41 (by decide) h (fun _ h => ?_) (fun _ h => ?_)
    · refine r_iconst (pc := 53) (v := (nI 0)) C dX11_isAhead_53 (by decide) ?_
      exact r_zret (pc := 54) (Or.inl (by decide)) C R0 h dX11_isAhead_54
    · refine r_iload_n (pc := 44) C dX11_isAhead_44 rfl rfl ?_
      refine r_iload_n (pc := 45) C dX11_isAhead_45 rfl rfl ?_
      refine r_icmp_ge (pc := 46) (tgt := 53) C dX11_isAhead_46 (by decide) h (fun _ h => ?_) (fun _ h => ?_)
      · refine r_iconst (pc := 53) (v := (nI 0)) C dX11_isAhead_53 (by decide) ?_
        exact r_zret (pc := 54) (Or.inl (by decide)) C R0 h dX11_isAhead_54
      · refine r_iconst (pc := 49) (v := (nI 1)) C dX11_isAhead_49 (by decide) ?_
        refine r_goto (pc := 50) (tgt := 54) C dX11_isAhead_50 (by decide) ?_
        exact r_zret (pc := 54) (Or.inr (by decide)) C R0 h dX11_isAhead_54
theorem dX11_best_0 : decode cX11_best 0 = .ok (.aload_n 0, 1) := by decide +kernel
theorem dX11_best_1 : decode cX11_best 1 = .ok (.invokevirtual 47, 3) := by decide +kernel
theorem dX11_best_4 : decode cX11_best 4 = .ok (.ifCond .eq 19, 3) := by decide +kernel
theorem dX11_best_7 : decode cX11_best 7 = .ok (.iload_n 1, 1) := by decide +kernel
theorem dX11_best_8 : decode cX11_best 8 = .ok (.i2l, 1) := by decide +kernel
theorem dX11_best_9 : decode cX11_best 9 = .ok (.lconst 0, 1) := by decide +kernel
theorem dX11_best_10 : decode cX11_best 10 = .ok (.ldc2_w 129, 3) := by decide +kernel
theorem dX11_best_13 : decode cX11_best 13 = .ok (.invokestatic 51, 3) := by decide +kernel
theorem dX11_best_16 : decode cX11_best 16 = .ok (.ifCond .eq 7, 3) := by decide +kernel
theorem dX11_best_19 : decode cX11_best 19 = .ok (.iload_n 2, 1) := by decide +kernel
theorem dX11_best_20 : decode cX11_best 20 = .ok (.ifCond .ge 6, 3) := by decide +kernel
theorem dX11_best_23 : decode cX11_best 23 = .ok (.bipush (-2), 2) := by decide +kernel
theorem dX11_best_25 : decode cX11_best 25 = .ok (.ireturn, 1) := by decide +kernel
theorem dX11_best_26 : decode cX11_best 26 = .ok (.iconst 0, 1) := by decide +kernel
theorem dX11_best_27 : decode cX11_best 27 = .ok (.istore_n 3, 1) := by decide +kernel
theorem dX11_best_28 : decode cX11_best 28 = .ok (.iload_n 3, 1) := by decide +kernel
theorem dX11_best_29 : decode cX11_best 29 = .ok (.bipush 20, 2) := by decide +kernel
theorem dX11_best_31 : decode cX11_best 31 = .ok (.if_icmp .ge 98, 3) := by decide +kernel
theorem dX11_best_34 : decode cX11_best 34 = .ok (.aload_n 0, 1) := by decide +kernel
theorem dX11_best_35 : decode cX11_best 35 = .ok (.iload_n 3, 1) := by decide +kernel
theorem dX11_best_36 : decode cX11_best 36 = .ok (.bipush 10, 2) := by decide +kernel
theorem dX11_best_38 : decode cX11_best 38 = .ok (.idiv, 1) := by decide +kernel
theorem dX11_best_39 : decode cX11_best 39 = .ok (.iload_n 3, 1) := by decide +kernel
theorem dX11_best_40 : decode cX11_best 40 = .ok (.bipush 10, 2) := by decide +kernel
theorem dX11_best_42 : decode cX11_best 42 = .ok (.irem, 1) := by decide +kernel
theorem dX11_best_43 : decode cX11_best 43 = .ok (.invokevirtual 344, 3) := by decide +kernel
theorem dX11_best_46 : decode cX11_best 46 = .ok (.ifCond .ne 6, 3) := by decide +kernel
theorem dX11_best_49 : decode cX11_best 49 = .ok (.goto 74, 3) := by decide +kernel
theorem dX11_best_52 : decode cX11_best 52 = .ok (.iconst 0, 1) := by decide +kernel
theorem dX11_best_53 : decode cX11_best 53 = .ok (.istore 4, 2) := by decide +kernel
theorem dX11_best_55 : decode cX11_best 55 = .ok (.iconst 0, 1) := by decide +kernel
theorem dX11_best_56 : decode cX11_best 56 = .ok (.istore 5, 2) := by decide +kernel
theorem dX11_best_58 : decode cX11_best 58 = .ok (.iload 5, 2) := by decide +kernel
theorem dX11_best_60 : decode cX11_best 60 = .ok (.bipush 20, 2) := by decide +kernel
theorem dX11_best_62 : decode cX11_best 62 = .ok (.if_icmp .ge 53, 3) := by decide +kernel
theorem dX11_best_65 : decode cX11_best 65 = .ok (.iload 4, 2) := by decide +kernel
theorem dX11_best_67 : decode cX11_best 67 = .ok (.iload 5, 2) := by decide +kernel
theorem dX11_best_69 : decode cX11_best 69 = .ok (.iload_n 3, 1) := by decide +kernel
theorem dX11_best_70 : decode cX11_best 70 = .ok (.if_icmp .eq 35, 3) := by decide +kernel
theorem dX11_best_73 : decode cX11_best 73 = .ok (.aload_n 0, 1) := by decide +kernel
theorem dX11_best_74 : decode cX11_best 74 = .ok (.iload 5, 2) := by decide +kernel
theorem dX11_best_76 : decode cX11_best 76 = .ok (.bipush 10, 2) := by decide +kernel
theorem dX11_best_78 : decode cX11_best 78 = .ok (.idiv, 1) := by decide +kernel
theorem dX11_best_79 : decode cX11_best 79 = .ok (.iload 5, 2) := by decide +kernel
theorem dX11_best_81 : decode cX11_best 81 = .ok (.bipush 10, 2) := by decide +kernel
theorem dX11_best_83 : decode cX11_best 83 = .ok (.irem, 1) := by decide +kernel
theorem dX11_best_84 : decode cX11_best 84 = .ok (.invokevirtual 344, 3) := by decide +kernel
theorem dX11_best_87 : decode cX11_best 87 = .ok (.ifCond .eq 18, 3) := by decide +kernel
theorem dX11_best_90 : decode cX11_best 90 = .ok (.aload_n 0, 1) := by decide +kernel
theorem dX11_best_91 : decode cX11_best 91 = .ok (.iload 5, 2) := by decide +kernel
theorem dX11_best_93 : decode cX11_best 93 = .ok (.iload_n 3, 1) := by decide +kernel
theorem dX11_best_94 : decode cX11_best 94 = .ok (.iload_n 1, 1) := by decide +kernel
theorem dX11_best_95 : decode cX11_best 95 = .ok (.invokevirtual 391, 3) := by decide +kernel
theorem dX11_best_98 : decode cX11_best 98 = .ok (.ifCond .eq 7, 3) := by decide +kernel
theorem dX11_best_101 : decode cX11_best 101 = .ok (.iconst 1, 1) := by decide +kernel
theorem dX11_best_102 : decode cX11_best 102 = .ok (.goto 4, 3) := by decide +kernel
theorem dX11_best_105 : decode cX11_best 105 = .ok (.iconst 0, 1) := by decide +kernel
theorem dX11_best_106 : decode cX11_best 106 = .ok (.iadd, 1) := by decide +kernel
theorem dX11_best_107 : decode cX11_best 107 = .ok (.istore 4, 2) := by decide +kernel
theorem dX11_best_109 : decode cX11_best 109 = .ok (.iinc 5 1, 3) := by decide +kernel
theorem dX11_best_112 : decode cX11_best 112 = .ok (.goto (-54), 3) := by decide +kernel
theorem dX11_best_115 : decode cX11_best 115 = .ok (.iload 4, 2) := by decide +kernel
theorem dX11_best_117 : decode cX11_best 117 = .ok (.iload_n 2, 1) := by decide +kernel
theorem dX11_best_118 : decode cX11_best 118 = .ok (.if_icmp .ne 5, 3) := by decide +kernel
theorem dX11_best_121 : decode cX11_best 121 = .ok (.iload_n 3, 1) := by decide +kernel
theorem dX11_best_122 : decode cX11_best 122 = .ok (.ireturn, 1) := by decide +kernel
theorem dX11_best_123 : decode cX11_best 123 = .ok (.iinc 3 1, 3) := by decide +kernel
theorem dX11_best_126 : decode cX11_best 126 = .ok (.goto (-98), 3) := by decide +kernel
theorem dX11_best_129 : decode cX11_best 129 = .ok (.iconst (-1), 1) := by decide +kernel
theorem dX11_best_130 : decode cX11_best 130 = .ok (.ireturn, 1) := by decide +kernel
def fX11_best_l58 (p0 : Nat) (p1 : Int32) (p2 : Int32) (p3 : Int32) (K : Int32 → Int32 → xMem → Option (Int32 × xMem)) : Nat → Int32 → Int32 → xMem → Option (Int32 × xMem)
  | 0, _, _, _ => none
  | n + 1, v4, v5, M => if (nI 20) ≤ v5 then (K v4 v5 M) else (xLt (fun (s7 : Int32) (M8 : xMem) => (xLt (v4 + s7) fun x9 => xLt (v5 + nI 1) fun x10 => fX11_best_l58 p0 p1 p2 p3 K n x9 x10 M8 : Option (Int32 × xMem))) fun J106 => if v5 = p3 then (J106 (nI 0) M) else (xBn (fX11_isOne p0 (v5 / (nI 10)) (v5 - v5 / (nI 10) * (nI 10)) M) fun r11 M12 => if r11 = 0 then (J106 (nI 0) M12) else (xBn (fX11_isAhead p0 v5 p3 p1 M12) fun r13 M14 => if r13 = 0 then (J106 (nI 0) M14) else (J106 (nI 1) M14))))
def fX11_best_l28 (p0 : Nat) (p1 : Int32) (p2 : Int32) (K : Int32 → xMem → Option (Int32 × xMem)) : Nat → Int32 → xMem → Option (Int32 × xMem)
  | 0, _, _ => none
  | n + 1, v3, M => if (nI 20) ≤ v3 then (K v3 M) else (xBn (fX11_isOne p0 (v3 / (nI 10)) (v3 - v3 / (nI 10) * (nI 10)) M) fun r5 M6 => if r5 = 0 then (xLt (v3 + nI 1) fun x19 => fX11_best_l28 p0 p1 p2 K n x19 M6) else (fX11_best_l58 p0 p1 p2 v3 (fun (v15 : Int32) (v16 : Int32) (M17 : xMem) => if v15 = p2 then (some (v3, M17)) else (xLt (v3 + nI 1) fun x18 => fX11_best_l28 p0 p1 p2 K n x18 M17)) xFU (nI 0) (nI 0) M6))
def fX11_best (a0 : Nat) (a1 : Int32) (a2 : Int32) (M : xMem) : Option (Int32 × xMem) :=
  xBn (fX11_isThere a0 M) fun r1 M2 => if r1 = 0 then (some ((-2), M2)) else (xBn (fX11_in (Int32.toInt64 a1) (lN 0) (lN 6) M2) fun r3 M4 => if r3 = 0 then (some ((-2), M4)) else (if 0 ≤ a2 then (fX11_best_l28 a0 a1 a2 (fun (v20 : Int32) (M21 : xMem) => some ((-1), M21)) xFU (nI 0) M4) else (some ((-2), M4))))
set_option maxRecDepth 100000 in
set_option maxHeartbeats 4000000 in
theorem lX11_best_58 {X : xCX} {r : Int32} {M' : xMem} (C : xCk X cX11_best RX11 7) (R0 : xRk X (some .int) (some (.int r), M')) (hnL : X.2.2.2.2.2.2.2.2.2.2.2.2.2 = 6) (p0 : Nat) (hp0 : xkd p0 = 11) (p1 : Int32) (p2 : Int32) (p3 : Int32) (K : Int32 → Int32 → xMem → Option (Int32 × xMem)) (hK : ∀ (v4 : Int32) (v5 : Int32) (M : xMem), K v4 v5 M = some (r, M') → WW X 115 [some (vr X.1 p0), some (.int p1), some (.int p2), some (.int p3), some (.int v4), some (.int v5)] [] M) : ∀ (n : Nat) (v4 : Int32) (v5 : Int32) (M : xMem), fX11_best_l58 p0 p1 p2 p3 K n v4 v5 M = some (r, M') → WW X 58 [some (vr X.1 p0), some (.int p1), some (.int p2), some (.int p3), some (.int v4), some (.int v5)] [] M := by
  have hn3 : 3 < X.2.2.2.2.2.2.2.2.2.2.2.2.2 := by rw [hnL]; decide
  have hn4 : 4 < X.2.2.2.2.2.2.2.2.2.2.2.2.2 := by rw [hnL]; decide
  have hn5 : 5 < X.2.2.2.2.2.2.2.2.2.2.2.2.2 := by rw [hnL]; decide
  intro n
  induction n with
  | zero =>
    intro v4 v5 M h
    cases (show (none : Option (Int32 × xMem)) = some (r, M') from h)
  | succ n ih =>
    intro v4 v5 M h
    rw [fX11_best_l58.eq_2] at h
    refine r_iload (pc := 58) C dX11_best_58 rfl ?_
    refine r_bipush (pc := 60) (v := (nI 20)) C dX11_best_60 (by decide) ?_
    refine r_icmp_ge (pc := 62) (tgt := 115) C dX11_best_62 (by decide) h (fun _ h => ?_) (fun _ h => ?_)
    · exact hK v4 v5 M h
    · refine r_iload (pc := 65) C dX11_best_65 rfl ?_
      refine r_iload (pc := 67) C dX11_best_67 rfl ?_
      refine r_iload_n (pc := 69) C dX11_best_69 rfl rfl ?_
      refine r_jn (fun J => ∀ (s7 : Int32) (M8 : xMem) , J s7 M8 = some (r, M') → WW X 106 [some (vr X.1 p0), some (.int p1), some (.int p2), some (.int p3), some (.int v4), some (.int v5)] [.int s7, .int v4] M8) h (fun s7 M8  h => ?_) (fun J106 hJ106 h => ?_)
      · refine r_iadd (pc := 106) C dX11_best_106 ?_
        refine r_letI h (fun x9 h => ?_)
        refine r_istore (pc := 107) (lv' := [_, _, _, _, _, _]) C dX11_best_107 hn4 rfl ?_
        refine r_iincL (pc := 109) (c := nI 1) C dX11_best_109 rfl (by decide) hn5 h (fun x10 h => ?_)
        refine r_lvE (lv' := [_, _, _, _, _, _]) rfl ?_
        refine r_goto (pc := 112) (tgt := 58) C dX11_best_112 (by decide) ?_
        exact ih x9 x10 M8 h
      refine r_icmp_eq (pc := 70) (tgt := 105) C dX11_best_70 (by decide) h (fun _ h => ?_) (fun _ h => ?_)
      · refine r_iconst (pc := 105) (v := (nI 0)) C dX11_best_105 (by decide) ?_
        exact hJ106 (nI 0) M  h
      · refine r_aload_n (pc := 73) C dX11_best_73 rfl rfl ?_
        refine r_iload (pc := 74) C dX11_best_74 rfl ?_
        refine r_bipush (pc := 76) (v := (nI 10)) C dX11_best_76 (by decide) ?_
        refine r_idiv (pc := 78) C (by decide) dX11_best_78 ?_
        refine r_iload (pc := 79) C dX11_best_79 rfl ?_
        refine r_bipush (pc := 81) (v := (nI 10)) C dX11_best_81 (by decide) ?_
        refine r_irem (pc := 83) C (by decide) dX11_best_83 ?_
        refine r_vI2 (pc := 84) C (fun r M' e => zX11_isOne X.1 p0 hp0 (v5 / (nI 10)) (v5 - v5 / (nI 10) * (nI 10)) M r M' e) hp0 (by decide) rfl mX11_isOne lX11_344 (by decide) (Nat.le_of_ble_eq_true rfl) dX11_best_84 h (fun r11 M12 h => ?_)
        refine r_if_eq (pc := 87) (tgt := 105) C dX11_best_87 (by decide) h (fun _ h => ?_) (fun _ h => ?_)
        · refine r_iconst (pc := 105) (v := (nI 0)) C dX11_best_105 (by decide) ?_
          exact hJ106 (nI 0) M12  h
        · refine r_aload_n (pc := 90) C dX11_best_90 rfl rfl ?_
          refine r_iload (pc := 91) C dX11_best_91 rfl ?_
          refine r_iload_n (pc := 93) C dX11_best_93 rfl rfl ?_
          refine r_iload_n (pc := 94) C dX11_best_94 rfl rfl ?_
          refine r_vI3 (pc := 95) C (fun r M' e => zX11_isAhead X.1 p0 hp0 v5 p3 p1 M12 r M' e) hp0 (by decide) rfl mX11_isAhead lX11_391 (by decide) (Nat.le_of_ble_eq_true rfl) dX11_best_95 h (fun r13 M14 h => ?_)
          refine r_if_eq (pc := 98) (tgt := 105) C dX11_best_98 (by decide) h (fun _ h => ?_) (fun _ h => ?_)
          · refine r_iconst (pc := 105) (v := (nI 0)) C dX11_best_105 (by decide) ?_
            exact hJ106 (nI 0) M14  h
          · refine r_iconst (pc := 101) (v := (nI 1)) C dX11_best_101 (by decide) ?_
            refine r_goto (pc := 102) (tgt := 106) C dX11_best_102 (by decide) ?_
            exact hJ106 (nI 1) M14  h
set_option maxRecDepth 100000 in
set_option maxHeartbeats 4000000 in
theorem lX11_best_28 {X : xCX} {r : Int32} {M' : xMem} (C : xCk X cX11_best RX11 7) (R0 : xRk X (some .int) (some (.int r), M')) (hnL : X.2.2.2.2.2.2.2.2.2.2.2.2.2 = 6) (p0 : Nat) (hp0 : xkd p0 = 11) (p1 : Int32) (p2 : Int32) (K : Int32 → xMem → Option (Int32 × xMem)) (hK : ∀ (v3 : Int32) (M : xMem), K v3 M = some (r, M') → WW X 129 [some (vr X.1 p0), some (.int p1), some (.int p2), some (.int v3), none, none] [] M) : ∀ (n : Nat) (v3 : Int32) (M : xMem), fX11_best_l28 p0 p1 p2 K n v3 M = some (r, M') → WW X 28 [some (vr X.1 p0), some (.int p1), some (.int p2), some (.int v3), none, none] [] M := by
  have hn3 : 3 < X.2.2.2.2.2.2.2.2.2.2.2.2.2 := by rw [hnL]; decide
  have hn4 : 4 < X.2.2.2.2.2.2.2.2.2.2.2.2.2 := by rw [hnL]; decide
  have hn5 : 5 < X.2.2.2.2.2.2.2.2.2.2.2.2.2 := by rw [hnL]; decide
  intro n
  induction n with
  | zero =>
    intro v3 M h
    cases (show (none : Option (Int32 × xMem)) = some (r, M') from h)
  | succ n ih =>
    intro v3 M h
    rw [fX11_best_l28.eq_2] at h
    refine r_iload_n (pc := 28) C dX11_best_28 rfl rfl ?_
    refine r_bipush (pc := 29) (v := (nI 20)) C dX11_best_29 (by decide) ?_
    refine r_icmp_ge (pc := 31) (tgt := 129) C dX11_best_31 (by decide) h (fun _ h => ?_) (fun _ h => ?_)
    · exact hK v3 M h
    · refine r_aload_n (pc := 34) C dX11_best_34 rfl rfl ?_
      refine r_iload_n (pc := 35) C dX11_best_35 rfl rfl ?_
      refine r_bipush (pc := 36) (v := (nI 10)) C dX11_best_36 (by decide) ?_
      refine r_idiv (pc := 38) C (by decide) dX11_best_38 ?_
      refine r_iload_n (pc := 39) C dX11_best_39 rfl rfl ?_
      refine r_bipush (pc := 40) (v := (nI 10)) C dX11_best_40 (by decide) ?_
      refine r_irem (pc := 42) C (by decide) dX11_best_42 ?_
      refine r_vI2 (pc := 43) C (fun r M' e => zX11_isOne X.1 p0 hp0 (v3 / (nI 10)) (v3 - v3 / (nI 10) * (nI 10)) M r M' e) hp0 (by decide) rfl mX11_isOne lX11_344 (by decide) (Nat.le_of_ble_eq_true rfl) dX11_best_43 h (fun r5 M6 h => ?_)
      refine r_if_ne (pc := 46) (tgt := 52) C dX11_best_46 (by decide) h (fun _ h => ?_) (fun _ h => ?_)
      · refine r_iconst (pc := 52) (v := (nI 0)) C dX11_best_52 (by decide) ?_
        refine r_istore (pc := 53) (lv' := [_, _, _, _, _, _]) C dX11_best_53 hn4 rfl ?_
        refine r_iconst (pc := 55) (v := (nI 0)) C dX11_best_55 (by decide) ?_
        refine r_istore (pc := 56) (lv' := [_, _, _, _, _, _]) C dX11_best_56 hn5 rfl ?_
        refine lX11_best_58 C R0 hnL p0 hp0 p1 p2 v3 _ (fun v15 v16 M17 h => ?_) _ _ _ _ h
        refine r_iload (pc := 115) C dX11_best_115 rfl ?_
        refine r_iload_n (pc := 117) C dX11_best_117 rfl rfl ?_
        refine r_icmp_ne (pc := 118) (tgt := 123) C dX11_best_118 (by decide) h (fun _ h => ?_) (fun _ h => ?_)
        · refine r_iincL (pc := 123) (c := nI 1) C dX11_best_123 rfl (by decide) hn3 h (fun x18 h => ?_)
          refine r_lvE (lv' := [_, _, _, _, _, _]) rfl ?_
          refine r_goto (pc := 126) (tgt := 28) C dX11_best_126 (by decide) ?_
          exact r_lv (xle_at (xle_some rfl (xle_some rfl (xle_some rfl (xle_some rfl (xle_none (xle_none xle_nil))))))) (ih x18 M17 h)
        · refine r_iload_n (pc := 121) C dX11_best_121 rfl rfl ?_
          exact r_iret (pc := 122) C R0 h dX11_best_122
      · refine r_goto (pc := 49) (tgt := 123) C dX11_best_49 (by decide) ?_
        refine r_iincL (pc := 123) (c := nI 1) C dX11_best_123 rfl (by decide) hn3 h (fun x19 h => ?_)
        refine r_lvE (lv' := [_, _, _, _, _, _]) rfl ?_
        refine r_goto (pc := 126) (tgt := 28) C dX11_best_126 (by decide) ?_
        exact ih x19 M6 h
set_option maxRecDepth 100000 in
set_option maxHeartbeats 4000000 in
theorem zX11_best (G : xGX) (a0 : Nat) (h0 : xkd a0 = 11) (a1 : Int32) (a2 : Int32) (M : xMem) (r : Int32) (M' : xMem) (h : fX11_best a0 a1 a2 M = some (r, M')) : xCt G yX11_best cX11_best 6 (some .int) 7 [vr G a0, .int a1, .int a2] M (some (.int r), M') := by
  refine xMet (lv := [some (vr G a0), some (.int a1), some (.int a2), none, none, none]) (by decide) (Nat.le_of_ble_eq_true rfl) rfl ?_
  intro X hG hnL C R0
  subst hG
  have C : xCk X cX11_best RX11 7 := C
  have hn3 : 3 < X.2.2.2.2.2.2.2.2.2.2.2.2.2 := by rw [hnL]; decide
  have hn4 : 4 < X.2.2.2.2.2.2.2.2.2.2.2.2.2 := by rw [hnL]; decide
  have hn5 : 5 < X.2.2.2.2.2.2.2.2.2.2.2.2.2 := by rw [hnL]; decide
  unfold fX11_best at h
  refine r_aload_n (pc := 0) C dX11_best_0 rfl rfl ?_
  refine r_vI0 (pc := 1) C (fun r M' e => zX11_isThere X.1 a0 h0 M r M' e) h0 (by decide) rfl mX11_isThere lX11_47 (by decide) (Nat.le_of_ble_eq_true rfl) dX11_best_1 h (fun r1 M2 h => ?_)
  refine r_if_eq (pc := 4) (tgt := 23) C dX11_best_4 (by decide) h (fun _ h => ?_) (fun _ h => ?_)
  · refine r_bipush (pc := 23) (v := (-2)) C dX11_best_23 (by decide) ?_
    exact r_iret (pc := 25) C R0 h dX11_best_25
  · refine r_iload_n (pc := 7) C dX11_best_7 rfl rfl ?_
    refine r_i2l (pc := 8) C dX11_best_8 ?_
    refine r_lconst (pc := 9) (v := lN 0) C dX11_best_9 rfl ?_
    refine r_ldc2 (pc := 10) C nX11_129 dX11_best_10 ?_
    refine r_sI3 (pc := 13) C (fun r M' e => zX11_in X.1 (Int32.toInt64 a1) (lN 0) (lN 6) M2 r M' e) mX11_in lX11_51 (by decide) (Nat.le_of_ble_eq_true rfl) dX11_best_13 h (fun r3 M4 h => ?_)
    refine r_if_eq (pc := 16) (tgt := 23) C dX11_best_16 (by decide) h (fun _ h => ?_) (fun _ h => ?_)
    · refine r_bipush (pc := 23) (v := (-2)) C dX11_best_23 (by decide) ?_
      exact r_iret (pc := 25) C R0 h dX11_best_25
    · refine r_iload_n (pc := 19) C dX11_best_19 rfl rfl ?_
      refine r_if_ge (pc := 20) (tgt := 26) C dX11_best_20 (by decide) h (fun _ h => ?_) (fun _ h => ?_)
      · refine r_iconst (pc := 26) (v := (nI 0)) C dX11_best_26 (by decide) ?_
        refine r_istore_n (pc := 27) (lv' := [_, _, _, _, _, _]) C dX11_best_27 rfl hn3 rfl ?_
        refine lX11_best_28 C R0 hnL a0 h0 a1 a2 _ (fun v20 M21 h => ?_) _ _ _ h
        refine r_iconst (pc := 129) (v := (-1)) C dX11_best_129 (by decide) ?_
        exact r_iret (pc := 130) C R0 h dX11_best_130
      · refine r_bipush (pc := 23) (v := (-2)) C dX11_best_23 (by decide) ?_
        exact r_iret (pc := 25) C R0 h dX11_best_25
theorem dX11_rate_0 : decode cX11_rate 0 = .ok (.aload_n 0, 1) := by decide +kernel
theorem dX11_rate_1 : decode cX11_rate 1 = .ok (.iload_n 1, 1) := by decide +kernel
theorem dX11_rate_2 : decode cX11_rate 2 = .ok (.iload_n 2, 1) := by decide +kernel
theorem dX11_rate_3 : decode cX11_rate 3 = .ok (.invokevirtual 344, 3) := by decide +kernel
theorem dX11_rate_6 : decode cX11_rate 6 = .ok (.ifCond .eq 15, 3) := by decide +kernel
theorem dX11_rate_9 : decode cX11_rate 9 = .ok (.iload_n 3, 1) := by decide +kernel
theorem dX11_rate_10 : decode cX11_rate 10 = .ok (.i2l, 1) := by decide +kernel
theorem dX11_rate_11 : decode cX11_rate 11 = .ok (.lconst 0, 1) := by decide +kernel
theorem dX11_rate_12 : decode cX11_rate 12 = .ok (.ldc2_w 129, 3) := by decide +kernel
theorem dX11_rate_15 : decode cX11_rate 15 = .ok (.invokestatic 51, 3) := by decide +kernel
theorem dX11_rate_18 : decode cX11_rate 18 = .ok (.ifCond .ne 6, 3) := by decide +kernel
theorem dX11_rate_21 : decode cX11_rate 21 = .ok (.bipush (-2), 2) := by decide +kernel
theorem dX11_rate_23 : decode cX11_rate 23 = .ok (.ireturn, 1) := by decide +kernel
theorem dX11_rate_24 : decode cX11_rate 24 = .ok (.aload_n 0, 1) := by decide +kernel
theorem dX11_rate_25 : decode cX11_rate 25 = .ok (.iload_n 1, 1) := by decide +kernel
theorem dX11_rate_26 : decode cX11_rate 26 = .ok (.iload_n 2, 1) := by decide +kernel
theorem dX11_rate_27 : decode cX11_rate 27 = .ok (.iconst 0, 1) := by decide +kernel
theorem dX11_rate_28 : decode cX11_rate 28 = .ok (.invokevirtual 375, 3) := by decide +kernel
theorem dX11_rate_31 : decode cX11_rate 31 = .ok (.istore 5, 2) := by decide +kernel
theorem dX11_rate_33 : decode cX11_rate 33 = .ok (.aload_n 0, 1) := by decide +kernel
theorem dX11_rate_34 : decode cX11_rate 34 = .ok (.iload_n 1, 1) := by decide +kernel
theorem dX11_rate_35 : decode cX11_rate 35 = .ok (.iload_n 2, 1) := by decide +kernel
theorem dX11_rate_36 : decode cX11_rate 36 = .ok (.iload_n 3, 1) := by decide +kernel
theorem dX11_rate_37 : decode cX11_rate 37 = .ok (.invokevirtual 375, 3) := by decide +kernel
theorem dX11_rate_40 : decode cX11_rate 40 = .ok (.i2l, 1) := by decide +kernel
theorem dX11_rate_41 : decode cX11_rate 41 = .ok (.iload 4, 2) := by decide +kernel
theorem dX11_rate_43 : decode cX11_rate 43 = .ok (.i2l, 1) := by decide +kernel
theorem dX11_rate_44 : decode cX11_rate 44 = .ok (.lmul, 1) := by decide +kernel
theorem dX11_rate_45 : decode cX11_rate 45 = .ok (.lstore 6, 2) := by decide +kernel
theorem dX11_rate_47 : decode cX11_rate 47 = .ok (.iload 5, 2) := by decide +kernel
theorem dX11_rate_49 : decode cX11_rate 49 = .ok (.ifCond .eq 13, 3) := by decide +kernel
theorem dX11_rate_52 : decode cX11_rate 52 = .ok (.lload 6, 2) := by decide +kernel
theorem dX11_rate_54 : decode cX11_rate 54 = .ok (.lload 6, 2) := by decide +kernel
theorem dX11_rate_56 : decode cX11_rate 56 = .ok (.l2i, 1) := by decide +kernel
theorem dX11_rate_57 : decode cX11_rate 57 = .ok (.i2l, 1) := by decide +kernel
theorem dX11_rate_58 : decode cX11_rate 58 = .ok (.lcmp, 1) := by decide +kernel
theorem dX11_rate_59 : decode cX11_rate 59 = .ok (.ifCond .eq 7, 3) := by decide +kernel
theorem dX11_rate_62 : decode cX11_rate 62 = .ok (.iconst (-1), 1) := by decide +kernel
theorem dX11_rate_63 : decode cX11_rate 63 = .ok (.goto 10, 3) := by decide +kernel
theorem dX11_rate_66 : decode cX11_rate 66 = .ok (.lload 6, 2) := by decide +kernel
theorem dX11_rate_68 : decode cX11_rate 68 = .ok (.iload 5, 2) := by decide +kernel
theorem dX11_rate_70 : decode cX11_rate 70 = .ok (.i2l, 1) := by decide +kernel
theorem dX11_rate_71 : decode cX11_rate 71 = .ok (.ldiv, 1) := by decide +kernel
theorem dX11_rate_72 : decode cX11_rate 72 = .ok (.l2i, 1) := by decide +kernel
theorem dX11_rate_73 : decode cX11_rate 73 = .ok (.ireturn, 1) := by decide +kernel
def fX11_rate (a0 : Nat) (a1 : Int32) (a2 : Int32) (a3 : Int32) (a4 : Int32) (M : xMem) : Option (Int32 × xMem) :=
  xBn (fX11_isOne a0 a1 a2 M) fun r1 M2 => if r1 = 0 then (some ((-2), M2)) else (xBn (fX11_in (Int32.toInt64 a3) (lN 0) (lN 6) M2) fun r3 M4 => if r3 = 0 then (some ((-2), M4)) else (xBn (fX11_ofOne a0 a1 a2 (nI 0) M4) fun r5 M6 => xBn (fX11_ofOne a0 a1 a2 a3 M6) fun r7 M8 => xLt ((Int32.toInt64 r7) * (Int32.toInt64 a4)) fun x9 => if r5 = 0 then (some ((-1), M8)) else (if (lg_cmp x9 (Int32.toInt64 (Int64.toInt32 x9))) = 0 then (xGd (¬ (Int32.toInt64 r5) = 0) (some ((Int64.toInt32 (x9 / (Int32.toInt64 r5))), M8))) else (some ((-1), M8)))))
set_option maxRecDepth 100000 in
set_option maxHeartbeats 4000000 in
theorem zX11_rate (G : xGX) (a0 : Nat) (h0 : xkd a0 = 11) (a1 : Int32) (a2 : Int32) (a3 : Int32) (a4 : Int32) (M : xMem) (r : Int32) (M' : xMem) (h : fX11_rate a0 a1 a2 a3 a4 M = some (r, M')) : xCt G yX11_rate cX11_rate 8 (some .int) 6 [vr G a0, .int a1, .int a2, .int a3, .int a4] M (some (.int r), M') := by
  refine xMet (lv := [some (vr G a0), some (.int a1), some (.int a2), some (.int a3), some (.int a4), none, none, none]) (by decide) (Nat.le_of_ble_eq_true rfl) rfl ?_
  intro X hG hnL C R0
  subst hG
  have C : xCk X cX11_rate RX11 6 := C
  have hn5 : 5 < X.2.2.2.2.2.2.2.2.2.2.2.2.2 := by rw [hnL]; decide
  have hn6 : 6 + 1 < X.2.2.2.2.2.2.2.2.2.2.2.2.2 := by rw [hnL]; decide
  unfold fX11_rate at h
  refine r_aload_n (pc := 0) C dX11_rate_0 rfl rfl ?_
  refine r_iload_n (pc := 1) C dX11_rate_1 rfl rfl ?_
  refine r_iload_n (pc := 2) C dX11_rate_2 rfl rfl ?_
  refine r_vI2 (pc := 3) C (fun r M' e => zX11_isOne X.1 a0 h0 a1 a2 M r M' e) h0 (by decide) rfl mX11_isOne lX11_344 (by decide) (Nat.le_of_ble_eq_true rfl) dX11_rate_3 h (fun r1 M2 h => ?_)
  refine r_if_eq (pc := 6) (tgt := 21) C dX11_rate_6 (by decide) h (fun _ h => ?_) (fun _ h => ?_)
  · refine r_bipush (pc := 21) (v := (-2)) C dX11_rate_21 (by decide) ?_
    exact r_iret (pc := 23) C R0 h dX11_rate_23
  · refine r_iload_n (pc := 9) C dX11_rate_9 rfl rfl ?_
    refine r_i2l (pc := 10) C dX11_rate_10 ?_
    refine r_lconst (pc := 11) (v := lN 0) C dX11_rate_11 rfl ?_
    refine r_ldc2 (pc := 12) C nX11_129 dX11_rate_12 ?_
    refine r_sI3 (pc := 15) C (fun r M' e => zX11_in X.1 (Int32.toInt64 a3) (lN 0) (lN 6) M2 r M' e) mX11_in lX11_51 (by decide) (Nat.le_of_ble_eq_true rfl) dX11_rate_15 h (fun r3 M4 h => ?_)
    refine r_if_ne (pc := 18) (tgt := 24) C dX11_rate_18 (by decide) h (fun _ h => ?_) (fun _ h => ?_)
    · refine r_aload_n (pc := 24) C dX11_rate_24 rfl rfl ?_
      refine r_iload_n (pc := 25) C dX11_rate_25 rfl rfl ?_
      refine r_iload_n (pc := 26) C dX11_rate_26 rfl rfl ?_
      refine r_iconst (pc := 27) (v := (nI 0)) C dX11_rate_27 (by decide) ?_
      refine r_vI3 (pc := 28) C (fun r M' e => zX11_ofOne X.1 a0 h0 a1 a2 (nI 0) M4 r M' e) h0 (by decide) rfl mX11_ofOne lX11_375 (by decide) (Nat.le_of_ble_eq_true rfl) dX11_rate_28 h (fun r5 M6 h => ?_)
      refine r_istore (pc := 31) (lv' := [_, _, _, _, _, _, _, _]) C dX11_rate_31 hn5 rfl ?_
      refine r_aload_n (pc := 33) C dX11_rate_33 rfl rfl ?_
      refine r_iload_n (pc := 34) C dX11_rate_34 rfl rfl ?_
      refine r_iload_n (pc := 35) C dX11_rate_35 rfl rfl ?_
      refine r_iload_n (pc := 36) C dX11_rate_36 rfl rfl ?_
      refine r_vI3 (pc := 37) C (fun r M' e => zX11_ofOne X.1 a0 h0 a1 a2 a3 M6 r M' e) h0 (by decide) rfl mX11_ofOne lX11_375 (by decide) (Nat.le_of_ble_eq_true rfl) dX11_rate_37 h (fun r7 M8 h => ?_)
      refine r_i2l (pc := 40) C dX11_rate_40 ?_
      refine r_iload (pc := 41) C dX11_rate_41 rfl ?_
      refine r_i2l (pc := 43) C dX11_rate_43 ?_
      refine r_lmul (pc := 44) C dX11_rate_44 ?_
      refine r_letL h (fun x9 h => ?_)
      refine r_lstore (pc := 45) (lv' := [_, _, _, _, _, _, _, _]) C dX11_rate_45 hn6 rfl ?_
      refine r_iload (pc := 47) C dX11_rate_47 rfl ?_
      refine r_if_eq (pc := 49) (tgt := 62) C dX11_rate_49 (by decide) h (fun _ h => ?_) (fun _ h => ?_)
      · refine r_iconst (pc := 62) (v := (-1)) C dX11_rate_62 (by decide) ?_
        refine r_goto (pc := 63) (tgt := 73) C dX11_rate_63 (by decide) ?_
        exact r_iret (pc := 73) C R0 h dX11_rate_73
      · refine r_lload (pc := 52) C dX11_rate_52 rfl ?_
        refine r_lload (pc := 54) C dX11_rate_54 rfl ?_
        refine r_l2i (pc := 56) C dX11_rate_56 ?_
        refine r_i2l (pc := 57) C dX11_rate_57 ?_
        refine r_lcmp (pc := 58) C dX11_rate_58 ?_
        refine r_if_eq (pc := 59) (tgt := 66) C dX11_rate_59 (by decide) h (fun _ h => ?_) (fun _ h => ?_)
        · refine r_lload (pc := 66) C dX11_rate_66 rfl ?_
          refine r_iload (pc := 68) C dX11_rate_68 rfl ?_
          refine r_i2l (pc := 70) C dX11_rate_70 ?_
          obtain ⟨g10, h⟩ := xGd_of h
          refine r_ldiv (pc := 71) C g10 dX11_rate_71 ?_
          refine r_l2i (pc := 72) C dX11_rate_72 ?_
          exact r_iret (pc := 73) C R0 h dX11_rate_73
        · refine r_iconst (pc := 62) (v := (-1)) C dX11_rate_62 (by decide) ?_
          refine r_goto (pc := 63) (tgt := 73) C dX11_rate_63 (by decide) ?_
          exact r_iret (pc := 73) C R0 h dX11_rate_73
    · refine r_bipush (pc := 21) (v := (-2)) C dX11_rate_21 (by decide) ?_
      exact r_iret (pc := 23) C R0 h dX11_rate_23
theorem dX11_met_0 : decode cX11_met 0 = .ok (.aload_n 0, 1) := by decide +kernel
theorem dX11_met_1 : decode cX11_met 1 = .ok (.iload_n 1, 1) := by decide +kernel
theorem dX11_met_2 : decode cX11_met 2 = .ok (.iload_n 2, 1) := by decide +kernel
theorem dX11_met_3 : decode cX11_met 3 = .ok (.invokevirtual 344, 3) := by decide +kernel
theorem dX11_met_6 : decode cX11_met 6 = .ok (.ifCond .eq 25, 3) := by decide +kernel
theorem dX11_met_9 : decode cX11_met 9 = .ok (.aload_n 0, 1) := by decide +kernel
theorem dX11_met_10 : decode cX11_met 10 = .ok (.iconst 1, 1) := by decide +kernel
theorem dX11_met_11 : decode cX11_met 11 = .ok (.iload_n 1, 1) := by decide +kernel
theorem dX11_met_12 : decode cX11_met 12 = .ok (.isub, 1) := by decide +kernel
theorem dX11_met_13 : decode cX11_met 13 = .ok (.iload_n 3, 1) := by decide +kernel
theorem dX11_met_14 : decode cX11_met 14 = .ok (.invokevirtual 344, 3) := by decide +kernel
theorem dX11_met_17 : decode cX11_met 17 = .ok (.ifCond .eq 14, 3) := by decide +kernel
theorem dX11_met_20 : decode cX11_met 20 = .ok (.iload 4, 2) := by decide +kernel
theorem dX11_met_22 : decode cX11_met 22 = .ok (.i2l, 1) := by decide +kernel
theorem dX11_met_23 : decode cX11_met 23 = .ok (.lconst 0, 1) := by decide +kernel
theorem dX11_met_24 : decode cX11_met 24 = .ok (.lconst 1, 1) := by decide +kernel
theorem dX11_met_25 : decode cX11_met 25 = .ok (.invokestatic 51, 3) := by decide +kernel
theorem dX11_met_28 : decode cX11_met 28 = .ok (.ifCond .ne 6, 3) := by decide +kernel
theorem dX11_met_31 : decode cX11_met 31 = .ok (.bipush (-2), 2) := by decide +kernel
theorem dX11_met_33 : decode cX11_met 33 = .ok (.ireturn, 1) := by decide +kernel
theorem dX11_met_34 : decode cX11_met 34 = .ok (.iconst 0, 1) := by decide +kernel
theorem dX11_met_35 : decode cX11_met 35 = .ok (.istore 5, 2) := by decide +kernel
theorem dX11_met_37 : decode cX11_met 37 = .ok (.iconst 0, 1) := by decide +kernel
theorem dX11_met_38 : decode cX11_met 38 = .ok (.istore 6, 2) := by decide +kernel
theorem dX11_met_40 : decode cX11_met 40 = .ok (.iload 6, 2) := by decide +kernel
theorem dX11_met_42 : decode cX11_met 42 = .ok (.aload_n 0, 1) := by decide +kernel
theorem dX11_met_43 : decode cX11_met 43 = .ok (.bipush 25, 2) := by decide +kernel
theorem dX11_met_45 : decode cX11_met 45 = .ok (.invokevirtual 43, 3) := by decide +kernel
theorem dX11_met_48 : decode cX11_met 48 = .ok (.if_icmp .ge 64, 3) := by decide +kernel
theorem dX11_met_51 : decode cX11_met 51 = .ok (.iload 5, 2) := by decide +kernel
theorem dX11_met_53 : decode cX11_met 53 = .ok (.aload_n 0, 1) := by decide +kernel
theorem dX11_met_54 : decode cX11_met 54 = .ok (.iload 6, 2) := by decide +kernel
theorem dX11_met_56 : decode cX11_met 56 = .ok (.iload_n 1, 1) := by decide +kernel
theorem dX11_met_57 : decode cX11_met 57 = .ok (.iload_n 2, 1) := by decide +kernel
theorem dX11_met_58 : decode cX11_met 58 = .ok (.invokevirtual 350, 3) := by decide +kernel
theorem dX11_met_61 : decode cX11_met 61 = .ok (.ifCond .eq 41, 3) := by decide +kernel
theorem dX11_met_64 : decode cX11_met 64 = .ok (.iload 4, 2) := by decide +kernel
theorem dX11_met_66 : decode cX11_met 66 = .ok (.ifCond .ne 19, 3) := by decide +kernel
theorem dX11_met_69 : decode cX11_met 69 = .ok (.aload_n 0, 1) := by decide +kernel
theorem dX11_met_70 : decode cX11_met 70 = .ok (.iload 6, 2) := by decide +kernel
theorem dX11_met_72 : decode cX11_met 72 = .ok (.iconst 1, 1) := by decide +kernel
theorem dX11_met_73 : decode cX11_met 73 = .ok (.iload_n 1, 1) := by decide +kernel
theorem dX11_met_74 : decode cX11_met 74 = .ok (.isub, 1) := by decide +kernel
theorem dX11_met_75 : decode cX11_met 75 = .ok (.iload_n 3, 1) := by decide +kernel
theorem dX11_met_76 : decode cX11_met 76 = .ok (.invokevirtual 366, 3) := by decide +kernel
theorem dX11_met_79 : decode cX11_met 79 = .ok (.ifCond .eq 23, 3) := by decide +kernel
theorem dX11_met_82 : decode cX11_met 82 = .ok (.goto 16, 3) := by decide +kernel
theorem dX11_met_85 : decode cX11_met 85 = .ok (.aload_n 0, 1) := by decide +kernel
theorem dX11_met_86 : decode cX11_met 86 = .ok (.iload 6, 2) := by decide +kernel
theorem dX11_met_88 : decode cX11_met 88 = .ok (.iconst 1, 1) := by decide +kernel
theorem dX11_met_89 : decode cX11_met 89 = .ok (.iload_n 1, 1) := by decide +kernel
theorem dX11_met_90 : decode cX11_met 90 = .ok (.isub, 1) := by decide +kernel
theorem dX11_met_91 : decode cX11_met 91 = .ok (.iload_n 3, 1) := by decide +kernel
theorem dX11_met_92 : decode cX11_met 92 = .ok (.invokevirtual 357, 3) := by decide +kernel
theorem dX11_met_95 : decode cX11_met 95 = .ok (.ifCond .eq 7, 3) := by decide +kernel
theorem dX11_met_98 : decode cX11_met 98 = .ok (.iconst 1, 1) := by decide +kernel
theorem dX11_met_99 : decode cX11_met 99 = .ok (.goto 4, 3) := by decide +kernel
theorem dX11_met_102 : decode cX11_met 102 = .ok (.iconst 0, 1) := by decide +kernel
theorem dX11_met_103 : decode cX11_met 103 = .ok (.iadd, 1) := by decide +kernel
theorem dX11_met_104 : decode cX11_met 104 = .ok (.istore 5, 2) := by decide +kernel
theorem dX11_met_106 : decode cX11_met 106 = .ok (.iinc 6 1, 3) := by decide +kernel
theorem dX11_met_109 : decode cX11_met 109 = .ok (.goto (-69), 3) := by decide +kernel
theorem dX11_met_112 : decode cX11_met 112 = .ok (.iload 5, 2) := by decide +kernel
theorem dX11_met_114 : decode cX11_met 114 = .ok (.ireturn, 1) := by decide +kernel
def fX11_met_l40 (p0 : Nat) (p1 : Int32) (p2 : Int32) (p3 : Int32) (p4 : Int32) (K : Int32 → Int32 → xMem → Option (Int32 × xMem)) : Nat → Int32 → Int32 → xMem → Option (Int32 × xMem)
  | 0, _, _, _ => none
  | n + 1, v5, v6, M => xBn (fX11_get p0 (nI 25) M) fun r7 M8 => if r7 ≤ v6 then (K v5 v6 M8) else (xBn (fX11_isRaider p0 v6 p1 p2 M8) fun r9 M10 => xLt (fun (s11 : Int32) (M12 : xMem) => (xLt (v5 + s11) fun x13 => xLt (v6 + nI 1) fun x14 => fX11_met_l40 p0 p1 p2 p3 p4 K n x13 x14 M12 : Option (Int32 × xMem))) fun J103 => if r9 = 0 then (J103 (nI 0) M10) else (if p4 = 0 then (xBn (fX11_isTouched p0 v6 ((nI 1) - p1) p3 M10) fun r17 M18 => if r17 = 0 then (J103 (nI 0) M18) else (J103 (nI 1) M18)) else (xBn (fX11_isTackler p0 v6 ((nI 1) - p1) p3 M10) fun r15 M16 => if r15 = 0 then (J103 (nI 0) M16) else (J103 (nI 1) M16))))
def fX11_met (a0 : Nat) (a1 : Int32) (a2 : Int32) (a3 : Int32) (a4 : Int32) (M : xMem) : Option (Int32 × xMem) :=
  xBn (fX11_isOne a0 a1 a2 M) fun r1 M2 => if r1 = 0 then (some ((-2), M2)) else (xBn (fX11_isOne a0 ((nI 1) - a1) a3 M2) fun r3 M4 => if r3 = 0 then (some ((-2), M4)) else (xBn (fX11_in (Int32.toInt64 a4) (lN 0) (lN 1) M4) fun r5 M6 => if r5 = 0 then (some ((-2), M6)) else (fX11_met_l40 a0 a1 a2 a3 a4 (fun (v19 : Int32) (v20 : Int32) (M21 : xMem) => some (v19, M21)) xFU (nI 0) (nI 0) M6)))
set_option maxRecDepth 100000 in
set_option maxHeartbeats 4000000 in
theorem lX11_met_40 {X : xCX} {r : Int32} {M' : xMem} (C : xCk X cX11_met RX11 4) (R0 : xRk X (some .int) (some (.int r), M')) (hnL : X.2.2.2.2.2.2.2.2.2.2.2.2.2 = 7) (p0 : Nat) (hp0 : xkd p0 = 11) (p1 : Int32) (p2 : Int32) (p3 : Int32) (p4 : Int32) (K : Int32 → Int32 → xMem → Option (Int32 × xMem)) (hK : ∀ (v5 : Int32) (v6 : Int32) (M : xMem), K v5 v6 M = some (r, M') → WW X 112 [some (vr X.1 p0), some (.int p1), some (.int p2), some (.int p3), some (.int p4), some (.int v5), some (.int v6)] [] M) : ∀ (n : Nat) (v5 : Int32) (v6 : Int32) (M : xMem), fX11_met_l40 p0 p1 p2 p3 p4 K n v5 v6 M = some (r, M') → WW X 40 [some (vr X.1 p0), some (.int p1), some (.int p2), some (.int p3), some (.int p4), some (.int v5), some (.int v6)] [] M := by
  have hn5 : 5 < X.2.2.2.2.2.2.2.2.2.2.2.2.2 := by rw [hnL]; decide
  have hn6 : 6 < X.2.2.2.2.2.2.2.2.2.2.2.2.2 := by rw [hnL]; decide
  intro n
  induction n with
  | zero =>
    intro v5 v6 M h
    cases (show (none : Option (Int32 × xMem)) = some (r, M') from h)
  | succ n ih =>
    intro v5 v6 M h
    rw [fX11_met_l40.eq_2] at h
    refine r_iload (pc := 40) C dX11_met_40 rfl ?_
    refine r_aload_n (pc := 42) C dX11_met_42 rfl rfl ?_
    refine r_bipush (pc := 43) (v := (nI 25)) C dX11_met_43 (by decide) ?_
    refine r_vI1 (pc := 45) C (fun r M' e => zX11_get X.1 p0 hp0 (nI 25) M r M' e) hp0 (by decide) rfl mX11_get lX11_43 (by decide) (Nat.le_of_ble_eq_true rfl) dX11_met_45 h (fun r7 M8 h => ?_)
    refine r_icmp_ge (pc := 48) (tgt := 112) C dX11_met_48 (by decide) h (fun _ h => ?_) (fun _ h => ?_)
    · exact hK v5 v6 M8 h
    · refine r_iload (pc := 51) C dX11_met_51 rfl ?_
      refine r_aload_n (pc := 53) C dX11_met_53 rfl rfl ?_
      refine r_iload (pc := 54) C dX11_met_54 rfl ?_
      refine r_iload_n (pc := 56) C dX11_met_56 rfl rfl ?_
      refine r_iload_n (pc := 57) C dX11_met_57 rfl rfl ?_
      refine r_vI3 (pc := 58) C (fun r M' e => zX11_isRaider X.1 p0 hp0 v6 p1 p2 M8 r M' e) hp0 (by decide) rfl mX11_isRaider lX11_350 (by decide) (Nat.le_of_ble_eq_true rfl) dX11_met_58 h (fun r9 M10 h => ?_)
      refine r_jn (fun J => ∀ (s11 : Int32) (M12 : xMem) , J s11 M12 = some (r, M') → WW X 103 [some (vr X.1 p0), some (.int p1), some (.int p2), some (.int p3), some (.int p4), some (.int v5), some (.int v6)] [.int s11, .int v5] M12) h (fun s11 M12  h => ?_) (fun J103 hJ103 h => ?_)
      · refine r_iadd (pc := 103) C dX11_met_103 ?_
        refine r_letI h (fun x13 h => ?_)
        refine r_istore (pc := 104) (lv' := [_, _, _, _, _, _, _]) C dX11_met_104 hn5 rfl ?_
        refine r_iincL (pc := 106) (c := nI 1) C dX11_met_106 rfl (by decide) hn6 h (fun x14 h => ?_)
        refine r_lvE (lv' := [_, _, _, _, _, _, _]) rfl ?_
        refine r_goto (pc := 109) (tgt := 40) C dX11_met_109 (by decide) ?_
        exact ih x13 x14 M12 h
      refine r_if_eq (pc := 61) (tgt := 102) C dX11_met_61 (by decide) h (fun _ h => ?_) (fun _ h => ?_)
      · refine r_iconst (pc := 102) (v := (nI 0)) C dX11_met_102 (by decide) ?_
        exact hJ103 (nI 0) M10  h
      · refine r_iload (pc := 64) C dX11_met_64 rfl ?_
        refine r_if_ne (pc := 66) (tgt := 85) C dX11_met_66 (by decide) h (fun _ h => ?_) (fun _ h => ?_)
        · refine r_aload_n (pc := 85) C dX11_met_85 rfl rfl ?_
          refine r_iload (pc := 86) C dX11_met_86 rfl ?_
          refine r_iconst (pc := 88) (v := (nI 1)) C dX11_met_88 (by decide) ?_
          refine r_iload_n (pc := 89) C dX11_met_89 rfl rfl ?_
          refine r_isub (pc := 90) C dX11_met_90 ?_
          refine r_iload_n (pc := 91) C dX11_met_91 rfl rfl ?_
          refine r_vI3 (pc := 92) C (fun r M' e => zX11_isTackler X.1 p0 hp0 v6 ((nI 1) - p1) p3 M10 r M' e) hp0 (by decide) rfl mX11_isTackler lX11_357 (by decide) (Nat.le_of_ble_eq_true rfl) dX11_met_92 h (fun r15 M16 h => ?_)
          refine r_if_eq (pc := 95) (tgt := 102) C dX11_met_95 (by decide) h (fun _ h => ?_) (fun _ h => ?_)
          · refine r_iconst (pc := 102) (v := (nI 0)) C dX11_met_102 (by decide) ?_
            exact hJ103 (nI 0) M16  h
          · refine r_iconst (pc := 98) (v := (nI 1)) C dX11_met_98 (by decide) ?_
            refine r_goto (pc := 99) (tgt := 103) C dX11_met_99 (by decide) ?_
            exact hJ103 (nI 1) M16  h
        · refine r_aload_n (pc := 69) C dX11_met_69 rfl rfl ?_
          refine r_iload (pc := 70) C dX11_met_70 rfl ?_
          refine r_iconst (pc := 72) (v := (nI 1)) C dX11_met_72 (by decide) ?_
          refine r_iload_n (pc := 73) C dX11_met_73 rfl rfl ?_
          refine r_isub (pc := 74) C dX11_met_74 ?_
          refine r_iload_n (pc := 75) C dX11_met_75 rfl rfl ?_
          refine r_vI3 (pc := 76) C (fun r M' e => zX11_isTouched X.1 p0 hp0 v6 ((nI 1) - p1) p3 M10 r M' e) hp0 (by decide) rfl mX11_isTouched lX11_366 (by decide) (Nat.le_of_ble_eq_true rfl) dX11_met_76 h (fun r17 M18 h => ?_)
          refine r_if_eq (pc := 79) (tgt := 102) C dX11_met_79 (by decide) h (fun _ h => ?_) (fun _ h => ?_)
          · refine r_iconst (pc := 102) (v := (nI 0)) C dX11_met_102 (by decide) ?_
            exact hJ103 (nI 0) M18  h
          · refine r_goto (pc := 82) (tgt := 98) C dX11_met_82 (by decide) ?_
            refine r_iconst (pc := 98) (v := (nI 1)) C dX11_met_98 (by decide) ?_
            refine r_goto (pc := 99) (tgt := 103) C dX11_met_99 (by decide) ?_
            exact hJ103 (nI 1) M18  h
set_option maxRecDepth 100000 in
set_option maxHeartbeats 4000000 in
theorem zX11_met (G : xGX) (a0 : Nat) (h0 : xkd a0 = 11) (a1 : Int32) (a2 : Int32) (a3 : Int32) (a4 : Int32) (M : xMem) (r : Int32) (M' : xMem) (h : fX11_met a0 a1 a2 a3 a4 M = some (r, M')) : xCt G yX11_met cX11_met 7 (some .int) 4 [vr G a0, .int a1, .int a2, .int a3, .int a4] M (some (.int r), M') := by
  refine xMet (lv := [some (vr G a0), some (.int a1), some (.int a2), some (.int a3), some (.int a4), none, none]) (by decide) (Nat.le_of_ble_eq_true rfl) rfl ?_
  intro X hG hnL C R0
  subst hG
  have C : xCk X cX11_met RX11 4 := C
  have hn5 : 5 < X.2.2.2.2.2.2.2.2.2.2.2.2.2 := by rw [hnL]; decide
  have hn6 : 6 < X.2.2.2.2.2.2.2.2.2.2.2.2.2 := by rw [hnL]; decide
  unfold fX11_met at h
  refine r_aload_n (pc := 0) C dX11_met_0 rfl rfl ?_
  refine r_iload_n (pc := 1) C dX11_met_1 rfl rfl ?_
  refine r_iload_n (pc := 2) C dX11_met_2 rfl rfl ?_
  refine r_vI2 (pc := 3) C (fun r M' e => zX11_isOne X.1 a0 h0 a1 a2 M r M' e) h0 (by decide) rfl mX11_isOne lX11_344 (by decide) (Nat.le_of_ble_eq_true rfl) dX11_met_3 h (fun r1 M2 h => ?_)
  refine r_if_eq (pc := 6) (tgt := 31) C dX11_met_6 (by decide) h (fun _ h => ?_) (fun _ h => ?_)
  · refine r_bipush (pc := 31) (v := (-2)) C dX11_met_31 (by decide) ?_
    exact r_iret (pc := 33) C R0 h dX11_met_33
  · refine r_aload_n (pc := 9) C dX11_met_9 rfl rfl ?_
    refine r_iconst (pc := 10) (v := (nI 1)) C dX11_met_10 (by decide) ?_
    refine r_iload_n (pc := 11) C dX11_met_11 rfl rfl ?_
    refine r_isub (pc := 12) C dX11_met_12 ?_
    refine r_iload_n (pc := 13) C dX11_met_13 rfl rfl ?_
    refine r_vI2 (pc := 14) C (fun r M' e => zX11_isOne X.1 a0 h0 ((nI 1) - a1) a3 M2 r M' e) h0 (by decide) rfl mX11_isOne lX11_344 (by decide) (Nat.le_of_ble_eq_true rfl) dX11_met_14 h (fun r3 M4 h => ?_)
    refine r_if_eq (pc := 17) (tgt := 31) C dX11_met_17 (by decide) h (fun _ h => ?_) (fun _ h => ?_)
    · refine r_bipush (pc := 31) (v := (-2)) C dX11_met_31 (by decide) ?_
      exact r_iret (pc := 33) C R0 h dX11_met_33
    · refine r_iload (pc := 20) C dX11_met_20 rfl ?_
      refine r_i2l (pc := 22) C dX11_met_22 ?_
      refine r_lconst (pc := 23) (v := lN 0) C dX11_met_23 rfl ?_
      refine r_lconst (pc := 24) (v := lN 1) C dX11_met_24 rfl ?_
      refine r_sI3 (pc := 25) C (fun r M' e => zX11_in X.1 (Int32.toInt64 a4) (lN 0) (lN 1) M4 r M' e) mX11_in lX11_51 (by decide) (Nat.le_of_ble_eq_true rfl) dX11_met_25 h (fun r5 M6 h => ?_)
      refine r_if_ne (pc := 28) (tgt := 34) C dX11_met_28 (by decide) h (fun _ h => ?_) (fun _ h => ?_)
      · refine r_iconst (pc := 34) (v := (nI 0)) C dX11_met_34 (by decide) ?_
        refine r_istore (pc := 35) (lv' := [_, _, _, _, _, _, _]) C dX11_met_35 hn5 rfl ?_
        refine r_iconst (pc := 37) (v := (nI 0)) C dX11_met_37 (by decide) ?_
        refine r_istore (pc := 38) (lv' := [_, _, _, _, _, _, _]) C dX11_met_38 hn6 rfl ?_
        refine lX11_met_40 C R0 hnL a0 h0 a1 a2 a3 a4 _ (fun v19 v20 M21 h => ?_) _ _ _ _ h
        refine r_iload (pc := 112) C dX11_met_112 rfl ?_
        exact r_iret (pc := 114) C R0 h dX11_met_114
      · refine r_bipush (pc := 31) (v := (-2)) C dX11_met_31 (by decide) ?_
        exact r_iret (pc := 33) C R0 h dX11_met_33
theorem dX11_lasted_0 : decode cX11_lasted 0 = .ok (.aload_n 0, 1) := by decide +kernel
theorem dX11_lasted_1 : decode cX11_lasted 1 = .ok (.iload_n 1, 1) := by decide +kernel
theorem dX11_lasted_2 : decode cX11_lasted 2 = .ok (.iload_n 2, 1) := by decide +kernel
theorem dX11_lasted_3 : decode cX11_lasted 3 = .ok (.invokevirtual 344, 3) := by decide +kernel
theorem dX11_lasted_6 : decode cX11_lasted 6 = .ok (.ifCond .ne 6, 3) := by decide +kernel
theorem dX11_lasted_9 : decode cX11_lasted 9 = .ok (.bipush (-2), 2) := by decide +kernel
theorem dX11_lasted_11 : decode cX11_lasted 11 = .ok (.ireturn, 1) := by decide +kernel
theorem dX11_lasted_12 : decode cX11_lasted 12 = .ok (.iconst 0, 1) := by decide +kernel
theorem dX11_lasted_13 : decode cX11_lasted 13 = .ok (.istore_n 3, 1) := by decide +kernel
theorem dX11_lasted_14 : decode cX11_lasted 14 = .ok (.iconst 0, 1) := by decide +kernel
theorem dX11_lasted_15 : decode cX11_lasted 15 = .ok (.istore 4, 2) := by decide +kernel
theorem dX11_lasted_17 : decode cX11_lasted 17 = .ok (.iload 4, 2) := by decide +kernel
theorem dX11_lasted_19 : decode cX11_lasted 19 = .ok (.aload_n 0, 1) := by decide +kernel
theorem dX11_lasted_20 : decode cX11_lasted 20 = .ok (.bipush 25, 2) := by decide +kernel
theorem dX11_lasted_22 : decode cX11_lasted 22 = .ok (.invokevirtual 43, 3) := by decide +kernel
theorem dX11_lasted_25 : decode cX11_lasted 25 = .ok (.if_icmp .ge 34, 3) := by decide +kernel
theorem dX11_lasted_28 : decode cX11_lasted 28 = .ok (.iload_n 3, 1) := by decide +kernel
theorem dX11_lasted_29 : decode cX11_lasted 29 = .ok (.aload_n 0, 1) := by decide +kernel
theorem dX11_lasted_30 : decode cX11_lasted 30 = .ok (.iload 4, 2) := by decide +kernel
theorem dX11_lasted_32 : decode cX11_lasted 32 = .ok (.bipush 10, 2) := by decide +kernel
theorem dX11_lasted_34 : decode cX11_lasted 34 = .ok (.iload_n 1, 1) := by decide +kernel
theorem dX11_lasted_35 : decode cX11_lasted 35 = .ok (.iadd, 1) := by decide +kernel
theorem dX11_lasted_36 : decode cX11_lasted 36 = .ok (.invokevirtual 347, 3) := by decide +kernel
theorem dX11_lasted_39 : decode cX11_lasted 39 = .ok (.iload_n 2, 1) := by decide +kernel
theorem dX11_lasted_40 : decode cX11_lasted 40 = .ok (.invokestatic 275, 3) := by decide +kernel
theorem dX11_lasted_43 : decode cX11_lasted 43 = .ok (.ifCond .eq 7, 3) := by decide +kernel
theorem dX11_lasted_46 : decode cX11_lasted 46 = .ok (.iconst 1, 1) := by decide +kernel
theorem dX11_lasted_47 : decode cX11_lasted 47 = .ok (.goto 4, 3) := by decide +kernel
theorem dX11_lasted_50 : decode cX11_lasted 50 = .ok (.iconst 0, 1) := by decide +kernel
theorem dX11_lasted_51 : decode cX11_lasted 51 = .ok (.iadd, 1) := by decide +kernel
theorem dX11_lasted_52 : decode cX11_lasted 52 = .ok (.istore_n 3, 1) := by decide +kernel
theorem dX11_lasted_53 : decode cX11_lasted 53 = .ok (.iinc 4 1, 3) := by decide +kernel
theorem dX11_lasted_56 : decode cX11_lasted 56 = .ok (.goto (-39), 3) := by decide +kernel
theorem dX11_lasted_59 : decode cX11_lasted 59 = .ok (.iload_n 3, 1) := by decide +kernel
theorem dX11_lasted_60 : decode cX11_lasted 60 = .ok (.ireturn, 1) := by decide +kernel
def fX11_lasted_l17 (p0 : Nat) (p1 : Int32) (p2 : Int32) (K : Int32 → Int32 → xMem → Option (Int32 × xMem)) : Nat → Int32 → Int32 → xMem → Option (Int32 × xMem)
  | 0, _, _, _ => none
  | n + 1, v3, v4, M => xBn (fX11_get p0 (nI 25) M) fun r3 M4 => if r3 ≤ v4 then (K v3 v4 M4) else (xBn (fX11_rec p0 v4 ((nI 10) + p1) M4) fun r5 M6 => xBn (fX11_has r5 p2 M6) fun r7 M8 => xLt (fun (s9 : Int32) (M10 : xMem) => (xLt (v3 + s9) fun x11 => xLt (v4 + nI 1) fun x12 => fX11_lasted_l17 p0 p1 p2 K n x11 x12 M10 : Option (Int32 × xMem))) fun J51 => if r7 = 0 then (J51 (nI 0) M8) else (J51 (nI 1) M8))
def fX11_lasted (a0 : Nat) (a1 : Int32) (a2 : Int32) (M : xMem) : Option (Int32 × xMem) :=
  xBn (fX11_isOne a0 a1 a2 M) fun r1 M2 => if r1 = 0 then (some ((-2), M2)) else (fX11_lasted_l17 a0 a1 a2 (fun (v13 : Int32) (v14 : Int32) (M15 : xMem) => some (v13, M15)) xFU (nI 0) (nI 0) M2)
set_option maxRecDepth 100000 in
set_option maxHeartbeats 4000000 in
theorem lX11_lasted_17 {X : xCX} {r : Int32} {M' : xMem} (C : xCk X cX11_lasted RX11 4) (R0 : xRk X (some .int) (some (.int r), M')) (hnL : X.2.2.2.2.2.2.2.2.2.2.2.2.2 = 5) (p0 : Nat) (hp0 : xkd p0 = 11) (p1 : Int32) (p2 : Int32) (K : Int32 → Int32 → xMem → Option (Int32 × xMem)) (hK : ∀ (v3 : Int32) (v4 : Int32) (M : xMem), K v3 v4 M = some (r, M') → WW X 59 [some (vr X.1 p0), some (.int p1), some (.int p2), some (.int v3), some (.int v4)] [] M) : ∀ (n : Nat) (v3 : Int32) (v4 : Int32) (M : xMem), fX11_lasted_l17 p0 p1 p2 K n v3 v4 M = some (r, M') → WW X 17 [some (vr X.1 p0), some (.int p1), some (.int p2), some (.int v3), some (.int v4)] [] M := by
  have hn3 : 3 < X.2.2.2.2.2.2.2.2.2.2.2.2.2 := by rw [hnL]; decide
  have hn4 : 4 < X.2.2.2.2.2.2.2.2.2.2.2.2.2 := by rw [hnL]; decide
  intro n
  induction n with
  | zero =>
    intro v3 v4 M h
    cases (show (none : Option (Int32 × xMem)) = some (r, M') from h)
  | succ n ih =>
    intro v3 v4 M h
    rw [fX11_lasted_l17.eq_2] at h
    refine r_iload (pc := 17) C dX11_lasted_17 rfl ?_
    refine r_aload_n (pc := 19) C dX11_lasted_19 rfl rfl ?_
    refine r_bipush (pc := 20) (v := (nI 25)) C dX11_lasted_20 (by decide) ?_
    refine r_vI1 (pc := 22) C (fun r M' e => zX11_get X.1 p0 hp0 (nI 25) M r M' e) hp0 (by decide) rfl mX11_get lX11_43 (by decide) (Nat.le_of_ble_eq_true rfl) dX11_lasted_22 h (fun r3 M4 h => ?_)
    refine r_icmp_ge (pc := 25) (tgt := 59) C dX11_lasted_25 (by decide) h (fun _ h => ?_) (fun _ h => ?_)
    · exact hK v3 v4 M4 h
    · refine r_iload_n (pc := 28) C dX11_lasted_28 rfl rfl ?_
      refine r_aload_n (pc := 29) C dX11_lasted_29 rfl rfl ?_
      refine r_iload (pc := 30) C dX11_lasted_30 rfl ?_
      refine r_bipush (pc := 32) (v := (nI 10)) C dX11_lasted_32 (by decide) ?_
      refine r_iload_n (pc := 34) C dX11_lasted_34 rfl rfl ?_
      refine r_iadd (pc := 35) C dX11_lasted_35 ?_
      refine r_vI2 (pc := 36) C (fun r M' e => zX11_rec X.1 p0 hp0 v4 ((nI 10) + p1) M4 r M' e) hp0 (by decide) rfl mX11_rec lX11_347 (by decide) (Nat.le_of_ble_eq_true rfl) dX11_lasted_36 h (fun r5 M6 h => ?_)
      refine r_iload_n (pc := 39) C dX11_lasted_39 rfl rfl ?_
      refine r_sI2 (pc := 40) C (fun r M' e => zX11_has X.1 r5 p2 M6 r M' e) mX11_has lX11_275 (by decide) (Nat.le_of_ble_eq_true rfl) dX11_lasted_40 h (fun r7 M8 h => ?_)
      refine r_jn (fun J => ∀ (s9 : Int32) (M10 : xMem) , J s9 M10 = some (r, M') → WW X 51 [some (vr X.1 p0), some (.int p1), some (.int p2), some (.int v3), some (.int v4)] [.int s9, .int v3] M10) h (fun s9 M10  h => ?_) (fun J51 hJ51 h => ?_)
      · refine r_iadd (pc := 51) C dX11_lasted_51 ?_
        refine r_letI h (fun x11 h => ?_)
        refine r_istore_n (pc := 52) (lv' := [_, _, _, _, _]) C dX11_lasted_52 rfl hn3 rfl ?_
        refine r_iincL (pc := 53) (c := nI 1) C dX11_lasted_53 rfl (by decide) hn4 h (fun x12 h => ?_)
        refine r_lvE (lv' := [_, _, _, _, _]) rfl ?_
        refine r_goto (pc := 56) (tgt := 17) C dX11_lasted_56 (by decide) ?_
        exact ih x11 x12 M10 h
      refine r_if_eq (pc := 43) (tgt := 50) C dX11_lasted_43 (by decide) h (fun _ h => ?_) (fun _ h => ?_)
      · refine r_iconst (pc := 50) (v := (nI 0)) C dX11_lasted_50 (by decide) ?_
        exact hJ51 (nI 0) M8  h
      · refine r_iconst (pc := 46) (v := (nI 1)) C dX11_lasted_46 (by decide) ?_
        refine r_goto (pc := 47) (tgt := 51) C dX11_lasted_47 (by decide) ?_
        exact hJ51 (nI 1) M8  h
set_option maxRecDepth 100000 in
set_option maxHeartbeats 4000000 in
theorem zX11_lasted (G : xGX) (a0 : Nat) (h0 : xkd a0 = 11) (a1 : Int32) (a2 : Int32) (M : xMem) (r : Int32) (M' : xMem) (h : fX11_lasted a0 a1 a2 M = some (r, M')) : xCt G yX11_lasted cX11_lasted 5 (some .int) 4 [vr G a0, .int a1, .int a2] M (some (.int r), M') := by
  refine xMet (lv := [some (vr G a0), some (.int a1), some (.int a2), none, none]) (by decide) (Nat.le_of_ble_eq_true rfl) rfl ?_
  intro X hG hnL C R0
  subst hG
  have C : xCk X cX11_lasted RX11 4 := C
  have hn3 : 3 < X.2.2.2.2.2.2.2.2.2.2.2.2.2 := by rw [hnL]; decide
  have hn4 : 4 < X.2.2.2.2.2.2.2.2.2.2.2.2.2 := by rw [hnL]; decide
  unfold fX11_lasted at h
  refine r_aload_n (pc := 0) C dX11_lasted_0 rfl rfl ?_
  refine r_iload_n (pc := 1) C dX11_lasted_1 rfl rfl ?_
  refine r_iload_n (pc := 2) C dX11_lasted_2 rfl rfl ?_
  refine r_vI2 (pc := 3) C (fun r M' e => zX11_isOne X.1 a0 h0 a1 a2 M r M' e) h0 (by decide) rfl mX11_isOne lX11_344 (by decide) (Nat.le_of_ble_eq_true rfl) dX11_lasted_3 h (fun r1 M2 h => ?_)
  refine r_if_ne (pc := 6) (tgt := 12) C dX11_lasted_6 (by decide) h (fun _ h => ?_) (fun _ h => ?_)
  · refine r_iconst (pc := 12) (v := (nI 0)) C dX11_lasted_12 (by decide) ?_
    refine r_istore_n (pc := 13) (lv' := [_, _, _, _, _]) C dX11_lasted_13 rfl hn3 rfl ?_
    refine r_iconst (pc := 14) (v := (nI 0)) C dX11_lasted_14 (by decide) ?_
    refine r_istore (pc := 15) (lv' := [_, _, _, _, _]) C dX11_lasted_15 hn4 rfl ?_
    refine lX11_lasted_17 C R0 hnL a0 h0 a1 a2 _ (fun v13 v14 M15 h => ?_) _ _ _ _ h
    refine r_iload_n (pc := 59) C dX11_lasted_59 rfl rfl ?_
    exact r_iret (pc := 60) C R0 h dX11_lasted_60
  · refine r_bipush (pc := 9) (v := (-2)) C dX11_lasted_9 (by decide) ?_
    exact r_iret (pc := 11) C R0 h dX11_lasted_11
theorem dX11_stood_0 : decode cX11_stood 0 = .ok (.aload_n 0, 1) := by decide +kernel
theorem dX11_stood_1 : decode cX11_stood 1 = .ok (.iload_n 1, 1) := by decide +kernel
theorem dX11_stood_2 : decode cX11_stood 2 = .ok (.invokevirtual 55, 3) := by decide +kernel
theorem dX11_stood_5 : decode cX11_stood 5 = .ok (.ifCond .eq 7, 3) := by decide +kernel
theorem dX11_stood_8 : decode cX11_stood 8 = .ok (.iload_n 2, 1) := by decide +kernel
theorem dX11_stood_9 : decode cX11_stood 9 = .ok (.ifCond .ge 6, 3) := by decide +kernel
theorem dX11_stood_12 : decode cX11_stood 12 = .ok (.bipush (-2), 2) := by decide +kernel
theorem dX11_stood_14 : decode cX11_stood 14 = .ok (.ireturn, 1) := by decide +kernel
theorem dX11_stood_15 : decode cX11_stood 15 = .ok (.aload_n 0, 1) := by decide +kernel
theorem dX11_stood_16 : decode cX11_stood 16 = .ok (.iload_n 2, 1) := by decide +kernel
theorem dX11_stood_17 : decode cX11_stood 17 = .ok (.invokevirtual 394, 3) := by decide +kernel
theorem dX11_stood_20 : decode cX11_stood 20 = .ok (.ifCond .eq 18, 3) := by decide +kernel
theorem dX11_stood_23 : decode cX11_stood 23 = .ok (.aload_n 0, 1) := by decide +kernel
theorem dX11_stood_24 : decode cX11_stood 24 = .ok (.iload_n 2, 1) := by decide +kernel
theorem dX11_stood_25 : decode cX11_stood 25 = .ok (.bipush 10, 2) := by decide +kernel
theorem dX11_stood_27 : decode cX11_stood 27 = .ok (.iload_n 1, 1) := by decide +kernel
theorem dX11_stood_28 : decode cX11_stood 28 = .ok (.iadd, 1) := by decide +kernel
theorem dX11_stood_29 : decode cX11_stood 29 = .ok (.invokevirtual 347, 3) := by decide +kernel
theorem dX11_stood_32 : decode cX11_stood 32 = .ok (.invokestatic 87, 3) := by decide +kernel
theorem dX11_stood_35 : decode cX11_stood 35 = .ok (.goto 4, 3) := by decide +kernel
theorem dX11_stood_38 : decode cX11_stood 38 = .ok (.iconst (-1), 1) := by decide +kernel
theorem dX11_stood_39 : decode cX11_stood 39 = .ok (.ireturn, 1) := by decide +kernel
def fX11_stood (a0 : Nat) (a1 : Int32) (a2 : Int32) (M : xMem) : Option (Int32 × xMem) :=
  xBn (fX11_isTeam a0 a1 M) fun r1 M2 => if r1 = 0 then (some ((-2), M2)) else (if 0 ≤ a2 then (xBn (fX11_isRaid a0 a2 M2) fun r3 M4 => if r3 = 0 then (some ((-1), M4)) else (xBn (fX11_rec a0 a2 ((nI 10) + a1) M4) fun r5 M6 => xBn (fX11_bits r5 M6) fun r7 M8 => some (r7, M8))) else (some ((-2), M2)))
set_option maxRecDepth 100000 in
set_option maxHeartbeats 4000000 in
theorem zX11_stood (G : xGX) (a0 : Nat) (h0 : xkd a0 = 11) (a1 : Int32) (a2 : Int32) (M : xMem) (r : Int32) (M' : xMem) (h : fX11_stood a0 a1 a2 M = some (r, M')) : xCt G yX11_stood cX11_stood 3 (some .int) 3 [vr G a0, .int a1, .int a2] M (some (.int r), M') := by
  refine xMet (lv := [some (vr G a0), some (.int a1), some (.int a2)]) (by decide) (Nat.le_of_ble_eq_true rfl) rfl ?_
  intro X hG hnL C R0
  subst hG
  have C : xCk X cX11_stood RX11 3 := C
  unfold fX11_stood at h
  refine r_aload_n (pc := 0) C dX11_stood_0 rfl rfl ?_
  refine r_iload_n (pc := 1) C dX11_stood_1 rfl rfl ?_
  refine r_vI1 (pc := 2) C (fun r M' e => zX11_isTeam X.1 a0 h0 a1 M r M' e) h0 (by decide) rfl mX11_isTeam lX11_55 (by decide) (Nat.le_of_ble_eq_true rfl) dX11_stood_2 h (fun r1 M2 h => ?_)
  refine r_if_eq (pc := 5) (tgt := 12) C dX11_stood_5 (by decide) h (fun _ h => ?_) (fun _ h => ?_)
  · refine r_bipush (pc := 12) (v := (-2)) C dX11_stood_12 (by decide) ?_
    exact r_iret (pc := 14) C R0 h dX11_stood_14
  · refine r_iload_n (pc := 8) C dX11_stood_8 rfl rfl ?_
    refine r_if_ge (pc := 9) (tgt := 15) C dX11_stood_9 (by decide) h (fun _ h => ?_) (fun _ h => ?_)
    · refine r_aload_n (pc := 15) C dX11_stood_15 rfl rfl ?_
      refine r_iload_n (pc := 16) C dX11_stood_16 rfl rfl ?_
      refine r_vI1 (pc := 17) C (fun r M' e => zX11_isRaid X.1 a0 h0 a2 M2 r M' e) h0 (by decide) rfl mX11_isRaid lX11_394 (by decide) (Nat.le_of_ble_eq_true rfl) dX11_stood_17 h (fun r3 M4 h => ?_)
      refine r_if_eq (pc := 20) (tgt := 38) C dX11_stood_20 (by decide) h (fun _ h => ?_) (fun _ h => ?_)
      · refine r_iconst (pc := 38) (v := (-1)) C dX11_stood_38 (by decide) ?_
        exact r_iret (pc := 39) C R0 h dX11_stood_39
      · refine r_aload_n (pc := 23) C dX11_stood_23 rfl rfl ?_
        refine r_iload_n (pc := 24) C dX11_stood_24 rfl rfl ?_
        refine r_bipush (pc := 25) (v := (nI 10)) C dX11_stood_25 (by decide) ?_
        refine r_iload_n (pc := 27) C dX11_stood_27 rfl rfl ?_
        refine r_iadd (pc := 28) C dX11_stood_28 ?_
        refine r_vI2 (pc := 29) C (fun r M' e => zX11_rec X.1 a0 h0 a2 ((nI 10) + a1) M4 r M' e) h0 (by decide) rfl mX11_rec lX11_347 (by decide) (Nat.le_of_ble_eq_true rfl) dX11_stood_29 h (fun r5 M6 h => ?_)
        refine r_sI1 (pc := 32) C (fun r M' e => zX11_bits X.1 r5 M6 r M' e) mX11_bits lX11_87 (by decide) (Nat.le_of_ble_eq_true rfl) dX11_stood_32 h (fun r7 M8 h => ?_)
        refine r_goto (pc := 35) (tgt := 39) C dX11_stood_35 (by decide) ?_
        exact r_iret (pc := 39) C R0 h dX11_stood_39
    · refine r_bipush (pc := 12) (v := (-2)) C dX11_stood_12 (by decide) ?_
      exact r_iret (pc := 14) C R0 h dX11_stood_14
theorem dX11_first_0 : decode cX11_first 0 = .ok (.aload_n 0, 1) := by decide +kernel
theorem dX11_first_1 : decode cX11_first 1 = .ok (.iload_n 1, 1) := by decide +kernel
theorem dX11_first_2 : decode cX11_first 2 = .ok (.iload_n 2, 1) := by decide +kernel
theorem dX11_first_3 : decode cX11_first 3 = .ok (.invokevirtual 344, 3) := by decide +kernel
theorem dX11_first_6 : decode cX11_first 6 = .ok (.ifCond .eq 13, 3) := by decide +kernel
theorem dX11_first_9 : decode cX11_first 9 = .ok (.iload_n 3, 1) := by decide +kernel
theorem dX11_first_10 : decode cX11_first 10 = .ok (.i2l, 1) := by decide +kernel
theorem dX11_first_11 : decode cX11_first 11 = .ok (.lconst 0, 1) := by decide +kernel
theorem dX11_first_12 : decode cX11_first 12 = .ok (.lconst 1, 1) := by decide +kernel
theorem dX11_first_13 : decode cX11_first 13 = .ok (.invokestatic 51, 3) := by decide +kernel
theorem dX11_first_16 : decode cX11_first 16 = .ok (.ifCond .ne 6, 3) := by decide +kernel
theorem dX11_first_19 : decode cX11_first 19 = .ok (.bipush (-2), 2) := by decide +kernel
theorem dX11_first_21 : decode cX11_first 21 = .ok (.ireturn, 1) := by decide +kernel
theorem dX11_first_22 : decode cX11_first 22 = .ok (.iconst 0, 1) := by decide +kernel
theorem dX11_first_23 : decode cX11_first 23 = .ok (.istore 4, 2) := by decide +kernel
theorem dX11_first_25 : decode cX11_first 25 = .ok (.iload 4, 2) := by decide +kernel
theorem dX11_first_27 : decode cX11_first 27 = .ok (.aload_n 0, 1) := by decide +kernel
theorem dX11_first_28 : decode cX11_first 28 = .ok (.bipush 25, 2) := by decide +kernel
theorem dX11_first_30 : decode cX11_first 30 = .ok (.invokevirtual 43, 3) := by decide +kernel
theorem dX11_first_33 : decode cX11_first 33 = .ok (.if_icmp .ge 32, 3) := by decide +kernel
theorem dX11_first_36 : decode cX11_first 36 = .ok (.aload_n 0, 1) := by decide +kernel
theorem dX11_first_37 : decode cX11_first 37 = .ok (.iload 4, 2) := by decide +kernel
theorem dX11_first_39 : decode cX11_first 39 = .ok (.iload_n 1, 1) := by decide +kernel
theorem dX11_first_40 : decode cX11_first 40 = .ok (.iload_n 2, 1) := by decide +kernel
theorem dX11_first_41 : decode cX11_first 41 = .ok (.iload_n 3, 1) := by decide +kernel
theorem dX11_first_42 : decode cX11_first 42 = .ok (.ifCond .ne 7, 3) := by decide +kernel
theorem dX11_first_45 : decode cX11_first 45 = .ok (.iconst 1, 1) := by decide +kernel
theorem dX11_first_46 : decode cX11_first 46 = .ok (.goto 4, 3) := by decide +kernel
theorem dX11_first_49 : decode cX11_first 49 = .ok (.iconst 4, 1) := by decide +kernel
theorem dX11_first_50 : decode cX11_first 50 = .ok (.invokevirtual 369, 3) := by decide +kernel
theorem dX11_first_53 : decode cX11_first 53 = .ok (.ifCond .le 6, 3) := by decide +kernel
theorem dX11_first_56 : decode cX11_first 56 = .ok (.iload 4, 2) := by decide +kernel
theorem dX11_first_58 : decode cX11_first 58 = .ok (.ireturn, 1) := by decide +kernel
theorem dX11_first_59 : decode cX11_first 59 = .ok (.iinc 4 1, 3) := by decide +kernel
theorem dX11_first_62 : decode cX11_first 62 = .ok (.goto (-37), 3) := by decide +kernel
theorem dX11_first_65 : decode cX11_first 65 = .ok (.iconst (-1), 1) := by decide +kernel
theorem dX11_first_66 : decode cX11_first 66 = .ok (.ireturn, 1) := by decide +kernel
def fX11_first_l25 (p0 : Nat) (p1 : Int32) (p2 : Int32) (p3 : Int32) (K : Int32 → xMem → Option (Int32 × xMem)) : Nat → Int32 → xMem → Option (Int32 × xMem)
  | 0, _, _ => none
  | n + 1, v4, M => xBn (fX11_get p0 (nI 25) M) fun r5 M6 => if r5 ≤ v4 then (K v4 M6) else (xLt (fun (s7 : Int32) (M8 : xMem) => (xBn (fX11_inRaid p0 v4 p1 p2 s7 M8) fun r9 M10 => if r9 ≤ 0 then (xLt (v4 + nI 1) fun x11 => fX11_first_l25 p0 p1 p2 p3 K n x11 M10) else (some (v4, M10)) : Option (Int32 × xMem))) fun J50 => if p3 = 0 then (J50 (nI 1) M6) else (J50 (nI 4) M6))
def fX11_first (a0 : Nat) (a1 : Int32) (a2 : Int32) (a3 : Int32) (M : xMem) : Option (Int32 × xMem) :=
  xBn (fX11_isOne a0 a1 a2 M) fun r1 M2 => if r1 = 0 then (some ((-2), M2)) else (xBn (fX11_in (Int32.toInt64 a3) (lN 0) (lN 1) M2) fun r3 M4 => if r3 = 0 then (some ((-2), M4)) else (fX11_first_l25 a0 a1 a2 a3 (fun (v12 : Int32) (M13 : xMem) => some ((-1), M13)) xFU (nI 0) M4))
set_option maxRecDepth 100000 in
set_option maxHeartbeats 4000000 in
theorem lX11_first_25 {X : xCX} {r : Int32} {M' : xMem} (C : xCk X cX11_first RX11 5) (R0 : xRk X (some .int) (some (.int r), M')) (hnL : X.2.2.2.2.2.2.2.2.2.2.2.2.2 = 5) (p0 : Nat) (hp0 : xkd p0 = 11) (p1 : Int32) (p2 : Int32) (p3 : Int32) (K : Int32 → xMem → Option (Int32 × xMem)) (hK : ∀ (v4 : Int32) (M : xMem), K v4 M = some (r, M') → WW X 65 [some (vr X.1 p0), some (.int p1), some (.int p2), some (.int p3), some (.int v4)] [] M) : ∀ (n : Nat) (v4 : Int32) (M : xMem), fX11_first_l25 p0 p1 p2 p3 K n v4 M = some (r, M') → WW X 25 [some (vr X.1 p0), some (.int p1), some (.int p2), some (.int p3), some (.int v4)] [] M := by
  have hn4 : 4 < X.2.2.2.2.2.2.2.2.2.2.2.2.2 := by rw [hnL]; decide
  intro n
  induction n with
  | zero =>
    intro v4 M h
    cases (show (none : Option (Int32 × xMem)) = some (r, M') from h)
  | succ n ih =>
    intro v4 M h
    rw [fX11_first_l25.eq_2] at h
    refine r_iload (pc := 25) C dX11_first_25 rfl ?_
    refine r_aload_n (pc := 27) C dX11_first_27 rfl rfl ?_
    refine r_bipush (pc := 28) (v := (nI 25)) C dX11_first_28 (by decide) ?_
    refine r_vI1 (pc := 30) C (fun r M' e => zX11_get X.1 p0 hp0 (nI 25) M r M' e) hp0 (by decide) rfl mX11_get lX11_43 (by decide) (Nat.le_of_ble_eq_true rfl) dX11_first_30 h (fun r5 M6 h => ?_)
    refine r_icmp_ge (pc := 33) (tgt := 65) C dX11_first_33 (by decide) h (fun _ h => ?_) (fun _ h => ?_)
    · exact hK v4 M6 h
    · refine r_aload_n (pc := 36) C dX11_first_36 rfl rfl ?_
      refine r_iload (pc := 37) C dX11_first_37 rfl ?_
      refine r_iload_n (pc := 39) C dX11_first_39 rfl rfl ?_
      refine r_iload_n (pc := 40) C dX11_first_40 rfl rfl ?_
      refine r_iload_n (pc := 41) C dX11_first_41 rfl rfl ?_
      refine r_jn (fun J => ∀ (s7 : Int32) (M8 : xMem) , J s7 M8 = some (r, M') → WW X 50 [some (vr X.1 p0), some (.int p1), some (.int p2), some (.int p3), some (.int v4)] [.int s7, .int p2, .int p1, .int v4, vr X.1 p0] M8) h (fun s7 M8  h => ?_) (fun J50 hJ50 h => ?_)
      · refine r_vI4 (pc := 50) C (fun r M' e => zX11_inRaid X.1 p0 hp0 v4 p1 p2 s7 M8 r M' e) hp0 (by decide) rfl mX11_inRaid lX11_369 (by decide) (Nat.le_of_ble_eq_true rfl) dX11_first_50 h (fun r9 M10 h => ?_)
        refine r_if_le (pc := 53) (tgt := 59) C dX11_first_53 (by decide) h (fun _ h => ?_) (fun _ h => ?_)
        · refine r_iincL (pc := 59) (c := nI 1) C dX11_first_59 rfl (by decide) hn4 h (fun x11 h => ?_)
          refine r_lvE (lv' := [_, _, _, _, _]) rfl ?_
          refine r_goto (pc := 62) (tgt := 25) C dX11_first_62 (by decide) ?_
          exact ih x11 M10 h
        · refine r_iload (pc := 56) C dX11_first_56 rfl ?_
          exact r_iret (pc := 58) C R0 h dX11_first_58
      refine r_if_ne (pc := 42) (tgt := 49) C dX11_first_42 (by decide) h (fun _ h => ?_) (fun _ h => ?_)
      · refine r_iconst (pc := 49) (v := (nI 4)) C dX11_first_49 (by decide) ?_
        exact hJ50 (nI 4) M6  h
      · refine r_iconst (pc := 45) (v := (nI 1)) C dX11_first_45 (by decide) ?_
        refine r_goto (pc := 46) (tgt := 50) C dX11_first_46 (by decide) ?_
        exact hJ50 (nI 1) M6  h
set_option maxRecDepth 100000 in
set_option maxHeartbeats 4000000 in
theorem zX11_first (G : xGX) (a0 : Nat) (h0 : xkd a0 = 11) (a1 : Int32) (a2 : Int32) (a3 : Int32) (M : xMem) (r : Int32) (M' : xMem) (h : fX11_first a0 a1 a2 a3 M = some (r, M')) : xCt G yX11_first cX11_first 5 (some .int) 5 [vr G a0, .int a1, .int a2, .int a3] M (some (.int r), M') := by
  refine xMet (lv := [some (vr G a0), some (.int a1), some (.int a2), some (.int a3), none]) (by decide) (Nat.le_of_ble_eq_true rfl) rfl ?_
  intro X hG hnL C R0
  subst hG
  have C : xCk X cX11_first RX11 5 := C
  have hn4 : 4 < X.2.2.2.2.2.2.2.2.2.2.2.2.2 := by rw [hnL]; decide
  unfold fX11_first at h
  refine r_aload_n (pc := 0) C dX11_first_0 rfl rfl ?_
  refine r_iload_n (pc := 1) C dX11_first_1 rfl rfl ?_
  refine r_iload_n (pc := 2) C dX11_first_2 rfl rfl ?_
  refine r_vI2 (pc := 3) C (fun r M' e => zX11_isOne X.1 a0 h0 a1 a2 M r M' e) h0 (by decide) rfl mX11_isOne lX11_344 (by decide) (Nat.le_of_ble_eq_true rfl) dX11_first_3 h (fun r1 M2 h => ?_)
  refine r_if_eq (pc := 6) (tgt := 19) C dX11_first_6 (by decide) h (fun _ h => ?_) (fun _ h => ?_)
  · refine r_bipush (pc := 19) (v := (-2)) C dX11_first_19 (by decide) ?_
    exact r_iret (pc := 21) C R0 h dX11_first_21
  · refine r_iload_n (pc := 9) C dX11_first_9 rfl rfl ?_
    refine r_i2l (pc := 10) C dX11_first_10 ?_
    refine r_lconst (pc := 11) (v := lN 0) C dX11_first_11 rfl ?_
    refine r_lconst (pc := 12) (v := lN 1) C dX11_first_12 rfl ?_
    refine r_sI3 (pc := 13) C (fun r M' e => zX11_in X.1 (Int32.toInt64 a3) (lN 0) (lN 1) M2 r M' e) mX11_in lX11_51 (by decide) (Nat.le_of_ble_eq_true rfl) dX11_first_13 h (fun r3 M4 h => ?_)
    refine r_if_ne (pc := 16) (tgt := 22) C dX11_first_16 (by decide) h (fun _ h => ?_) (fun _ h => ?_)
    · refine r_iconst (pc := 22) (v := (nI 0)) C dX11_first_22 (by decide) ?_
      refine r_istore (pc := 23) (lv' := [_, _, _, _, _]) C dX11_first_23 hn4 rfl ?_
      refine lX11_first_25 C R0 hnL a0 h0 a1 a2 a3 _ (fun v12 M13 h => ?_) _ _ _ h
      refine r_iconst (pc := 65) (v := (-1)) C dX11_first_65 (by decide) ?_
      exact r_iret (pc := 66) C R0 h dX11_first_66
    · refine r_bipush (pc := 19) (v := (-2)) C dX11_first_19 (by decide) ?_
      exact r_iret (pc := 21) C R0 h dX11_first_21
theorem dX11_find_0 : decode cX11_find 0 = .ok (.aload_n 0, 1) := by decide +kernel
theorem dX11_find_1 : decode cX11_find 1 = .ok (.getfield 139, 3) := by decide +kernel
theorem dX11_find_4 : decode cX11_find 4 = .ok (.istore_n 1, 1) := by decide +kernel
theorem dX11_find_5 : decode cX11_find 5 = .ok (.aload_n 0, 1) := by decide +kernel
theorem dX11_find_6 : decode cX11_find 6 = .ok (.iconst 0, 1) := by decide +kernel
theorem dX11_find_7 : decode cX11_find 7 = .ok (.putfield 139, 3) := by decide +kernel
theorem dX11_find_10 : decode cX11_find 10 = .ok (.aload_n 0, 1) := by decide +kernel
theorem dX11_find_11 : decode cX11_find 11 = .ok (.invokevirtual 47, 3) := by decide +kernel
theorem dX11_find_14 : decode cX11_find 14 = .ok (.ifCond .eq 19, 3) := by decide +kernel
theorem dX11_find_17 : decode cX11_find 17 = .ok (.iload_n 1, 1) := by decide +kernel
theorem dX11_find_18 : decode cX11_find 18 = .ok (.i2l, 1) := by decide +kernel
theorem dX11_find_19 : decode cX11_find 19 = .ok (.lconst 1, 1) := by decide +kernel
theorem dX11_find_20 : decode cX11_find 20 = .ok (.ldc2_w 129, 3) := by decide +kernel
theorem dX11_find_23 : decode cX11_find 23 = .ok (.invokestatic 51, 3) := by decide +kernel
theorem dX11_find_26 : decode cX11_find 26 = .ok (.ifCond .eq 7, 3) := by decide +kernel
theorem dX11_find_29 : decode cX11_find 29 = .ok (.iconst 1, 1) := by decide +kernel
theorem dX11_find_30 : decode cX11_find 30 = .ok (.goto 4, 3) := by decide +kernel
theorem dX11_find_33 : decode cX11_find 33 = .ok (.iconst 0, 1) := by decide +kernel
theorem dX11_find_34 : decode cX11_find 34 = .ok (.istore_n 2, 1) := by decide +kernel
theorem dX11_find_35 : decode cX11_find 35 = .ok (.iconst 0, 1) := by decide +kernel
theorem dX11_find_36 : decode cX11_find 36 = .ok (.istore_n 3, 1) := by decide +kernel
theorem dX11_find_37 : decode cX11_find 37 = .ok (.iconst 0, 1) := by decide +kernel
theorem dX11_find_38 : decode cX11_find 38 = .ok (.istore 4, 2) := by decide +kernel
theorem dX11_find_40 : decode cX11_find 40 = .ok (.iload 4, 2) := by decide +kernel
theorem dX11_find_42 : decode cX11_find 42 = .ok (.iload_n 1, 1) := by decide +kernel
theorem dX11_find_43 : decode cX11_find 43 = .ok (.if_icmp .ge 31, 3) := by decide +kernel
theorem dX11_find_46 : decode cX11_find 46 = .ok (.iload_n 2, 1) := by decide +kernel
theorem dX11_find_47 : decode cX11_find 47 = .ok (.ifCond .eq 27, 3) := by decide +kernel
theorem dX11_find_50 : decode cX11_find 50 = .ok (.aload_n 0, 1) := by decide +kernel
theorem dX11_find_51 : decode cX11_find 51 = .ok (.getfield 23, 3) := by decide +kernel
theorem dX11_find_54 : decode cX11_find 54 = .ok (.iload 4, 2) := by decide +kernel
theorem dX11_find_56 : decode cX11_find 56 = .ok (.baload, 1) := by decide +kernel
theorem dX11_find_57 : decode cX11_find 57 = .ok (.i2l, 1) := by decide +kernel
theorem dX11_find_58 : decode cX11_find 58 = .ok (.ldc2_w 167, 3) := by decide +kernel
theorem dX11_find_61 : decode cX11_find 61 = .ok (.ldc2_w 169, 3) := by decide +kernel
theorem dX11_find_64 : decode cX11_find 64 = .ok (.invokestatic 51, 3) := by decide +kernel
theorem dX11_find_67 : decode cX11_find 67 = .ok (.istore_n 2, 1) := by decide +kernel
theorem dX11_find_68 : decode cX11_find 68 = .ok (.iinc 4 1, 3) := by decide +kernel
theorem dX11_find_71 : decode cX11_find 71 = .ok (.goto (-31), 3) := by decide +kernel
theorem dX11_find_74 : decode cX11_find 74 = .ok (.iconst 0, 1) := by decide +kernel
theorem dX11_find_75 : decode cX11_find 75 = .ok (.istore 4, 2) := by decide +kernel
theorem dX11_find_77 : decode cX11_find 77 = .ok (.iload 4, 2) := by decide +kernel
theorem dX11_find_79 : decode cX11_find 79 = .ok (.bipush 6, 2) := by decide +kernel
theorem dX11_find_81 : decode cX11_find 81 = .ok (.if_icmp .ge 41, 3) := by decide +kernel
theorem dX11_find_84 : decode cX11_find 84 = .ok (.iload_n 2, 1) := by decide +kernel
theorem dX11_find_85 : decode cX11_find 85 = .ok (.ifCond .eq 37, 3) := by decide +kernel
theorem dX11_find_88 : decode cX11_find 88 = .ok (.bipush 27, 2) := by decide +kernel
theorem dX11_find_90 : decode cX11_find 90 = .ok (.iload_n 3, 1) := by decide +kernel
theorem dX11_find_91 : decode cX11_find 91 = .ok (.imul, 1) := by decide +kernel
theorem dX11_find_92 : decode cX11_find 92 = .ok (.iload 4, 2) := by decide +kernel
theorem dX11_find_94 : decode cX11_find 94 = .ok (.iload_n 1, 1) := by decide +kernel
theorem dX11_find_95 : decode cX11_find 95 = .ok (.if_icmp .ge 18, 3) := by decide +kernel
theorem dX11_find_98 : decode cX11_find 98 = .ok (.aload_n 0, 1) := by decide +kernel
theorem dX11_find_99 : decode cX11_find 99 = .ok (.getfield 23, 3) := by decide +kernel
theorem dX11_find_102 : decode cX11_find 102 = .ok (.iload 4, 2) := by decide +kernel
theorem dX11_find_104 : decode cX11_find 104 = .ok (.baload, 1) := by decide +kernel
theorem dX11_find_105 : decode cX11_find 105 = .ok (.bipush 97, 2) := by decide +kernel
theorem dX11_find_107 : decode cX11_find 107 = .ok (.isub, 1) := by decide +kernel
theorem dX11_find_108 : decode cX11_find 108 = .ok (.iconst 1, 1) := by decide +kernel
theorem dX11_find_109 : decode cX11_find 109 = .ok (.iadd, 1) := by decide +kernel
theorem dX11_find_110 : decode cX11_find 110 = .ok (.goto 4, 3) := by decide +kernel
theorem dX11_find_113 : decode cX11_find 113 = .ok (.iconst 0, 1) := by decide +kernel
theorem dX11_find_114 : decode cX11_find 114 = .ok (.iadd, 1) := by decide +kernel
theorem dX11_find_115 : decode cX11_find 115 = .ok (.istore_n 3, 1) := by decide +kernel
theorem dX11_find_116 : decode cX11_find 116 = .ok (.iinc 4 1, 3) := by decide +kernel
theorem dX11_find_119 : decode cX11_find 119 = .ok (.goto (-42), 3) := by decide +kernel
theorem dX11_find_122 : decode cX11_find 122 = .ok (.iload_n 2, 1) := by decide +kernel
theorem dX11_find_123 : decode cX11_find 123 = .ok (.ifCond .ne 6, 3) := by decide +kernel
theorem dX11_find_126 : decode cX11_find 126 = .ok (.bipush (-2), 2) := by decide +kernel
theorem dX11_find_128 : decode cX11_find 128 = .ok (.ireturn, 1) := by decide +kernel
theorem dX11_find_129 : decode cX11_find 129 = .ok (.aload_n 0, 1) := by decide +kernel
theorem dX11_find_130 : decode cX11_find 130 = .ok (.iconst 3, 1) := by decide +kernel
theorem dX11_find_131 : decode cX11_find 131 = .ok (.invokevirtual 43, 3) := by decide +kernel
theorem dX11_find_134 : decode cX11_find 134 = .ok (.iload_n 3, 1) := by decide +kernel
theorem dX11_find_135 : decode cX11_find 135 = .ok (.if_icmp .ne 7, 3) := by decide +kernel
theorem dX11_find_138 : decode cX11_find 138 = .ok (.iconst 0, 1) := by decide +kernel
theorem dX11_find_139 : decode cX11_find 139 = .ok (.goto 17, 3) := by decide +kernel
theorem dX11_find_142 : decode cX11_find 142 = .ok (.aload_n 0, 1) := by decide +kernel
theorem dX11_find_143 : decode cX11_find 143 = .ok (.iconst 4, 1) := by decide +kernel
theorem dX11_find_144 : decode cX11_find 144 = .ok (.invokevirtual 43, 3) := by decide +kernel
theorem dX11_find_147 : decode cX11_find 147 = .ok (.iload_n 3, 1) := by decide +kernel
theorem dX11_find_148 : decode cX11_find 148 = .ok (.if_icmp .ne 7, 3) := by decide +kernel
theorem dX11_find_151 : decode cX11_find 151 = .ok (.iconst 1, 1) := by decide +kernel
theorem dX11_find_152 : decode cX11_find 152 = .ok (.goto 4, 3) := by decide +kernel
theorem dX11_find_155 : decode cX11_find 155 = .ok (.iconst (-1), 1) := by decide +kernel
theorem dX11_find_156 : decode cX11_find 156 = .ok (.ireturn, 1) := by decide +kernel
def fX11_find_l40 (p0 : Nat) (p1 : Int32) (p3 : Int32) (K : Int32 → Int32 → xMem → Option (Int32 × xMem)) : Nat → Int32 → Int32 → xMem → Option (Int32 × xMem)
  | 0, _, _, _ => none
  | n + 1, v2, v4, M => if p1 ≤ v4 then (K v2 v4 M) else (if v2 = 0 then (K v2 v4 M) else (xGb v4 (xln (xrf p0 10)) (xBn (fX11_in (Int32.toInt64 (M.1 (xrf p0 10) (Int32.toNatClampNeg v4))) (lN 97) (lN 122) M) fun r8 M9 => xLt (v4 + nI 1) fun x10 => fX11_find_l40 p0 p1 p3 K n r8 x10 M9)))
def fX11_find_l77 (p0 : Nat) (p1 : Int32) (p2 : Int32) (K : Int32 → Int32 → xMem → Option (Int32 × xMem)) : Nat → Int32 → Int32 → xMem → Option (Int32 × xMem)
  | 0, _, _, _ => none
  | n + 1, v3, v4, M => if (nI 6) ≤ v4 then (K v3 v4 M) else (if p2 = 0 then (K v3 v4 M) else (xLt (fun (s14 : Int32) (M15 : xMem) => (xLt (((nI 27) * v3) + s14) fun x16 => xLt (v4 + nI 1) fun x17 => fX11_find_l77 p0 p1 p2 K n x16 x17 M15 : Option (Int32 × xMem))) fun J114 => if p1 ≤ v4 then (J114 (nI 0) M) else (xGb v4 (xln (xrf p0 10)) (J114 (((M.1 (xrf p0 10) (Int32.toNatClampNeg v4)) - (nI 97)) + (nI 1)) M))))
def fX11_find (a0 : Nat) (M : xMem) : Option (Int32 × xMem) :=
  xLt (M.1 a0 11) fun x1 => xLt (xwI M a0 11 (nI 0)) fun M2 => xBn (fX11_isThere a0 M2) fun r3 M4 => xLt (fun (s5 : Int32) (M6 : xMem) => (fX11_find_l40 a0 x1 (nI 0) (fun (v11 : Int32) (v12 : Int32) (M13 : xMem) => fX11_find_l77 a0 x1 v11 (fun (v19 : Int32) (v20 : Int32) (M21 : xMem) => if v11 = 0 then (some ((-2), M21)) else (xBn (fX11_get a0 (nI 3) M21) fun r22 M23 => if r22 = v19 then (some ((nI 0), M23)) else (xBn (fX11_get a0 (nI 4) M23) fun r24 M25 => if r24 = v19 then (some ((nI 1), M25)) else (some ((-1), M25))))) xFU (nI 0) (nI 0) M13) xFU s5 (nI 0) M6 : Option (Int32 × xMem))) fun J34 => if r3 = 0 then (J34 (nI 0) M4) else (xBn (fX11_in (Int32.toInt64 x1) (lN 1) (lN 6) M4) fun r26 M27 => if r26 = 0 then (J34 (nI 0) M27) else (J34 (nI 1) M27))
set_option maxRecDepth 100000 in
set_option maxHeartbeats 4000000 in
theorem lX11_find_40 {X : xCX} {r : Int32} {M' : xMem} (C : xCk X cX11_find RX11 2) (R0 : xRk X (some .int) (some (.int r), M')) (hnL : X.2.2.2.2.2.2.2.2.2.2.2.2.2 = 5) (p0 : Nat) (hp0 : xkd p0 = 11) (p1 : Int32) (p3 : Int32) (K : Int32 → Int32 → xMem → Option (Int32 × xMem)) (hK : ∀ (v2 : Int32) (v4 : Int32) (M : xMem), K v2 v4 M = some (r, M') → WW X 74 [some (vr X.1 p0), some (.int p1), some (.int v2), some (.int p3), some (.int v4)] [] M) : ∀ (n : Nat) (v2 : Int32) (v4 : Int32) (M : xMem), fX11_find_l40 p0 p1 p3 K n v2 v4 M = some (r, M') → WW X 40 [some (vr X.1 p0), some (.int p1), some (.int v2), some (.int p3), some (.int v4)] [] M := by
  have hn1 : 1 < X.2.2.2.2.2.2.2.2.2.2.2.2.2 := by rw [hnL]; decide
  have hn2 : 2 < X.2.2.2.2.2.2.2.2.2.2.2.2.2 := by rw [hnL]; decide
  have hn3 : 3 < X.2.2.2.2.2.2.2.2.2.2.2.2.2 := by rw [hnL]; decide
  have hn4 : 4 < X.2.2.2.2.2.2.2.2.2.2.2.2.2 := by rw [hnL]; decide
  intro n
  induction n with
  | zero =>
    intro v2 v4 M h
    cases (show (none : Option (Int32 × xMem)) = some (r, M') from h)
  | succ n ih =>
    intro v2 v4 M h
    rw [fX11_find_l40.eq_2] at h
    refine r_iload (pc := 40) C dX11_find_40 rfl ?_
    refine r_iload_n (pc := 42) C dX11_find_42 rfl rfl ?_
    refine r_icmp_ge (pc := 43) (tgt := 74) C dX11_find_43 (by decide) h (fun _ h => ?_) (fun _ h => ?_)
    · exact hK v2 v4 M h
    · refine r_iload_n (pc := 46) C dX11_find_46 rfl rfl ?_
      refine r_if_eq (pc := 47) (tgt := 74) C dX11_find_47 (by decide) h (fun _ h => ?_) (fun _ h => ?_)
      · exact hK v2 v4 M h
      · refine r_aload_n (pc := 50) C dX11_find_50 rfl rfl ?_
        refine r_getR (pc := 51) C kX11_23 hp0 (by decide) dX11_find_51 ?_
        refine r_iload (pc := 54) C dX11_find_54 rfl ?_
        obtain ⟨g7, h⟩ := xGb_of h
        refine r_bald (pc := 56) C (xtk hp0 (by decide) rfl rfl) g7 dX11_find_56 ?_
        refine r_i2l (pc := 57) C dX11_find_57 ?_
        refine r_ldc2 (pc := 58) C nX11_167 dX11_find_58 ?_
        refine r_ldc2 (pc := 61) C nX11_169 dX11_find_61 ?_
        refine r_sI3 (pc := 64) C (fun r M' e => zX11_in X.1 (Int32.toInt64 (M.1 (xrf p0 10) (Int32.toNatClampNeg v4))) (lN 97) (lN 122) M r M' e) mX11_in lX11_51 (by decide) (Nat.le_of_ble_eq_true rfl) dX11_find_64 h (fun r8 M9 h => ?_)
        refine r_istore_n (pc := 67) (lv' := [_, _, _, _, _]) C dX11_find_67 rfl hn2 rfl ?_
        refine r_iincL (pc := 68) (c := nI 1) C dX11_find_68 rfl (by decide) hn4 h (fun x10 h => ?_)
        refine r_lvE (lv' := [_, _, _, _, _]) rfl ?_
        refine r_goto (pc := 71) (tgt := 40) C dX11_find_71 (by decide) ?_
        exact ih r8 x10 M9 h
set_option maxRecDepth 100000 in
set_option maxHeartbeats 4000000 in
theorem lX11_find_77 {X : xCX} {r : Int32} {M' : xMem} (C : xCk X cX11_find RX11 2) (R0 : xRk X (some .int) (some (.int r), M')) (hnL : X.2.2.2.2.2.2.2.2.2.2.2.2.2 = 5) (p0 : Nat) (hp0 : xkd p0 = 11) (p1 : Int32) (p2 : Int32) (K : Int32 → Int32 → xMem → Option (Int32 × xMem)) (hK : ∀ (v3 : Int32) (v4 : Int32) (M : xMem), K v3 v4 M = some (r, M') → WW X 122 [some (vr X.1 p0), some (.int p1), some (.int p2), some (.int v3), some (.int v4)] [] M) : ∀ (n : Nat) (v3 : Int32) (v4 : Int32) (M : xMem), fX11_find_l77 p0 p1 p2 K n v3 v4 M = some (r, M') → WW X 77 [some (vr X.1 p0), some (.int p1), some (.int p2), some (.int v3), some (.int v4)] [] M := by
  have hn1 : 1 < X.2.2.2.2.2.2.2.2.2.2.2.2.2 := by rw [hnL]; decide
  have hn2 : 2 < X.2.2.2.2.2.2.2.2.2.2.2.2.2 := by rw [hnL]; decide
  have hn3 : 3 < X.2.2.2.2.2.2.2.2.2.2.2.2.2 := by rw [hnL]; decide
  have hn4 : 4 < X.2.2.2.2.2.2.2.2.2.2.2.2.2 := by rw [hnL]; decide
  intro n
  induction n with
  | zero =>
    intro v3 v4 M h
    cases (show (none : Option (Int32 × xMem)) = some (r, M') from h)
  | succ n ih =>
    intro v3 v4 M h
    rw [fX11_find_l77.eq_2] at h
    refine r_iload (pc := 77) C dX11_find_77 rfl ?_
    refine r_bipush (pc := 79) (v := (nI 6)) C dX11_find_79 (by decide) ?_
    refine r_icmp_ge (pc := 81) (tgt := 122) C dX11_find_81 (by decide) h (fun _ h => ?_) (fun _ h => ?_)
    · exact hK v3 v4 M h
    · refine r_iload_n (pc := 84) C dX11_find_84 rfl rfl ?_
      refine r_if_eq (pc := 85) (tgt := 122) C dX11_find_85 (by decide) h (fun _ h => ?_) (fun _ h => ?_)
      · exact hK v3 v4 M h
      · refine r_bipush (pc := 88) (v := (nI 27)) C dX11_find_88 (by decide) ?_
        refine r_iload_n (pc := 90) C dX11_find_90 rfl rfl ?_
        refine r_imul (pc := 91) C dX11_find_91 ?_
        refine r_iload (pc := 92) C dX11_find_92 rfl ?_
        refine r_iload_n (pc := 94) C dX11_find_94 rfl rfl ?_
        refine r_jn (fun J => ∀ (s14 : Int32) (M15 : xMem) , J s14 M15 = some (r, M') → WW X 114 [some (vr X.1 p0), some (.int p1), some (.int p2), some (.int v3), some (.int v4)] [.int s14, .int ((nI 27) * v3)] M15) h (fun s14 M15  h => ?_) (fun J114 hJ114 h => ?_)
        · refine r_iadd (pc := 114) C dX11_find_114 ?_
          refine r_letI h (fun x16 h => ?_)
          refine r_istore_n (pc := 115) (lv' := [_, _, _, _, _]) C dX11_find_115 rfl hn3 rfl ?_
          refine r_iincL (pc := 116) (c := nI 1) C dX11_find_116 rfl (by decide) hn4 h (fun x17 h => ?_)
          refine r_lvE (lv' := [_, _, _, _, _]) rfl ?_
          refine r_goto (pc := 119) (tgt := 77) C dX11_find_119 (by decide) ?_
          exact ih x16 x17 M15 h
        refine r_icmp_ge (pc := 95) (tgt := 113) C dX11_find_95 (by decide) h (fun _ h => ?_) (fun _ h => ?_)
        · refine r_iconst (pc := 113) (v := (nI 0)) C dX11_find_113 (by decide) ?_
          exact hJ114 (nI 0) M  h
        · refine r_aload_n (pc := 98) C dX11_find_98 rfl rfl ?_
          refine r_getR (pc := 99) C kX11_23 hp0 (by decide) dX11_find_99 ?_
          refine r_iload (pc := 102) C dX11_find_102 rfl ?_
          obtain ⟨g18, h⟩ := xGb_of h
          refine r_bald (pc := 104) C (xtk hp0 (by decide) rfl rfl) g18 dX11_find_104 ?_
          refine r_bipush (pc := 105) (v := (nI 97)) C dX11_find_105 (by decide) ?_
          refine r_isub (pc := 107) C dX11_find_107 ?_
          refine r_iconst (pc := 108) (v := (nI 1)) C dX11_find_108 (by decide) ?_
          refine r_iadd (pc := 109) C dX11_find_109 ?_
          refine r_goto (pc := 110) (tgt := 114) C dX11_find_110 (by decide) ?_
          exact hJ114 (((M.1 (xrf p0 10) (Int32.toNatClampNeg v4)) - (nI 97)) + (nI 1)) M  h
set_option maxRecDepth 100000 in
set_option maxHeartbeats 4000000 in
theorem zX11_find (G : xGX) (a0 : Nat) (h0 : xkd a0 = 11) (M : xMem) (r : Int32) (M' : xMem) (h : fX11_find a0 M = some (r, M')) : xCt G yX11_find cX11_find 5 (some .int) 2 [vr G a0] M (some (.int r), M') := by
  refine xMet (lv := [some (vr G a0), none, none, none, none]) (by decide) (Nat.le_of_ble_eq_true rfl) rfl ?_
  intro X hG hnL C R0
  subst hG
  have C : xCk X cX11_find RX11 2 := C
  have hn1 : 1 < X.2.2.2.2.2.2.2.2.2.2.2.2.2 := by rw [hnL]; decide
  have hn2 : 2 < X.2.2.2.2.2.2.2.2.2.2.2.2.2 := by rw [hnL]; decide
  have hn3 : 3 < X.2.2.2.2.2.2.2.2.2.2.2.2.2 := by rw [hnL]; decide
  have hn4 : 4 < X.2.2.2.2.2.2.2.2.2.2.2.2.2 := by rw [hnL]; decide
  unfold fX11_find at h
  refine r_aload_n (pc := 0) C dX11_find_0 rfl rfl ?_
  refine r_getI (pc := 1) C kX11_139 h0 dX11_find_1 ?_
  refine r_letI h (fun x1 h => ?_)
  refine r_istore_n (pc := 4) (lv' := [_, _, _, _, _]) C dX11_find_4 rfl hn1 rfl ?_
  refine r_aload_n (pc := 5) C dX11_find_5 rfl rfl ?_
  refine r_iconst (pc := 6) (v := (nI 0)) C dX11_find_6 (by decide) ?_
  refine r_putI (pc := 7) C kX11_139 h0 dX11_find_7 ?_
  refine r_letM h (fun M2 h => ?_)
  refine r_aload_n (pc := 10) C dX11_find_10 rfl rfl ?_
  refine r_vI0 (pc := 11) C (fun r M' e => zX11_isThere X.1 a0 h0 M2 r M' e) h0 (by decide) rfl mX11_isThere lX11_47 (by decide) (Nat.le_of_ble_eq_true rfl) dX11_find_11 h (fun r3 M4 h => ?_)
  refine r_jn (fun J => ∀ (s5 : Int32) (M6 : xMem) , J s5 M6 = some (r, M') → WW X 34 [some (vr X.1 a0), some (.int x1), none, none, none] [.int s5] M6) h (fun s5 M6  h => ?_) (fun J34 hJ34 h => ?_)
  · refine r_istore_n (pc := 34) (lv' := [_, _, _, _, _]) C dX11_find_34 rfl hn2 rfl ?_
    refine r_iconst (pc := 35) (v := (nI 0)) C dX11_find_35 (by decide) ?_
    refine r_istore_n (pc := 36) (lv' := [_, _, _, _, _]) C dX11_find_36 rfl hn3 rfl ?_
    refine r_iconst (pc := 37) (v := (nI 0)) C dX11_find_37 (by decide) ?_
    refine r_istore (pc := 38) (lv' := [_, _, _, _, _]) C dX11_find_38 hn4 rfl ?_
    refine lX11_find_40 C R0 hnL a0 h0 x1 (nI 0) _ (fun v11 v12 M13 h => ?_) _ _ _ _ h
    refine r_iconst (pc := 74) (v := (nI 0)) C dX11_find_74 (by decide) ?_
    refine r_istore (pc := 75) (lv' := [_, _, _, _, _]) C dX11_find_75 hn4 rfl ?_
    refine lX11_find_77 C R0 hnL a0 h0 x1 v11 _ (fun v19 v20 M21 h => ?_) _ _ _ _ h
    refine r_iload_n (pc := 122) C dX11_find_122 rfl rfl ?_
    refine r_if_ne (pc := 123) (tgt := 129) C dX11_find_123 (by decide) h (fun _ h => ?_) (fun _ h => ?_)
    · refine r_aload_n (pc := 129) C dX11_find_129 rfl rfl ?_
      refine r_iconst (pc := 130) (v := (nI 3)) C dX11_find_130 (by decide) ?_
      refine r_vI1 (pc := 131) C (fun r M' e => zX11_get X.1 a0 h0 (nI 3) M21 r M' e) h0 (by decide) rfl mX11_get lX11_43 (by decide) (Nat.le_of_ble_eq_true rfl) dX11_find_131 h (fun r22 M23 h => ?_)
      refine r_iload_n (pc := 134) C dX11_find_134 rfl rfl ?_
      refine r_icmp_ne (pc := 135) (tgt := 142) C dX11_find_135 (by decide) h (fun _ h => ?_) (fun _ h => ?_)
      · refine r_aload_n (pc := 142) C dX11_find_142 rfl rfl ?_
        refine r_iconst (pc := 143) (v := (nI 4)) C dX11_find_143 (by decide) ?_
        refine r_vI1 (pc := 144) C (fun r M' e => zX11_get X.1 a0 h0 (nI 4) M23 r M' e) h0 (by decide) rfl mX11_get lX11_43 (by decide) (Nat.le_of_ble_eq_true rfl) dX11_find_144 h (fun r24 M25 h => ?_)
        refine r_iload_n (pc := 147) C dX11_find_147 rfl rfl ?_
        refine r_icmp_ne (pc := 148) (tgt := 155) C dX11_find_148 (by decide) h (fun _ h => ?_) (fun _ h => ?_)
        · refine r_iconst (pc := 155) (v := (-1)) C dX11_find_155 (by decide) ?_
          exact r_iret (pc := 156) C R0 h dX11_find_156
        · refine r_iconst (pc := 151) (v := (nI 1)) C dX11_find_151 (by decide) ?_
          refine r_goto (pc := 152) (tgt := 156) C dX11_find_152 (by decide) ?_
          exact r_iret (pc := 156) C R0 h dX11_find_156
      · refine r_iconst (pc := 138) (v := (nI 0)) C dX11_find_138 (by decide) ?_
        refine r_goto (pc := 139) (tgt := 156) C dX11_find_139 (by decide) ?_
        exact r_iret (pc := 156) C R0 h dX11_find_156
    · refine r_bipush (pc := 126) (v := (-2)) C dX11_find_126 (by decide) ?_
      exact r_iret (pc := 128) C R0 h dX11_find_128
  refine r_if_eq (pc := 14) (tgt := 33) C dX11_find_14 (by decide) h (fun _ h => ?_) (fun _ h => ?_)
  · refine r_iconst (pc := 33) (v := (nI 0)) C dX11_find_33 (by decide) ?_
    exact hJ34 (nI 0) M4  h
  · refine r_iload_n (pc := 17) C dX11_find_17 rfl rfl ?_
    refine r_i2l (pc := 18) C dX11_find_18 ?_
    refine r_lconst (pc := 19) (v := lN 1) C dX11_find_19 rfl ?_
    refine r_ldc2 (pc := 20) C nX11_129 dX11_find_20 ?_
    refine r_sI3 (pc := 23) C (fun r M' e => zX11_in X.1 (Int32.toInt64 x1) (lN 1) (lN 6) M4 r M' e) mX11_in lX11_51 (by decide) (Nat.le_of_ble_eq_true rfl) dX11_find_23 h (fun r26 M27 h => ?_)
    refine r_if_eq (pc := 26) (tgt := 33) C dX11_find_26 (by decide) h (fun _ h => ?_) (fun _ h => ?_)
    · refine r_iconst (pc := 33) (v := (nI 0)) C dX11_find_33 (by decide) ?_
      exact hJ34 (nI 0) M27  h
    · refine r_iconst (pc := 29) (v := (nI 1)) C dX11_find_29 (by decide) ?_
      refine r_goto (pc := 30) (tgt := 34) C dX11_find_30 (by decide) ?_
      exact hJ34 (nI 1) M27  h
theorem dX11_streak_0 : decode cX11_streak 0 = .ok (.aload_n 0, 1) := by decide +kernel
theorem dX11_streak_1 : decode cX11_streak 1 = .ok (.iload_n 1, 1) := by decide +kernel
theorem dX11_streak_2 : decode cX11_streak 2 = .ok (.iload_n 2, 1) := by decide +kernel
theorem dX11_streak_3 : decode cX11_streak 3 = .ok (.invokevirtual 344, 3) := by decide +kernel
theorem dX11_streak_6 : decode cX11_streak 6 = .ok (.ifCond .ne 6, 3) := by decide +kernel
theorem dX11_streak_9 : decode cX11_streak 9 = .ok (.bipush (-2), 2) := by decide +kernel
theorem dX11_streak_11 : decode cX11_streak 11 = .ok (.ireturn, 1) := by decide +kernel
theorem dX11_streak_12 : decode cX11_streak 12 = .ok (.iconst 0, 1) := by decide +kernel
theorem dX11_streak_13 : decode cX11_streak 13 = .ok (.istore_n 3, 1) := by decide +kernel
theorem dX11_streak_14 : decode cX11_streak 14 = .ok (.iconst 0, 1) := by decide +kernel
theorem dX11_streak_15 : decode cX11_streak 15 = .ok (.istore 4, 2) := by decide +kernel
theorem dX11_streak_17 : decode cX11_streak 17 = .ok (.iconst 0, 1) := by decide +kernel
theorem dX11_streak_18 : decode cX11_streak 18 = .ok (.istore 5, 2) := by decide +kernel
theorem dX11_streak_20 : decode cX11_streak 20 = .ok (.iload 5, 2) := by decide +kernel
theorem dX11_streak_22 : decode cX11_streak 22 = .ok (.aload_n 0, 1) := by decide +kernel
theorem dX11_streak_23 : decode cX11_streak 23 = .ok (.bipush 25, 2) := by decide +kernel
theorem dX11_streak_25 : decode cX11_streak 25 = .ok (.invokevirtual 43, 3) := by decide +kernel
theorem dX11_streak_28 : decode cX11_streak 28 = .ok (.if_icmp .ge 49, 3) := by decide +kernel
theorem dX11_streak_31 : decode cX11_streak 31 = .ok (.aload_n 0, 1) := by decide +kernel
theorem dX11_streak_32 : decode cX11_streak 32 = .ok (.iload 5, 2) := by decide +kernel
theorem dX11_streak_34 : decode cX11_streak 34 = .ok (.iload_n 1, 1) := by decide +kernel
theorem dX11_streak_35 : decode cX11_streak 35 = .ok (.iload_n 2, 1) := by decide +kernel
theorem dX11_streak_36 : decode cX11_streak 36 = .ok (.invokevirtual 350, 3) := by decide +kernel
theorem dX11_streak_39 : decode cX11_streak 39 = .ok (.ifCond .ne 6, 3) := by decide +kernel
theorem dX11_streak_42 : decode cX11_streak 42 = .ok (.goto 29, 3) := by decide +kernel
theorem dX11_streak_45 : decode cX11_streak 45 = .ok (.aload_n 0, 1) := by decide +kernel
theorem dX11_streak_46 : decode cX11_streak 46 = .ok (.iload 5, 2) := by decide +kernel
theorem dX11_streak_48 : decode cX11_streak 48 = .ok (.invokevirtual 354, 3) := by decide +kernel
theorem dX11_streak_51 : decode cX11_streak 51 = .ok (.ifCond .le 10, 3) := by decide +kernel
theorem dX11_streak_54 : decode cX11_streak 54 = .ok (.iload 4, 2) := by decide +kernel
theorem dX11_streak_56 : decode cX11_streak 56 = .ok (.iconst 1, 1) := by decide +kernel
theorem dX11_streak_57 : decode cX11_streak 57 = .ok (.iadd, 1) := by decide +kernel
theorem dX11_streak_58 : decode cX11_streak 58 = .ok (.goto 4, 3) := by decide +kernel
theorem dX11_streak_61 : decode cX11_streak 61 = .ok (.iconst 0, 1) := by decide +kernel
theorem dX11_streak_62 : decode cX11_streak 62 = .ok (.istore 4, 2) := by decide +kernel
theorem dX11_streak_64 : decode cX11_streak 64 = .ok (.iload_n 3, 1) := by decide +kernel
theorem dX11_streak_65 : decode cX11_streak 65 = .ok (.iload 4, 2) := by decide +kernel
theorem dX11_streak_67 : decode cX11_streak 67 = .ok (.invokestatic 388, 3) := by decide +kernel
theorem dX11_streak_70 : decode cX11_streak 70 = .ok (.istore_n 3, 1) := by decide +kernel
theorem dX11_streak_71 : decode cX11_streak 71 = .ok (.iinc 5 1, 3) := by decide +kernel
theorem dX11_streak_74 : decode cX11_streak 74 = .ok (.goto (-54), 3) := by decide +kernel
theorem dX11_streak_77 : decode cX11_streak 77 = .ok (.iload_n 3, 1) := by decide +kernel
theorem dX11_streak_78 : decode cX11_streak 78 = .ok (.ireturn, 1) := by decide +kernel
def fX11_streak_l20 (p0 : Nat) (p1 : Int32) (p2 : Int32) (K : Int32 → Int32 → Int32 → xMem → Option (Int32 × xMem)) : Nat → Int32 → Int32 → Int32 → xMem → Option (Int32 × xMem)
  | 0, _, _, _, _ => none
  | n + 1, v3, v4, v5, M => xBn (fX11_get p0 (nI 25) M) fun r3 M4 => if r3 ≤ v5 then (K v3 v4 v5 M4) else (xBn (fX11_isRaider p0 v5 p1 p2 M4) fun r5 M6 => if r5 = 0 then (xLt (v5 + nI 1) fun x13 => fX11_streak_l20 p0 p1 p2 K n v3 v4 x13 M6) else (xBn (fX11_pointsBy p0 v5 M6) fun r7 M8 => xLt (fun (s9 : Int32) (M10 : xMem) => (xLt (if v3 < s9 then s9 else v3) fun x11 => xLt (v5 + nI 1) fun x12 => fX11_streak_l20 p0 p1 p2 K n x11 s9 x12 M10 : Option (Int32 × xMem))) fun J62 => if r7 ≤ 0 then (J62 (nI 0) M8) else (J62 (v4 + (nI 1)) M8)))
def fX11_streak (a0 : Nat) (a1 : Int32) (a2 : Int32) (M : xMem) : Option (Int32 × xMem) :=
  xBn (fX11_isOne a0 a1 a2 M) fun r1 M2 => if r1 = 0 then (some ((-2), M2)) else (fX11_streak_l20 a0 a1 a2 (fun (v14 : Int32) (v15 : Int32) (v16 : Int32) (M17 : xMem) => some (v14, M17)) xFU (nI 0) (nI 0) (nI 0) M2)
set_option maxRecDepth 100000 in
set_option maxHeartbeats 4000000 in
theorem lX11_streak_20 {X : xCX} {r : Int32} {M' : xMem} (C : xCk X cX11_streak RX11 4) (R0 : xRk X (some .int) (some (.int r), M')) (hnL : X.2.2.2.2.2.2.2.2.2.2.2.2.2 = 6) (p0 : Nat) (hp0 : xkd p0 = 11) (p1 : Int32) (p2 : Int32) (K : Int32 → Int32 → Int32 → xMem → Option (Int32 × xMem)) (hK : ∀ (v3 : Int32) (v4 : Int32) (v5 : Int32) (M : xMem), K v3 v4 v5 M = some (r, M') → WW X 77 [some (vr X.1 p0), some (.int p1), some (.int p2), some (.int v3), some (.int v4), some (.int v5)] [] M) : ∀ (n : Nat) (v3 : Int32) (v4 : Int32) (v5 : Int32) (M : xMem), fX11_streak_l20 p0 p1 p2 K n v3 v4 v5 M = some (r, M') → WW X 20 [some (vr X.1 p0), some (.int p1), some (.int p2), some (.int v3), some (.int v4), some (.int v5)] [] M := by
  have hn3 : 3 < X.2.2.2.2.2.2.2.2.2.2.2.2.2 := by rw [hnL]; decide
  have hn4 : 4 < X.2.2.2.2.2.2.2.2.2.2.2.2.2 := by rw [hnL]; decide
  have hn5 : 5 < X.2.2.2.2.2.2.2.2.2.2.2.2.2 := by rw [hnL]; decide
  intro n
  induction n with
  | zero =>
    intro v3 v4 v5 M h
    cases (show (none : Option (Int32 × xMem)) = some (r, M') from h)
  | succ n ih =>
    intro v3 v4 v5 M h
    rw [fX11_streak_l20.eq_2] at h
    refine r_iload (pc := 20) C dX11_streak_20 rfl ?_
    refine r_aload_n (pc := 22) C dX11_streak_22 rfl rfl ?_
    refine r_bipush (pc := 23) (v := (nI 25)) C dX11_streak_23 (by decide) ?_
    refine r_vI1 (pc := 25) C (fun r M' e => zX11_get X.1 p0 hp0 (nI 25) M r M' e) hp0 (by decide) rfl mX11_get lX11_43 (by decide) (Nat.le_of_ble_eq_true rfl) dX11_streak_25 h (fun r3 M4 h => ?_)
    refine r_icmp_ge (pc := 28) (tgt := 77) C dX11_streak_28 (by decide) h (fun _ h => ?_) (fun _ h => ?_)
    · exact hK v3 v4 v5 M4 h
    · refine r_aload_n (pc := 31) C dX11_streak_31 rfl rfl ?_
      refine r_iload (pc := 32) C dX11_streak_32 rfl ?_
      refine r_iload_n (pc := 34) C dX11_streak_34 rfl rfl ?_
      refine r_iload_n (pc := 35) C dX11_streak_35 rfl rfl ?_
      refine r_vI3 (pc := 36) C (fun r M' e => zX11_isRaider X.1 p0 hp0 v5 p1 p2 M4 r M' e) hp0 (by decide) rfl mX11_isRaider lX11_350 (by decide) (Nat.le_of_ble_eq_true rfl) dX11_streak_36 h (fun r5 M6 h => ?_)
      refine r_if_ne (pc := 39) (tgt := 45) C dX11_streak_39 (by decide) h (fun _ h => ?_) (fun _ h => ?_)
      · refine r_aload_n (pc := 45) C dX11_streak_45 rfl rfl ?_
        refine r_iload (pc := 46) C dX11_streak_46 rfl ?_
        refine r_vI1 (pc := 48) C (fun r M' e => zX11_pointsBy X.1 p0 hp0 v5 M6 r M' e) hp0 (by decide) rfl mX11_pointsBy lX11_354 (by decide) (Nat.le_of_ble_eq_true rfl) dX11_streak_48 h (fun r7 M8 h => ?_)
        refine r_jn (fun J => ∀ (s9 : Int32) (M10 : xMem) , J s9 M10 = some (r, M') → WW X 62 [some (vr X.1 p0), some (.int p1), some (.int p2), some (.int v3), some (.int v4), some (.int v5)] [.int s9] M10) h (fun s9 M10  h => ?_) (fun J62 hJ62 h => ?_)
        · refine r_istore (pc := 62) (lv' := [_, _, _, _, _, _]) C dX11_streak_62 hn4 rfl ?_
          refine r_iload_n (pc := 64) C dX11_streak_64 rfl rfl ?_
          refine r_iload (pc := 65) C dX11_streak_65 rfl ?_
          refine r_mmax (pc := 67) C lX11_388 (fun _ => by simp [xNM]) (by decide) (Nat.le_of_ble_eq_true rfl) dX11_streak_67 ?_
          refine r_letI h (fun x11 h => ?_)
          refine r_istore_n (pc := 70) (lv' := [_, _, _, _, _, _]) C dX11_streak_70 rfl hn3 rfl ?_
          refine r_iincL (pc := 71) (c := nI 1) C dX11_streak_71 rfl (by decide) hn5 h (fun x12 h => ?_)
          refine r_lvE (lv' := [_, _, _, _, _, _]) rfl ?_
          refine r_goto (pc := 74) (tgt := 20) C dX11_streak_74 (by decide) ?_
          exact ih x11 s9 x12 M10 h
        refine r_if_le (pc := 51) (tgt := 61) C dX11_streak_51 (by decide) h (fun _ h => ?_) (fun _ h => ?_)
        · refine r_iconst (pc := 61) (v := (nI 0)) C dX11_streak_61 (by decide) ?_
          exact hJ62 (nI 0) M8  h
        · refine r_iload (pc := 54) C dX11_streak_54 rfl ?_
          refine r_iconst (pc := 56) (v := (nI 1)) C dX11_streak_56 (by decide) ?_
          refine r_iadd (pc := 57) C dX11_streak_57 ?_
          refine r_goto (pc := 58) (tgt := 62) C dX11_streak_58 (by decide) ?_
          exact hJ62 (v4 + (nI 1)) M8  h
      · refine r_goto (pc := 42) (tgt := 71) C dX11_streak_42 (by decide) ?_
        refine r_iincL (pc := 71) (c := nI 1) C dX11_streak_71 rfl (by decide) hn5 h (fun x13 h => ?_)
        refine r_lvE (lv' := [_, _, _, _, _, _]) rfl ?_
        refine r_goto (pc := 74) (tgt := 20) C dX11_streak_74 (by decide) ?_
        exact ih v3 v4 x13 M6 h
set_option maxRecDepth 100000 in
set_option maxHeartbeats 4000000 in
theorem zX11_streak (G : xGX) (a0 : Nat) (h0 : xkd a0 = 11) (a1 : Int32) (a2 : Int32) (M : xMem) (r : Int32) (M' : xMem) (h : fX11_streak a0 a1 a2 M = some (r, M')) : xCt G yX11_streak cX11_streak 6 (some .int) 4 [vr G a0, .int a1, .int a2] M (some (.int r), M') := by
  refine xMet (lv := [some (vr G a0), some (.int a1), some (.int a2), none, none, none]) (by decide) (Nat.le_of_ble_eq_true rfl) rfl ?_
  intro X hG hnL C R0
  subst hG
  have C : xCk X cX11_streak RX11 4 := C
  have hn3 : 3 < X.2.2.2.2.2.2.2.2.2.2.2.2.2 := by rw [hnL]; decide
  have hn4 : 4 < X.2.2.2.2.2.2.2.2.2.2.2.2.2 := by rw [hnL]; decide
  have hn5 : 5 < X.2.2.2.2.2.2.2.2.2.2.2.2.2 := by rw [hnL]; decide
  unfold fX11_streak at h
  refine r_aload_n (pc := 0) C dX11_streak_0 rfl rfl ?_
  refine r_iload_n (pc := 1) C dX11_streak_1 rfl rfl ?_
  refine r_iload_n (pc := 2) C dX11_streak_2 rfl rfl ?_
  refine r_vI2 (pc := 3) C (fun r M' e => zX11_isOne X.1 a0 h0 a1 a2 M r M' e) h0 (by decide) rfl mX11_isOne lX11_344 (by decide) (Nat.le_of_ble_eq_true rfl) dX11_streak_3 h (fun r1 M2 h => ?_)
  refine r_if_ne (pc := 6) (tgt := 12) C dX11_streak_6 (by decide) h (fun _ h => ?_) (fun _ h => ?_)
  · refine r_iconst (pc := 12) (v := (nI 0)) C dX11_streak_12 (by decide) ?_
    refine r_istore_n (pc := 13) (lv' := [_, _, _, _, _, _]) C dX11_streak_13 rfl hn3 rfl ?_
    refine r_iconst (pc := 14) (v := (nI 0)) C dX11_streak_14 (by decide) ?_
    refine r_istore (pc := 15) (lv' := [_, _, _, _, _, _]) C dX11_streak_15 hn4 rfl ?_
    refine r_iconst (pc := 17) (v := (nI 0)) C dX11_streak_17 (by decide) ?_
    refine r_istore (pc := 18) (lv' := [_, _, _, _, _, _]) C dX11_streak_18 hn5 rfl ?_
    refine lX11_streak_20 C R0 hnL a0 h0 a1 a2 _ (fun v14 v15 v16 M17 h => ?_) _ _ _ _ _ h
    refine r_iload_n (pc := 77) C dX11_streak_77 rfl rfl ?_
    exact r_iret (pc := 78) C R0 h dX11_streak_78
  · refine r_bipush (pc := 9) (v := (-2)) C dX11_streak_9 (by decide) ?_
    exact r_iret (pc := 11) C R0 h dX11_streak_11
theorem dX11_last_0 : decode cX11_last 0 = .ok (.aload_n 0, 1) := by decide +kernel
theorem dX11_last_1 : decode cX11_last 1 = .ok (.iload_n 1, 1) := by decide +kernel
theorem dX11_last_2 : decode cX11_last 2 = .ok (.iload_n 2, 1) := by decide +kernel
theorem dX11_last_3 : decode cX11_last 3 = .ok (.invokevirtual 344, 3) := by decide +kernel
theorem dX11_last_6 : decode cX11_last 6 = .ok (.ifCond .ne 6, 3) := by decide +kernel
theorem dX11_last_9 : decode cX11_last 9 = .ok (.bipush (-2), 2) := by decide +kernel
theorem dX11_last_11 : decode cX11_last 11 = .ok (.ireturn, 1) := by decide +kernel
theorem dX11_last_12 : decode cX11_last 12 = .ok (.aload_n 0, 1) := by decide +kernel
theorem dX11_last_13 : decode cX11_last 13 = .ok (.bipush 25, 2) := by decide +kernel
theorem dX11_last_15 : decode cX11_last 15 = .ok (.invokevirtual 43, 3) := by decide +kernel
theorem dX11_last_18 : decode cX11_last 18 = .ok (.iconst 1, 1) := by decide +kernel
theorem dX11_last_19 : decode cX11_last 19 = .ok (.isub, 1) := by decide +kernel
theorem dX11_last_20 : decode cX11_last 20 = .ok (.istore_n 3, 1) := by decide +kernel
theorem dX11_last_21 : decode cX11_last 21 = .ok (.iload_n 3, 1) := by decide +kernel
theorem dX11_last_22 : decode cX11_last 22 = .ok (.ifCond .lt 19, 3) := by decide +kernel
theorem dX11_last_25 : decode cX11_last 25 = .ok (.aload_n 0, 1) := by decide +kernel
theorem dX11_last_26 : decode cX11_last 26 = .ok (.iload_n 3, 1) := by decide +kernel
theorem dX11_last_27 : decode cX11_last 27 = .ok (.iload_n 1, 1) := by decide +kernel
theorem dX11_last_28 : decode cX11_last 28 = .ok (.iload_n 2, 1) := by decide +kernel
theorem dX11_last_29 : decode cX11_last 29 = .ok (.invokevirtual 350, 3) := by decide +kernel
theorem dX11_last_32 : decode cX11_last 32 = .ok (.ifCond .ne 9, 3) := by decide +kernel
theorem dX11_last_35 : decode cX11_last 35 = .ok (.iinc 3 (-1), 3) := by decide +kernel
theorem dX11_last_38 : decode cX11_last 38 = .ok (.goto (-17), 3) := by decide +kernel
theorem dX11_last_41 : decode cX11_last 41 = .ok (.iload_n 3, 1) := by decide +kernel
theorem dX11_last_42 : decode cX11_last 42 = .ok (.ireturn, 1) := by decide +kernel
def fX11_last_l21 (p0 : Nat) (p1 : Int32) (p2 : Int32) (K : Int32 → xMem → Option (Int32 × xMem)) : Nat → Int32 → xMem → Option (Int32 × xMem)
  | 0, _, _ => none
  | n + 1, v3, M => if v3 < 0 then (K v3 M) else (xBn (fX11_isRaider p0 v3 p1 p2 M) fun r6 M7 => if r6 = 0 then (xLt (v3 + (-1)) fun x8 => fX11_last_l21 p0 p1 p2 K n x8 M7) else (K v3 M7))
def fX11_last (a0 : Nat) (a1 : Int32) (a2 : Int32) (M : xMem) : Option (Int32 × xMem) :=
  xBn (fX11_isOne a0 a1 a2 M) fun r1 M2 => if r1 = 0 then (some ((-2), M2)) else (xBn (fX11_get a0 (nI 25) M2) fun r3 M4 => xLt (r3 - (nI 1)) fun x5 => fX11_last_l21 a0 a1 a2 (fun (v9 : Int32) (M10 : xMem) => some (v9, M10)) xFU x5 M4)
set_option maxRecDepth 100000 in
set_option maxHeartbeats 4000000 in
theorem lX11_last_21 {X : xCX} {r : Int32} {M' : xMem} (C : xCk X cX11_last RX11 4) (R0 : xRk X (some .int) (some (.int r), M')) (hnL : X.2.2.2.2.2.2.2.2.2.2.2.2.2 = 4) (p0 : Nat) (hp0 : xkd p0 = 11) (p1 : Int32) (p2 : Int32) (K : Int32 → xMem → Option (Int32 × xMem)) (hK : ∀ (v3 : Int32) (M : xMem), K v3 M = some (r, M') → WW X 41 [some (vr X.1 p0), some (.int p1), some (.int p2), some (.int v3)] [] M) : ∀ (n : Nat) (v3 : Int32) (M : xMem), fX11_last_l21 p0 p1 p2 K n v3 M = some (r, M') → WW X 21 [some (vr X.1 p0), some (.int p1), some (.int p2), some (.int v3)] [] M := by
  have hn3 : 3 < X.2.2.2.2.2.2.2.2.2.2.2.2.2 := by rw [hnL]; decide
  intro n
  induction n with
  | zero =>
    intro v3 M h
    cases (show (none : Option (Int32 × xMem)) = some (r, M') from h)
  | succ n ih =>
    intro v3 M h
    rw [fX11_last_l21.eq_2] at h
    refine r_iload_n (pc := 21) C dX11_last_21 rfl rfl ?_
    refine r_if_lt (pc := 22) (tgt := 41) C dX11_last_22 (by decide) h (fun _ h => ?_) (fun _ h => ?_)
    · exact hK v3 M h
    · refine r_aload_n (pc := 25) C dX11_last_25 rfl rfl ?_
      refine r_iload_n (pc := 26) C dX11_last_26 rfl rfl ?_
      refine r_iload_n (pc := 27) C dX11_last_27 rfl rfl ?_
      refine r_iload_n (pc := 28) C dX11_last_28 rfl rfl ?_
      refine r_vI3 (pc := 29) C (fun r M' e => zX11_isRaider X.1 p0 hp0 v3 p1 p2 M r M' e) hp0 (by decide) rfl mX11_isRaider lX11_350 (by decide) (Nat.le_of_ble_eq_true rfl) dX11_last_29 h (fun r6 M7 h => ?_)
      refine r_if_ne (pc := 32) (tgt := 41) C dX11_last_32 (by decide) h (fun _ h => ?_) (fun _ h => ?_)
      · exact hK v3 M7 h
      · refine r_iincL (pc := 35) (c := (-1)) C dX11_last_35 rfl (by decide) hn3 h (fun x8 h => ?_)
        refine r_lvE (lv' := [_, _, _, _]) rfl ?_
        refine r_goto (pc := 38) (tgt := 21) C dX11_last_38 (by decide) ?_
        exact ih x8 M7 h
set_option maxRecDepth 100000 in
set_option maxHeartbeats 4000000 in
theorem zX11_last (G : xGX) (a0 : Nat) (h0 : xkd a0 = 11) (a1 : Int32) (a2 : Int32) (M : xMem) (r : Int32) (M' : xMem) (h : fX11_last a0 a1 a2 M = some (r, M')) : xCt G yX11_last cX11_last 4 (some .int) 4 [vr G a0, .int a1, .int a2] M (some (.int r), M') := by
  refine xMet (lv := [some (vr G a0), some (.int a1), some (.int a2), none]) (by decide) (Nat.le_of_ble_eq_true rfl) rfl ?_
  intro X hG hnL C R0
  subst hG
  have C : xCk X cX11_last RX11 4 := C
  have hn3 : 3 < X.2.2.2.2.2.2.2.2.2.2.2.2.2 := by rw [hnL]; decide
  unfold fX11_last at h
  refine r_aload_n (pc := 0) C dX11_last_0 rfl rfl ?_
  refine r_iload_n (pc := 1) C dX11_last_1 rfl rfl ?_
  refine r_iload_n (pc := 2) C dX11_last_2 rfl rfl ?_
  refine r_vI2 (pc := 3) C (fun r M' e => zX11_isOne X.1 a0 h0 a1 a2 M r M' e) h0 (by decide) rfl mX11_isOne lX11_344 (by decide) (Nat.le_of_ble_eq_true rfl) dX11_last_3 h (fun r1 M2 h => ?_)
  refine r_if_ne (pc := 6) (tgt := 12) C dX11_last_6 (by decide) h (fun _ h => ?_) (fun _ h => ?_)
  · refine r_aload_n (pc := 12) C dX11_last_12 rfl rfl ?_
    refine r_bipush (pc := 13) (v := (nI 25)) C dX11_last_13 (by decide) ?_
    refine r_vI1 (pc := 15) C (fun r M' e => zX11_get X.1 a0 h0 (nI 25) M2 r M' e) h0 (by decide) rfl mX11_get lX11_43 (by decide) (Nat.le_of_ble_eq_true rfl) dX11_last_15 h (fun r3 M4 h => ?_)
    refine r_iconst (pc := 18) (v := (nI 1)) C dX11_last_18 (by decide) ?_
    refine r_isub (pc := 19) C dX11_last_19 ?_
    refine r_letI h (fun x5 h => ?_)
    refine r_istore_n (pc := 20) (lv' := [_, _, _, _]) C dX11_last_20 rfl hn3 rfl ?_
    refine lX11_last_21 C R0 hnL a0 h0 a1 a2 _ (fun v9 M10 h => ?_) _ _ _ h
    refine r_iload_n (pc := 41) C dX11_last_41 rfl rfl ?_
    exact r_iret (pc := 42) C R0 h dX11_last_42
  · refine r_bipush (pc := 9) (v := (-2)) C dX11_last_9 (by decide) ?_
    exact r_iret (pc := 11) C R0 h dX11_last_11
theorem dX11_some_0 : decode cX11_some 0 = .ok (.aload_n 0, 1) := by decide +kernel
theorem dX11_some_1 : decode cX11_some 1 = .ok (.iload_n 1, 1) := by decide +kernel
theorem dX11_some_2 : decode cX11_some 2 = .ok (.invokevirtual 55, 3) := by decide +kernel
theorem dX11_some_5 : decode cX11_some 5 = .ok (.ifCond .eq 15, 3) := by decide +kernel
theorem dX11_some_8 : decode cX11_some 8 = .ok (.iload_n 2, 1) := by decide +kernel
theorem dX11_some_9 : decode cX11_some 9 = .ok (.i2l, 1) := by decide +kernel
theorem dX11_some_10 : decode cX11_some 10 = .ok (.lconst 0, 1) := by decide +kernel
theorem dX11_some_11 : decode cX11_some 11 = .ok (.ldc2_w 373, 3) := by decide +kernel
theorem dX11_some_14 : decode cX11_some 14 = .ok (.invokestatic 51, 3) := by decide +kernel
theorem dX11_some_17 : decode cX11_some 17 = .ok (.ifCond .ne 6, 3) := by decide +kernel
theorem dX11_some_20 : decode cX11_some 20 = .ok (.bipush (-2), 2) := by decide +kernel
theorem dX11_some_22 : decode cX11_some 22 = .ok (.ireturn, 1) := by decide +kernel
theorem dX11_some_23 : decode cX11_some 23 = .ok (.iconst 0, 1) := by decide +kernel
theorem dX11_some_24 : decode cX11_some 24 = .ok (.istore_n 3, 1) := by decide +kernel
theorem dX11_some_25 : decode cX11_some 25 = .ok (.iconst 0, 1) := by decide +kernel
theorem dX11_some_26 : decode cX11_some 26 = .ok (.istore 4, 2) := by decide +kernel
theorem dX11_some_28 : decode cX11_some 28 = .ok (.iload 4, 2) := by decide +kernel
theorem dX11_some_30 : decode cX11_some 30 = .ok (.aload_n 0, 1) := by decide +kernel
theorem dX11_some_31 : decode cX11_some 31 = .ok (.iload_n 1, 1) := by decide +kernel
theorem dX11_some_32 : decode cX11_some 32 = .ok (.invokevirtual 59, 3) := by decide +kernel
theorem dX11_some_35 : decode cX11_some 35 = .ok (.if_icmp .ge 31, 3) := by decide +kernel
theorem dX11_some_38 : decode cX11_some 38 = .ok (.iload_n 3, 1) := by decide +kernel
theorem dX11_some_39 : decode cX11_some 39 = .ok (.aload_n 0, 1) := by decide +kernel
theorem dX11_some_40 : decode cX11_some 40 = .ok (.iload_n 1, 1) := by decide +kernel
theorem dX11_some_41 : decode cX11_some 41 = .ok (.iload 4, 2) := by decide +kernel
theorem dX11_some_43 : decode cX11_some 43 = .ok (.iload_n 2, 1) := by decide +kernel
theorem dX11_some_44 : decode cX11_some 44 = .ok (.invokevirtual 375, 3) := by decide +kernel
theorem dX11_some_47 : decode cX11_some 47 = .ok (.ifCond .le 10, 3) := by decide +kernel
theorem dX11_some_50 : decode cX11_some 50 = .ok (.iconst 1, 1) := by decide +kernel
theorem dX11_some_51 : decode cX11_some 51 = .ok (.iload 4, 2) := by decide +kernel
theorem dX11_some_53 : decode cX11_some 53 = .ok (.ishl, 1) := by decide +kernel
theorem dX11_some_54 : decode cX11_some 54 = .ok (.goto 4, 3) := by decide +kernel
theorem dX11_some_57 : decode cX11_some 57 = .ok (.iconst 0, 1) := by decide +kernel
theorem dX11_some_58 : decode cX11_some 58 = .ok (.ior, 1) := by decide +kernel
theorem dX11_some_59 : decode cX11_some 59 = .ok (.istore_n 3, 1) := by decide +kernel
theorem dX11_some_60 : decode cX11_some 60 = .ok (.iinc 4 1, 3) := by decide +kernel
theorem dX11_some_63 : decode cX11_some 63 = .ok (.goto (-35), 3) := by decide +kernel
theorem dX11_some_66 : decode cX11_some 66 = .ok (.iload_n 3, 1) := by decide +kernel
theorem dX11_some_67 : decode cX11_some 67 = .ok (.ireturn, 1) := by decide +kernel
def fX11_some_l28 (p0 : Nat) (p1 : Int32) (p2 : Int32) (K : Int32 → Int32 → xMem → Option (Int32 × xMem)) : Nat → Int32 → Int32 → xMem → Option (Int32 × xMem)
  | 0, _, _, _ => none
  | n + 1, v3, v4, M => xBn (fX11_many p0 p1 M) fun r5 M6 => if r5 ≤ v4 then (K v3 v4 M6) else (xBn (fX11_ofOne p0 p1 v4 p2 M6) fun r7 M8 => xLt (fun (s9 : Int32) (M10 : xMem) => (xLt (v3 ||| s9) fun x11 => xLt (v4 + nI 1) fun x12 => fX11_some_l28 p0 p1 p2 K n x11 x12 M10 : Option (Int32 × xMem))) fun J58 => if r7 ≤ 0 then (J58 (nI 0) M8) else (J58 ((nI 1) <<< (v4 &&& 31)) M8))
def fX11_some (a0 : Nat) (a1 : Int32) (a2 : Int32) (M : xMem) : Option (Int32 × xMem) :=
  xBn (fX11_isTeam a0 a1 M) fun r1 M2 => if r1 = 0 then (some ((-2), M2)) else (xBn (fX11_in (Int32.toInt64 a2) (lN 0) (lN 7) M2) fun r3 M4 => if r3 = 0 then (some ((-2), M4)) else (fX11_some_l28 a0 a1 a2 (fun (v13 : Int32) (v14 : Int32) (M15 : xMem) => some (v13, M15)) xFU (nI 0) (nI 0) M4))
set_option maxRecDepth 100000 in
set_option maxHeartbeats 4000000 in
theorem lX11_some_28 {X : xCX} {r : Int32} {M' : xMem} (C : xCk X cX11_some RX11 6) (R0 : xRk X (some .int) (some (.int r), M')) (hnL : X.2.2.2.2.2.2.2.2.2.2.2.2.2 = 5) (p0 : Nat) (hp0 : xkd p0 = 11) (p1 : Int32) (p2 : Int32) (K : Int32 → Int32 → xMem → Option (Int32 × xMem)) (hK : ∀ (v3 : Int32) (v4 : Int32) (M : xMem), K v3 v4 M = some (r, M') → WW X 66 [some (vr X.1 p0), some (.int p1), some (.int p2), some (.int v3), some (.int v4)] [] M) : ∀ (n : Nat) (v3 : Int32) (v4 : Int32) (M : xMem), fX11_some_l28 p0 p1 p2 K n v3 v4 M = some (r, M') → WW X 28 [some (vr X.1 p0), some (.int p1), some (.int p2), some (.int v3), some (.int v4)] [] M := by
  have hn3 : 3 < X.2.2.2.2.2.2.2.2.2.2.2.2.2 := by rw [hnL]; decide
  have hn4 : 4 < X.2.2.2.2.2.2.2.2.2.2.2.2.2 := by rw [hnL]; decide
  intro n
  induction n with
  | zero =>
    intro v3 v4 M h
    cases (show (none : Option (Int32 × xMem)) = some (r, M') from h)
  | succ n ih =>
    intro v3 v4 M h
    rw [fX11_some_l28.eq_2] at h
    refine r_iload (pc := 28) C dX11_some_28 rfl ?_
    refine r_aload_n (pc := 30) C dX11_some_30 rfl rfl ?_
    refine r_iload_n (pc := 31) C dX11_some_31 rfl rfl ?_
    refine r_vI1 (pc := 32) C (fun r M' e => zX11_many X.1 p0 hp0 p1 M r M' e) hp0 (by decide) rfl mX11_many lX11_59 (by decide) (Nat.le_of_ble_eq_true rfl) dX11_some_32 h (fun r5 M6 h => ?_)
    refine r_icmp_ge (pc := 35) (tgt := 66) C dX11_some_35 (by decide) h (fun _ h => ?_) (fun _ h => ?_)
    · exact hK v3 v4 M6 h
    · refine r_iload_n (pc := 38) C dX11_some_38 rfl rfl ?_
      refine r_aload_n (pc := 39) C dX11_some_39 rfl rfl ?_
      refine r_iload_n (pc := 40) C dX11_some_40 rfl rfl ?_
      refine r_iload (pc := 41) C dX11_some_41 rfl ?_
      refine r_iload_n (pc := 43) C dX11_some_43 rfl rfl ?_
      refine r_vI3 (pc := 44) C (fun r M' e => zX11_ofOne X.1 p0 hp0 p1 v4 p2 M6 r M' e) hp0 (by decide) rfl mX11_ofOne lX11_375 (by decide) (Nat.le_of_ble_eq_true rfl) dX11_some_44 h (fun r7 M8 h => ?_)
      refine r_jn (fun J => ∀ (s9 : Int32) (M10 : xMem) , J s9 M10 = some (r, M') → WW X 58 [some (vr X.1 p0), some (.int p1), some (.int p2), some (.int v3), some (.int v4)] [.int s9, .int v3] M10) h (fun s9 M10  h => ?_) (fun J58 hJ58 h => ?_)
      · refine r_ior (pc := 58) C dX11_some_58 ?_
        refine r_letI h (fun x11 h => ?_)
        refine r_istore_n (pc := 59) (lv' := [_, _, _, _, _]) C dX11_some_59 rfl hn3 rfl ?_
        refine r_iincL (pc := 60) (c := nI 1) C dX11_some_60 rfl (by decide) hn4 h (fun x12 h => ?_)
        refine r_lvE (lv' := [_, _, _, _, _]) rfl ?_
        refine r_goto (pc := 63) (tgt := 28) C dX11_some_63 (by decide) ?_
        exact ih x11 x12 M10 h
      refine r_if_le (pc := 47) (tgt := 57) C dX11_some_47 (by decide) h (fun _ h => ?_) (fun _ h => ?_)
      · refine r_iconst (pc := 57) (v := (nI 0)) C dX11_some_57 (by decide) ?_
        exact hJ58 (nI 0) M8  h
      · refine r_iconst (pc := 50) (v := (nI 1)) C dX11_some_50 (by decide) ?_
        refine r_iload (pc := 51) C dX11_some_51 rfl ?_
        refine r_ishl (pc := 53) C dX11_some_53 ?_
        refine r_goto (pc := 54) (tgt := 58) C dX11_some_54 (by decide) ?_
        exact hJ58 ((nI 1) <<< (v4 &&& 31)) M8  h
set_option maxRecDepth 100000 in
set_option maxHeartbeats 4000000 in
theorem zX11_some (G : xGX) (a0 : Nat) (h0 : xkd a0 = 11) (a1 : Int32) (a2 : Int32) (M : xMem) (r : Int32) (M' : xMem) (h : fX11_some a0 a1 a2 M = some (r, M')) : xCt G yX11_some cX11_some 5 (some .int) 6 [vr G a0, .int a1, .int a2] M (some (.int r), M') := by
  refine xMet (lv := [some (vr G a0), some (.int a1), some (.int a2), none, none]) (by decide) (Nat.le_of_ble_eq_true rfl) rfl ?_
  intro X hG hnL C R0
  subst hG
  have C : xCk X cX11_some RX11 6 := C
  have hn3 : 3 < X.2.2.2.2.2.2.2.2.2.2.2.2.2 := by rw [hnL]; decide
  have hn4 : 4 < X.2.2.2.2.2.2.2.2.2.2.2.2.2 := by rw [hnL]; decide
  unfold fX11_some at h
  refine r_aload_n (pc := 0) C dX11_some_0 rfl rfl ?_
  refine r_iload_n (pc := 1) C dX11_some_1 rfl rfl ?_
  refine r_vI1 (pc := 2) C (fun r M' e => zX11_isTeam X.1 a0 h0 a1 M r M' e) h0 (by decide) rfl mX11_isTeam lX11_55 (by decide) (Nat.le_of_ble_eq_true rfl) dX11_some_2 h (fun r1 M2 h => ?_)
  refine r_if_eq (pc := 5) (tgt := 20) C dX11_some_5 (by decide) h (fun _ h => ?_) (fun _ h => ?_)
  · refine r_bipush (pc := 20) (v := (-2)) C dX11_some_20 (by decide) ?_
    exact r_iret (pc := 22) C R0 h dX11_some_22
  · refine r_iload_n (pc := 8) C dX11_some_8 rfl rfl ?_
    refine r_i2l (pc := 9) C dX11_some_9 ?_
    refine r_lconst (pc := 10) (v := lN 0) C dX11_some_10 rfl ?_
    refine r_ldc2 (pc := 11) C nX11_373 dX11_some_11 ?_
    refine r_sI3 (pc := 14) C (fun r M' e => zX11_in X.1 (Int32.toInt64 a2) (lN 0) (lN 7) M2 r M' e) mX11_in lX11_51 (by decide) (Nat.le_of_ble_eq_true rfl) dX11_some_14 h (fun r3 M4 h => ?_)
    refine r_if_ne (pc := 17) (tgt := 23) C dX11_some_17 (by decide) h (fun _ h => ?_) (fun _ h => ?_)
    · refine r_iconst (pc := 23) (v := (nI 0)) C dX11_some_23 (by decide) ?_
      refine r_istore_n (pc := 24) (lv' := [_, _, _, _, _]) C dX11_some_24 rfl hn3 rfl ?_
      refine r_iconst (pc := 25) (v := (nI 0)) C dX11_some_25 (by decide) ?_
      refine r_istore (pc := 26) (lv' := [_, _, _, _, _]) C dX11_some_26 hn4 rfl ?_
      refine lX11_some_28 C R0 hnL a0 h0 a1 a2 _ (fun v13 v14 M15 h => ?_) _ _ _ _ h
      refine r_iload_n (pc := 66) C dX11_some_66 rfl rfl ?_
      exact r_iret (pc := 67) C R0 h dX11_some_67
    · refine r_bipush (pc := 20) (v := (-2)) C dX11_some_20 (by decide) ?_
      exact r_iret (pc := 22) C R0 h dX11_some_22
theorem dX11_sum_0 : decode cX11_sum 0 = .ok (.aload_n 0, 1) := by decide +kernel
theorem dX11_sum_1 : decode cX11_sum 1 = .ok (.iload_n 1, 1) := by decide +kernel
theorem dX11_sum_2 : decode cX11_sum 2 = .ok (.invokevirtual 55, 3) := by decide +kernel
theorem dX11_sum_5 : decode cX11_sum 5 = .ok (.ifCond .eq 15, 3) := by decide +kernel
theorem dX11_sum_8 : decode cX11_sum 8 = .ok (.iload_n 2, 1) := by decide +kernel
theorem dX11_sum_9 : decode cX11_sum 9 = .ok (.i2l, 1) := by decide +kernel
theorem dX11_sum_10 : decode cX11_sum 10 = .ok (.lconst 0, 1) := by decide +kernel
theorem dX11_sum_11 : decode cX11_sum 11 = .ok (.ldc2_w 373, 3) := by decide +kernel
theorem dX11_sum_14 : decode cX11_sum 14 = .ok (.invokestatic 51, 3) := by decide +kernel
theorem dX11_sum_17 : decode cX11_sum 17 = .ok (.ifCond .ne 6, 3) := by decide +kernel
theorem dX11_sum_20 : decode cX11_sum 20 = .ok (.bipush (-2), 2) := by decide +kernel
theorem dX11_sum_22 : decode cX11_sum 22 = .ok (.ireturn, 1) := by decide +kernel
theorem dX11_sum_23 : decode cX11_sum 23 = .ok (.iconst 0, 1) := by decide +kernel
theorem dX11_sum_24 : decode cX11_sum 24 = .ok (.istore_n 3, 1) := by decide +kernel
theorem dX11_sum_25 : decode cX11_sum 25 = .ok (.iconst 0, 1) := by decide +kernel
theorem dX11_sum_26 : decode cX11_sum 26 = .ok (.istore 4, 2) := by decide +kernel
theorem dX11_sum_28 : decode cX11_sum 28 = .ok (.iload 4, 2) := by decide +kernel
theorem dX11_sum_30 : decode cX11_sum 30 = .ok (.aload_n 0, 1) := by decide +kernel
theorem dX11_sum_31 : decode cX11_sum 31 = .ok (.iload_n 1, 1) := by decide +kernel
theorem dX11_sum_32 : decode cX11_sum 32 = .ok (.invokevirtual 59, 3) := by decide +kernel
theorem dX11_sum_35 : decode cX11_sum 35 = .ok (.if_icmp .ge 20, 3) := by decide +kernel
theorem dX11_sum_38 : decode cX11_sum 38 = .ok (.iload_n 3, 1) := by decide +kernel
theorem dX11_sum_39 : decode cX11_sum 39 = .ok (.aload_n 0, 1) := by decide +kernel
theorem dX11_sum_40 : decode cX11_sum 40 = .ok (.iload_n 1, 1) := by decide +kernel
theorem dX11_sum_41 : decode cX11_sum 41 = .ok (.iload 4, 2) := by decide +kernel
theorem dX11_sum_43 : decode cX11_sum 43 = .ok (.iload_n 2, 1) := by decide +kernel
theorem dX11_sum_44 : decode cX11_sum 44 = .ok (.invokevirtual 375, 3) := by decide +kernel
theorem dX11_sum_47 : decode cX11_sum 47 = .ok (.iadd, 1) := by decide +kernel
theorem dX11_sum_48 : decode cX11_sum 48 = .ok (.istore_n 3, 1) := by decide +kernel
theorem dX11_sum_49 : decode cX11_sum 49 = .ok (.iinc 4 1, 3) := by decide +kernel
theorem dX11_sum_52 : decode cX11_sum 52 = .ok (.goto (-24), 3) := by decide +kernel
theorem dX11_sum_55 : decode cX11_sum 55 = .ok (.iload_n 3, 1) := by decide +kernel
theorem dX11_sum_56 : decode cX11_sum 56 = .ok (.ireturn, 1) := by decide +kernel
def fX11_sum_l28 (p0 : Nat) (p1 : Int32) (p2 : Int32) (K : Int32 → Int32 → xMem → Option (Int32 × xMem)) : Nat → Int32 → Int32 → xMem → Option (Int32 × xMem)
  | 0, _, _, _ => none
  | n + 1, v3, v4, M => xBn (fX11_many p0 p1 M) fun r5 M6 => if r5 ≤ v4 then (K v3 v4 M6) else (xBn (fX11_ofOne p0 p1 v4 p2 M6) fun r7 M8 => xLt (v3 + r7) fun x9 => xLt (v4 + nI 1) fun x10 => fX11_sum_l28 p0 p1 p2 K n x9 x10 M8)
def fX11_sum (a0 : Nat) (a1 : Int32) (a2 : Int32) (M : xMem) : Option (Int32 × xMem) :=
  xBn (fX11_isTeam a0 a1 M) fun r1 M2 => if r1 = 0 then (some ((-2), M2)) else (xBn (fX11_in (Int32.toInt64 a2) (lN 0) (lN 7) M2) fun r3 M4 => if r3 = 0 then (some ((-2), M4)) else (fX11_sum_l28 a0 a1 a2 (fun (v11 : Int32) (v12 : Int32) (M13 : xMem) => some (v11, M13)) xFU (nI 0) (nI 0) M4))
set_option maxRecDepth 100000 in
set_option maxHeartbeats 4000000 in
theorem lX11_sum_28 {X : xCX} {r : Int32} {M' : xMem} (C : xCk X cX11_sum RX11 6) (R0 : xRk X (some .int) (some (.int r), M')) (hnL : X.2.2.2.2.2.2.2.2.2.2.2.2.2 = 5) (p0 : Nat) (hp0 : xkd p0 = 11) (p1 : Int32) (p2 : Int32) (K : Int32 → Int32 → xMem → Option (Int32 × xMem)) (hK : ∀ (v3 : Int32) (v4 : Int32) (M : xMem), K v3 v4 M = some (r, M') → WW X 55 [some (vr X.1 p0), some (.int p1), some (.int p2), some (.int v3), some (.int v4)] [] M) : ∀ (n : Nat) (v3 : Int32) (v4 : Int32) (M : xMem), fX11_sum_l28 p0 p1 p2 K n v3 v4 M = some (r, M') → WW X 28 [some (vr X.1 p0), some (.int p1), some (.int p2), some (.int v3), some (.int v4)] [] M := by
  have hn3 : 3 < X.2.2.2.2.2.2.2.2.2.2.2.2.2 := by rw [hnL]; decide
  have hn4 : 4 < X.2.2.2.2.2.2.2.2.2.2.2.2.2 := by rw [hnL]; decide
  intro n
  induction n with
  | zero =>
    intro v3 v4 M h
    cases (show (none : Option (Int32 × xMem)) = some (r, M') from h)
  | succ n ih =>
    intro v3 v4 M h
    rw [fX11_sum_l28.eq_2] at h
    refine r_iload (pc := 28) C dX11_sum_28 rfl ?_
    refine r_aload_n (pc := 30) C dX11_sum_30 rfl rfl ?_
    refine r_iload_n (pc := 31) C dX11_sum_31 rfl rfl ?_
    refine r_vI1 (pc := 32) C (fun r M' e => zX11_many X.1 p0 hp0 p1 M r M' e) hp0 (by decide) rfl mX11_many lX11_59 (by decide) (Nat.le_of_ble_eq_true rfl) dX11_sum_32 h (fun r5 M6 h => ?_)
    refine r_icmp_ge (pc := 35) (tgt := 55) C dX11_sum_35 (by decide) h (fun _ h => ?_) (fun _ h => ?_)
    · exact hK v3 v4 M6 h
    · refine r_iload_n (pc := 38) C dX11_sum_38 rfl rfl ?_
      refine r_aload_n (pc := 39) C dX11_sum_39 rfl rfl ?_
      refine r_iload_n (pc := 40) C dX11_sum_40 rfl rfl ?_
      refine r_iload (pc := 41) C dX11_sum_41 rfl ?_
      refine r_iload_n (pc := 43) C dX11_sum_43 rfl rfl ?_
      refine r_vI3 (pc := 44) C (fun r M' e => zX11_ofOne X.1 p0 hp0 p1 v4 p2 M6 r M' e) hp0 (by decide) rfl mX11_ofOne lX11_375 (by decide) (Nat.le_of_ble_eq_true rfl) dX11_sum_44 h (fun r7 M8 h => ?_)
      refine r_iadd (pc := 47) C dX11_sum_47 ?_
      refine r_letI h (fun x9 h => ?_)
      refine r_istore_n (pc := 48) (lv' := [_, _, _, _, _]) C dX11_sum_48 rfl hn3 rfl ?_
      refine r_iincL (pc := 49) (c := nI 1) C dX11_sum_49 rfl (by decide) hn4 h (fun x10 h => ?_)
      refine r_lvE (lv' := [_, _, _, _, _]) rfl ?_
      refine r_goto (pc := 52) (tgt := 28) C dX11_sum_52 (by decide) ?_
      exact ih x9 x10 M8 h
set_option maxRecDepth 100000 in
set_option maxHeartbeats 4000000 in
theorem zX11_sum (G : xGX) (a0 : Nat) (h0 : xkd a0 = 11) (a1 : Int32) (a2 : Int32) (M : xMem) (r : Int32) (M' : xMem) (h : fX11_sum a0 a1 a2 M = some (r, M')) : xCt G yX11_sum cX11_sum 5 (some .int) 6 [vr G a0, .int a1, .int a2] M (some (.int r), M') := by
  refine xMet (lv := [some (vr G a0), some (.int a1), some (.int a2), none, none]) (by decide) (Nat.le_of_ble_eq_true rfl) rfl ?_
  intro X hG hnL C R0
  subst hG
  have C : xCk X cX11_sum RX11 6 := C
  have hn3 : 3 < X.2.2.2.2.2.2.2.2.2.2.2.2.2 := by rw [hnL]; decide
  have hn4 : 4 < X.2.2.2.2.2.2.2.2.2.2.2.2.2 := by rw [hnL]; decide
  unfold fX11_sum at h
  refine r_aload_n (pc := 0) C dX11_sum_0 rfl rfl ?_
  refine r_iload_n (pc := 1) C dX11_sum_1 rfl rfl ?_
  refine r_vI1 (pc := 2) C (fun r M' e => zX11_isTeam X.1 a0 h0 a1 M r M' e) h0 (by decide) rfl mX11_isTeam lX11_55 (by decide) (Nat.le_of_ble_eq_true rfl) dX11_sum_2 h (fun r1 M2 h => ?_)
  refine r_if_eq (pc := 5) (tgt := 20) C dX11_sum_5 (by decide) h (fun _ h => ?_) (fun _ h => ?_)
  · refine r_bipush (pc := 20) (v := (-2)) C dX11_sum_20 (by decide) ?_
    exact r_iret (pc := 22) C R0 h dX11_sum_22
  · refine r_iload_n (pc := 8) C dX11_sum_8 rfl rfl ?_
    refine r_i2l (pc := 9) C dX11_sum_9 ?_
    refine r_lconst (pc := 10) (v := lN 0) C dX11_sum_10 rfl ?_
    refine r_ldc2 (pc := 11) C nX11_373 dX11_sum_11 ?_
    refine r_sI3 (pc := 14) C (fun r M' e => zX11_in X.1 (Int32.toInt64 a2) (lN 0) (lN 7) M2 r M' e) mX11_in lX11_51 (by decide) (Nat.le_of_ble_eq_true rfl) dX11_sum_14 h (fun r3 M4 h => ?_)
    refine r_if_ne (pc := 17) (tgt := 23) C dX11_sum_17 (by decide) h (fun _ h => ?_) (fun _ h => ?_)
    · refine r_iconst (pc := 23) (v := (nI 0)) C dX11_sum_23 (by decide) ?_
      refine r_istore_n (pc := 24) (lv' := [_, _, _, _, _]) C dX11_sum_24 rfl hn3 rfl ?_
      refine r_iconst (pc := 25) (v := (nI 0)) C dX11_sum_25 (by decide) ?_
      refine r_istore (pc := 26) (lv' := [_, _, _, _, _]) C dX11_sum_26 hn4 rfl ?_
      refine lX11_sum_28 C R0 hnL a0 h0 a1 a2 _ (fun v11 v12 M13 h => ?_) _ _ _ _ h
      refine r_iload_n (pc := 55) C dX11_sum_55 rfl rfl ?_
      exact r_iret (pc := 56) C R0 h dX11_sum_56
    · refine r_bipush (pc := 20) (v := (-2)) C dX11_sum_20 (by decide) ?_
      exact r_iret (pc := 22) C R0 h dX11_sum_22
theorem dX11_lives_0 : decode cX11_lives 0 = .ok (.aload_n 0, 1) := by decide +kernel
theorem dX11_lives_1 : decode cX11_lives 1 = .ok (.iload_n 1, 1) := by decide +kernel
theorem dX11_lives_2 : decode cX11_lives 2 = .ok (.invokevirtual 55, 3) := by decide +kernel
theorem dX11_lives_5 : decode cX11_lives 5 = .ok (.ifCond .ne 6, 3) := by decide +kernel
theorem dX11_lives_8 : decode cX11_lives 8 = .ok (.bipush (-2), 2) := by decide +kernel
theorem dX11_lives_10 : decode cX11_lives 10 = .ok (.ireturn, 1) := by decide +kernel
theorem dX11_lives_11 : decode cX11_lives 11 = .ok (.iconst 0, 1) := by decide +kernel
theorem dX11_lives_12 : decode cX11_lives 12 = .ok (.istore_n 2, 1) := by decide +kernel
theorem dX11_lives_13 : decode cX11_lives 13 = .ok (.iconst 0, 1) := by decide +kernel
theorem dX11_lives_14 : decode cX11_lives 14 = .ok (.istore_n 3, 1) := by decide +kernel
theorem dX11_lives_15 : decode cX11_lives 15 = .ok (.iload_n 3, 1) := by decide +kernel
theorem dX11_lives_16 : decode cX11_lives 16 = .ok (.aload_n 0, 1) := by decide +kernel
theorem dX11_lives_17 : decode cX11_lives 17 = .ok (.bipush 25, 2) := by decide +kernel
theorem dX11_lives_19 : decode cX11_lives 19 = .ok (.invokevirtual 43, 3) := by decide +kernel
theorem dX11_lives_22 : decode cX11_lives 22 = .ok (.if_icmp .ge 34, 3) := by decide +kernel
theorem dX11_lives_25 : decode cX11_lives 25 = .ok (.iload_n 2, 1) := by decide +kernel
theorem dX11_lives_26 : decode cX11_lives 26 = .ok (.aload_n 0, 1) := by decide +kernel
theorem dX11_lives_27 : decode cX11_lives 27 = .ok (.iload_n 3, 1) := by decide +kernel
theorem dX11_lives_28 : decode cX11_lives 28 = .ok (.bipush 10, 2) := by decide +kernel
theorem dX11_lives_30 : decode cX11_lives 30 = .ok (.iload_n 1, 1) := by decide +kernel
theorem dX11_lives_31 : decode cX11_lives 31 = .ok (.iadd, 1) := by decide +kernel
theorem dX11_lives_32 : decode cX11_lives 32 = .ok (.invokevirtual 347, 3) := by decide +kernel
theorem dX11_lives_35 : decode cX11_lives 35 = .ok (.invokestatic 87, 3) := by decide +kernel
theorem dX11_lives_38 : decode cX11_lives 38 = .ok (.bipush 7, 2) := by decide +kernel
theorem dX11_lives_40 : decode cX11_lives 40 = .ok (.if_icmp .ne 7, 3) := by decide +kernel
theorem dX11_lives_43 : decode cX11_lives 43 = .ok (.iconst 1, 1) := by decide +kernel
theorem dX11_lives_44 : decode cX11_lives 44 = .ok (.goto 4, 3) := by decide +kernel
theorem dX11_lives_47 : decode cX11_lives 47 = .ok (.iconst 0, 1) := by decide +kernel
theorem dX11_lives_48 : decode cX11_lives 48 = .ok (.iadd, 1) := by decide +kernel
theorem dX11_lives_49 : decode cX11_lives 49 = .ok (.istore_n 2, 1) := by decide +kernel
theorem dX11_lives_50 : decode cX11_lives 50 = .ok (.iinc 3 1, 3) := by decide +kernel
theorem dX11_lives_53 : decode cX11_lives 53 = .ok (.goto (-38), 3) := by decide +kernel
theorem dX11_lives_56 : decode cX11_lives 56 = .ok (.iload_n 2, 1) := by decide +kernel
theorem dX11_lives_57 : decode cX11_lives 57 = .ok (.ireturn, 1) := by decide +kernel
def fX11_lives_l15 (p0 : Nat) (p1 : Int32) (K : Int32 → Int32 → xMem → Option (Int32 × xMem)) : Nat → Int32 → Int32 → xMem → Option (Int32 × xMem)
  | 0, _, _, _ => none
  | n + 1, v2, v3, M => xBn (fX11_get p0 (nI 25) M) fun r3 M4 => if r3 ≤ v3 then (K v2 v3 M4) else (xBn (fX11_rec p0 v3 ((nI 10) + p1) M4) fun r5 M6 => xBn (fX11_bits r5 M6) fun r7 M8 => xLt (fun (s9 : Int32) (M10 : xMem) => (xLt (v2 + s9) fun x11 => xLt (v3 + nI 1) fun x12 => fX11_lives_l15 p0 p1 K n x11 x12 M10 : Option (Int32 × xMem))) fun J48 => if r7 = (nI 7) then (J48 (nI 1) M8) else (J48 (nI 0) M8))
def fX11_lives (a0 : Nat) (a1 : Int32) (M : xMem) : Option (Int32 × xMem) :=
  xBn (fX11_isTeam a0 a1 M) fun r1 M2 => if r1 = 0 then (some ((-2), M2)) else (fX11_lives_l15 a0 a1 (fun (v13 : Int32) (v14 : Int32) (M15 : xMem) => some (v13, M15)) xFU (nI 0) (nI 0) M2)
set_option maxRecDepth 100000 in
set_option maxHeartbeats 4000000 in
theorem lX11_lives_15 {X : xCX} {r : Int32} {M' : xMem} (C : xCk X cX11_lives RX11 3) (R0 : xRk X (some .int) (some (.int r), M')) (hnL : X.2.2.2.2.2.2.2.2.2.2.2.2.2 = 4) (p0 : Nat) (hp0 : xkd p0 = 11) (p1 : Int32) (K : Int32 → Int32 → xMem → Option (Int32 × xMem)) (hK : ∀ (v2 : Int32) (v3 : Int32) (M : xMem), K v2 v3 M = some (r, M') → WW X 56 [some (vr X.1 p0), some (.int p1), some (.int v2), some (.int v3)] [] M) : ∀ (n : Nat) (v2 : Int32) (v3 : Int32) (M : xMem), fX11_lives_l15 p0 p1 K n v2 v3 M = some (r, M') → WW X 15 [some (vr X.1 p0), some (.int p1), some (.int v2), some (.int v3)] [] M := by
  have hn2 : 2 < X.2.2.2.2.2.2.2.2.2.2.2.2.2 := by rw [hnL]; decide
  have hn3 : 3 < X.2.2.2.2.2.2.2.2.2.2.2.2.2 := by rw [hnL]; decide
  intro n
  induction n with
  | zero =>
    intro v2 v3 M h
    cases (show (none : Option (Int32 × xMem)) = some (r, M') from h)
  | succ n ih =>
    intro v2 v3 M h
    rw [fX11_lives_l15.eq_2] at h
    refine r_iload_n (pc := 15) C dX11_lives_15 rfl rfl ?_
    refine r_aload_n (pc := 16) C dX11_lives_16 rfl rfl ?_
    refine r_bipush (pc := 17) (v := (nI 25)) C dX11_lives_17 (by decide) ?_
    refine r_vI1 (pc := 19) C (fun r M' e => zX11_get X.1 p0 hp0 (nI 25) M r M' e) hp0 (by decide) rfl mX11_get lX11_43 (by decide) (Nat.le_of_ble_eq_true rfl) dX11_lives_19 h (fun r3 M4 h => ?_)
    refine r_icmp_ge (pc := 22) (tgt := 56) C dX11_lives_22 (by decide) h (fun _ h => ?_) (fun _ h => ?_)
    · exact hK v2 v3 M4 h
    · refine r_iload_n (pc := 25) C dX11_lives_25 rfl rfl ?_
      refine r_aload_n (pc := 26) C dX11_lives_26 rfl rfl ?_
      refine r_iload_n (pc := 27) C dX11_lives_27 rfl rfl ?_
      refine r_bipush (pc := 28) (v := (nI 10)) C dX11_lives_28 (by decide) ?_
      refine r_iload_n (pc := 30) C dX11_lives_30 rfl rfl ?_
      refine r_iadd (pc := 31) C dX11_lives_31 ?_
      refine r_vI2 (pc := 32) C (fun r M' e => zX11_rec X.1 p0 hp0 v3 ((nI 10) + p1) M4 r M' e) hp0 (by decide) rfl mX11_rec lX11_347 (by decide) (Nat.le_of_ble_eq_true rfl) dX11_lives_32 h (fun r5 M6 h => ?_)
      refine r_sI1 (pc := 35) C (fun r M' e => zX11_bits X.1 r5 M6 r M' e) mX11_bits lX11_87 (by decide) (Nat.le_of_ble_eq_true rfl) dX11_lives_35 h (fun r7 M8 h => ?_)
      refine r_bipush (pc := 38) (v := (nI 7)) C dX11_lives_38 (by decide) ?_
      refine r_jn (fun J => ∀ (s9 : Int32) (M10 : xMem) , J s9 M10 = some (r, M') → WW X 48 [some (vr X.1 p0), some (.int p1), some (.int v2), some (.int v3)] [.int s9, .int v2] M10) h (fun s9 M10  h => ?_) (fun J48 hJ48 h => ?_)
      · refine r_iadd (pc := 48) C dX11_lives_48 ?_
        refine r_letI h (fun x11 h => ?_)
        refine r_istore_n (pc := 49) (lv' := [_, _, _, _]) C dX11_lives_49 rfl hn2 rfl ?_
        refine r_iincL (pc := 50) (c := nI 1) C dX11_lives_50 rfl (by decide) hn3 h (fun x12 h => ?_)
        refine r_lvE (lv' := [_, _, _, _]) rfl ?_
        refine r_goto (pc := 53) (tgt := 15) C dX11_lives_53 (by decide) ?_
        exact ih x11 x12 M10 h
      refine r_icmp_ne (pc := 40) (tgt := 47) C dX11_lives_40 (by decide) h (fun _ h => ?_) (fun _ h => ?_)
      · refine r_iconst (pc := 47) (v := (nI 0)) C dX11_lives_47 (by decide) ?_
        exact hJ48 (nI 0) M8  h
      · refine r_iconst (pc := 43) (v := (nI 1)) C dX11_lives_43 (by decide) ?_
        refine r_goto (pc := 44) (tgt := 48) C dX11_lives_44 (by decide) ?_
        exact hJ48 (nI 1) M8  h
set_option maxRecDepth 100000 in
set_option maxHeartbeats 4000000 in
theorem zX11_lives (G : xGX) (a0 : Nat) (h0 : xkd a0 = 11) (a1 : Int32) (M : xMem) (r : Int32) (M' : xMem) (h : fX11_lives a0 a1 M = some (r, M')) : xCt G yX11_lives cX11_lives 4 (some .int) 3 [vr G a0, .int a1] M (some (.int r), M') := by
  refine xMet (lv := [some (vr G a0), some (.int a1), none, none]) (by decide) (Nat.le_of_ble_eq_true rfl) rfl ?_
  intro X hG hnL C R0
  subst hG
  have C : xCk X cX11_lives RX11 3 := C
  have hn2 : 2 < X.2.2.2.2.2.2.2.2.2.2.2.2.2 := by rw [hnL]; decide
  have hn3 : 3 < X.2.2.2.2.2.2.2.2.2.2.2.2.2 := by rw [hnL]; decide
  unfold fX11_lives at h
  refine r_aload_n (pc := 0) C dX11_lives_0 rfl rfl ?_
  refine r_iload_n (pc := 1) C dX11_lives_1 rfl rfl ?_
  refine r_vI1 (pc := 2) C (fun r M' e => zX11_isTeam X.1 a0 h0 a1 M r M' e) h0 (by decide) rfl mX11_isTeam lX11_55 (by decide) (Nat.le_of_ble_eq_true rfl) dX11_lives_2 h (fun r1 M2 h => ?_)
  refine r_if_ne (pc := 5) (tgt := 11) C dX11_lives_5 (by decide) h (fun _ h => ?_) (fun _ h => ?_)
  · refine r_iconst (pc := 11) (v := (nI 0)) C dX11_lives_11 (by decide) ?_
    refine r_istore_n (pc := 12) (lv' := [_, _, _, _]) C dX11_lives_12 rfl hn2 rfl ?_
    refine r_iconst (pc := 13) (v := (nI 0)) C dX11_lives_13 (by decide) ?_
    refine r_istore_n (pc := 14) (lv' := [_, _, _, _]) C dX11_lives_14 rfl hn3 rfl ?_
    refine lX11_lives_15 C R0 hnL a0 h0 a1 _ (fun v13 v14 M15 h => ?_) _ _ _ _ h
    refine r_iload_n (pc := 56) C dX11_lives_56 rfl rfl ?_
    exact r_iret (pc := 57) C R0 h dX11_lives_57
  · refine r_bipush (pc := 8) (v := (-2)) C dX11_lives_8 (by decide) ?_
    exact r_iret (pc := 10) C R0 h dX11_lives_10
