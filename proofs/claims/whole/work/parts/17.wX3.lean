theorem dX3_readText_0 : decode cX3_readText 0 = .ok (.aload_n 0, 1) := by decide +kernel
theorem dX3_readText_1 : decode cX3_readText 1 = .ok (.getfield 45, 3) := by decide +kernel
theorem dX3_readText_4 : decode cX3_readText 4 = .ok (.getfield 49, 3) := by decide +kernel
theorem dX3_readText_7 : decode cX3_readText 7 = .ok (.invokevirtual 55, 3) := by decide +kernel
theorem dX3_readText_10 : decode cX3_readText 10 = .ok (.aload_n 0, 1) := by decide +kernel
theorem dX3_readText_11 : decode cX3_readText 11 = .ok (.iconst 0, 1) := by decide +kernel
theorem dX3_readText_12 : decode cX3_readText 12 = .ok (.putfield 25, 3) := by decide +kernel
theorem dX3_readText_15 : decode cX3_readText 15 = .ok (.aload_n 0, 1) := by decide +kernel
theorem dX3_readText_16 : decode cX3_readText 16 = .ok (.invokevirtual 60, 3) := by decide +kernel
theorem dX3_readText_19 : decode cX3_readText 19 = .ok (.aload_n 0, 1) := by decide +kernel
theorem dX3_readText_20 : decode cX3_readText 20 = .ok (.iconst 0, 1) := by decide +kernel
theorem dX3_readText_21 : decode cX3_readText 21 = .ok (.invokevirtual 63, 3) := by decide +kernel
theorem dX3_readText_24 : decode cX3_readText 24 = .ok (.istore_n 1, 1) := by decide +kernel
theorem dX3_readText_25 : decode cX3_readText 25 = .ok (.iload_n 1, 1) := by decide +kernel
theorem dX3_readText_26 : decode cX3_readText 26 = .ok (.ifCond .ne 9, 3) := by decide +kernel
theorem dX3_readText_29 : decode cX3_readText 29 = .ok (.aload_n 0, 1) := by decide +kernel
theorem dX3_readText_30 : decode cX3_readText 30 = .ok (.iconst 1, 1) := by decide +kernel
theorem dX3_readText_31 : decode cX3_readText 31 = .ok (.invokevirtual 63, 3) := by decide +kernel
theorem dX3_readText_34 : decode cX3_readText 34 = .ok (.istore_n 1, 1) := by decide +kernel
theorem dX3_readText_35 : decode cX3_readText 35 = .ok (.aload_n 0, 1) := by decide +kernel
theorem dX3_readText_36 : decode cX3_readText 36 = .ok (.getfield 45, 3) := by decide +kernel
theorem dX3_readText_39 : decode cX3_readText 39 = .ok (.invokevirtual 67, 3) := by decide +kernel
theorem dX3_readText_42 : decode cX3_readText 42 = .ok (.iconst 0, 1) := by decide +kernel
theorem dX3_readText_43 : decode cX3_readText 43 = .ok (.istore_n 2, 1) := by decide +kernel
theorem dX3_readText_44 : decode cX3_readText 44 = .ok (.iload_n 2, 1) := by decide +kernel
theorem dX3_readText_45 : decode cX3_readText 45 = .ok (.sipush 2000, 3) := by decide +kernel
theorem dX3_readText_48 : decode cX3_readText 48 = .ok (.if_icmp .ge 58, 3) := by decide +kernel
theorem dX3_readText_51 : decode cX3_readText 51 = .ok (.iload_n 1, 1) := by decide +kernel
theorem dX3_readText_52 : decode cX3_readText 52 = .ok (.ifCond .ne 54, 3) := by decide +kernel
theorem dX3_readText_55 : decode cX3_readText 55 = .ok (.aload_n 0, 1) := by decide +kernel
theorem dX3_readText_56 : decode cX3_readText 56 = .ok (.getfield 18, 3) := by decide +kernel
theorem dX3_readText_59 : decode cX3_readText 59 = .ok (.ifCond .eq 47, 3) := by decide +kernel
theorem dX3_readText_62 : decode cX3_readText 62 = .ok (.aload_n 0, 1) := by decide +kernel
theorem dX3_readText_63 : decode cX3_readText 63 = .ok (.invokevirtual 70, 3) := by decide +kernel
theorem dX3_readText_66 : decode cX3_readText 66 = .ok (.istore_n 1, 1) := by decide +kernel
theorem dX3_readText_67 : decode cX3_readText 67 = .ok (.iload_n 1, 1) := by decide +kernel
theorem dX3_readText_68 : decode cX3_readText 68 = .ok (.ifCond .ne 32, 3) := by decide +kernel
theorem dX3_readText_71 : decode cX3_readText 71 = .ok (.aload_n 0, 1) := by decide +kernel
theorem dX3_readText_72 : decode cX3_readText 72 = .ok (.getfield 45, 3) := by decide +kernel
theorem dX3_readText_75 : decode cX3_readText 75 = .ok (.getfield 49, 3) := by decide +kernel
theorem dX3_readText_78 : decode cX3_readText 78 = .ok (.aload_n 0, 1) := by decide +kernel
theorem dX3_readText_79 : decode cX3_readText 79 = .ok (.getfield 38, 3) := by decide +kernel
theorem dX3_readText_82 : decode cX3_readText 82 = .ok (.invokevirtual 74, 3) := by decide +kernel
theorem dX3_readText_85 : decode cX3_readText 85 = .ok (.aload_n 0, 1) := by decide +kernel
theorem dX3_readText_86 : decode cX3_readText 86 = .ok (.getfield 45, 3) := by decide +kernel
theorem dX3_readText_89 : decode cX3_readText 89 = .ok (.aload_n 0, 1) := by decide +kernel
theorem dX3_readText_90 : decode cX3_readText 90 = .ok (.getfield 38, 3) := by decide +kernel
theorem dX3_readText_93 : decode cX3_readText 93 = .ok (.invokevirtual 78, 3) := by decide +kernel
theorem dX3_readText_96 : decode cX3_readText 96 = .ok (.aload_n 0, 1) := by decide +kernel
theorem dX3_readText_97 : decode cX3_readText 97 = .ok (.invokevirtual 60, 3) := by decide +kernel
theorem dX3_readText_100 : decode cX3_readText 100 = .ok (.iinc 2 1, 3) := by decide +kernel
theorem dX3_readText_103 : decode cX3_readText 103 = .ok (.goto (-59), 3) := by decide +kernel
theorem dX3_readText_106 : decode cX3_readText 106 = .ok (.iload_n 1, 1) := by decide +kernel
theorem dX3_readText_107 : decode cX3_readText 107 = .ok (.ireturn, 1) := by decide +kernel
def fX3_readText_l44 (p0 : Nat) (K : Int32 → Int32 → xMem → Option (Int32 × xMem)) : Nat → Int32 → Int32 → xMem → Option (Int32 × xMem)
  | 0, _, _, _ => none
  | n + 1, v1, v2, M => if (nI 2000) ≤ v2 then (K v1 v2 M) else (if v1 = 0 then (if (M.1 p0 3) = 0 then (K v1 v2 M) else (xBn (fX3_readLine p0 M) fun r9 M10 => if r9 = 0 then (xBv (fX9_addLine (xrf (xrf p0 1) 0) (M10.2.1 p0 9) M10) fun M12 => xBv (fX2_apply (xrf p0 1) (M12.2.1 p0 9) M12) fun M13 => xBv (fX3_advance p0 M13) fun M14 => xLt (v2 + nI 1) fun x15 => fX3_readText_l44 p0 K n r9 x15 M14) else (xLt (v2 + nI 1) fun x11 => fX3_readText_l44 p0 K n r9 x11 M10))) else (K v1 v2 M))
def fX3_readText (a0 : Nat) (M : xMem) : Option (Int32 × xMem) :=
  xBv (fX9_clear (xrf (xrf a0 1) 0) M) fun M1 => xLt (xwI M1 a0 5 (nI 0)) fun M2 => xBv (fX3_advance a0 M2) fun M3 => xBn (fX3_readTeam a0 (nI 0) M3) fun r4 M5 => xLt (fun (v6 : Int32) (M7 : xMem) => (xBv (fX2_begin (xrf a0 1) M7) fun M8 => fX3_readText_l44 a0 (fun (v16 : Int32) (v17 : Int32) (M18 : xMem) => some (v16, M18)) xFU v6 (nI 0) M8 : Option (Int32 × xMem))) fun J35 => if r4 = 0 then (xBn (fX3_readTeam a0 (nI 1) M5) fun r19 M20 => J35 r19 M20) else (J35 r4 M5)
set_option maxRecDepth 100000 in
set_option maxHeartbeats 4000000 in
theorem lX3_readText_44 {X : xCX} {r : Int32} {M' : xMem} (C : xCk X cX3_readText RX3 10) (R0 : xRk X (some .int) (some (.int r), M')) (hnL : X.2.2.2.2.2.2.2.2.2.2.2.2.2 = 3) (p0 : Nat) (hp0 : xkd p0 = 3) (K : Int32 → Int32 → xMem → Option (Int32 × xMem)) (hK : ∀ (v1 : Int32) (v2 : Int32) (M : xMem), K v1 v2 M = some (r, M') → WW X 106 [some (vr X.1 p0), some (.int v1), some (.int v2)] [] M) : ∀ (n : Nat) (v1 : Int32) (v2 : Int32) (M : xMem), fX3_readText_l44 p0 K n v1 v2 M = some (r, M') → WW X 44 [some (vr X.1 p0), some (.int v1), some (.int v2)] [] M := by
  have hn1 : 1 < X.2.2.2.2.2.2.2.2.2.2.2.2.2 := by rw [hnL]; decide
  have hn2 : 2 < X.2.2.2.2.2.2.2.2.2.2.2.2.2 := by rw [hnL]; decide
  intro n
  induction n with
  | zero =>
    intro v1 v2 M h
    cases (show (none : Option (Int32 × xMem)) = some (r, M') from h)
  | succ n ih =>
    intro v1 v2 M h
    rw [fX3_readText_l44.eq_2] at h
    refine r_iload_n (pc := 44) C dX3_readText_44 rfl rfl ?_
    refine r_sipush (pc := 45) (v := (nI 2000)) C dX3_readText_45 (by decide) ?_
    refine r_icmp_ge (pc := 48) (tgt := 106) C dX3_readText_48 (by decide) h (fun _ h => ?_) (fun _ h => ?_)
    · exact hK v1 v2 M h
    · refine r_iload_n (pc := 51) C dX3_readText_51 rfl rfl ?_
      refine r_if_ne (pc := 52) (tgt := 106) C dX3_readText_52 (by decide) h (fun _ h => ?_) (fun _ h => ?_)
      · exact hK v1 v2 M h
      · refine r_aload_n (pc := 55) C dX3_readText_55 rfl rfl ?_
        refine r_getI (pc := 56) C kX3_18 hp0 dX3_readText_56 ?_
        refine r_if_eq (pc := 59) (tgt := 106) C dX3_readText_59 (by decide) h (fun _ h => ?_) (fun _ h => ?_)
        · exact hK v1 v2 M h
        · refine r_aload_n (pc := 62) C dX3_readText_62 rfl rfl ?_
          refine r_vI0 (pc := 63) C (fun r M' e => zX3_readLine X.1 p0 hp0 M r M' e) hp0 (by decide) rfl mX3_readLine lX3_70 (by decide) (Nat.le_of_ble_eq_true rfl) dX3_readText_63 h (fun r9 M10 h => ?_)
          refine r_istore_n (pc := 66) (lv' := [_, _, _]) C dX3_readText_66 rfl hn1 rfl ?_
          refine r_iload_n (pc := 67) C dX3_readText_67 rfl rfl ?_
          refine r_if_ne (pc := 68) (tgt := 100) C dX3_readText_68 (by decide) h (fun _ h => ?_) (fun _ h => ?_)
          · refine r_iincL (pc := 100) (c := nI 1) C dX3_readText_100 rfl (by decide) hn2 h (fun x11 h => ?_)
            refine r_lvE (lv' := [_, _, _]) rfl ?_
            refine r_goto (pc := 103) (tgt := 44) C dX3_readText_103 (by decide) ?_
            exact ih r9 x11 M10 h
          · refine r_aload_n (pc := 71) C dX3_readText_71 rfl rfl ?_
            refine r_getR (pc := 72) C kX3_45 hp0 (by decide) dX3_readText_72 ?_
            refine r_getR (pc := 75) C kX3_49 (xtk hp0 (by decide) rfl rfl) (by decide) dX3_readText_75 ?_
            refine r_aload_n (pc := 78) C dX3_readText_78 rfl rfl ?_
            refine r_getL (pc := 79) C kX3_38 hp0 dX3_readText_79 ?_
            refine r_vV1 (pc := 82) C (fun M' e => zX9_addLine X.1 (xrf (xrf p0 1) 0) (xtk (xtk hp0 (by decide) rfl rfl) (by decide) rfl rfl) (M10.2.1 p0 9) M10 M' e) (xtk (xtk hp0 (by decide) rfl rfl) (by decide) rfl rfl) (by decide) rfl mX9_addLine lX3_74 (by decide) (Nat.le_of_ble_eq_true rfl) dX3_readText_82 h (fun M12 h => ?_)
            refine r_aload_n (pc := 85) C dX3_readText_85 rfl rfl ?_
            refine r_getR (pc := 86) C kX3_45 hp0 (by decide) dX3_readText_86 ?_
            refine r_aload_n (pc := 89) C dX3_readText_89 rfl rfl ?_
            refine r_getL (pc := 90) C kX3_38 hp0 dX3_readText_90 ?_
            refine r_vV1 (pc := 93) C (fun M' e => zX2_apply X.1 (xrf p0 1) (xtk hp0 (by decide) rfl rfl) (M12.2.1 p0 9) M12 M' e) (xtk hp0 (by decide) rfl rfl) (by decide) rfl mX2_apply lX3_78 (by decide) (Nat.le_of_ble_eq_true rfl) dX3_readText_93 h (fun M13 h => ?_)
            refine r_aload_n (pc := 96) C dX3_readText_96 rfl rfl ?_
            refine r_vV0 (pc := 97) C (fun M' e => zX3_advance X.1 p0 hp0 M13 M' e) hp0 (by decide) rfl mX3_advance lX3_60 (by decide) (Nat.le_of_ble_eq_true rfl) dX3_readText_97 h (fun M14 h => ?_)
            refine r_iincL (pc := 100) (c := nI 1) C dX3_readText_100 rfl (by decide) hn2 h (fun x15 h => ?_)
            refine r_lvE (lv' := [_, _, _]) rfl ?_
            refine r_goto (pc := 103) (tgt := 44) C dX3_readText_103 (by decide) ?_
            exact ih r9 x15 M14 h
set_option maxRecDepth 100000 in
set_option maxHeartbeats 4000000 in
theorem zX3_readText (G : xGX) (a0 : Nat) (h0 : xkd a0 = 3) (M : xMem) (r : Int32) (M' : xMem) (h : fX3_readText a0 M = some (r, M')) : xCt G yX3_readText cX3_readText 3 (some .int) 10 [vr G a0] M (some (.int r), M') := by
  refine xMet (lv := [some (vr G a0), none, none]) (by decide) (Nat.le_of_ble_eq_true rfl) rfl ?_
  intro X hG hnL C R0
  subst hG
  have C : xCk X cX3_readText RX3 10 := C
  have hn1 : 1 < X.2.2.2.2.2.2.2.2.2.2.2.2.2 := by rw [hnL]; decide
  have hn2 : 2 < X.2.2.2.2.2.2.2.2.2.2.2.2.2 := by rw [hnL]; decide
  unfold fX3_readText at h
  refine r_aload_n (pc := 0) C dX3_readText_0 rfl rfl ?_
  refine r_getR (pc := 1) C kX3_45 h0 (by decide) dX3_readText_1 ?_
  refine r_getR (pc := 4) C kX3_49 (xtk h0 (by decide) rfl rfl) (by decide) dX3_readText_4 ?_
  refine r_vV0 (pc := 7) C (fun M' e => zX9_clear X.1 (xrf (xrf a0 1) 0) (xtk (xtk h0 (by decide) rfl rfl) (by decide) rfl rfl) M M' e) (xtk (xtk h0 (by decide) rfl rfl) (by decide) rfl rfl) (by decide) rfl mX9_clear lX3_55 (by decide) (Nat.le_of_ble_eq_true rfl) dX3_readText_7 h (fun M1 h => ?_)
  refine r_aload_n (pc := 10) C dX3_readText_10 rfl rfl ?_
  refine r_iconst (pc := 11) (v := (nI 0)) C dX3_readText_11 (by decide) ?_
  refine r_putI (pc := 12) C kX3_25 h0 dX3_readText_12 ?_
  refine r_letM h (fun M2 h => ?_)
  refine r_aload_n (pc := 15) C dX3_readText_15 rfl rfl ?_
  refine r_vV0 (pc := 16) C (fun M' e => zX3_advance X.1 a0 h0 M2 M' e) h0 (by decide) rfl mX3_advance lX3_60 (by decide) (Nat.le_of_ble_eq_true rfl) dX3_readText_16 h (fun M3 h => ?_)
  refine r_aload_n (pc := 19) C dX3_readText_19 rfl rfl ?_
  refine r_iconst (pc := 20) (v := (nI 0)) C dX3_readText_20 (by decide) ?_
  refine r_vI1 (pc := 21) C (fun r M' e => zX3_readTeam X.1 a0 h0 (nI 0) M3 r M' e) h0 (by decide) rfl mX3_readTeam lX3_63 (by decide) (Nat.le_of_ble_eq_true rfl) dX3_readText_21 h (fun r4 M5 h => ?_)
  refine r_istore_n (pc := 24) (lv' := [_, _, _]) C dX3_readText_24 rfl hn1 rfl ?_
  refine r_iload_n (pc := 25) C dX3_readText_25 rfl rfl ?_
  refine r_jn (fun J => ∀ (v6 : Int32) (M7 : xMem) , J v6 M7 = some (r, M') → WW X 35 [some (vr X.1 a0), some (.int v6), none] [] M7) h (fun v6 M7  h => ?_) (fun J35 hJ35 h => ?_)
  · refine r_aload_n (pc := 35) C dX3_readText_35 rfl rfl ?_
    refine r_getR (pc := 36) C kX3_45 h0 (by decide) dX3_readText_36 ?_
    refine r_vV0 (pc := 39) C (fun M' e => zX2_begin X.1 (xrf a0 1) (xtk h0 (by decide) rfl rfl) M7 M' e) (xtk h0 (by decide) rfl rfl) (by decide) rfl mX2_begin lX3_67 (by decide) (Nat.le_of_ble_eq_true rfl) dX3_readText_39 h (fun M8 h => ?_)
    refine r_iconst (pc := 42) (v := (nI 0)) C dX3_readText_42 (by decide) ?_
    refine r_istore_n (pc := 43) (lv' := [_, _, _]) C dX3_readText_43 rfl hn2 rfl ?_
    refine lX3_readText_44 C R0 hnL a0 h0 _ (fun v16 v17 M18 h => ?_) _ _ _ _ h
    refine r_iload_n (pc := 106) C dX3_readText_106 rfl rfl ?_
    exact r_iret (pc := 107) C R0 h dX3_readText_107
  refine r_if_ne (pc := 26) (tgt := 35) C dX3_readText_26 (by decide) h (fun _ h => ?_) (fun _ h => ?_)
  · exact hJ35 r4 M5  h
  · refine r_aload_n (pc := 29) C dX3_readText_29 rfl rfl ?_
    refine r_iconst (pc := 30) (v := (nI 1)) C dX3_readText_30 (by decide) ?_
    refine r_vI1 (pc := 31) C (fun r M' e => zX3_readTeam X.1 a0 h0 (nI 1) M5 r M' e) h0 (by decide) rfl mX3_readTeam lX3_63 (by decide) (Nat.le_of_ble_eq_true rfl) dX3_readText_31 h (fun r19 M20 h => ?_)
    refine r_istore_n (pc := 34) (lv' := [_, _, _]) C dX3_readText_34 rfl hn1 rfl ?_
    exact hJ35 r19 M20  h
