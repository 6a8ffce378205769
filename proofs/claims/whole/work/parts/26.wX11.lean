theorem dX11_tell_0 : decode cX11_tell 0 = .ok (.aload_n 0, 1) := by decide +kernel
theorem dX11_tell_1 : decode cX11_tell 1 = .ok (.invokevirtual 47, 3) := by decide +kernel
theorem dX11_tell_4 : decode cX11_tell 4 = .ok (.ifCond .eq 15, 3) := by decide +kernel
theorem dX11_tell_7 : decode cX11_tell 7 = .ok (.iload_n 1, 1) := by decide +kernel
theorem dX11_tell_8 : decode cX11_tell 8 = .ok (.i2l, 1) := by decide +kernel
theorem dX11_tell_9 : decode cX11_tell 9 = .ok (.lconst 0, 1) := by decide +kernel
theorem dX11_tell_10 : decode cX11_tell 10 = .ok (.ldc2_w 66, 3) := by decide +kernel
theorem dX11_tell_13 : decode cX11_tell 13 = .ok (.invokestatic 51, 3) := by decide +kernel
theorem dX11_tell_16 : decode cX11_tell 16 = .ok (.ifCond .ne 6, 3) := by decide +kernel
theorem dX11_tell_19 : decode cX11_tell 19 = .ok (.bipush (-2), 2) := by decide +kernel
theorem dX11_tell_21 : decode cX11_tell 21 = .ok (.ireturn, 1) := by decide +kernel
theorem dX11_tell_22 : decode cX11_tell 22 = .ok (.aload_n 0, 1) := by decide +kernel
theorem dX11_tell_23 : decode cX11_tell 23 = .ok (.iconst 0, 1) := by decide +kernel
theorem dX11_tell_24 : decode cX11_tell 24 = .ok (.putfield 341, 3) := by decide +kernel
theorem dX11_tell_27 : decode cX11_tell 27 = .ok (.iconst 0, 1) := by decide +kernel
theorem dX11_tell_28 : decode cX11_tell 28 = .ok (.istore_n 2, 1) := by decide +kernel
theorem dX11_tell_29 : decode cX11_tell 29 = .ok (.iconst 0, 1) := by decide +kernel
theorem dX11_tell_30 : decode cX11_tell 30 = .ok (.istore_n 3, 1) := by decide +kernel
theorem dX11_tell_31 : decode cX11_tell 31 = .ok (.iload_n 3, 1) := by decide +kernel
theorem dX11_tell_32 : decode cX11_tell 32 = .ok (.aload_n 0, 1) := by decide +kernel
theorem dX11_tell_33 : decode cX11_tell 33 = .ok (.bipush 25, 2) := by decide +kernel
theorem dX11_tell_35 : decode cX11_tell 35 = .ok (.invokevirtual 43, 3) := by decide +kernel
theorem dX11_tell_38 : decode cX11_tell 38 = .ok (.if_icmp .ge 103, 3) := by decide +kernel
theorem dX11_tell_41 : decode cX11_tell 41 = .ok (.iload_n 1, 1) := by decide +kernel
theorem dX11_tell_42 : decode cX11_tell 42 = .ok (.ifCond .le 18, 3) := by decide +kernel
theorem dX11_tell_45 : decode cX11_tell 45 = .ok (.aload_n 0, 1) := by decide +kernel
theorem dX11_tell_46 : decode cX11_tell 46 = .ok (.iload_n 3, 1) := by decide +kernel
theorem dX11_tell_47 : decode cX11_tell 47 = .ok (.iconst 0, 1) := by decide +kernel
theorem dX11_tell_48 : decode cX11_tell 48 = .ok (.invokevirtual 347, 3) := by decide +kernel
theorem dX11_tell_51 : decode cX11_tell 51 = .ok (.iload_n 1, 1) := by decide +kernel
theorem dX11_tell_52 : decode cX11_tell 52 = .ok (.iconst 1, 1) := by decide +kernel
theorem dX11_tell_53 : decode cX11_tell 53 = .ok (.isub, 1) := by decide +kernel
theorem dX11_tell_54 : decode cX11_tell 54 = .ok (.if_icmp .eq 6, 3) := by decide +kernel
theorem dX11_tell_57 : decode cX11_tell 57 = .ok (.goto 78, 3) := by decide +kernel
theorem dX11_tell_60 : decode cX11_tell 60 = .ok (.aload_n 0, 1) := by decide +kernel
theorem dX11_tell_61 : decode cX11_tell 61 = .ok (.iload_n 3, 1) := by decide +kernel
theorem dX11_tell_62 : decode cX11_tell 62 = .ok (.invokevirtual 446, 3) := by decide +kernel
theorem dX11_tell_65 : decode cX11_tell 65 = .ok (.aload_n 0, 1) := by decide +kernel
theorem dX11_tell_66 : decode cX11_tell 66 = .ok (.getfield 341, 3) := by decide +kernel
theorem dX11_tell_69 : decode cX11_tell 69 = .ok (.aload_n 0, 1) := by decide +kernel
theorem dX11_tell_70 : decode cX11_tell 70 = .ok (.getfield 418, 3) := by decide +kernel
theorem dX11_tell_73 : decode cX11_tell 73 = .ok (.iadd, 1) := by decide +kernel
theorem dX11_tell_74 : decode cX11_tell 74 = .ok (.sipush 2000, 3) := by decide +kernel
theorem dX11_tell_77 : decode cX11_tell 77 = .ok (.if_icmp .le 5, 3) := by decide +kernel
theorem dX11_tell_80 : decode cX11_tell 80 = .ok (.iload_n 2, 1) := by decide +kernel
theorem dX11_tell_81 : decode cX11_tell 81 = .ok (.ireturn, 1) := by decide +kernel
theorem dX11_tell_82 : decode cX11_tell 82 = .ok (.iconst 0, 1) := by decide +kernel
theorem dX11_tell_83 : decode cX11_tell 83 = .ok (.istore 4, 2) := by decide +kernel
theorem dX11_tell_85 : decode cX11_tell 85 = .ok (.iload 4, 2) := by decide +kernel
theorem dX11_tell_87 : decode cX11_tell 87 = .ok (.aload_n 0, 1) := by decide +kernel
theorem dX11_tell_88 : decode cX11_tell 88 = .ok (.getfield 418, 3) := by decide +kernel
theorem dX11_tell_91 : decode cX11_tell 91 = .ok (.if_icmp .ge 28, 3) := by decide +kernel
theorem dX11_tell_94 : decode cX11_tell 94 = .ok (.aload_n 0, 1) := by decide +kernel
theorem dX11_tell_95 : decode cX11_tell 95 = .ok (.getfield 34, 3) := by decide +kernel
theorem dX11_tell_98 : decode cX11_tell 98 = .ok (.aload_n 0, 1) := by decide +kernel
theorem dX11_tell_99 : decode cX11_tell 99 = .ok (.getfield 341, 3) := by decide +kernel
theorem dX11_tell_102 : decode cX11_tell 102 = .ok (.iload 4, 2) := by decide +kernel
theorem dX11_tell_104 : decode cX11_tell 104 = .ok (.iadd, 1) := by decide +kernel
theorem dX11_tell_105 : decode cX11_tell 105 = .ok (.aload_n 0, 1) := by decide +kernel
theorem dX11_tell_106 : decode cX11_tell 106 = .ok (.getfield 37, 3) := by decide +kernel
theorem dX11_tell_109 : decode cX11_tell 109 = .ok (.iload 4, 2) := by decide +kernel
theorem dX11_tell_111 : decode cX11_tell 111 = .ok (.baload, 1) := by decide +kernel
theorem dX11_tell_112 : decode cX11_tell 112 = .ok (.bastore, 1) := by decide +kernel
theorem dX11_tell_113 : decode cX11_tell 113 = .ok (.iinc 4 1, 3) := by decide +kernel
theorem dX11_tell_116 : decode cX11_tell 116 = .ok (.goto (-31), 3) := by decide +kernel
theorem dX11_tell_119 : decode cX11_tell 119 = .ok (.aload_n 0, 1) := by decide +kernel
theorem dX11_tell_120 : decode cX11_tell 120 = .ok (.dup, 1) := by decide +kernel
theorem dX11_tell_121 : decode cX11_tell 121 = .ok (.getfield 341, 3) := by decide +kernel
theorem dX11_tell_124 : decode cX11_tell 124 = .ok (.aload_n 0, 1) := by decide +kernel
theorem dX11_tell_125 : decode cX11_tell 125 = .ok (.getfield 418, 3) := by decide +kernel
theorem dX11_tell_128 : decode cX11_tell 128 = .ok (.iadd, 1) := by decide +kernel
theorem dX11_tell_129 : decode cX11_tell 129 = .ok (.putfield 341, 3) := by decide +kernel
theorem dX11_tell_132 : decode cX11_tell 132 = .ok (.iinc 2 1, 3) := by decide +kernel
theorem dX11_tell_135 : decode cX11_tell 135 = .ok (.iinc 3 1, 3) := by decide +kernel
theorem dX11_tell_138 : decode cX11_tell 138 = .ok (.goto (-107), 3) := by decide +kernel
theorem dX11_tell_141 : decode cX11_tell 141 = .ok (.iload_n 2, 1) := by decide +kernel
theorem dX11_tell_142 : decode cX11_tell 142 = .ok (.ireturn, 1) := by decide +kernel
def fX11_tell_l85 (p0 : Nat) (p1 : Int32) (p2 : Int32) (p3 : Int32) (K : Int32 → xMem → Option (Int32 × xMem)) : Nat → Int32 → xMem → Option (Int32 × xMem)
  | 0, _, _ => none
  | n + 1, v4, M => if (M.1 p0 24) ≤ v4 then (K v4 M) else (xGb v4 (xln (xrf p0 23)) (xGb ((M.1 p0 22) + v4) (xln (xrf p0 21)) (xLt (xwI M (xrf p0 21) (Int32.toNatClampNeg ((M.1 p0 22) + v4)) (vp_nar .byte (M.1 (xrf p0 23) (Int32.toNatClampNeg v4)))) fun M12 => xLt (v4 + nI 1) fun x13 => fX11_tell_l85 p0 p1 p2 p3 K n x13 M12)))
def fX11_tell_l31 (p0 : Nat) (p1 : Int32) (K : Int32 → Int32 → xMem → Option (Int32 × xMem)) : Nat → Int32 → Int32 → xMem → Option (Int32 × xMem)
  | 0, _, _, _ => none
  | n + 1, v2, v3, M => xBn (fX11_get p0 (nI 25) M) fun r6 M7 => if r6 ≤ v3 then (K v2 v3 M7) else (xLt (fun  (M8 : xMem) => (xBv (fX11_tellsRaid p0 v3 M8) fun M9 => if ((M9.1 p0 22) + (M9.1 p0 24)) ≤ (nI 2000) then (fX11_tell_l85 p0 p1 v2 v3 (fun (v14 : Int32) (M15 : xMem) => xLt (xwI M15 p0 22 ((M15.1 p0 22) + (M15.1 p0 24))) fun M16 => xLt (v2 + nI 1) fun x17 => xLt (v3 + nI 1) fun x18 => fX11_tell_l31 p0 p1 K n x17 x18 M16) xFU (nI 0) M9) else (some (v2, M9)) : Option (Int32 × xMem))) fun J60 => if p1 ≤ 0 then (J60  M7) else (xBn (fX11_rec p0 v3 (nI 0) M7) fun r19 M20 => if r19 = (p1 - (nI 1)) then (J60  M20) else (xLt (v3 + nI 1) fun x21 => fX11_tell_l31 p0 p1 K n v2 x21 M20)))
def fX11_tell (a0 : Nat) (a1 : Int32) (M : xMem) : Option (Int32 × xMem) :=
  xBn (fX11_isThere a0 M) fun r1 M2 => if r1 = 0 then (some ((-2), M2)) else (xBn (fX11_in (Int32.toInt64 a1) (lN 0) (lN 2) M2) fun r3 M4 => if r3 = 0 then (some ((-2), M4)) else (xLt (xwI M4 a0 22 (nI 0)) fun M5 => fX11_tell_l31 a0 a1 (fun (v22 : Int32) (v23 : Int32) (M24 : xMem) => some (v22, M24)) xFU (nI 0) (nI 0) M5))
set_option maxRecDepth 100000 in
set_option maxHeartbeats 4000000 in
theorem lX11_tell_85 {X : xCX} {r : Int32} {M' : xMem} (C : xCk X cX11_tell RX11 7) (R0 : xRk X (some .int) (some (.int r), M')) (hnL : X.2.2.2.2.2.2.2.2.2.2.2.2.2 = 5) (p0 : Nat) (hp0 : xkd p0 = 11) (p1 : Int32) (p2 : Int32) (p3 : Int32) (K : Int32 → xMem → Option (Int32 × xMem)) (hK : ∀ (v4 : Int32) (M : xMem), K v4 M = some (r, M') → WW X 119 [some (vr X.1 p0), some (.int p1), some (.int p2), some (.int p3), some (.int v4)] [] M) : ∀ (n : Nat) (v4 : Int32) (M : xMem), fX11_tell_l85 p0 p1 p2 p3 K n v4 M = some (r, M') → WW X 85 [some (vr X.1 p0), some (.int p1), some (.int p2), some (.int p3), some (.int v4)] [] M := by
  have hn2 : 2 < X.2.2.2.2.2.2.2.2.2.2.2.2.2 := by rw [hnL]; decide
  have hn3 : 3 < X.2.2.2.2.2.2.2.2.2.2.2.2.2 := by rw [hnL]; decide
  have hn4 : 4 < X.2.2.2.2.2.2.2.2.2.2.2.2.2 := by rw [hnL]; decide
  intro n
  induction n with
  | zero =>
    intro v4 M h
    cases (show (none : Option (Int32 × xMem)) = some (r, M') from h)
  | succ n ih =>
    intro v4 M h
    rw [fX11_tell_l85.eq_2] at h
    refine r_iload (pc := 85) C dX11_tell_85 rfl ?_
    refine r_aload_n (pc := 87) C dX11_tell_87 rfl rfl ?_
    refine r_getI (pc := 88) C kX11_418 hp0 dX11_tell_88 ?_
    refine r_icmp_ge (pc := 91) (tgt := 119) C dX11_tell_91 (by decide) h (fun _ h => ?_) (fun _ h => ?_)
    · exact hK v4 M h
    · refine r_aload_n (pc := 94) C dX11_tell_94 rfl rfl ?_
      refine r_getR (pc := 95) C kX11_34 hp0 (by decide) dX11_tell_95 ?_
      refine r_aload_n (pc := 98) C dX11_tell_98 rfl rfl ?_
      refine r_getI (pc := 99) C kX11_341 hp0 dX11_tell_99 ?_
      refine r_iload (pc := 102) C dX11_tell_102 rfl ?_
      refine r_iadd (pc := 104) C dX11_tell_104 ?_
      refine r_aload_n (pc := 105) C dX11_tell_105 rfl rfl ?_
      refine r_getR (pc := 106) C kX11_37 hp0 (by decide) dX11_tell_106 ?_
      refine r_iload (pc := 109) C dX11_tell_109 rfl ?_
      obtain ⟨g10, h⟩ := xGb_of h
      refine r_bald (pc := 111) C (xtk hp0 (by decide) rfl rfl) g10 dX11_tell_111 ?_
      obtain ⟨g11, h⟩ := xGb_of h
      refine r_bast (pc := 112) C (xtk hp0 (by decide) rfl rfl) g11 dX11_tell_112 ?_
      refine r_letM h (fun M12 h => ?_)
      refine r_iincL (pc := 113) (c := nI 1) C dX11_tell_113 rfl (by decide) hn4 h (fun x13 h => ?_)
      refine r_lvE (lv' := [_, _, _, _, _]) rfl ?_
      refine r_goto (pc := 116) (tgt := 85) C dX11_tell_116 (by decide) ?_
      exact ih x13 M12 h
set_option maxRecDepth 100000 in
set_option maxHeartbeats 4000000 in
theorem lX11_tell_31 {X : xCX} {r : Int32} {M' : xMem} (C : xCk X cX11_tell RX11 7) (R0 : xRk X (some .int) (some (.int r), M')) (hnL : X.2.2.2.2.2.2.2.2.2.2.2.2.2 = 5) (p0 : Nat) (hp0 : xkd p0 = 11) (p1 : Int32) (K : Int32 → Int32 → xMem → Option (Int32 × xMem)) (hK : ∀ (v2 : Int32) (v3 : Int32) (M : xMem), K v2 v3 M = some (r, M') → WW X 141 [some (vr X.1 p0), some (.int p1), some (.int v2), some (.int v3), none] [] M) : ∀ (n : Nat) (v2 : Int32) (v3 : Int32) (M : xMem), fX11_tell_l31 p0 p1 K n v2 v3 M = some (r, M') → WW X 31 [some (vr X.1 p0), some (.int p1), some (.int v2), some (.int v3), none] [] M := by
  have hn2 : 2 < X.2.2.2.2.2.2.2.2.2.2.2.2.2 := by rw [hnL]; decide
  have hn3 : 3 < X.2.2.2.2.2.2.2.2.2.2.2.2.2 := by rw [hnL]; decide
  have hn4 : 4 < X.2.2.2.2.2.2.2.2.2.2.2.2.2 := by rw [hnL]; decide
  intro n
  induction n with
  | zero =>
    intro v2 v3 M h
    cases (show (none : Option (Int32 × xMem)) = some (r, M') from h)
  | succ n ih =>
    intro v2 v3 M h
    rw [fX11_tell_l31.eq_2] at h
    refine r_iload_n (pc := 31) C dX11_tell_31 rfl rfl ?_
    refine r_aload_n (pc := 32) C dX11_tell_32 rfl rfl ?_
    refine r_bipush (pc := 33) (v := (nI 25)) C dX11_tell_33 (by decide) ?_
    refine r_vI1 (pc := 35) C (fun r M' e => zX11_get X.1 p0 hp0 (nI 25) M r M' e) hp0 (by decide) rfl mX11_get lX11_43 (by decide) (Nat.le_of_ble_eq_true rfl) dX11_tell_35 h (fun r6 M7 h => ?_)
    refine r_icmp_ge (pc := 38) (tgt := 141) C dX11_tell_38 (by decide) h (fun _ h => ?_) (fun _ h => ?_)
    · exact hK v2 v3 M7 h
    · refine r_iload_n (pc := 41) C dX11_tell_41 rfl rfl ?_
      refine r_jn (fun J => ∀  (M8 : xMem) , J  M8 = some (r, M') → WW X 60 [some (vr X.1 p0), some (.int p1), some (.int v2), some (.int v3), none] [] M8) h (fun  M8  h => ?_) (fun J60 hJ60 h => ?_)
      · refine r_aload_n (pc := 60) C dX11_tell_60 rfl rfl ?_
        refine r_iload_n (pc := 61) C dX11_tell_61 rfl rfl ?_
        refine r_vV1 (pc := 62) C (fun M' e => zX11_tellsRaid X.1 p0 hp0 v3 M8 M' e) hp0 (by decide) rfl mX11_tellsRaid lX11_446 (by decide) (Nat.le_of_ble_eq_true rfl) dX11_tell_62 h (fun M9 h => ?_)
        refine r_aload_n (pc := 65) C dX11_tell_65 rfl rfl ?_
        refine r_getI (pc := 66) C kX11_341 hp0 dX11_tell_66 ?_
        refine r_aload_n (pc := 69) C dX11_tell_69 rfl rfl ?_
        refine r_getI (pc := 70) C kX11_418 hp0 dX11_tell_70 ?_
        refine r_iadd (pc := 73) C dX11_tell_73 ?_
        refine r_sipush (pc := 74) (v := (nI 2000)) C dX11_tell_74 (by decide) ?_
        refine r_icmp_le (pc := 77) (tgt := 82) C dX11_tell_77 (by decide) h (fun _ h => ?_) (fun _ h => ?_)
        · refine r_iconst (pc := 82) (v := (nI 0)) C dX11_tell_82 (by decide) ?_
          refine r_istore (pc := 83) (lv' := [_, _, _, _, _]) C dX11_tell_83 hn4 rfl ?_
          refine lX11_tell_85 C R0 hnL p0 hp0 p1 v2 v3 _ (fun v14 M15 h => ?_) _ _ _ h
          refine r_aload_n (pc := 119) C dX11_tell_119 rfl rfl ?_
          refine r_dup (pc := 120) C rfl dX11_tell_120 ?_
          refine r_getI (pc := 121) C kX11_341 hp0 dX11_tell_121 ?_
          refine r_aload_n (pc := 124) C dX11_tell_124 rfl rfl ?_
          refine r_getI (pc := 125) C kX11_418 hp0 dX11_tell_125 ?_
          refine r_iadd (pc := 128) C dX11_tell_128 ?_
          refine r_putI (pc := 129) C kX11_341 hp0 dX11_tell_129 ?_
          refine r_letM h (fun M16 h => ?_)
          refine r_iincL (pc := 132) (c := nI 1) C dX11_tell_132 rfl (by decide) hn2 h (fun x17 h => ?_)
          refine r_lvE (lv' := [_, _, _, _, _]) rfl ?_
          refine r_iincL (pc := 135) (c := nI 1) C dX11_tell_135 rfl (by decide) hn3 h (fun x18 h => ?_)
          refine r_lvE (lv' := [_, _, _, _, _]) rfl ?_
          refine r_goto (pc := 138) (tgt := 31) C dX11_tell_138 (by decide) ?_
          exact r_lv (xle_at (xle_some rfl (xle_some rfl (xle_some rfl (xle_some rfl (xle_none xle_nil)))))) (ih x17 x18 M16 h)
        · refine r_iload_n (pc := 80) C dX11_tell_80 rfl rfl ?_
          exact r_iret (pc := 81) C R0 h dX11_tell_81
      refine r_if_le (pc := 42) (tgt := 60) C dX11_tell_42 (by decide) h (fun _ h => ?_) (fun _ h => ?_)
      · exact hJ60  M7  h
      · refine r_aload_n (pc := 45) C dX11_tell_45 rfl rfl ?_
        refine r_iload_n (pc := 46) C dX11_tell_46 rfl rfl ?_
        refine r_iconst (pc := 47) (v := (nI 0)) C dX11_tell_47 (by decide) ?_
        refine r_vI2 (pc := 48) C (fun r M' e => zX11_rec X.1 p0 hp0 v3 (nI 0) M7 r M' e) hp0 (by decide) rfl mX11_rec lX11_347 (by decide) (Nat.le_of_ble_eq_true rfl) dX11_tell_48 h (fun r19 M20 h => ?_)
        refine r_iload_n (pc := 51) C dX11_tell_51 rfl rfl ?_
        refine r_iconst (pc := 52) (v := (nI 1)) C dX11_tell_52 (by decide) ?_
        refine r_isub (pc := 53) C dX11_tell_53 ?_
        refine r_icmp_eq (pc := 54) (tgt := 60) C dX11_tell_54 (by decide) h (fun _ h => ?_) (fun _ h => ?_)
        · exact hJ60  M20  h
        · refine r_goto (pc := 57) (tgt := 135) C dX11_tell_57 (by decide) ?_
          refine r_iincL (pc := 135) (c := nI 1) C dX11_tell_135 rfl (by decide) hn3 h (fun x21 h => ?_)
          refine r_lvE (lv' := [_, _, _, _, _]) rfl ?_
          refine r_goto (pc := 138) (tgt := 31) C dX11_tell_138 (by decide) ?_
          exact ih v2 x21 M20 h
set_option maxRecDepth 100000 in
set_option maxHeartbeats 4000000 in
theorem zX11_tell (G : xGX) (a0 : Nat) (h0 : xkd a0 = 11) (a1 : Int32) (M : xMem) (r : Int32) (M' : xMem) (h : fX11_tell a0 a1 M = some (r, M')) : xCt G yX11_tell cX11_tell 5 (some .int) 7 [vr G a0, .int a1] M (some (.int r), M') := by
  refine xMet (lv := [some (vr G a0), some (.int a1), none, none, none]) (by decide) (Nat.le_of_ble_eq_true rfl) rfl ?_
  intro X hG hnL C R0
  subst hG
  have C : xCk X cX11_tell RX11 7 := C
  have hn2 : 2 < X.2.2.2.2.2.2.2.2.2.2.2.2.2 := by rw [hnL]; decide
  have hn3 : 3 < X.2.2.2.2.2.2.2.2.2.2.2.2.2 := by rw [hnL]; decide
  have hn4 : 4 < X.2.2.2.2.2.2.2.2.2.2.2.2.2 := by rw [hnL]; decide
  unfold fX11_tell at h
  refine r_aload_n (pc := 0) C dX11_tell_0 rfl rfl ?_
  refine r_vI0 (pc := 1) C (fun r M' e => zX11_isThere X.1 a0 h0 M r M' e) h0 (by decide) rfl mX11_isThere lX11_47 (by decide) (Nat.le_of_ble_eq_true rfl) dX11_tell_1 h (fun r1 M2 h => ?_)
  refine r_if_eq (pc := 4) (tgt := 19) C dX11_tell_4 (by decide) h (fun _ h => ?_) (fun _ h => ?_)
  · refine r_bipush (pc := 19) (v := (-2)) C dX11_tell_19 (by decide) ?_
    exact r_iret (pc := 21) C R0 h dX11_tell_21
  · refine r_iload_n (pc := 7) C dX11_tell_7 rfl rfl ?_
    refine r_i2l (pc := 8) C dX11_tell_8 ?_
    refine r_lconst (pc := 9) (v := lN 0) C dX11_tell_9 rfl ?_
    refine r_ldc2 (pc := 10) C nX11_66 dX11_tell_10 ?_
    refine r_sI3 (pc := 13) C (fun r M' e => zX11_in X.1 (Int32.toInt64 a1) (lN 0) (lN 2) M2 r M' e) mX11_in lX11_51 (by decide) (Nat.le_of_ble_eq_true rfl) dX11_tell_13 h (fun r3 M4 h => ?_)
    refine r_if_ne (pc := 16) (tgt := 22) C dX11_tell_16 (by decide) h (fun _ h => ?_) (fun _ h => ?_)
    · refine r_aload_n (pc := 22) C dX11_tell_22 rfl rfl ?_
      refine r_iconst (pc := 23) (v := (nI 0)) C dX11_tell_23 (by decide) ?_
      refine r_putI (pc := 24) C kX11_341 h0 dX11_tell_24 ?_
      refine r_letM h (fun M5 h => ?_)
      refine r_iconst (pc := 27) (v := (nI 0)) C dX11_tell_27 (by decide) ?_
      refine r_istore_n (pc := 28) (lv' := [_, _, _, _, _]) C dX11_tell_28 rfl hn2 rfl ?_
      refine r_iconst (pc := 29) (v := (nI 0)) C dX11_tell_29 (by decide) ?_
      refine r_istore_n (pc := 30) (lv' := [_, _, _, _, _]) C dX11_tell_30 rfl hn3 rfl ?_
      refine lX11_tell_31 C R0 hnL a0 h0 a1 _ (fun v22 v23 M24 h => ?_) _ _ _ _ h
      refine r_iload_n (pc := 141) C dX11_tell_141 rfl rfl ?_
      exact r_iret (pc := 142) C R0 h dX11_tell_142
    · refine r_bipush (pc := 19) (v := (-2)) C dX11_tell_19 (by decide) ?_
      exact r_iret (pc := 21) C R0 h dX11_tell_21
theorem dX11_octet_0 : decode cX11_octet 0 = .ok (.iload_n 1, 1) := by decide +kernel
theorem dX11_octet_1 : decode cX11_octet 1 = .ok (.i2l, 1) := by decide +kernel
theorem dX11_octet_2 : decode cX11_octet 2 = .ok (.lconst 0, 1) := by decide +kernel
theorem dX11_octet_3 : decode cX11_octet 3 = .ok (.aload_n 0, 1) := by decide +kernel
theorem dX11_octet_4 : decode cX11_octet 4 = .ok (.getfield 341, 3) := by decide +kernel
theorem dX11_octet_7 : decode cX11_octet 7 = .ok (.iconst 1, 1) := by decide +kernel
theorem dX11_octet_8 : decode cX11_octet 8 = .ok (.isub, 1) := by decide +kernel
theorem dX11_octet_9 : decode cX11_octet 9 = .ok (.i2l, 1) := by decide +kernel
theorem dX11_octet_10 : decode cX11_octet 10 = .ok (.invokestatic 51, 3) := by decide +kernel
theorem dX11_octet_13 : decode cX11_octet 13 = .ok (.ifCond .eq 12, 3) := by decide +kernel
theorem dX11_octet_16 : decode cX11_octet 16 = .ok (.aload_n 0, 1) := by decide +kernel
theorem dX11_octet_17 : decode cX11_octet 17 = .ok (.getfield 34, 3) := by decide +kernel
theorem dX11_octet_20 : decode cX11_octet 20 = .ok (.iload_n 1, 1) := by decide +kernel
theorem dX11_octet_21 : decode cX11_octet 21 = .ok (.baload, 1) := by decide +kernel
theorem dX11_octet_22 : decode cX11_octet 22 = .ok (.goto 4, 3) := by decide +kernel
theorem dX11_octet_25 : decode cX11_octet 25 = .ok (.iconst (-1), 1) := by decide +kernel
theorem dX11_octet_26 : decode cX11_octet 26 = .ok (.ireturn, 1) := by decide +kernel
def fX11_octet (a0 : Nat) (a1 : Int32) (M : xMem) : Option (Int32 × xMem) :=
  xBn (fX11_in (Int32.toInt64 a1) (lN 0) (Int32.toInt64 ((M.1 a0 22) - (nI 1))) M) fun r1 M2 => if r1 = 0 then (some ((-1), M2)) else (xGb a1 (xln (xrf a0 21)) (some ((M2.1 (xrf a0 21) (Int32.toNatClampNeg a1)), M2)))
set_option maxRecDepth 100000 in
set_option maxHeartbeats 4000000 in
theorem zX11_octet (G : xGX) (a0 : Nat) (h0 : xkd a0 = 11) (a1 : Int32) (M : xMem) (r : Int32) (M' : xMem) (h : fX11_octet a0 a1 M = some (r, M')) : xCt G yX11_octet cX11_octet 2 (some .int) 2 [vr G a0, .int a1] M (some (.int r), M') := by
  refine xMet (lv := [some (vr G a0), some (.int a1)]) (by decide) (Nat.le_of_ble_eq_true rfl) rfl ?_
  intro X hG hnL C R0
  subst hG
  have C : xCk X cX11_octet RX11 2 := C
  unfold fX11_octet at h
  refine r_iload_n (pc := 0) C dX11_octet_0 rfl rfl ?_
  refine r_i2l (pc := 1) C dX11_octet_1 ?_
  refine r_lconst (pc := 2) (v := lN 0) C dX11_octet_2 rfl ?_
  refine r_aload_n (pc := 3) C dX11_octet_3 rfl rfl ?_
  refine r_getI (pc := 4) C kX11_341 h0 dX11_octet_4 ?_
  refine r_iconst (pc := 7) (v := (nI 1)) C dX11_octet_7 (by decide) ?_
  refine r_isub (pc := 8) C dX11_octet_8 ?_
  refine r_i2l (pc := 9) C dX11_octet_9 ?_
  refine r_sI3 (pc := 10) C (fun r M' e => zX11_in X.1 (Int32.toInt64 a1) (lN 0) (Int32.toInt64 ((M.1 a0 22) - (nI 1))) M r M' e) mX11_in lX11_51 (by decide) (Nat.le_of_ble_eq_true rfl) dX11_octet_10 h (fun r1 M2 h => ?_)
  refine r_if_eq (pc := 13) (tgt := 25) C dX11_octet_13 (by decide) h (fun _ h => ?_) (fun _ h => ?_)
  · refine r_iconst (pc := 25) (v := (-1)) C dX11_octet_25 (by decide) ?_
    exact r_iret (pc := 26) C R0 h dX11_octet_26
  · refine r_aload_n (pc := 16) C dX11_octet_16 rfl rfl ?_
    refine r_getR (pc := 17) C kX11_34 h0 (by decide) dX11_octet_17 ?_
    refine r_iload_n (pc := 20) C dX11_octet_20 rfl rfl ?_
    obtain ⟨g3, h⟩ := xGb_of h
    refine r_bald (pc := 21) C (xtk h0 (by decide) rfl rfl) g3 dX11_octet_21 ?_
    refine r_goto (pc := 22) (tgt := 26) C dX11_octet_22 (by decide) ?_
    exact r_iret (pc := 26) C R0 h dX11_octet_26
