theorem dX1_meetings_0 : decode cX1_meetings 0 = .ok (.iconst 0, 1) := by decide +kernel
theorem dX1_meetings_1 : decode cX1_meetings 1 = .ok (.istore 5, 2) := by decide +kernel
theorem dX1_meetings_3 : decode cX1_meetings 3 = .ok (.iconst 0, 1) := by decide +kernel
theorem dX1_meetings_4 : decode cX1_meetings 4 = .ok (.istore 6, 2) := by decide +kernel
theorem dX1_meetings_6 : decode cX1_meetings 6 = .ok (.iload 6, 2) := by decide +kernel
theorem dX1_meetings_8 : decode cX1_meetings 8 = .ok (.aload_n 0, 1) := by decide +kernel
theorem dX1_meetings_9 : decode cX1_meetings 9 = .ok (.getfield 30, 3) := by decide +kernel
theorem dX1_meetings_12 : decode cX1_meetings 12 = .ok (.if_icmp .ge 76, 3) := by decide +kernel
theorem dX1_meetings_15 : decode cX1_meetings 15 = .ok (.aload_n 0, 1) := by decide +kernel
theorem dX1_meetings_16 : decode cX1_meetings 16 = .ok (.iload_n 1, 1) := by decide +kernel
theorem dX1_meetings_17 : decode cX1_meetings 17 = .ok (.iload_n 2, 1) := by decide +kernel
theorem dX1_meetings_18 : decode cX1_meetings 18 = .ok (.iload 6, 2) := by decide +kernel
theorem dX1_meetings_20 : decode cX1_meetings 20 = .ok (.invokevirtual 137, 3) := by decide +kernel
theorem dX1_meetings_23 : decode cX1_meetings 23 = .ok (.ifCond .eq 59, 3) := by decide +kernel
theorem dX1_meetings_26 : decode cX1_meetings 26 = .ok (.aload_n 0, 1) := by decide +kernel
theorem dX1_meetings_27 : decode cX1_meetings 27 = .ok (.getfield 13, 3) := by decide +kernel
theorem dX1_meetings_30 : decode cX1_meetings 30 = .ok (.iconst 2, 1) := by decide +kernel
theorem dX1_meetings_31 : decode cX1_meetings 31 = .ok (.aaload, 1) := by decide +kernel
theorem dX1_meetings_32 : decode cX1_meetings 32 = .ok (.iload 6, 2) := by decide +kernel
theorem dX1_meetings_34 : decode cX1_meetings 34 = .ok (.iaload, 1) := by decide +kernel
theorem dX1_meetings_35 : decode cX1_meetings 35 = .ok (.iload 4, 2) := by decide +kernel
theorem dX1_meetings_37 : decode cX1_meetings 37 = .ok (.if_icmp .ne 45, 3) := by decide +kernel
theorem dX1_meetings_40 : decode cX1_meetings 40 = .ok (.aload_n 0, 1) := by decide +kernel
theorem dX1_meetings_41 : decode cX1_meetings 41 = .ok (.getfield 13, 3) := by decide +kernel
theorem dX1_meetings_44 : decode cX1_meetings 44 = .ok (.iconst 5, 1) := by decide +kernel
theorem dX1_meetings_45 : decode cX1_meetings 45 = .ok (.aaload, 1) := by decide +kernel
theorem dX1_meetings_46 : decode cX1_meetings 46 = .ok (.iload 6, 2) := by decide +kernel
theorem dX1_meetings_48 : decode cX1_meetings 48 = .ok (.iaload, 1) := by decide +kernel
theorem dX1_meetings_49 : decode cX1_meetings 49 = .ok (.istore 7, 2) := by decide +kernel
theorem dX1_meetings_51 : decode cX1_meetings 51 = .ok (.iload 5, 2) := by decide +kernel
theorem dX1_meetings_53 : decode cX1_meetings 53 = .ok (.iload 4, 2) := by decide +kernel
theorem dX1_meetings_55 : decode cX1_meetings 55 = .ok (.iconst 1, 1) := by decide +kernel
theorem dX1_meetings_56 : decode cX1_meetings 56 = .ok (.if_icmp .ne 12, 3) := by decide +kernel
theorem dX1_meetings_59 : decode cX1_meetings 59 = .ok (.iload 7, 2) := by decide +kernel
theorem dX1_meetings_61 : decode cX1_meetings 61 = .ok (.iload_n 3, 1) := by decide +kernel
theorem dX1_meetings_62 : decode cX1_meetings 62 = .ok (.ishr, 1) := by decide +kernel
theorem dX1_meetings_63 : decode cX1_meetings 63 = .ok (.iconst 1, 1) := by decide +kernel
theorem dX1_meetings_64 : decode cX1_meetings 64 = .ok (.iand, 1) := by decide +kernel
theorem dX1_meetings_65 : decode cX1_meetings 65 = .ok (.goto 14, 3) := by decide +kernel
theorem dX1_meetings_68 : decode cX1_meetings 68 = .ok (.iload 7, 2) := by decide +kernel
theorem dX1_meetings_70 : decode cX1_meetings 70 = .ok (.iload_n 3, 1) := by decide +kernel
theorem dX1_meetings_71 : decode cX1_meetings 71 = .ok (.if_icmp .ne 7, 3) := by decide +kernel
theorem dX1_meetings_74 : decode cX1_meetings 74 = .ok (.iconst 1, 1) := by decide +kernel
theorem dX1_meetings_75 : decode cX1_meetings 75 = .ok (.goto 4, 3) := by decide +kernel
theorem dX1_meetings_78 : decode cX1_meetings 78 = .ok (.iconst 0, 1) := by decide +kernel
theorem dX1_meetings_79 : decode cX1_meetings 79 = .ok (.iadd, 1) := by decide +kernel
theorem dX1_meetings_80 : decode cX1_meetings 80 = .ok (.istore 5, 2) := by decide +kernel
theorem dX1_meetings_82 : decode cX1_meetings 82 = .ok (.iinc 6 1, 3) := by decide +kernel
theorem dX1_meetings_85 : decode cX1_meetings 85 = .ok (.goto (-79), 3) := by decide +kernel
theorem dX1_meetings_88 : decode cX1_meetings 88 = .ok (.iload 5, 2) := by decide +kernel
theorem dX1_meetings_90 : decode cX1_meetings 90 = .ok (.ireturn, 1) := by decide +kernel
def fX1_meetings_l6 (p0 : Nat) (p1 : Int32) (p2 : Int32) (p3 : Int32) (p4 : Int32) (K : Int32 → Int32 → xMem → Option (Int32 × xMem)) : Nat → Int32 → Int32 → xMem → Option (Int32 × xMem)
  | 0, _, _, _ => none
  | n + 1, v5, v6, M => if (M.1 p0 5) ≤ v6 then (K v5 v6 M) else (xBn (fX1_isRaider p0 p1 p2 v6 M) fun r1 M2 => if r1 = 0 then (xLt (v6 + nI 1) fun x3 => fX1_meetings_l6 p0 p1 p2 p3 p4 K n v5 x3 M2) else (xGb (nI 2) (xln (xrf p0 0)) (xGb v6 (xln (xrf (xrf p0 0) (Int32.toNatClampNeg (nI 2)))) (if (M2.1 (xrf (xrf p0 0) (Int32.toNatClampNeg (nI 2))) (Int32.toNatClampNeg v6)) = p4 then (xGb (nI 5) (xln (xrf p0 0)) (xGb v6 (xln (xrf (xrf p0 0) (Int32.toNatClampNeg (nI 5)))) (xLt (M2.1 (xrf (xrf p0 0) (Int32.toNatClampNeg (nI 5))) (Int32.toNatClampNeg v6)) fun x9 => if p4 = (nI 1) then (xLt (v5 + ((x9 >>> (p3 &&& 31)) &&& (nI 1))) fun x14 => xLt (v6 + nI 1) fun x15 => fX1_meetings_l6 p0 p1 p2 p3 p4 K n x14 x15 M2) else (if x9 = p3 then (xLt (v5 + (nI 1)) fun x12 => xLt (v6 + nI 1) fun x13 => fX1_meetings_l6 p0 p1 p2 p3 p4 K n x12 x13 M2) else (xLt (v5 + (nI 0)) fun x10 => xLt (v6 + nI 1) fun x11 => fX1_meetings_l6 p0 p1 p2 p3 p4 K n x10 x11 M2))))) else (xLt (v6 + nI 1) fun x6 => fX1_meetings_l6 p0 p1 p2 p3 p4 K n v5 x6 M2)))))
def fX1_meetings (a0 : Nat) (a1 : Int32) (a2 : Int32) (a3 : Int32) (a4 : Int32) (M : xMem) : Option (Int32 × xMem) :=
  fX1_meetings_l6 a0 a1 a2 a3 a4 (fun (v16 : Int32) (v17 : Int32) (M18 : xMem) => some (v16, M18)) xFU (nI 0) (nI 0) M
set_option maxRecDepth 100000 in
set_option maxHeartbeats 4000000 in
theorem lX1_meetings_6 {X : xCX} {r : Int32} {M' : xMem} (C : xCk X cX1_meetings RX1 2) (R0 : xRk X (some .int) (some (.int r), M')) (hnL : X.2.2.2.2.2.2.2.2.2.2.2.2.2 = 8) (p0 : Nat) (hp0 : xkd p0 = 1) (p1 : Int32) (p2 : Int32) (p3 : Int32) (p4 : Int32) (K : Int32 → Int32 → xMem → Option (Int32 × xMem)) (hK : ∀ (v5 : Int32) (v6 : Int32) (M : xMem), K v5 v6 M = some (r, M') → WW X 88 [some (vr X.1 p0), some (.int p1), some (.int p2), some (.int p3), some (.int p4), some (.int v5), some (.int v6), none] [] M) : ∀ (n : Nat) (v5 : Int32) (v6 : Int32) (M : xMem), fX1_meetings_l6 p0 p1 p2 p3 p4 K n v5 v6 M = some (r, M') → WW X 6 [some (vr X.1 p0), some (.int p1), some (.int p2), some (.int p3), some (.int p4), some (.int v5), some (.int v6), none] [] M := by
  have hn5 : 5 < X.2.2.2.2.2.2.2.2.2.2.2.2.2 := by rw [hnL]; decide
  have hn6 : 6 < X.2.2.2.2.2.2.2.2.2.2.2.2.2 := by rw [hnL]; decide
  have hn7 : 7 < X.2.2.2.2.2.2.2.2.2.2.2.2.2 := by rw [hnL]; decide
  intro n
  induction n with
  | zero =>
    intro v5 v6 M h
    cases (show (none : Option (Int32 × xMem)) = some (r, M') from h)
  | succ n ih =>
    intro v5 v6 M h
    rw [fX1_meetings_l6.eq_2] at h
    refine r_iload (pc := 6) C dX1_meetings_6 rfl ?_
    refine r_aload_n (pc := 8) C dX1_meetings_8 rfl rfl ?_
    refine r_getI (pc := 9) C kX1_30 hp0 dX1_meetings_9 ?_
    refine r_icmp_ge (pc := 12) (tgt := 88) C dX1_meetings_12 (by decide) h (fun _ h => ?_) (fun _ h => ?_)
    · exact hK v5 v6 M h
    · refine r_aload_n (pc := 15) C dX1_meetings_15 rfl rfl ?_
      refine r_iload_n (pc := 16) C dX1_meetings_16 rfl rfl ?_
      refine r_iload_n (pc := 17) C dX1_meetings_17 rfl rfl ?_
      refine r_iload (pc := 18) C dX1_meetings_18 rfl ?_
      refine r_vI3 (pc := 20) C (fun r M' e => zX1_isRaider X.1 p0 hp0 p1 p2 v6 M r M' e) hp0 (by decide) rfl mX1_isRaider lX1_137 (by decide) (Nat.le_of_ble_eq_true rfl) dX1_meetings_20 h (fun r1 M2 h => ?_)
      refine r_if_eq (pc := 23) (tgt := 82) C dX1_meetings_23 (by decide) h (fun _ h => ?_) (fun _ h => ?_)
      · refine r_iincL (pc := 82) (c := nI 1) C dX1_meetings_82 rfl (by decide) hn6 h (fun x3 h => ?_)
        refine r_lvE (lv' := [_, _, _, _, _, _, _, _]) rfl ?_
        refine r_goto (pc := 85) (tgt := 6) C dX1_meetings_85 (by decide) ?_
        exact ih v5 x3 M2 h
      · refine r_aload_n (pc := 26) C dX1_meetings_26 rfl rfl ?_
        refine r_getR (pc := 27) C kX1_13 hp0 (by decide) dX1_meetings_27 ?_
        refine r_iconst (pc := 30) (v := (nI 2)) C dX1_meetings_30 (by decide) ?_
        obtain ⟨g4, h⟩ := xGb_of h
        refine r_aaldI (pc := 31) C (xtk hp0 (by decide) rfl rfl) g4 dX1_meetings_31 ?_
        refine r_iload (pc := 32) C dX1_meetings_32 rfl ?_
        obtain ⟨g5, h⟩ := xGb_of h
        refine r_iald (pc := 34) C (xkeI (xtk hp0 (by decide) rfl rfl) (xin_lt g4)) g5 dX1_meetings_34 ?_
        refine r_iload (pc := 35) C dX1_meetings_35 rfl ?_
        refine r_icmp_ne (pc := 37) (tgt := 82) C dX1_meetings_37 (by decide) h (fun _ h => ?_) (fun _ h => ?_)
        · refine r_iincL (pc := 82) (c := nI 1) C dX1_meetings_82 rfl (by decide) hn6 h (fun x6 h => ?_)
          refine r_lvE (lv' := [_, _, _, _, _, _, _, _]) rfl ?_
          refine r_goto (pc := 85) (tgt := 6) C dX1_meetings_85 (by decide) ?_
          exact ih v5 x6 M2 h
        · refine r_aload_n (pc := 40) C dX1_meetings_40 rfl rfl ?_
          refine r_getR (pc := 41) C kX1_13 hp0 (by decide) dX1_meetings_41 ?_
          refine r_iconst (pc := 44) (v := (nI 5)) C dX1_meetings_44 (by decide) ?_
          obtain ⟨g7, h⟩ := xGb_of h
          refine r_aaldI (pc := 45) C (xtk hp0 (by decide) rfl rfl) g7 dX1_meetings_45 ?_
          refine r_iload (pc := 46) C dX1_meetings_46 rfl ?_
          obtain ⟨g8, h⟩ := xGb_of h
          refine r_iald (pc := 48) C (xkeI (xtk hp0 (by decide) rfl rfl) (xin_lt g7)) g8 dX1_meetings_48 ?_
          refine r_letI h (fun x9 h => ?_)
          refine r_istore (pc := 49) (lv' := [_, _, _, _, _, _, _, _]) C dX1_meetings_49 hn7 rfl ?_
          refine r_iload (pc := 51) C dX1_meetings_51 rfl ?_
          refine r_iload (pc := 53) C dX1_meetings_53 rfl ?_
          refine r_iconst (pc := 55) (v := (nI 1)) C dX1_meetings_55 (by decide) ?_
          refine r_icmp_ne (pc := 56) (tgt := 68) C dX1_meetings_56 (by decide) h (fun _ h => ?_) (fun _ h => ?_)
          · refine r_iload (pc := 68) C dX1_meetings_68 rfl ?_
            refine r_iload_n (pc := 70) C dX1_meetings_70 rfl rfl ?_
            refine r_icmp_ne (pc := 71) (tgt := 78) C dX1_meetings_71 (by decide) h (fun _ h => ?_) (fun _ h => ?_)
            · refine r_iconst (pc := 78) (v := (nI 0)) C dX1_meetings_78 (by decide) ?_
              refine r_iadd (pc := 79) C dX1_meetings_79 ?_
              refine r_letI h (fun x10 h => ?_)
              refine r_istore (pc := 80) (lv' := [_, _, _, _, _, _, _, _]) C dX1_meetings_80 hn5 rfl ?_
              refine r_iincL (pc := 82) (c := nI 1) C dX1_meetings_82 rfl (by decide) hn6 h (fun x11 h => ?_)
              refine r_lvE (lv' := [_, _, _, _, _, _, _, _]) rfl ?_
              refine r_goto (pc := 85) (tgt := 6) C dX1_meetings_85 (by decide) ?_
              exact r_lv (xle_at (xle_some rfl (xle_some rfl (xle_some rfl (xle_some rfl (xle_some rfl (xle_some rfl (xle_some rfl (xle_none xle_nil))))))))) (ih x10 x11 M2 h)
            · refine r_iconst (pc := 74) (v := (nI 1)) C dX1_meetings_74 (by decide) ?_
              refine r_goto (pc := 75) (tgt := 79) C dX1_meetings_75 (by decide) ?_
              refine r_iadd (pc := 79) C dX1_meetings_79 ?_
              refine r_letI h (fun x12 h => ?_)
              refine r_istore (pc := 80) (lv' := [_, _, _, _, _, _, _, _]) C dX1_meetings_80 hn5 rfl ?_
              refine r_iincL (pc := 82) (c := nI 1) C dX1_meetings_82 rfl (by decide) hn6 h (fun x13 h => ?_)
              refine r_lvE (lv' := [_, _, _, _, _, _, _, _]) rfl ?_
              refine r_goto (pc := 85) (tgt := 6) C dX1_meetings_85 (by decide) ?_
              exact r_lv (xle_at (xle_some rfl (xle_some rfl (xle_some rfl (xle_some rfl (xle_some rfl (xle_some rfl (xle_some rfl (xle_none xle_nil))))))))) (ih x12 x13 M2 h)
          · refine r_iload (pc := 59) C dX1_meetings_59 rfl ?_
            refine r_iload_n (pc := 61) C dX1_meetings_61 rfl rfl ?_
            refine r_ishr (pc := 62) C dX1_meetings_62 ?_
            refine r_iconst (pc := 63) (v := (nI 1)) C dX1_meetings_63 (by decide) ?_
            refine r_iand (pc := 64) C dX1_meetings_64 ?_
            refine r_goto (pc := 65) (tgt := 79) C dX1_meetings_65 (by decide) ?_
            refine r_iadd (pc := 79) C dX1_meetings_79 ?_
            refine r_letI h (fun x14 h => ?_)
            refine r_istore (pc := 80) (lv' := [_, _, _, _, _, _, _, _]) C dX1_meetings_80 hn5 rfl ?_
            refine r_iincL (pc := 82) (c := nI 1) C dX1_meetings_82 rfl (by decide) hn6 h (fun x15 h => ?_)
            refine r_lvE (lv' := [_, _, _, _, _, _, _, _]) rfl ?_
            refine r_goto (pc := 85) (tgt := 6) C dX1_meetings_85 (by decide) ?_
            exact r_lv (xle_at (xle_some rfl (xle_some rfl (xle_some rfl (xle_some rfl (xle_some rfl (xle_some rfl (xle_some rfl (xle_none xle_nil))))))))) (ih x14 x15 M2 h)
set_option maxRecDepth 100000 in
set_option maxHeartbeats 4000000 in
theorem zX1_meetings (G : xGX) (a0 : Nat) (h0 : xkd a0 = 1) (a1 : Int32) (a2 : Int32) (a3 : Int32) (a4 : Int32) (M : xMem) (r : Int32) (M' : xMem) (h : fX1_meetings a0 a1 a2 a3 a4 M = some (r, M')) : xCt G yX1_meetings cX1_meetings 8 (some .int) 2 [vr G a0, .int a1, .int a2, .int a3, .int a4] M (some (.int r), M') := by
  refine xMet (lv := [some (vr G a0), some (.int a1), some (.int a2), some (.int a3), some (.int a4), none, none, none]) (by decide) (Nat.le_of_ble_eq_true rfl) rfl ?_
  intro X hG hnL C R0
  subst hG
  have C : xCk X cX1_meetings RX1 2 := C
  have hn5 : 5 < X.2.2.2.2.2.2.2.2.2.2.2.2.2 := by rw [hnL]; decide
  have hn6 : 6 < X.2.2.2.2.2.2.2.2.2.2.2.2.2 := by rw [hnL]; decide
  have hn7 : 7 < X.2.2.2.2.2.2.2.2.2.2.2.2.2 := by rw [hnL]; decide
  unfold fX1_meetings at h
  refine r_iconst (pc := 0) (v := (nI 0)) C dX1_meetings_0 (by decide) ?_
  refine r_istore (pc := 1) (lv' := [_, _, _, _, _, _, _, _]) C dX1_meetings_1 hn5 rfl ?_
  refine r_iconst (pc := 3) (v := (nI 0)) C dX1_meetings_3 (by decide) ?_
  refine r_istore (pc := 4) (lv' := [_, _, _, _, _, _, _, _]) C dX1_meetings_4 hn6 rfl ?_
  refine lX1_meetings_6 C R0 hnL a0 h0 a1 a2 a3 a4 _ (fun v16 v17 M18 h => ?_) _ _ _ _ h
  refine r_iload (pc := 88) C dX1_meetings_88 rfl ?_
  exact r_iret (pc := 90) C R0 h dX1_meetings_90
theorem dX1_raidsOn_0 : decode cX1_raidsOn 0 = .ok (.iconst 0, 1) := by decide +kernel
theorem dX1_raidsOn_1 : decode cX1_raidsOn 1 = .ok (.istore_n 3, 1) := by decide +kernel
theorem dX1_raidsOn_2 : decode cX1_raidsOn 2 = .ok (.iconst 0, 1) := by decide +kernel
theorem dX1_raidsOn_3 : decode cX1_raidsOn 3 = .ok (.istore 4, 2) := by decide +kernel
theorem dX1_raidsOn_5 : decode cX1_raidsOn 5 = .ok (.iload 4, 2) := by decide +kernel
theorem dX1_raidsOn_7 : decode cX1_raidsOn 7 = .ok (.aload_n 0, 1) := by decide +kernel
theorem dX1_raidsOn_8 : decode cX1_raidsOn 8 = .ok (.getfield 30, 3) := by decide +kernel
theorem dX1_raidsOn_11 : decode cX1_raidsOn 11 = .ok (.if_icmp .ge 23, 3) := by decide +kernel
theorem dX1_raidsOn_14 : decode cX1_raidsOn 14 = .ok (.iload_n 3, 1) := by decide +kernel
theorem dX1_raidsOn_15 : decode cX1_raidsOn 15 = .ok (.aload_n 0, 1) := by decide +kernel
theorem dX1_raidsOn_16 : decode cX1_raidsOn 16 = .ok (.iload_n 1, 1) := by decide +kernel
theorem dX1_raidsOn_17 : decode cX1_raidsOn 17 = .ok (.iload 4, 2) := by decide +kernel
theorem dX1_raidsOn_19 : decode cX1_raidsOn 19 = .ok (.invokevirtual 141, 3) := by decide +kernel
theorem dX1_raidsOn_22 : decode cX1_raidsOn 22 = .ok (.iload_n 2, 1) := by decide +kernel
theorem dX1_raidsOn_23 : decode cX1_raidsOn 23 = .ok (.ishr, 1) := by decide +kernel
theorem dX1_raidsOn_24 : decode cX1_raidsOn 24 = .ok (.iconst 1, 1) := by decide +kernel
theorem dX1_raidsOn_25 : decode cX1_raidsOn 25 = .ok (.iand, 1) := by decide +kernel
theorem dX1_raidsOn_26 : decode cX1_raidsOn 26 = .ok (.iadd, 1) := by decide +kernel
theorem dX1_raidsOn_27 : decode cX1_raidsOn 27 = .ok (.istore_n 3, 1) := by decide +kernel
theorem dX1_raidsOn_28 : decode cX1_raidsOn 28 = .ok (.iinc 4 1, 3) := by decide +kernel
theorem dX1_raidsOn_31 : decode cX1_raidsOn 31 = .ok (.goto (-26), 3) := by decide +kernel
theorem dX1_raidsOn_34 : decode cX1_raidsOn 34 = .ok (.iload_n 3, 1) := by decide +kernel
theorem dX1_raidsOn_35 : decode cX1_raidsOn 35 = .ok (.ireturn, 1) := by decide +kernel
def fX1_raidsOn_l5 (p0 : Nat) (p1 : Int32) (p2 : Int32) (K : Int32 → Int32 → xMem → Option (Int32 × xMem)) : Nat → Int32 → Int32 → xMem → Option (Int32 × xMem)
  | 0, _, _, _ => none
  | n + 1, v3, v4, M => if (M.1 p0 5) ≤ v4 then (K v3 v4 M) else (xBn (fX1_onAt p0 p1 v4 M) fun r1 M2 => xLt (v3 + ((r1 >>> (p2 &&& 31)) &&& (nI 1))) fun x3 => xLt (v4 + nI 1) fun x4 => fX1_raidsOn_l5 p0 p1 p2 K n x3 x4 M2)
def fX1_raidsOn (a0 : Nat) (a1 : Int32) (a2 : Int32) (M : xMem) : Option (Int32 × xMem) :=
  fX1_raidsOn_l5 a0 a1 a2 (fun (v5 : Int32) (v6 : Int32) (M7 : xMem) => some (v5, M7)) xFU (nI 0) (nI 0) M
set_option maxRecDepth 100000 in
set_option maxHeartbeats 4000000 in
theorem lX1_raidsOn_5 {X : xCX} {r : Int32} {M' : xMem} (C : xCk X cX1_raidsOn RX1 2) (R0 : xRk X (some .int) (some (.int r), M')) (hnL : X.2.2.2.2.2.2.2.2.2.2.2.2.2 = 5) (p0 : Nat) (hp0 : xkd p0 = 1) (p1 : Int32) (p2 : Int32) (K : Int32 → Int32 → xMem → Option (Int32 × xMem)) (hK : ∀ (v3 : Int32) (v4 : Int32) (M : xMem), K v3 v4 M = some (r, M') → WW X 34 [some (vr X.1 p0), some (.int p1), some (.int p2), some (.int v3), some (.int v4)] [] M) : ∀ (n : Nat) (v3 : Int32) (v4 : Int32) (M : xMem), fX1_raidsOn_l5 p0 p1 p2 K n v3 v4 M = some (r, M') → WW X 5 [some (vr X.1 p0), some (.int p1), some (.int p2), some (.int v3), some (.int v4)] [] M := by
  have hn3 : 3 < X.2.2.2.2.2.2.2.2.2.2.2.2.2 := by rw [hnL]; decide
  have hn4 : 4 < X.2.2.2.2.2.2.2.2.2.2.2.2.2 := by rw [hnL]; decide
  intro n
  induction n with
  | zero =>
    intro v3 v4 M h
    cases (show (none : Option (Int32 × xMem)) = some (r, M') from h)
  | succ n ih =>
    intro v3 v4 M h
    rw [fX1_raidsOn_l5.eq_2] at h
    refine r_iload (pc := 5) C dX1_raidsOn_5 rfl ?_
    refine r_aload_n (pc := 7) C dX1_raidsOn_7 rfl rfl ?_
    refine r_getI (pc := 8) C kX1_30 hp0 dX1_raidsOn_8 ?_
    refine r_icmp_ge (pc := 11) (tgt := 34) C dX1_raidsOn_11 (by decide) h (fun _ h => ?_) (fun _ h => ?_)
    · exact hK v3 v4 M h
    · refine r_iload_n (pc := 14) C dX1_raidsOn_14 rfl rfl ?_
      refine r_aload_n (pc := 15) C dX1_raidsOn_15 rfl rfl ?_
      refine r_iload_n (pc := 16) C dX1_raidsOn_16 rfl rfl ?_
      refine r_iload (pc := 17) C dX1_raidsOn_17 rfl ?_
      refine r_vI2 (pc := 19) C (fun r M' e => zX1_onAt X.1 p0 hp0 p1 v4 M r M' e) hp0 (by decide) rfl mX1_onAt lX1_141 (by decide) (Nat.le_of_ble_eq_true rfl) dX1_raidsOn_19 h (fun r1 M2 h => ?_)
      refine r_iload_n (pc := 22) C dX1_raidsOn_22 rfl rfl ?_
      refine r_ishr (pc := 23) C dX1_raidsOn_23 ?_
      refine r_iconst (pc := 24) (v := (nI 1)) C dX1_raidsOn_24 (by decide) ?_
      refine r_iand (pc := 25) C dX1_raidsOn_25 ?_
      refine r_iadd (pc := 26) C dX1_raidsOn_26 ?_
      refine r_letI h (fun x3 h => ?_)
      refine r_istore_n (pc := 27) (lv' := [_, _, _, _, _]) C dX1_raidsOn_27 rfl hn3 rfl ?_
      refine r_iincL (pc := 28) (c := nI 1) C dX1_raidsOn_28 rfl (by decide) hn4 h (fun x4 h => ?_)
      refine r_lvE (lv' := [_, _, _, _, _]) rfl ?_
      refine r_goto (pc := 31) (tgt := 5) C dX1_raidsOn_31 (by decide) ?_
      exact ih x3 x4 M2 h
set_option maxRecDepth 100000 in
set_option maxHeartbeats 4000000 in
theorem zX1_raidsOn (G : xGX) (a0 : Nat) (h0 : xkd a0 = 1) (a1 : Int32) (a2 : Int32) (M : xMem) (r : Int32) (M' : xMem) (h : fX1_raidsOn a0 a1 a2 M = some (r, M')) : xCt G yX1_raidsOn cX1_raidsOn 5 (some .int) 2 [vr G a0, .int a1, .int a2] M (some (.int r), M') := by
  refine xMet (lv := [some (vr G a0), some (.int a1), some (.int a2), none, none]) (by decide) (Nat.le_of_ble_eq_true rfl) rfl ?_
  intro X hG hnL C R0
  subst hG
  have C : xCk X cX1_raidsOn RX1 2 := C
  have hn3 : 3 < X.2.2.2.2.2.2.2.2.2.2.2.2.2 := by rw [hnL]; decide
  have hn4 : 4 < X.2.2.2.2.2.2.2.2.2.2.2.2.2 := by rw [hnL]; decide
  unfold fX1_raidsOn at h
  refine r_iconst (pc := 0) (v := (nI 0)) C dX1_raidsOn_0 (by decide) ?_
  refine r_istore_n (pc := 1) (lv' := [_, _, _, _, _]) C dX1_raidsOn_1 rfl hn3 rfl ?_
  refine r_iconst (pc := 2) (v := (nI 0)) C dX1_raidsOn_2 (by decide) ?_
  refine r_istore (pc := 3) (lv' := [_, _, _, _, _]) C dX1_raidsOn_3 hn4 rfl ?_
  refine lX1_raidsOn_5 C R0 hnL a0 h0 a1 a2 _ (fun v5 v6 M7 h => ?_) _ _ _ _ h
  refine r_iload_n (pc := 34) C dX1_raidsOn_34 rfl rfl ?_
  exact r_iret (pc := 35) C R0 h dX1_raidsOn_35
theorem dX1_fullCount_0 : decode cX1_fullCount 0 = .ok (.iconst 0, 1) := by decide +kernel
theorem dX1_fullCount_1 : decode cX1_fullCount 1 = .ok (.istore_n 2, 1) := by decide +kernel
theorem dX1_fullCount_2 : decode cX1_fullCount 2 = .ok (.iconst 0, 1) := by decide +kernel
theorem dX1_fullCount_3 : decode cX1_fullCount 3 = .ok (.istore_n 3, 1) := by decide +kernel
theorem dX1_fullCount_4 : decode cX1_fullCount 4 = .ok (.iload_n 3, 1) := by decide +kernel
theorem dX1_fullCount_5 : decode cX1_fullCount 5 = .ok (.aload_n 0, 1) := by decide +kernel
theorem dX1_fullCount_6 : decode cX1_fullCount 6 = .ok (.getfield 30, 3) := by decide +kernel
theorem dX1_fullCount_9 : decode cX1_fullCount 9 = .ok (.if_icmp .ge 31, 3) := by decide +kernel
theorem dX1_fullCount_12 : decode cX1_fullCount 12 = .ok (.iload_n 2, 1) := by decide +kernel
theorem dX1_fullCount_13 : decode cX1_fullCount 13 = .ok (.aload_n 0, 1) := by decide +kernel
theorem dX1_fullCount_14 : decode cX1_fullCount 14 = .ok (.iload_n 1, 1) := by decide +kernel
theorem dX1_fullCount_15 : decode cX1_fullCount 15 = .ok (.iload_n 3, 1) := by decide +kernel
theorem dX1_fullCount_16 : decode cX1_fullCount 16 = .ok (.invokevirtual 141, 3) := by decide +kernel
theorem dX1_fullCount_19 : decode cX1_fullCount 19 = .ok (.invokestatic 144, 3) := by decide +kernel
theorem dX1_fullCount_22 : decode cX1_fullCount 22 = .ok (.bipush 7, 2) := by decide +kernel
theorem dX1_fullCount_24 : decode cX1_fullCount 24 = .ok (.if_icmp .ne 7, 3) := by decide +kernel
theorem dX1_fullCount_27 : decode cX1_fullCount 27 = .ok (.iconst 1, 1) := by decide +kernel
theorem dX1_fullCount_28 : decode cX1_fullCount 28 = .ok (.goto 4, 3) := by decide +kernel
theorem dX1_fullCount_31 : decode cX1_fullCount 31 = .ok (.iconst 0, 1) := by decide +kernel
theorem dX1_fullCount_32 : decode cX1_fullCount 32 = .ok (.iadd, 1) := by decide +kernel
theorem dX1_fullCount_33 : decode cX1_fullCount 33 = .ok (.istore_n 2, 1) := by decide +kernel
theorem dX1_fullCount_34 : decode cX1_fullCount 34 = .ok (.iinc 3 1, 3) := by decide +kernel
theorem dX1_fullCount_37 : decode cX1_fullCount 37 = .ok (.goto (-33), 3) := by decide +kernel
theorem dX1_fullCount_40 : decode cX1_fullCount 40 = .ok (.iload_n 2, 1) := by decide +kernel
theorem dX1_fullCount_41 : decode cX1_fullCount 41 = .ok (.ireturn, 1) := by decide +kernel
def fX1_fullCount_l4 (p0 : Nat) (p1 : Int32) (K : Int32 → Int32 → xMem → Option (Int32 × xMem)) : Nat → Int32 → Int32 → xMem → Option (Int32 × xMem)
  | 0, _, _, _ => none
  | n + 1, v2, v3, M => if (M.1 p0 5) ≤ v3 then (K v2 v3 M) else (xBn (fX1_onAt p0 p1 v3 M) fun r1 M2 => xBn (fJ6_bitCount_0f7a4 r1 M2) fun r3 M4 => xLt (fun (s5 : Int32) (M6 : xMem) => (xLt (v2 + s5) fun x7 => xLt (v3 + nI 1) fun x8 => fX1_fullCount_l4 p0 p1 K n x7 x8 M6 : Option (Int32 × xMem))) fun J32 => if r3 = (nI 7) then (J32 (nI 1) M4) else (J32 (nI 0) M4))
def fX1_fullCount (a0 : Nat) (a1 : Int32) (M : xMem) : Option (Int32 × xMem) :=
  fX1_fullCount_l4 a0 a1 (fun (v9 : Int32) (v10 : Int32) (M11 : xMem) => some (v9, M11)) xFU (nI 0) (nI 0) M
set_option maxRecDepth 100000 in
set_option maxHeartbeats 4000000 in
theorem lX1_fullCount_4 {X : xCX} {r : Int32} {M' : xMem} (C : xCk X cX1_fullCount RX1 2) (R0 : xRk X (some .int) (some (.int r), M')) (hnL : X.2.2.2.2.2.2.2.2.2.2.2.2.2 = 4) (p0 : Nat) (hp0 : xkd p0 = 1) (p1 : Int32) (K : Int32 → Int32 → xMem → Option (Int32 × xMem)) (hK : ∀ (v2 : Int32) (v3 : Int32) (M : xMem), K v2 v3 M = some (r, M') → WW X 40 [some (vr X.1 p0), some (.int p1), some (.int v2), some (.int v3)] [] M) : ∀ (n : Nat) (v2 : Int32) (v3 : Int32) (M : xMem), fX1_fullCount_l4 p0 p1 K n v2 v3 M = some (r, M') → WW X 4 [some (vr X.1 p0), some (.int p1), some (.int v2), some (.int v3)] [] M := by
  have hn2 : 2 < X.2.2.2.2.2.2.2.2.2.2.2.2.2 := by rw [hnL]; decide
  have hn3 : 3 < X.2.2.2.2.2.2.2.2.2.2.2.2.2 := by rw [hnL]; decide
  intro n
  induction n with
  | zero =>
    intro v2 v3 M h
    cases (show (none : Option (Int32 × xMem)) = some (r, M') from h)
  | succ n ih =>
    intro v2 v3 M h
    rw [fX1_fullCount_l4.eq_2] at h
    refine r_iload_n (pc := 4) C dX1_fullCount_4 rfl rfl ?_
    refine r_aload_n (pc := 5) C dX1_fullCount_5 rfl rfl ?_
    refine r_getI (pc := 6) C kX1_30 hp0 dX1_fullCount_6 ?_
    refine r_icmp_ge (pc := 9) (tgt := 40) C dX1_fullCount_9 (by decide) h (fun _ h => ?_) (fun _ h => ?_)
    · exact hK v2 v3 M h
    · refine r_iload_n (pc := 12) C dX1_fullCount_12 rfl rfl ?_
      refine r_aload_n (pc := 13) C dX1_fullCount_13 rfl rfl ?_
      refine r_iload_n (pc := 14) C dX1_fullCount_14 rfl rfl ?_
      refine r_iload_n (pc := 15) C dX1_fullCount_15 rfl rfl ?_
      refine r_vI2 (pc := 16) C (fun r M' e => zX1_onAt X.1 p0 hp0 p1 v3 M r M' e) hp0 (by decide) rfl mX1_onAt lX1_141 (by decide) (Nat.le_of_ble_eq_true rfl) dX1_fullCount_16 h (fun r1 M2 h => ?_)
      refine r_sI1 (pc := 19) C (fun r M' e => zJ6_bitCount_0f7a4 X.1 r1 M2 r M' e) mJ6_bitCount_0f7a4 lX1_144 (by decide) (Nat.le_of_ble_eq_true rfl) dX1_fullCount_19 h (fun r3 M4 h => ?_)
      refine r_bipush (pc := 22) (v := (nI 7)) C dX1_fullCount_22 (by decide) ?_
      refine r_jn (fun J => ∀ (s5 : Int32) (M6 : xMem) , J s5 M6 = some (r, M') → WW X 32 [some (vr X.1 p0), some (.int p1), some (.int v2), some (.int v3)] [.int s5, .int v2] M6) h (fun s5 M6  h => ?_) (fun J32 hJ32 h => ?_)
      · refine r_iadd (pc := 32) C dX1_fullCount_32 ?_
        refine r_letI h (fun x7 h => ?_)
        refine r_istore_n (pc := 33) (lv' := [_, _, _, _]) C dX1_fullCount_33 rfl hn2 rfl ?_
        refine r_iincL (pc := 34) (c := nI 1) C dX1_fullCount_34 rfl (by decide) hn3 h (fun x8 h => ?_)
        refine r_lvE (lv' := [_, _, _, _]) rfl ?_
        refine r_goto (pc := 37) (tgt := 4) C dX1_fullCount_37 (by decide) ?_
        exact ih x7 x8 M6 h
      refine r_icmp_ne (pc := 24) (tgt := 31) C dX1_fullCount_24 (by decide) h (fun _ h => ?_) (fun _ h => ?_)
      · refine r_iconst (pc := 31) (v := (nI 0)) C dX1_fullCount_31 (by decide) ?_
        exact hJ32 (nI 0) M4  h
      · refine r_iconst (pc := 27) (v := (nI 1)) C dX1_fullCount_27 (by decide) ?_
        refine r_goto (pc := 28) (tgt := 32) C dX1_fullCount_28 (by decide) ?_
        exact hJ32 (nI 1) M4  h
set_option maxRecDepth 100000 in
set_option maxHeartbeats 4000000 in
theorem zX1_fullCount (G : xGX) (a0 : Nat) (h0 : xkd a0 = 1) (a1 : Int32) (M : xMem) (r : Int32) (M' : xMem) (h : fX1_fullCount a0 a1 M = some (r, M')) : xCt G yX1_fullCount cX1_fullCount 4 (some .int) 2 [vr G a0, .int a1] M (some (.int r), M') := by
  refine xMet (lv := [some (vr G a0), some (.int a1), none, none]) (by decide) (Nat.le_of_ble_eq_true rfl) rfl ?_
  intro X hG hnL C R0
  subst hG
  have C : xCk X cX1_fullCount RX1 2 := C
  have hn2 : 2 < X.2.2.2.2.2.2.2.2.2.2.2.2.2 := by rw [hnL]; decide
  have hn3 : 3 < X.2.2.2.2.2.2.2.2.2.2.2.2.2 := by rw [hnL]; decide
  unfold fX1_fullCount at h
  refine r_iconst (pc := 0) (v := (nI 0)) C dX1_fullCount_0 (by decide) ?_
  refine r_istore_n (pc := 1) (lv' := [_, _, _, _]) C dX1_fullCount_1 rfl hn2 rfl ?_
  refine r_iconst (pc := 2) (v := (nI 0)) C dX1_fullCount_2 (by decide) ?_
  refine r_istore_n (pc := 3) (lv' := [_, _, _, _]) C dX1_fullCount_3 rfl hn3 rfl ?_
  refine lX1_fullCount_4 C R0 hnL a0 h0 a1 _ (fun v9 v10 M11 h => ?_) _ _ _ _ h
  refine r_iload_n (pc := 40) C dX1_fullCount_40 rfl rfl ?_
  exact r_iret (pc := 41) C R0 h dX1_fullCount_41
theorem dX1_firstScored_0 : decode cX1_firstScored 0 = .ok (.iconst 0, 1) := by decide +kernel
theorem dX1_firstScored_1 : decode cX1_firstScored 1 = .ok (.istore_n 3, 1) := by decide +kernel
theorem dX1_firstScored_2 : decode cX1_firstScored 2 = .ok (.iload_n 3, 1) := by decide +kernel
theorem dX1_firstScored_3 : decode cX1_firstScored 3 = .ok (.aload_n 0, 1) := by decide +kernel
theorem dX1_firstScored_4 : decode cX1_firstScored 4 = .ok (.getfield 30, 3) := by decide +kernel
theorem dX1_firstScored_7 : decode cX1_firstScored 7 = .ok (.if_icmp .ge 33, 3) := by decide +kernel
theorem dX1_firstScored_10 : decode cX1_firstScored 10 = .ok (.aload_n 0, 1) := by decide +kernel
theorem dX1_firstScored_11 : decode cX1_firstScored 11 = .ok (.iload_n 1, 1) := by decide +kernel
theorem dX1_firstScored_12 : decode cX1_firstScored 12 = .ok (.iload_n 2, 1) := by decide +kernel
theorem dX1_firstScored_13 : decode cX1_firstScored 13 = .ok (.iload_n 3, 1) := by decide +kernel
theorem dX1_firstScored_14 : decode cX1_firstScored 14 = .ok (.invokevirtual 137, 3) := by decide +kernel
theorem dX1_firstScored_17 : decode cX1_firstScored 17 = .ok (.ifCond .eq 17, 3) := by decide +kernel
theorem dX1_firstScored_20 : decode cX1_firstScored 20 = .ok (.aload_n 0, 1) := by decide +kernel
theorem dX1_firstScored_21 : decode cX1_firstScored 21 = .ok (.getfield 13, 3) := by decide +kernel
theorem dX1_firstScored_24 : decode cX1_firstScored 24 = .ok (.bipush 13, 2) := by decide +kernel
theorem dX1_firstScored_26 : decode cX1_firstScored 26 = .ok (.aaload, 1) := by decide +kernel
theorem dX1_firstScored_27 : decode cX1_firstScored 27 = .ok (.iload_n 3, 1) := by decide +kernel
theorem dX1_firstScored_28 : decode cX1_firstScored 28 = .ok (.iaload, 1) := by decide +kernel
theorem dX1_firstScored_29 : decode cX1_firstScored 29 = .ok (.ifCond .le 5, 3) := by decide +kernel
theorem dX1_firstScored_32 : decode cX1_firstScored 32 = .ok (.iload_n 3, 1) := by decide +kernel
theorem dX1_firstScored_33 : decode cX1_firstScored 33 = .ok (.ireturn, 1) := by decide +kernel
theorem dX1_firstScored_34 : decode cX1_firstScored 34 = .ok (.iinc 3 1, 3) := by decide +kernel
theorem dX1_firstScored_37 : decode cX1_firstScored 37 = .ok (.goto (-35), 3) := by decide +kernel
theorem dX1_firstScored_40 : decode cX1_firstScored 40 = .ok (.iconst (-1), 1) := by decide +kernel
theorem dX1_firstScored_41 : decode cX1_firstScored 41 = .ok (.ireturn, 1) := by decide +kernel
def fX1_firstScored_l2 (p0 : Nat) (p1 : Int32) (p2 : Int32) (K : Int32 → xMem → Option (Int32 × xMem)) : Nat → Int32 → xMem → Option (Int32 × xMem)
  | 0, _, _ => none
  | n + 1, v3, M => if (M.1 p0 5) ≤ v3 then (K v3 M) else (xBn (fX1_isRaider p0 p1 p2 v3 M) fun r1 M2 => if r1 = 0 then (xLt (v3 + nI 1) fun x3 => fX1_firstScored_l2 p0 p1 p2 K n x3 M2) else (xGb (nI 13) (xln (xrf p0 0)) (xGb v3 (xln (xrf (xrf p0 0) (Int32.toNatClampNeg (nI 13)))) (if (M2.1 (xrf (xrf p0 0) (Int32.toNatClampNeg (nI 13))) (Int32.toNatClampNeg v3)) ≤ 0 then (xLt (v3 + nI 1) fun x6 => fX1_firstScored_l2 p0 p1 p2 K n x6 M2) else (some (v3, M2))))))
def fX1_firstScored (a0 : Nat) (a1 : Int32) (a2 : Int32) (M : xMem) : Option (Int32 × xMem) :=
  fX1_firstScored_l2 a0 a1 a2 (fun (v7 : Int32) (M8 : xMem) => some ((-1), M8)) xFU (nI 0) M
set_option maxRecDepth 100000 in
set_option maxHeartbeats 4000000 in
theorem lX1_firstScored_2 {X : xCX} {r : Int32} {M' : xMem} (C : xCk X cX1_firstScored RX1 2) (R0 : xRk X (some .int) (some (.int r), M')) (hnL : X.2.2.2.2.2.2.2.2.2.2.2.2.2 = 4) (p0 : Nat) (hp0 : xkd p0 = 1) (p1 : Int32) (p2 : Int32) (K : Int32 → xMem → Option (Int32 × xMem)) (hK : ∀ (v3 : Int32) (M : xMem), K v3 M = some (r, M') → WW X 40 [some (vr X.1 p0), some (.int p1), some (.int p2), some (.int v3)] [] M) : ∀ (n : Nat) (v3 : Int32) (M : xMem), fX1_firstScored_l2 p0 p1 p2 K n v3 M = some (r, M') → WW X 2 [some (vr X.1 p0), some (.int p1), some (.int p2), some (.int v3)] [] M := by
  have hn3 : 3 < X.2.2.2.2.2.2.2.2.2.2.2.2.2 := by rw [hnL]; decide
  intro n
  induction n with
  | zero =>
    intro v3 M h
    cases (show (none : Option (Int32 × xMem)) = some (r, M') from h)
  | succ n ih =>
    intro v3 M h
    rw [fX1_firstScored_l2.eq_2] at h
    refine r_iload_n (pc := 2) C dX1_firstScored_2 rfl rfl ?_
    refine r_aload_n (pc := 3) C dX1_firstScored_3 rfl rfl ?_
    refine r_getI (pc := 4) C kX1_30 hp0 dX1_firstScored_4 ?_
    refine r_icmp_ge (pc := 7) (tgt := 40) C dX1_firstScored_7 (by decide) h (fun _ h => ?_) (fun _ h => ?_)
    · exact hK v3 M h
    · refine r_aload_n (pc := 10) C dX1_firstScored_10 rfl rfl ?_
      refine r_iload_n (pc := 11) C dX1_firstScored_11 rfl rfl ?_
      refine r_iload_n (pc := 12) C dX1_firstScored_12 rfl rfl ?_
      refine r_iload_n (pc := 13) C dX1_firstScored_13 rfl rfl ?_
      refine r_vI3 (pc := 14) C (fun r M' e => zX1_isRaider X.1 p0 hp0 p1 p2 v3 M r M' e) hp0 (by decide) rfl mX1_isRaider lX1_137 (by decide) (Nat.le_of_ble_eq_true rfl) dX1_firstScored_14 h (fun r1 M2 h => ?_)
      refine r_if_eq (pc := 17) (tgt := 34) C dX1_firstScored_17 (by decide) h (fun _ h => ?_) (fun _ h => ?_)
      · refine r_iincL (pc := 34) (c := nI 1) C dX1_firstScored_34 rfl (by decide) hn3 h (fun x3 h => ?_)
        refine r_lvE (lv' := [_, _, _, _]) rfl ?_
        refine r_goto (pc := 37) (tgt := 2) C dX1_firstScored_37 (by decide) ?_
        exact ih x3 M2 h
      · refine r_aload_n (pc := 20) C dX1_firstScored_20 rfl rfl ?_
        refine r_getR (pc := 21) C kX1_13 hp0 (by decide) dX1_firstScored_21 ?_
        refine r_bipush (pc := 24) (v := (nI 13)) C dX1_firstScored_24 (by decide) ?_
        obtain ⟨g4, h⟩ := xGb_of h
        refine r_aaldI (pc := 26) C (xtk hp0 (by decide) rfl rfl) g4 dX1_firstScored_26 ?_
        refine r_iload_n (pc := 27) C dX1_firstScored_27 rfl rfl ?_
        obtain ⟨g5, h⟩ := xGb_of h
        refine r_iald (pc := 28) C (xkeI (xtk hp0 (by decide) rfl rfl) (xin_lt g4)) g5 dX1_firstScored_28 ?_
        refine r_if_le (pc := 29) (tgt := 34) C dX1_firstScored_29 (by decide) h (fun _ h => ?_) (fun _ h => ?_)
        · refine r_iincL (pc := 34) (c := nI 1) C dX1_firstScored_34 rfl (by decide) hn3 h (fun x6 h => ?_)
          refine r_lvE (lv' := [_, _, _, _]) rfl ?_
          refine r_goto (pc := 37) (tgt := 2) C dX1_firstScored_37 (by decide) ?_
          exact ih x6 M2 h
        · refine r_iload_n (pc := 32) C dX1_firstScored_32 rfl rfl ?_
          exact r_iret (pc := 33) C R0 h dX1_firstScored_33
set_option maxRecDepth 100000 in
set_option maxHeartbeats 4000000 in
theorem zX1_firstScored (G : xGX) (a0 : Nat) (h0 : xkd a0 = 1) (a1 : Int32) (a2 : Int32) (M : xMem) (r : Int32) (M' : xMem) (h : fX1_firstScored a0 a1 a2 M = some (r, M')) : xCt G yX1_firstScored cX1_firstScored 4 (some .int) 2 [vr G a0, .int a1, .int a2] M (some (.int r), M') := by
  refine xMet (lv := [some (vr G a0), some (.int a1), some (.int a2), none]) (by decide) (Nat.le_of_ble_eq_true rfl) rfl ?_
  intro X hG hnL C R0
  subst hG
  have C : xCk X cX1_firstScored RX1 2 := C
  have hn3 : 3 < X.2.2.2.2.2.2.2.2.2.2.2.2.2 := by rw [hnL]; decide
  unfold fX1_firstScored at h
  refine r_iconst (pc := 0) (v := (nI 0)) C dX1_firstScored_0 (by decide) ?_
  refine r_istore_n (pc := 1) (lv' := [_, _, _, _]) C dX1_firstScored_1 rfl hn3 rfl ?_
  refine lX1_firstScored_2 C R0 hnL a0 h0 a1 a2 _ (fun v7 M8 h => ?_) _ _ _ h
  refine r_iconst (pc := 40) (v := (-1)) C dX1_firstScored_40 (by decide) ?_
  exact r_iret (pc := 41) C R0 h dX1_firstScored_41
theorem dX1_firstTackle_0 : decode cX1_firstTackle 0 = .ok (.iconst 0, 1) := by decide +kernel
theorem dX1_firstTackle_1 : decode cX1_firstTackle 1 = .ok (.istore_n 3, 1) := by decide +kernel
theorem dX1_firstTackle_2 : decode cX1_firstTackle 2 = .ok (.iload_n 3, 1) := by decide +kernel
theorem dX1_firstTackle_3 : decode cX1_firstTackle 3 = .ok (.aload_n 0, 1) := by decide +kernel
theorem dX1_firstTackle_4 : decode cX1_firstTackle 4 = .ok (.getfield 30, 3) := by decide +kernel
theorem dX1_firstTackle_7 : decode cX1_firstTackle 7 = .ok (.if_icmp .ge 59, 3) := by decide +kernel
theorem dX1_firstTackle_10 : decode cX1_firstTackle 10 = .ok (.aload_n 0, 1) := by decide +kernel
theorem dX1_firstTackle_11 : decode cX1_firstTackle 11 = .ok (.getfield 13, 3) := by decide +kernel
theorem dX1_firstTackle_14 : decode cX1_firstTackle 14 = .ok (.iconst 0, 1) := by decide +kernel
theorem dX1_firstTackle_15 : decode cX1_firstTackle 15 = .ok (.aaload, 1) := by decide +kernel
theorem dX1_firstTackle_16 : decode cX1_firstTackle 16 = .ok (.iload_n 3, 1) := by decide +kernel
theorem dX1_firstTackle_17 : decode cX1_firstTackle 17 = .ok (.iaload, 1) := by decide +kernel
theorem dX1_firstTackle_18 : decode cX1_firstTackle 18 = .ok (.iload_n 1, 1) := by decide +kernel
theorem dX1_firstTackle_19 : decode cX1_firstTackle 19 = .ok (.if_icmp .eq 19, 3) := by decide +kernel
theorem dX1_firstTackle_22 : decode cX1_firstTackle 22 = .ok (.aload_n 0, 1) := by decide +kernel
theorem dX1_firstTackle_23 : decode cX1_firstTackle 23 = .ok (.getfield 13, 3) := by decide +kernel
theorem dX1_firstTackle_26 : decode cX1_firstTackle 26 = .ok (.iconst 2, 1) := by decide +kernel
theorem dX1_firstTackle_27 : decode cX1_firstTackle 27 = .ok (.aaload, 1) := by decide +kernel
theorem dX1_firstTackle_28 : decode cX1_firstTackle 28 = .ok (.iload_n 3, 1) := by decide +kernel
theorem dX1_firstTackle_29 : decode cX1_firstTackle 29 = .ok (.iaload, 1) := by decide +kernel
theorem dX1_firstTackle_30 : decode cX1_firstTackle 30 = .ok (.iconst 3, 1) := by decide +kernel
theorem dX1_firstTackle_31 : decode cX1_firstTackle 31 = .ok (.if_icmp .ne 7, 3) := by decide +kernel
theorem dX1_firstTackle_34 : decode cX1_firstTackle 34 = .ok (.iconst 1, 1) := by decide +kernel
theorem dX1_firstTackle_35 : decode cX1_firstTackle 35 = .ok (.goto 4, 3) := by decide +kernel
theorem dX1_firstTackle_38 : decode cX1_firstTackle 38 = .ok (.iconst 0, 1) := by decide +kernel
theorem dX1_firstTackle_39 : decode cX1_firstTackle 39 = .ok (.istore 4, 2) := by decide +kernel
theorem dX1_firstTackle_41 : decode cX1_firstTackle 41 = .ok (.iload 4, 2) := by decide +kernel
theorem dX1_firstTackle_43 : decode cX1_firstTackle 43 = .ok (.ifCond .eq 17, 3) := by decide +kernel
theorem dX1_firstTackle_46 : decode cX1_firstTackle 46 = .ok (.aload_n 0, 1) := by decide +kernel
theorem dX1_firstTackle_47 : decode cX1_firstTackle 47 = .ok (.getfield 13, 3) := by decide +kernel
theorem dX1_firstTackle_50 : decode cX1_firstTackle 50 = .ok (.iconst 5, 1) := by decide +kernel
theorem dX1_firstTackle_51 : decode cX1_firstTackle 51 = .ok (.aaload, 1) := by decide +kernel
theorem dX1_firstTackle_52 : decode cX1_firstTackle 52 = .ok (.iload_n 3, 1) := by decide +kernel
theorem dX1_firstTackle_53 : decode cX1_firstTackle 53 = .ok (.iaload, 1) := by decide +kernel
theorem dX1_firstTackle_54 : decode cX1_firstTackle 54 = .ok (.iload_n 2, 1) := by decide +kernel
theorem dX1_firstTackle_55 : decode cX1_firstTackle 55 = .ok (.if_icmp .ne 5, 3) := by decide +kernel
theorem dX1_firstTackle_58 : decode cX1_firstTackle 58 = .ok (.iload_n 3, 1) := by decide +kernel
theorem dX1_firstTackle_59 : decode cX1_firstTackle 59 = .ok (.ireturn, 1) := by decide +kernel
theorem dX1_firstTackle_60 : decode cX1_firstTackle 60 = .ok (.iinc 3 1, 3) := by decide +kernel
theorem dX1_firstTackle_63 : decode cX1_firstTackle 63 = .ok (.goto (-61), 3) := by decide +kernel
theorem dX1_firstTackle_66 : decode cX1_firstTackle 66 = .ok (.iconst (-1), 1) := by decide +kernel
theorem dX1_firstTackle_67 : decode cX1_firstTackle 67 = .ok (.ireturn, 1) := by decide +kernel
def fX1_firstTackle_l2 (p0 : Nat) (p1 : Int32) (p2 : Int32) (K : Int32 → xMem → Option (Int32 × xMem)) : Nat → Int32 → xMem → Option (Int32 × xMem)
  | 0, _, _ => none
  | n + 1, v3, M => if (M.1 p0 5) ≤ v3 then (K v3 M) else (xGb (nI 0) (xln (xrf p0 0)) (xGb v3 (xln (xrf (xrf p0 0) (Int32.toNatClampNeg (nI 0)))) (xLt (fun (s3 : Int32) (M4 : xMem) => (if s3 = 0 then (xLt (v3 + nI 1) fun x5 => fX1_firstTackle_l2 p0 p1 p2 K n x5 M4) else (xGb (nI 5) (xln (xrf p0 0)) (xGb v3 (xln (xrf (xrf p0 0) (Int32.toNatClampNeg (nI 5)))) (if (M4.1 (xrf (xrf p0 0) (Int32.toNatClampNeg (nI 5))) (Int32.toNatClampNeg v3)) = p2 then (some (v3, M4)) else (xLt (v3 + nI 1) fun x8 => fX1_firstTackle_l2 p0 p1 p2 K n x8 M4)))) : Option (Int32 × xMem))) fun J39 => if (M.1 (xrf (xrf p0 0) (Int32.toNatClampNeg (nI 0))) (Int32.toNatClampNeg v3)) = p1 then (J39 (nI 0) M) else (xGb (nI 2) (xln (xrf p0 0)) (xGb v3 (xln (xrf (xrf p0 0) (Int32.toNatClampNeg (nI 2)))) (if (M.1 (xrf (xrf p0 0) (Int32.toNatClampNeg (nI 2))) (Int32.toNatClampNeg v3)) = (nI 3) then (J39 (nI 1) M) else (J39 (nI 0) M)))))))
def fX1_firstTackle (a0 : Nat) (a1 : Int32) (a2 : Int32) (M : xMem) : Option (Int32 × xMem) :=
  fX1_firstTackle_l2 a0 a1 a2 (fun (v11 : Int32) (M12 : xMem) => some ((-1), M12)) xFU (nI 0) M
set_option maxRecDepth 100000 in
set_option maxHeartbeats 4000000 in
theorem lX1_firstTackle_2 {X : xCX} {r : Int32} {M' : xMem} (C : xCk X cX1_firstTackle RX1 1) (R0 : xRk X (some .int) (some (.int r), M')) (hnL : X.2.2.2.2.2.2.2.2.2.2.2.2.2 = 5) (p0 : Nat) (hp0 : xkd p0 = 1) (p1 : Int32) (p2 : Int32) (K : Int32 → xMem → Option (Int32 × xMem)) (hK : ∀ (v3 : Int32) (M : xMem), K v3 M = some (r, M') → WW X 66 [some (vr X.1 p0), some (.int p1), some (.int p2), some (.int v3), none] [] M) : ∀ (n : Nat) (v3 : Int32) (M : xMem), fX1_firstTackle_l2 p0 p1 p2 K n v3 M = some (r, M') → WW X 2 [some (vr X.1 p0), some (.int p1), some (.int p2), some (.int v3), none] [] M := by
  have hn3 : 3 < X.2.2.2.2.2.2.2.2.2.2.2.2.2 := by rw [hnL]; decide
  have hn4 : 4 < X.2.2.2.2.2.2.2.2.2.2.2.2.2 := by rw [hnL]; decide
  intro n
  induction n with
  | zero =>
    intro v3 M h
    cases (show (none : Option (Int32 × xMem)) = some (r, M') from h)
  | succ n ih =>
    intro v3 M h
    rw [fX1_firstTackle_l2.eq_2] at h
    refine r_iload_n (pc := 2) C dX1_firstTackle_2 rfl rfl ?_
    refine r_aload_n (pc := 3) C dX1_firstTackle_3 rfl rfl ?_
    refine r_getI (pc := 4) C kX1_30 hp0 dX1_firstTackle_4 ?_
    refine r_icmp_ge (pc := 7) (tgt := 66) C dX1_firstTackle_7 (by decide) h (fun _ h => ?_) (fun _ h => ?_)
    · exact hK v3 M h
    · refine r_aload_n (pc := 10) C dX1_firstTackle_10 rfl rfl ?_
      refine r_getR (pc := 11) C kX1_13 hp0 (by decide) dX1_firstTackle_11 ?_
      refine r_iconst (pc := 14) (v := (nI 0)) C dX1_firstTackle_14 (by decide) ?_
      obtain ⟨g1, h⟩ := xGb_of h
      refine r_aaldI (pc := 15) C (xtk hp0 (by decide) rfl rfl) g1 dX1_firstTackle_15 ?_
      refine r_iload_n (pc := 16) C dX1_firstTackle_16 rfl rfl ?_
      obtain ⟨g2, h⟩ := xGb_of h
      refine r_iald (pc := 17) C (xkeI (xtk hp0 (by decide) rfl rfl) (xin_lt g1)) g2 dX1_firstTackle_17 ?_
      refine r_iload_n (pc := 18) C dX1_firstTackle_18 rfl rfl ?_
      refine r_jn (fun J => ∀ (s3 : Int32) (M4 : xMem) , J s3 M4 = some (r, M') → WW X 39 [some (vr X.1 p0), some (.int p1), some (.int p2), some (.int v3), none] [.int s3] M4) h (fun s3 M4  h => ?_) (fun J39 hJ39 h => ?_)
      · refine r_istore (pc := 39) (lv' := [_, _, _, _, _]) C dX1_firstTackle_39 hn4 rfl ?_
        refine r_iload (pc := 41) C dX1_firstTackle_41 rfl ?_
        refine r_if_eq (pc := 43) (tgt := 60) C dX1_firstTackle_43 (by decide) h (fun _ h => ?_) (fun _ h => ?_)
        · refine r_iincL (pc := 60) (c := nI 1) C dX1_firstTackle_60 rfl (by decide) hn3 h (fun x5 h => ?_)
          refine r_lvE (lv' := [_, _, _, _, _]) rfl ?_
          refine r_goto (pc := 63) (tgt := 2) C dX1_firstTackle_63 (by decide) ?_
          exact r_lv (xle_at (xle_some rfl (xle_some rfl (xle_some rfl (xle_some rfl (xle_none xle_nil)))))) (ih x5 M4 h)
        · refine r_aload_n (pc := 46) C dX1_firstTackle_46 rfl rfl ?_
          refine r_getR (pc := 47) C kX1_13 hp0 (by decide) dX1_firstTackle_47 ?_
          refine r_iconst (pc := 50) (v := (nI 5)) C dX1_firstTackle_50 (by decide) ?_
          obtain ⟨g6, h⟩ := xGb_of h
          refine r_aaldI (pc := 51) C (xtk hp0 (by decide) rfl rfl) g6 dX1_firstTackle_51 ?_
          refine r_iload_n (pc := 52) C dX1_firstTackle_52 rfl rfl ?_
          obtain ⟨g7, h⟩ := xGb_of h
          refine r_iald (pc := 53) C (xkeI (xtk hp0 (by decide) rfl rfl) (xin_lt g6)) g7 dX1_firstTackle_53 ?_
          refine r_iload_n (pc := 54) C dX1_firstTackle_54 rfl rfl ?_
          refine r_icmp_ne (pc := 55) (tgt := 60) C dX1_firstTackle_55 (by decide) h (fun _ h => ?_) (fun _ h => ?_)
          · refine r_iincL (pc := 60) (c := nI 1) C dX1_firstTackle_60 rfl (by decide) hn3 h (fun x8 h => ?_)
            refine r_lvE (lv' := [_, _, _, _, _]) rfl ?_
            refine r_goto (pc := 63) (tgt := 2) C dX1_firstTackle_63 (by decide) ?_
            exact r_lv (xle_at (xle_some rfl (xle_some rfl (xle_some rfl (xle_some rfl (xle_none xle_nil)))))) (ih x8 M4 h)
          · refine r_iload_n (pc := 58) C dX1_firstTackle_58 rfl rfl ?_
            exact r_iret (pc := 59) C R0 h dX1_firstTackle_59
      refine r_icmp_eq (pc := 19) (tgt := 38) C dX1_firstTackle_19 (by decide) h (fun _ h => ?_) (fun _ h => ?_)
      · refine r_iconst (pc := 38) (v := (nI 0)) C dX1_firstTackle_38 (by decide) ?_
        exact hJ39 (nI 0) M  h
      · refine r_aload_n (pc := 22) C dX1_firstTackle_22 rfl rfl ?_
        refine r_getR (pc := 23) C kX1_13 hp0 (by decide) dX1_firstTackle_23 ?_
        refine r_iconst (pc := 26) (v := (nI 2)) C dX1_firstTackle_26 (by decide) ?_
        obtain ⟨g9, h⟩ := xGb_of h
        refine r_aaldI (pc := 27) C (xtk hp0 (by decide) rfl rfl) g9 dX1_firstTackle_27 ?_
        refine r_iload_n (pc := 28) C dX1_firstTackle_28 rfl rfl ?_
        obtain ⟨g10, h⟩ := xGb_of h
        refine r_iald (pc := 29) C (xkeI (xtk hp0 (by decide) rfl rfl) (xin_lt g9)) g10 dX1_firstTackle_29 ?_
        refine r_iconst (pc := 30) (v := (nI 3)) C dX1_firstTackle_30 (by decide) ?_
        refine r_icmp_ne (pc := 31) (tgt := 38) C dX1_firstTackle_31 (by decide) h (fun _ h => ?_) (fun _ h => ?_)
        · refine r_iconst (pc := 38) (v := (nI 0)) C dX1_firstTackle_38 (by decide) ?_
          exact hJ39 (nI 0) M  h
        · refine r_iconst (pc := 34) (v := (nI 1)) C dX1_firstTackle_34 (by decide) ?_
          refine r_goto (pc := 35) (tgt := 39) C dX1_firstTackle_35 (by decide) ?_
          exact hJ39 (nI 1) M  h
set_option maxRecDepth 100000 in
set_option maxHeartbeats 4000000 in
theorem zX1_firstTackle (G : xGX) (a0 : Nat) (h0 : xkd a0 = 1) (a1 : Int32) (a2 : Int32) (M : xMem) (r : Int32) (M' : xMem) (h : fX1_firstTackle a0 a1 a2 M = some (r, M')) : xCt G yX1_firstTackle cX1_firstTackle 5 (some .int) 1 [vr G a0, .int a1, .int a2] M (some (.int r), M') := by
  refine xMet (lv := [some (vr G a0), some (.int a1), some (.int a2), none, none]) (by decide) (Nat.le_of_ble_eq_true rfl) rfl ?_
  intro X hG hnL C R0
  subst hG
  have C : xCk X cX1_firstTackle RX1 1 := C
  have hn3 : 3 < X.2.2.2.2.2.2.2.2.2.2.2.2.2 := by rw [hnL]; decide
  have hn4 : 4 < X.2.2.2.2.2.2.2.2.2.2.2.2.2 := by rw [hnL]; decide
  unfold fX1_firstTackle at h
  refine r_iconst (pc := 0) (v := (nI 0)) C dX1_firstTackle_0 (by decide) ?_
  refine r_istore_n (pc := 1) (lv' := [_, _, _, _, _]) C dX1_firstTackle_1 rfl hn3 rfl ?_
  refine lX1_firstTackle_2 C R0 hnL a0 h0 a1 a2 _ (fun v11 M12 h => ?_) _ _ _ h
  refine r_iconst (pc := 66) (v := (-1)) C dX1_firstTackle_66 (by decide) ?_
  exact r_iret (pc := 67) C R0 h dX1_firstTackle_67
theorem dX1_streakOf_0 : decode cX1_streakOf 0 = .ok (.iconst 0, 1) := by decide +kernel
theorem dX1_streakOf_1 : decode cX1_streakOf 1 = .ok (.istore_n 3, 1) := by decide +kernel
theorem dX1_streakOf_2 : decode cX1_streakOf 2 = .ok (.iconst 0, 1) := by decide +kernel
theorem dX1_streakOf_3 : decode cX1_streakOf 3 = .ok (.istore 4, 2) := by decide +kernel
theorem dX1_streakOf_5 : decode cX1_streakOf 5 = .ok (.iconst 0, 1) := by decide +kernel
theorem dX1_streakOf_6 : decode cX1_streakOf 6 = .ok (.istore 5, 2) := by decide +kernel
theorem dX1_streakOf_8 : decode cX1_streakOf 8 = .ok (.iload 5, 2) := by decide +kernel
theorem dX1_streakOf_10 : decode cX1_streakOf 10 = .ok (.aload_n 0, 1) := by decide +kernel
theorem dX1_streakOf_11 : decode cX1_streakOf 11 = .ok (.getfield 30, 3) := by decide +kernel
theorem dX1_streakOf_14 : decode cX1_streakOf 14 = .ok (.if_icmp .ge 50, 3) := by decide +kernel
theorem dX1_streakOf_17 : decode cX1_streakOf 17 = .ok (.aload_n 0, 1) := by decide +kernel
theorem dX1_streakOf_18 : decode cX1_streakOf 18 = .ok (.iload_n 1, 1) := by decide +kernel
theorem dX1_streakOf_19 : decode cX1_streakOf 19 = .ok (.iload_n 2, 1) := by decide +kernel
theorem dX1_streakOf_20 : decode cX1_streakOf 20 = .ok (.iload 5, 2) := by decide +kernel
theorem dX1_streakOf_22 : decode cX1_streakOf 22 = .ok (.invokevirtual 137, 3) := by decide +kernel
theorem dX1_streakOf_25 : decode cX1_streakOf 25 = .ok (.ifCond .eq 33, 3) := by decide +kernel
theorem dX1_streakOf_28 : decode cX1_streakOf 28 = .ok (.aload_n 0, 1) := by decide +kernel
theorem dX1_streakOf_29 : decode cX1_streakOf 29 = .ok (.getfield 13, 3) := by decide +kernel
theorem dX1_streakOf_32 : decode cX1_streakOf 32 = .ok (.bipush 13, 2) := by decide +kernel
theorem dX1_streakOf_34 : decode cX1_streakOf 34 = .ok (.aaload, 1) := by decide +kernel
theorem dX1_streakOf_35 : decode cX1_streakOf 35 = .ok (.iload 5, 2) := by decide +kernel
theorem dX1_streakOf_37 : decode cX1_streakOf 37 = .ok (.iaload, 1) := by decide +kernel
theorem dX1_streakOf_38 : decode cX1_streakOf 38 = .ok (.ifCond .le 10, 3) := by decide +kernel
theorem dX1_streakOf_41 : decode cX1_streakOf 41 = .ok (.iload 4, 2) := by decide +kernel
theorem dX1_streakOf_43 : decode cX1_streakOf 43 = .ok (.iconst 1, 1) := by decide +kernel
theorem dX1_streakOf_44 : decode cX1_streakOf 44 = .ok (.iadd, 1) := by decide +kernel
theorem dX1_streakOf_45 : decode cX1_streakOf 45 = .ok (.goto 4, 3) := by decide +kernel
theorem dX1_streakOf_48 : decode cX1_streakOf 48 = .ok (.iconst 0, 1) := by decide +kernel
theorem dX1_streakOf_49 : decode cX1_streakOf 49 = .ok (.istore 4, 2) := by decide +kernel
theorem dX1_streakOf_51 : decode cX1_streakOf 51 = .ok (.iload_n 3, 1) := by decide +kernel
theorem dX1_streakOf_52 : decode cX1_streakOf 52 = .ok (.iload 4, 2) := by decide +kernel
theorem dX1_streakOf_54 : decode cX1_streakOf 54 = .ok (.invokestatic 128, 3) := by decide +kernel
theorem dX1_streakOf_57 : decode cX1_streakOf 57 = .ok (.istore_n 3, 1) := by decide +kernel
theorem dX1_streakOf_58 : decode cX1_streakOf 58 = .ok (.iinc 5 1, 3) := by decide +kernel
theorem dX1_streakOf_61 : decode cX1_streakOf 61 = .ok (.goto (-53), 3) := by decide +kernel
theorem dX1_streakOf_64 : decode cX1_streakOf 64 = .ok (.iload_n 3, 1) := by decide +kernel
theorem dX1_streakOf_65 : decode cX1_streakOf 65 = .ok (.ireturn, 1) := by decide +kernel
def fX1_streakOf_l8 (p0 : Nat) (p1 : Int32) (p2 : Int32) (K : Int32 → Int32 → Int32 → xMem → Option (Int32 × xMem)) : Nat → Int32 → Int32 → Int32 → xMem → Option (Int32 × xMem)
  | 0, _, _, _, _ => none
  | n + 1, v3, v4, v5, M => if (M.1 p0 5) ≤ v5 then (K v3 v4 v5 M) else (xBn (fX1_isRaider p0 p1 p2 v5 M) fun r1 M2 => if r1 = 0 then (xLt (v5 + nI 1) fun x3 => fX1_streakOf_l8 p0 p1 p2 K n v3 v4 x3 M2) else (xGb (nI 13) (xln (xrf p0 0)) (xGb v5 (xln (xrf (xrf p0 0) (Int32.toNatClampNeg (nI 13)))) (xLt (fun (s6 : Int32) (M7 : xMem) => (xLt (if v3 < s6 then s6 else v3) fun x8 => xLt (v5 + nI 1) fun x9 => fX1_streakOf_l8 p0 p1 p2 K n x8 s6 x9 M7 : Option (Int32 × xMem))) fun J49 => if (M2.1 (xrf (xrf p0 0) (Int32.toNatClampNeg (nI 13))) (Int32.toNatClampNeg v5)) ≤ 0 then (J49 (nI 0) M2) else (J49 (v4 + (nI 1)) M2)))))
def fX1_streakOf (a0 : Nat) (a1 : Int32) (a2 : Int32) (M : xMem) : Option (Int32 × xMem) :=
  fX1_streakOf_l8 a0 a1 a2 (fun (v10 : Int32) (v11 : Int32) (v12 : Int32) (M13 : xMem) => some (v10, M13)) xFU (nI 0) (nI 0) (nI 0) M
set_option maxRecDepth 100000 in
set_option maxHeartbeats 4000000 in
theorem lX1_streakOf_8 {X : xCX} {r : Int32} {M' : xMem} (C : xCk X cX1_streakOf RX1 2) (R0 : xRk X (some .int) (some (.int r), M')) (hnL : X.2.2.2.2.2.2.2.2.2.2.2.2.2 = 6) (p0 : Nat) (hp0 : xkd p0 = 1) (p1 : Int32) (p2 : Int32) (K : Int32 → Int32 → Int32 → xMem → Option (Int32 × xMem)) (hK : ∀ (v3 : Int32) (v4 : Int32) (v5 : Int32) (M : xMem), K v3 v4 v5 M = some (r, M') → WW X 64 [some (vr X.1 p0), some (.int p1), some (.int p2), some (.int v3), some (.int v4), some (.int v5)] [] M) : ∀ (n : Nat) (v3 : Int32) (v4 : Int32) (v5 : Int32) (M : xMem), fX1_streakOf_l8 p0 p1 p2 K n v3 v4 v5 M = some (r, M') → WW X 8 [some (vr X.1 p0), some (.int p1), some (.int p2), some (.int v3), some (.int v4), some (.int v5)] [] M := by
  have hn3 : 3 < X.2.2.2.2.2.2.2.2.2.2.2.2.2 := by rw [hnL]; decide
  have hn4 : 4 < X.2.2.2.2.2.2.2.2.2.2.2.2.2 := by rw [hnL]; decide
  have hn5 : 5 < X.2.2.2.2.2.2.2.2.2.2.2.2.2 := by rw [hnL]; decide
  intro n
  induction n with
  | zero =>
    intro v3 v4 v5 M h
    cases (show (none : Option (Int32 × xMem)) = some (r, M') from h)
  | succ n ih =>
    intro v3 v4 v5 M h
    rw [fX1_streakOf_l8.eq_2] at h
    refine r_iload (pc := 8) C dX1_streakOf_8 rfl ?_
    refine r_aload_n (pc := 10) C dX1_streakOf_10 rfl rfl ?_
    refine r_getI (pc := 11) C kX1_30 hp0 dX1_streakOf_11 ?_
    refine r_icmp_ge (pc := 14) (tgt := 64) C dX1_streakOf_14 (by decide) h (fun _ h => ?_) (fun _ h => ?_)
    · exact hK v3 v4 v5 M h
    · refine r_aload_n (pc := 17) C dX1_streakOf_17 rfl rfl ?_
      refine r_iload_n (pc := 18) C dX1_streakOf_18 rfl rfl ?_
      refine r_iload_n (pc := 19) C dX1_streakOf_19 rfl rfl ?_
      refine r_iload (pc := 20) C dX1_streakOf_20 rfl ?_
      refine r_vI3 (pc := 22) C (fun r M' e => zX1_isRaider X.1 p0 hp0 p1 p2 v5 M r M' e) hp0 (by decide) rfl mX1_isRaider lX1_137 (by decide) (Nat.le_of_ble_eq_true rfl) dX1_streakOf_22 h (fun r1 M2 h => ?_)
      refine r_if_eq (pc := 25) (tgt := 58) C dX1_streakOf_25 (by decide) h (fun _ h => ?_) (fun _ h => ?_)
      · refine r_iincL (pc := 58) (c := nI 1) C dX1_streakOf_58 rfl (by decide) hn5 h (fun x3 h => ?_)
        refine r_lvE (lv' := [_, _, _, _, _, _]) rfl ?_
        refine r_goto (pc := 61) (tgt := 8) C dX1_streakOf_61 (by decide) ?_
        exact ih v3 v4 x3 M2 h
      · refine r_aload_n (pc := 28) C dX1_streakOf_28 rfl rfl ?_
        refine r_getR (pc := 29) C kX1_13 hp0 (by decide) dX1_streakOf_29 ?_
        refine r_bipush (pc := 32) (v := (nI 13)) C dX1_streakOf_32 (by decide) ?_
        obtain ⟨g4, h⟩ := xGb_of h
        refine r_aaldI (pc := 34) C (xtk hp0 (by decide) rfl rfl) g4 dX1_streakOf_34 ?_
        refine r_iload (pc := 35) C dX1_streakOf_35 rfl ?_
        obtain ⟨g5, h⟩ := xGb_of h
        refine r_iald (pc := 37) C (xkeI (xtk hp0 (by decide) rfl rfl) (xin_lt g4)) g5 dX1_streakOf_37 ?_
        refine r_jn (fun J => ∀ (s6 : Int32) (M7 : xMem) , J s6 M7 = some (r, M') → WW X 49 [some (vr X.1 p0), some (.int p1), some (.int p2), some (.int v3), some (.int v4), some (.int v5)] [.int s6] M7) h (fun s6 M7  h => ?_) (fun J49 hJ49 h => ?_)
        · refine r_istore (pc := 49) (lv' := [_, _, _, _, _, _]) C dX1_streakOf_49 hn4 rfl ?_
          refine r_iload_n (pc := 51) C dX1_streakOf_51 rfl rfl ?_
          refine r_iload (pc := 52) C dX1_streakOf_52 rfl ?_
          refine r_mmax (pc := 54) C lX1_128 (fun _ => by simp [xNM]) (by decide) (Nat.le_of_ble_eq_true rfl) dX1_streakOf_54 ?_
          refine r_letI h (fun x8 h => ?_)
          refine r_istore_n (pc := 57) (lv' := [_, _, _, _, _, _]) C dX1_streakOf_57 rfl hn3 rfl ?_
          refine r_iincL (pc := 58) (c := nI 1) C dX1_streakOf_58 rfl (by decide) hn5 h (fun x9 h => ?_)
          refine r_lvE (lv' := [_, _, _, _, _, _]) rfl ?_
          refine r_goto (pc := 61) (tgt := 8) C dX1_streakOf_61 (by decide) ?_
          exact ih x8 s6 x9 M7 h
        refine r_if_le (pc := 38) (tgt := 48) C dX1_streakOf_38 (by decide) h (fun _ h => ?_) (fun _ h => ?_)
        · refine r_iconst (pc := 48) (v := (nI 0)) C dX1_streakOf_48 (by decide) ?_
          exact hJ49 (nI 0) M2  h
        · refine r_iload (pc := 41) C dX1_streakOf_41 rfl ?_
          refine r_iconst (pc := 43) (v := (nI 1)) C dX1_streakOf_43 (by decide) ?_
          refine r_iadd (pc := 44) C dX1_streakOf_44 ?_
          refine r_goto (pc := 45) (tgt := 49) C dX1_streakOf_45 (by decide) ?_
          exact hJ49 (v4 + (nI 1)) M2  h
set_option maxRecDepth 100000 in
set_option maxHeartbeats 4000000 in
theorem zX1_streakOf (G : xGX) (a0 : Nat) (h0 : xkd a0 = 1) (a1 : Int32) (a2 : Int32) (M : xMem) (r : Int32) (M' : xMem) (h : fX1_streakOf a0 a1 a2 M = some (r, M')) : xCt G yX1_streakOf cX1_streakOf 6 (some .int) 2 [vr G a0, .int a1, .int a2] M (some (.int r), M') := by
  refine xMet (lv := [some (vr G a0), some (.int a1), some (.int a2), none, none, none]) (by decide) (Nat.le_of_ble_eq_true rfl) rfl ?_
  intro X hG hnL C R0
  subst hG
  have C : xCk X cX1_streakOf RX1 2 := C
  have hn3 : 3 < X.2.2.2.2.2.2.2.2.2.2.2.2.2 := by rw [hnL]; decide
  have hn4 : 4 < X.2.2.2.2.2.2.2.2.2.2.2.2.2 := by rw [hnL]; decide
  have hn5 : 5 < X.2.2.2.2.2.2.2.2.2.2.2.2.2 := by rw [hnL]; decide
  unfold fX1_streakOf at h
  refine r_iconst (pc := 0) (v := (nI 0)) C dX1_streakOf_0 (by decide) ?_
  refine r_istore_n (pc := 1) (lv' := [_, _, _, _, _, _]) C dX1_streakOf_1 rfl hn3 rfl ?_
  refine r_iconst (pc := 2) (v := (nI 0)) C dX1_streakOf_2 (by decide) ?_
  refine r_istore (pc := 3) (lv' := [_, _, _, _, _, _]) C dX1_streakOf_3 hn4 rfl ?_
  refine r_iconst (pc := 5) (v := (nI 0)) C dX1_streakOf_5 (by decide) ?_
  refine r_istore (pc := 6) (lv' := [_, _, _, _, _, _]) C dX1_streakOf_6 hn5 rfl ?_
  refine lX1_streakOf_8 C R0 hnL a0 h0 a1 a2 _ (fun v10 v11 v12 M13 h => ?_) _ _ _ _ _ h
  refine r_iload_n (pc := 64) C dX1_streakOf_64 rfl rfl ?_
  exact r_iret (pc := 65) C R0 h dX1_streakOf_65
theorem dX1_lastRaid_0 : decode cX1_lastRaid 0 = .ok (.aload_n 0, 1) := by decide +kernel
theorem dX1_lastRaid_1 : decode cX1_lastRaid 1 = .ok (.getfield 30, 3) := by decide +kernel
theorem dX1_lastRaid_4 : decode cX1_lastRaid 4 = .ok (.iconst 1, 1) := by decide +kernel
theorem dX1_lastRaid_5 : decode cX1_lastRaid 5 = .ok (.isub, 1) := by decide +kernel
theorem dX1_lastRaid_6 : decode cX1_lastRaid 6 = .ok (.istore_n 3, 1) := by decide +kernel
theorem dX1_lastRaid_7 : decode cX1_lastRaid 7 = .ok (.iload_n 3, 1) := by decide +kernel
theorem dX1_lastRaid_8 : decode cX1_lastRaid 8 = .ok (.ifCond .lt 21, 3) := by decide +kernel
theorem dX1_lastRaid_11 : decode cX1_lastRaid 11 = .ok (.aload_n 0, 1) := by decide +kernel
theorem dX1_lastRaid_12 : decode cX1_lastRaid 12 = .ok (.iload_n 1, 1) := by decide +kernel
theorem dX1_lastRaid_13 : decode cX1_lastRaid 13 = .ok (.iload_n 2, 1) := by decide +kernel
theorem dX1_lastRaid_14 : decode cX1_lastRaid 14 = .ok (.iload_n 3, 1) := by decide +kernel
theorem dX1_lastRaid_15 : decode cX1_lastRaid 15 = .ok (.invokevirtual 137, 3) := by decide +kernel
theorem dX1_lastRaid_18 : decode cX1_lastRaid 18 = .ok (.ifCond .eq 5, 3) := by decide +kernel
theorem dX1_lastRaid_21 : decode cX1_lastRaid 21 = .ok (.iload_n 3, 1) := by decide +kernel
theorem dX1_lastRaid_22 : decode cX1_lastRaid 22 = .ok (.ireturn, 1) := by decide +kernel
theorem dX1_lastRaid_23 : decode cX1_lastRaid 23 = .ok (.iinc 3 (-1), 3) := by decide +kernel
theorem dX1_lastRaid_26 : decode cX1_lastRaid 26 = .ok (.goto (-19), 3) := by decide +kernel
theorem dX1_lastRaid_29 : decode cX1_lastRaid 29 = .ok (.iconst (-1), 1) := by decide +kernel
theorem dX1_lastRaid_30 : decode cX1_lastRaid 30 = .ok (.ireturn, 1) := by decide +kernel
def fX1_lastRaid_l7 (p0 : Nat) (p1 : Int32) (p2 : Int32) (K : Int32 → xMem → Option (Int32 × xMem)) : Nat → Int32 → xMem → Option (Int32 × xMem)
  | 0, _, _ => none
  | n + 1, v3, M => if v3 < 0 then (K v3 M) else (xBn (fX1_isRaider p0 p1 p2 v3 M) fun r2 M3 => if r2 = 0 then (xLt (v3 + (-1)) fun x4 => fX1_lastRaid_l7 p0 p1 p2 K n x4 M3) else (some (v3, M3)))
def fX1_lastRaid (a0 : Nat) (a1 : Int32) (a2 : Int32) (M : xMem) : Option (Int32 × xMem) :=
  xLt ((M.1 a0 5) - (nI 1)) fun x1 => fX1_lastRaid_l7 a0 a1 a2 (fun (v5 : Int32) (M6 : xMem) => some ((-1), M6)) xFU x1 M
set_option maxRecDepth 100000 in
set_option maxHeartbeats 4000000 in
theorem lX1_lastRaid_7 {X : xCX} {r : Int32} {M' : xMem} (C : xCk X cX1_lastRaid RX1 2) (R0 : xRk X (some .int) (some (.int r), M')) (hnL : X.2.2.2.2.2.2.2.2.2.2.2.2.2 = 4) (p0 : Nat) (hp0 : xkd p0 = 1) (p1 : Int32) (p2 : Int32) (K : Int32 → xMem → Option (Int32 × xMem)) (hK : ∀ (v3 : Int32) (M : xMem), K v3 M = some (r, M') → WW X 29 [some (vr X.1 p0), some (.int p1), some (.int p2), some (.int v3)] [] M) : ∀ (n : Nat) (v3 : Int32) (M : xMem), fX1_lastRaid_l7 p0 p1 p2 K n v3 M = some (r, M') → WW X 7 [some (vr X.1 p0), some (.int p1), some (.int p2), some (.int v3)] [] M := by
  have hn3 : 3 < X.2.2.2.2.2.2.2.2.2.2.2.2.2 := by rw [hnL]; decide
  intro n
  induction n with
  | zero =>
    intro v3 M h
    cases (show (none : Option (Int32 × xMem)) = some (r, M') from h)
  | succ n ih =>
    intro v3 M h
    rw [fX1_lastRaid_l7.eq_2] at h
    refine r_iload_n (pc := 7) C dX1_lastRaid_7 rfl rfl ?_
    refine r_if_lt (pc := 8) (tgt := 29) C dX1_lastRaid_8 (by decide) h (fun _ h => ?_) (fun _ h => ?_)
    · exact hK v3 M h
    · refine r_aload_n (pc := 11) C dX1_lastRaid_11 rfl rfl ?_
      refine r_iload_n (pc := 12) C dX1_lastRaid_12 rfl rfl ?_
      refine r_iload_n (pc := 13) C dX1_lastRaid_13 rfl rfl ?_
      refine r_iload_n (pc := 14) C dX1_lastRaid_14 rfl rfl ?_
      refine r_vI3 (pc := 15) C (fun r M' e => zX1_isRaider X.1 p0 hp0 p1 p2 v3 M r M' e) hp0 (by decide) rfl mX1_isRaider lX1_137 (by decide) (Nat.le_of_ble_eq_true rfl) dX1_lastRaid_15 h (fun r2 M3 h => ?_)
      refine r_if_eq (pc := 18) (tgt := 23) C dX1_lastRaid_18 (by decide) h (fun _ h => ?_) (fun _ h => ?_)
      · refine r_iincL (pc := 23) (c := (-1)) C dX1_lastRaid_23 rfl (by decide) hn3 h (fun x4 h => ?_)
        refine r_lvE (lv' := [_, _, _, _]) rfl ?_
        refine r_goto (pc := 26) (tgt := 7) C dX1_lastRaid_26 (by decide) ?_
        exact ih x4 M3 h
      · refine r_iload_n (pc := 21) C dX1_lastRaid_21 rfl rfl ?_
        exact r_iret (pc := 22) C R0 h dX1_lastRaid_22
set_option maxRecDepth 100000 in
set_option maxHeartbeats 4000000 in
theorem zX1_lastRaid (G : xGX) (a0 : Nat) (h0 : xkd a0 = 1) (a1 : Int32) (a2 : Int32) (M : xMem) (r : Int32) (M' : xMem) (h : fX1_lastRaid a0 a1 a2 M = some (r, M')) : xCt G yX1_lastRaid cX1_lastRaid 4 (some .int) 2 [vr G a0, .int a1, .int a2] M (some (.int r), M') := by
  refine xMet (lv := [some (vr G a0), some (.int a1), some (.int a2), none]) (by decide) (Nat.le_of_ble_eq_true rfl) rfl ?_
  intro X hG hnL C R0
  subst hG
  have C : xCk X cX1_lastRaid RX1 2 := C
  have hn3 : 3 < X.2.2.2.2.2.2.2.2.2.2.2.2.2 := by rw [hnL]; decide
  unfold fX1_lastRaid at h
  refine r_aload_n (pc := 0) C dX1_lastRaid_0 rfl rfl ?_
  refine r_getI (pc := 1) C kX1_30 h0 dX1_lastRaid_1 ?_
  refine r_iconst (pc := 4) (v := (nI 1)) C dX1_lastRaid_4 (by decide) ?_
  refine r_isub (pc := 5) C dX1_lastRaid_5 ?_
  refine r_letI h (fun x1 h => ?_)
  refine r_istore_n (pc := 6) (lv' := [_, _, _, _]) C dX1_lastRaid_6 rfl hn3 rfl ?_
  refine lX1_lastRaid_7 C R0 hnL a0 h0 a1 a2 _ (fun v5 M6 h => ?_) _ _ _ h
  refine r_iconst (pc := 29) (v := (-1)) C dX1_lastRaid_29 (by decide) ?_
  exact r_iret (pc := 30) C R0 h dX1_lastRaid_30
theorem dX1_allOutRaid_0 : decode cX1_allOutRaid 0 = .ok (.iload_n 2, 1) := by decide +kernel
theorem dX1_allOutRaid_1 : decode cX1_allOutRaid 1 = .ok (.istore_n 3, 1) := by decide +kernel
theorem dX1_allOutRaid_2 : decode cX1_allOutRaid 2 = .ok (.iconst 0, 1) := by decide +kernel
theorem dX1_allOutRaid_3 : decode cX1_allOutRaid 3 = .ok (.istore 4, 2) := by decide +kernel
theorem dX1_allOutRaid_5 : decode cX1_allOutRaid 5 = .ok (.iload 4, 2) := by decide +kernel
theorem dX1_allOutRaid_7 : decode cX1_allOutRaid 7 = .ok (.aload_n 0, 1) := by decide +kernel
theorem dX1_allOutRaid_8 : decode cX1_allOutRaid 8 = .ok (.getfield 30, 3) := by decide +kernel
theorem dX1_allOutRaid_11 : decode cX1_allOutRaid 11 = .ok (.if_icmp .ge 37, 3) := by decide +kernel
theorem dX1_allOutRaid_14 : decode cX1_allOutRaid 14 = .ok (.aload_n 0, 1) := by decide +kernel
theorem dX1_allOutRaid_15 : decode cX1_allOutRaid 15 = .ok (.getfield 13, 3) := by decide +kernel
theorem dX1_allOutRaid_18 : decode cX1_allOutRaid 18 = .ok (.bipush 11, 2) := by decide +kernel
theorem dX1_allOutRaid_20 : decode cX1_allOutRaid 20 = .ok (.aaload, 1) := by decide +kernel
theorem dX1_allOutRaid_21 : decode cX1_allOutRaid 21 = .ok (.iload 4, 2) := by decide +kernel
theorem dX1_allOutRaid_23 : decode cX1_allOutRaid 23 = .ok (.iaload, 1) := by decide +kernel
theorem dX1_allOutRaid_24 : decode cX1_allOutRaid 24 = .ok (.iload_n 1, 1) := by decide +kernel
theorem dX1_allOutRaid_25 : decode cX1_allOutRaid 25 = .ok (.ishr, 1) := by decide +kernel
theorem dX1_allOutRaid_26 : decode cX1_allOutRaid 26 = .ok (.iconst 1, 1) := by decide +kernel
theorem dX1_allOutRaid_27 : decode cX1_allOutRaid 27 = .ok (.iand, 1) := by decide +kernel
theorem dX1_allOutRaid_28 : decode cX1_allOutRaid 28 = .ok (.iconst 1, 1) := by decide +kernel
theorem dX1_allOutRaid_29 : decode cX1_allOutRaid 29 = .ok (.if_icmp .ne 13, 3) := by decide +kernel
theorem dX1_allOutRaid_32 : decode cX1_allOutRaid 32 = .ok (.iload_n 3, 1) := by decide +kernel
theorem dX1_allOutRaid_33 : decode cX1_allOutRaid 33 = .ok (.ifCond .ne 6, 3) := by decide +kernel
theorem dX1_allOutRaid_36 : decode cX1_allOutRaid 36 = .ok (.iload 4, 2) := by decide +kernel
theorem dX1_allOutRaid_38 : decode cX1_allOutRaid 38 = .ok (.ireturn, 1) := by decide +kernel
theorem dX1_allOutRaid_39 : decode cX1_allOutRaid 39 = .ok (.iinc 3 (-1), 3) := by decide +kernel
theorem dX1_allOutRaid_42 : decode cX1_allOutRaid 42 = .ok (.iinc 4 1, 3) := by decide +kernel
theorem dX1_allOutRaid_45 : decode cX1_allOutRaid 45 = .ok (.goto (-40), 3) := by decide +kernel
theorem dX1_allOutRaid_48 : decode cX1_allOutRaid 48 = .ok (.iconst (-1), 1) := by decide +kernel
theorem dX1_allOutRaid_49 : decode cX1_allOutRaid 49 = .ok (.ireturn, 1) := by decide +kernel
def fX1_allOutRaid_l5 (p0 : Nat) (p1 : Int32) (p2 : Int32) (K : Int32 → Int32 → xMem → Option (Int32 × xMem)) : Nat → Int32 → Int32 → xMem → Option (Int32 × xMem)
  | 0, _, _, _ => none
  | n + 1, v3, v4, M => if (M.1 p0 5) ≤ v4 then (K v3 v4 M) else (xGb (nI 11) (xln (xrf p0 0)) (xGb v4 (xln (xrf (xrf p0 0) (Int32.toNatClampNeg (nI 11)))) (if (((M.1 (xrf (xrf p0 0) (Int32.toNatClampNeg (nI 11))) (Int32.toNatClampNeg v4)) >>> (p1 &&& 31)) &&& (nI 1)) = (nI 1) then (if v3 = 0 then (some (v4, M)) else (xLt (v3 + (-1)) fun x4 => xLt (v4 + nI 1) fun x5 => fX1_allOutRaid_l5 p0 p1 p2 K n x4 x5 M)) else (xLt (v4 + nI 1) fun x3 => fX1_allOutRaid_l5 p0 p1 p2 K n v3 x3 M))))
def fX1_allOutRaid (a0 : Nat) (a1 : Int32) (a2 : Int32) (M : xMem) : Option (Int32 × xMem) :=
  fX1_allOutRaid_l5 a0 a1 a2 (fun (v6 : Int32) (v7 : Int32) (M8 : xMem) => some ((-1), M8)) xFU a2 (nI 0) M
set_option maxRecDepth 100000 in
set_option maxHeartbeats 4000000 in
theorem lX1_allOutRaid_5 {X : xCX} {r : Int32} {M' : xMem} (C : xCk X cX1_allOutRaid RX1 1) (R0 : xRk X (some .int) (some (.int r), M')) (hnL : X.2.2.2.2.2.2.2.2.2.2.2.2.2 = 5) (p0 : Nat) (hp0 : xkd p0 = 1) (p1 : Int32) (p2 : Int32) (K : Int32 → Int32 → xMem → Option (Int32 × xMem)) (hK : ∀ (v3 : Int32) (v4 : Int32) (M : xMem), K v3 v4 M = some (r, M') → WW X 48 [some (vr X.1 p0), some (.int p1), some (.int p2), some (.int v3), some (.int v4)] [] M) : ∀ (n : Nat) (v3 : Int32) (v4 : Int32) (M : xMem), fX1_allOutRaid_l5 p0 p1 p2 K n v3 v4 M = some (r, M') → WW X 5 [some (vr X.1 p0), some (.int p1), some (.int p2), some (.int v3), some (.int v4)] [] M := by
  have hn3 : 3 < X.2.2.2.2.2.2.2.2.2.2.2.2.2 := by rw [hnL]; decide
  have hn4 : 4 < X.2.2.2.2.2.2.2.2.2.2.2.2.2 := by rw [hnL]; decide
  intro n
  induction n with
  | zero =>
    intro v3 v4 M h
    cases (show (none : Option (Int32 × xMem)) = some (r, M') from h)
  | succ n ih =>
    intro v3 v4 M h
    rw [fX1_allOutRaid_l5.eq_2] at h
    refine r_iload (pc := 5) C dX1_allOutRaid_5 rfl ?_
    refine r_aload_n (pc := 7) C dX1_allOutRaid_7 rfl rfl ?_
    refine r_getI (pc := 8) C kX1_30 hp0 dX1_allOutRaid_8 ?_
    refine r_icmp_ge (pc := 11) (tgt := 48) C dX1_allOutRaid_11 (by decide) h (fun _ h => ?_) (fun _ h => ?_)
    · exact hK v3 v4 M h
    · refine r_aload_n (pc := 14) C dX1_allOutRaid_14 rfl rfl ?_
      refine r_getR (pc := 15) C kX1_13 hp0 (by decide) dX1_allOutRaid_15 ?_
      refine r_bipush (pc := 18) (v := (nI 11)) C dX1_allOutRaid_18 (by decide) ?_
      obtain ⟨g1, h⟩ := xGb_of h
      refine r_aaldI (pc := 20) C (xtk hp0 (by decide) rfl rfl) g1 dX1_allOutRaid_20 ?_
      refine r_iload (pc := 21) C dX1_allOutRaid_21 rfl ?_
      obtain ⟨g2, h⟩ := xGb_of h
      refine r_iald (pc := 23) C (xkeI (xtk hp0 (by decide) rfl rfl) (xin_lt g1)) g2 dX1_allOutRaid_23 ?_
      refine r_iload_n (pc := 24) C dX1_allOutRaid_24 rfl rfl ?_
      refine r_ishr (pc := 25) C dX1_allOutRaid_25 ?_
      refine r_iconst (pc := 26) (v := (nI 1)) C dX1_allOutRaid_26 (by decide) ?_
      refine r_iand (pc := 27) C dX1_allOutRaid_27 ?_
      refine r_iconst (pc := 28) (v := (nI 1)) C dX1_allOutRaid_28 (by decide) ?_
      refine r_icmp_ne (pc := 29) (tgt := 42) C dX1_allOutRaid_29 (by decide) h (fun _ h => ?_) (fun _ h => ?_)
      · refine r_iincL (pc := 42) (c := nI 1) C dX1_allOutRaid_42 rfl (by decide) hn4 h (fun x3 h => ?_)
        refine r_lvE (lv' := [_, _, _, _, _]) rfl ?_
        refine r_goto (pc := 45) (tgt := 5) C dX1_allOutRaid_45 (by decide) ?_
        exact ih v3 x3 M h
      · refine r_iload_n (pc := 32) C dX1_allOutRaid_32 rfl rfl ?_
        refine r_if_ne (pc := 33) (tgt := 39) C dX1_allOutRaid_33 (by decide) h (fun _ h => ?_) (fun _ h => ?_)
        · refine r_iincL (pc := 39) (c := (-1)) C dX1_allOutRaid_39 rfl (by decide) hn3 h (fun x4 h => ?_)
          refine r_lvE (lv' := [_, _, _, _, _]) rfl ?_
          refine r_iincL (pc := 42) (c := nI 1) C dX1_allOutRaid_42 rfl (by decide) hn4 h (fun x5 h => ?_)
          refine r_lvE (lv' := [_, _, _, _, _]) rfl ?_
          refine r_goto (pc := 45) (tgt := 5) C dX1_allOutRaid_45 (by decide) ?_
          exact ih x4 x5 M h
        · refine r_iload (pc := 36) C dX1_allOutRaid_36 rfl ?_
          exact r_iret (pc := 38) C R0 h dX1_allOutRaid_38
set_option maxRecDepth 100000 in
set_option maxHeartbeats 4000000 in
theorem zX1_allOutRaid (G : xGX) (a0 : Nat) (h0 : xkd a0 = 1) (a1 : Int32) (a2 : Int32) (M : xMem) (r : Int32) (M' : xMem) (h : fX1_allOutRaid a0 a1 a2 M = some (r, M')) : xCt G yX1_allOutRaid cX1_allOutRaid 5 (some .int) 1 [vr G a0, .int a1, .int a2] M (some (.int r), M') := by
  refine xMet (lv := [some (vr G a0), some (.int a1), some (.int a2), none, none]) (by decide) (Nat.le_of_ble_eq_true rfl) rfl ?_
  intro X hG hnL C R0
  subst hG
  have C : xCk X cX1_allOutRaid RX1 1 := C
  have hn3 : 3 < X.2.2.2.2.2.2.2.2.2.2.2.2.2 := by rw [hnL]; decide
  have hn4 : 4 < X.2.2.2.2.2.2.2.2.2.2.2.2.2 := by rw [hnL]; decide
  unfold fX1_allOutRaid at h
  refine r_iload_n (pc := 0) C dX1_allOutRaid_0 rfl rfl ?_
  refine r_istore_n (pc := 1) (lv' := [_, _, _, _, _]) C dX1_allOutRaid_1 rfl hn3 rfl ?_
  refine r_iconst (pc := 2) (v := (nI 0)) C dX1_allOutRaid_2 (by decide) ?_
  refine r_istore (pc := 3) (lv' := [_, _, _, _, _]) C dX1_allOutRaid_3 hn4 rfl ?_
  refine lX1_allOutRaid_5 C R0 hnL a0 h0 a1 a2 _ (fun v6 v7 M8 h => ?_) _ _ _ _ h
  refine r_iconst (pc := 48) (v := (-1)) C dX1_allOutRaid_48 (by decide) ?_
  exact r_iret (pc := 49) C R0 h dX1_allOutRaid_49
