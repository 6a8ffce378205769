theorem dX11_canCard_0 : decode cX11_canCard 0 = .ok (.aload_n 0, 1) := by decide +kernel
theorem dX11_canCard_1 : decode cX11_canCard 1 = .ok (.iload_n 1, 1) := by decide +kernel
theorem dX11_canCard_2 : decode cX11_canCard 2 = .ok (.iload_n 2, 1) := by decide +kernel
theorem dX11_canCard_3 : decode cX11_canCard 3 = .ok (.invokevirtual 62, 3) := by decide +kernel
theorem dX11_canCard_6 : decode cX11_canCard 6 = .ok (.istore 4, 2) := by decide +kernel
theorem dX11_canCard_8 : decode cX11_canCard 8 = .ok (.iload 4, 2) := by decide +kernel
theorem dX11_canCard_10 : decode cX11_canCard 10 = .ok (.ifCond .eq 20, 3) := by decide +kernel
theorem dX11_canCard_13 : decode cX11_canCard 13 = .ok (.iload 4, 2) := by decide +kernel
theorem dX11_canCard_15 : decode cX11_canCard 15 = .ok (.iconst 1, 1) := by decide +kernel
theorem dX11_canCard_16 : decode cX11_canCard 16 = .ok (.if_icmp .eq 14, 3) := by decide +kernel
theorem dX11_canCard_19 : decode cX11_canCard 19 = .ok (.iload 4, 2) := by decide +kernel
theorem dX11_canCard_21 : decode cX11_canCard 21 = .ok (.iconst 3, 1) := by decide +kernel
theorem dX11_canCard_22 : decode cX11_canCard 22 = .ok (.if_icmp .ne 12, 3) := by decide +kernel
theorem dX11_canCard_25 : decode cX11_canCard 25 = .ok (.iload_n 3, 1) := by decide +kernel
theorem dX11_canCard_26 : decode cX11_canCard 26 = .ok (.iconst 2, 1) := by decide +kernel
theorem dX11_canCard_27 : decode cX11_canCard 27 = .ok (.if_icmp .ne 7, 3) := by decide +kernel
theorem dX11_canCard_30 : decode cX11_canCard 30 = .ok (.iconst 1, 1) := by decide +kernel
theorem dX11_canCard_31 : decode cX11_canCard 31 = .ok (.goto 4, 3) := by decide +kernel
theorem dX11_canCard_34 : decode cX11_canCard 34 = .ok (.iconst 0, 1) := by decide +kernel
theorem dX11_canCard_35 : decode cX11_canCard 35 = .ok (.ireturn, 1) := by decide +kernel
def fX11_canCard (a0 : Nat) (a1 : Int32) (a2 : Int32) (a3 : Int32) (M : xMem) : Option (Int32 × xMem) :=
  xBn (fX11_isOf a0 a1 a2 M) fun r1 M2 => if r1 = 0 then (some ((nI 1), M2)) else (if r1 = (nI 1) then (some ((nI 1), M2)) else (if r1 = (nI 3) then (if a3 = (nI 2) then (some ((nI 1), M2)) else (some ((nI 0), M2))) else (some ((nI 0), M2))))
set_option maxRecDepth 100000 in
set_option maxHeartbeats 4000000 in
theorem zX11_canCard (G : xGX) (a0 : Nat) (h0 : xkd a0 = 11) (a1 : Int32) (a2 : Int32) (a3 : Int32) (M : xMem) (r : Int32) (M' : xMem) (h : fX11_canCard a0 a1 a2 a3 M = some (r, M')) : xCt G yX11_canCard cX11_canCard 5 (some .boolean) 3 [vr G a0, .int a1, .int a2, .int a3] M (some (.int r), M') := by
  refine xMet (lv := [some (vr G a0), some (.int a1), some (.int a2), some (.int a3), none]) (by decide) (Nat.le_of_ble_eq_true rfl) rfl ?_
  intro X hG hnL C R0
  subst hG
  have C : xCk X cX11_canCard RX11 3 := C
  have hn4 : 4 < X.2.2.2.2.2.2.2.2.2.2.2.2.2 := by rw [hnL]; decide
  unfold fX11_canCard at h
  refine r_aload_n (pc := 0) C dX11_canCard_0 rfl rfl ?_
  refine r_iload_n (pc := 1) C dX11_canCard_1 rfl rfl ?_
  refine r_iload_n (pc := 2) C dX11_canCard_2 rfl rfl ?_
  refine r_vI2 (pc := 3) C (fun r M' e => zX11_isOf X.1 a0 h0 a1 a2 M r M' e) h0 (by decide) rfl mX11_isOf lX11_62 (by decide) (Nat.le_of_ble_eq_true rfl) dX11_canCard_3 h (fun r1 M2 h => ?_)
  refine r_istore (pc := 6) (lv' := [_, _, _, _, _]) C dX11_canCard_6 hn4 rfl ?_
  refine r_iload (pc := 8) C dX11_canCard_8 rfl ?_
  refine r_if_eq (pc := 10) (tgt := 30) C dX11_canCard_10 (by decide) h (fun _ h => ?_) (fun _ h => ?_)
  · refine r_iconst (pc := 30) (v := (nI 1)) C dX11_canCard_30 (by decide) ?_
    refine r_goto (pc := 31) (tgt := 35) C dX11_canCard_31 (by decide) ?_
    exact r_zret (pc := 35) (Or.inr (by decide)) C R0 h dX11_canCard_35
  · refine r_iload (pc := 13) C dX11_canCard_13 rfl ?_
    refine r_iconst (pc := 15) (v := (nI 1)) C dX11_canCard_15 (by decide) ?_
    refine r_icmp_eq (pc := 16) (tgt := 30) C dX11_canCard_16 (by decide) h (fun _ h => ?_) (fun _ h => ?_)
    · refine r_iconst (pc := 30) (v := (nI 1)) C dX11_canCard_30 (by decide) ?_
      refine r_goto (pc := 31) (tgt := 35) C dX11_canCard_31 (by decide) ?_
      exact r_zret (pc := 35) (Or.inr (by decide)) C R0 h dX11_canCard_35
    · refine r_iload (pc := 19) C dX11_canCard_19 rfl ?_
      refine r_iconst (pc := 21) (v := (nI 3)) C dX11_canCard_21 (by decide) ?_
      refine r_icmp_ne (pc := 22) (tgt := 34) C dX11_canCard_22 (by decide) h (fun _ h => ?_) (fun _ h => ?_)
      · refine r_iconst (pc := 34) (v := (nI 0)) C dX11_canCard_34 (by decide) ?_
        exact r_zret (pc := 35) (Or.inl (by decide)) C R0 h dX11_canCard_35
      · refine r_iload_n (pc := 25) C dX11_canCard_25 rfl rfl ?_
        refine r_iconst (pc := 26) (v := (nI 2)) C dX11_canCard_26 (by decide) ?_
        refine r_icmp_ne (pc := 27) (tgt := 34) C dX11_canCard_27 (by decide) h (fun _ h => ?_) (fun _ h => ?_)
        · refine r_iconst (pc := 34) (v := (nI 0)) C dX11_canCard_34 (by decide) ?_
          exact r_zret (pc := 35) (Or.inl (by decide)) C R0 h dX11_canCard_35
        · refine r_iconst (pc := 30) (v := (nI 1)) C dX11_canCard_30 (by decide) ?_
          refine r_goto (pc := 31) (tgt := 35) C dX11_canCard_31 (by decide) ?_
          exact r_zret (pc := 35) (Or.inr (by decide)) C R0 h dX11_canCard_35
theorem dX11_cards_0 : decode cX11_cards 0 = .ok (.bipush 10, 2) := by decide +kernel
theorem dX11_cards_2 : decode cX11_cards 2 = .ok (.iload_n 1, 1) := by decide +kernel
theorem dX11_cards_3 : decode cX11_cards 3 = .ok (.imul, 1) := by decide +kernel
theorem dX11_cards_4 : decode cX11_cards 4 = .ok (.iload_n 2, 1) := by decide +kernel
theorem dX11_cards_5 : decode cX11_cards 5 = .ok (.iadd, 1) := by decide +kernel
theorem dX11_cards_6 : decode cX11_cards 6 = .ok (.istore 4, 2) := by decide +kernel
theorem dX11_cards_8 : decode cX11_cards 8 = .ok (.iload_n 3, 1) := by decide +kernel
theorem dX11_cards_9 : decode cX11_cards 9 = .ok (.ifCond .ne 17, 3) := by decide +kernel
theorem dX11_cards_12 : decode cX11_cards 12 = .ok (.aload_n 0, 1) := by decide +kernel
theorem dX11_cards_13 : decode cX11_cards 13 = .ok (.getfield 16, 3) := by decide +kernel
theorem dX11_cards_16 : decode cX11_cards 16 = .ok (.bipush 88, 2) := by decide +kernel
theorem dX11_cards_18 : decode cX11_cards 18 = .ok (.iload 4, 2) := by decide +kernel
theorem dX11_cards_20 : decode cX11_cards 20 = .ok (.iadd, 1) := by decide +kernel
theorem dX11_cards_21 : decode cX11_cards 21 = .ok (.dup2, 1) := by decide +kernel
theorem dX11_cards_22 : decode cX11_cards 22 = .ok (.laload, 1) := by decide +kernel
theorem dX11_cards_23 : decode cX11_cards 23 = .ok (.lconst 1, 1) := by decide +kernel
theorem dX11_cards_24 : decode cX11_cards 24 = .ok (.ladd, 1) := by decide +kernel
theorem dX11_cards_25 : decode cX11_cards 25 = .ok (.lastore, 1) := by decide +kernel
theorem dX11_cards_26 : decode cX11_cards 26 = .ok (.iload_n 3, 1) := by decide +kernel
theorem dX11_cards_27 : decode cX11_cards 27 = .ok (.iconst 1, 1) := by decide +kernel
theorem dX11_cards_28 : decode cX11_cards 28 = .ok (.if_icmp .eq 26, 3) := by decide +kernel
theorem dX11_cards_31 : decode cX11_cards 31 = .ok (.iload_n 3, 1) := by decide +kernel
theorem dX11_cards_32 : decode cX11_cards 32 = .ok (.ifCond .ne 26, 3) := by decide +kernel
theorem dX11_cards_35 : decode cX11_cards 35 = .ok (.aload_n 0, 1) := by decide +kernel
theorem dX11_cards_36 : decode cX11_cards 36 = .ok (.getfield 16, 3) := by decide +kernel
theorem dX11_cards_39 : decode cX11_cards 39 = .ok (.bipush 88, 2) := by decide +kernel
theorem dX11_cards_41 : decode cX11_cards 41 = .ok (.iload 4, 2) := by decide +kernel
theorem dX11_cards_43 : decode cX11_cards 43 = .ok (.iadd, 1) := by decide +kernel
theorem dX11_cards_44 : decode cX11_cards 44 = .ok (.laload, 1) := by decide +kernel
theorem dX11_cards_45 : decode cX11_cards 45 = .ok (.ldc2_w 66, 3) := by decide +kernel
theorem dX11_cards_48 : decode cX11_cards 48 = .ok (.lrem, 1) := by decide +kernel
theorem dX11_cards_49 : decode cX11_cards 49 = .ok (.lconst 0, 1) := by decide +kernel
theorem dX11_cards_50 : decode cX11_cards 50 = .ok (.lcmp, 1) := by decide +kernel
theorem dX11_cards_51 : decode cX11_cards 51 = .ok (.ifCond .ne 7, 3) := by decide +kernel
theorem dX11_cards_54 : decode cX11_cards 54 = .ok (.iconst 1, 1) := by decide +kernel
theorem dX11_cards_55 : decode cX11_cards 55 = .ok (.goto 4, 3) := by decide +kernel
theorem dX11_cards_58 : decode cX11_cards 58 = .ok (.iconst 0, 1) := by decide +kernel
theorem dX11_cards_59 : decode cX11_cards 59 = .ok (.istore 5, 2) := by decide +kernel
theorem dX11_cards_61 : decode cX11_cards 61 = .ok (.iload 5, 2) := by decide +kernel
theorem dX11_cards_63 : decode cX11_cards 63 = .ok (.ifCond .ne 8, 3) := by decide +kernel
theorem dX11_cards_66 : decode cX11_cards 66 = .ok (.iload_n 3, 1) := by decide +kernel
theorem dX11_cards_67 : decode cX11_cards 67 = .ok (.iconst 2, 1) := by decide +kernel
theorem dX11_cards_68 : decode cX11_cards 68 = .ok (.if_icmp .ne 55, 3) := by decide +kernel
theorem dX11_cards_71 : decode cX11_cards 71 = .ok (.aload_n 0, 1) := by decide +kernel
theorem dX11_cards_72 : decode cX11_cards 72 = .ok (.iload_n 1, 1) := by decide +kernel
theorem dX11_cards_73 : decode cX11_cards 73 = .ok (.iload_n 2, 1) := by decide +kernel
theorem dX11_cards_74 : decode cX11_cards 74 = .ok (.invokevirtual 68, 3) := by decide +kernel
theorem dX11_cards_77 : decode cX11_cards 77 = .ok (.aload_n 0, 1) := by decide +kernel
theorem dX11_cards_78 : decode cX11_cards 78 = .ok (.getfield 16, 3) := by decide +kernel
theorem dX11_cards_81 : decode cX11_cards 81 = .ok (.bipush 48, 2) := by decide +kernel
theorem dX11_cards_83 : decode cX11_cards 83 = .ok (.iload 4, 2) := by decide +kernel
theorem dX11_cards_85 : decode cX11_cards 85 = .ok (.iadd, 1) := by decide +kernel
theorem dX11_cards_86 : decode cX11_cards 86 = .ok (.iload 5, 2) := by decide +kernel
theorem dX11_cards_88 : decode cX11_cards 88 = .ok (.ifCond .eq 9, 3) := by decide +kernel
theorem dX11_cards_91 : decode cX11_cards 91 = .ok (.ldc2_w 125, 3) := by decide +kernel
theorem dX11_cards_94 : decode cX11_cards 94 = .ok (.goto 6, 3) := by decide +kernel
theorem dX11_cards_97 : decode cX11_cards 97 = .ok (.ldc2_w 127, 3) := by decide +kernel
theorem dX11_cards_100 : decode cX11_cards 100 = .ok (.lastore, 1) := by decide +kernel
theorem dX11_cards_101 : decode cX11_cards 101 = .ok (.aload_n 0, 1) := by decide +kernel
theorem dX11_cards_102 : decode cX11_cards 102 = .ok (.getfield 16, 3) := by decide +kernel
theorem dX11_cards_105 : decode cX11_cards 105 = .ok (.bipush 68, 2) := by decide +kernel
theorem dX11_cards_107 : decode cX11_cards 107 = .ok (.iload 4, 2) := by decide +kernel
theorem dX11_cards_109 : decode cX11_cards 109 = .ok (.iadd, 1) := by decide +kernel
theorem dX11_cards_110 : decode cX11_cards 110 = .ok (.iload 5, 2) := by decide +kernel
theorem dX11_cards_112 : decode cX11_cards 112 = .ok (.ifCond .eq 9, 3) := by decide +kernel
theorem dX11_cards_115 : decode cX11_cards 115 = .ok (.ldc2_w 129, 3) := by decide +kernel
theorem dX11_cards_118 : decode cX11_cards 118 = .ok (.goto 4, 3) := by decide +kernel
theorem dX11_cards_121 : decode cX11_cards 121 = .ok (.lconst 0, 1) := by decide +kernel
theorem dX11_cards_122 : decode cX11_cards 122 = .ok (.lastore, 1) := by decide +kernel
theorem dX11_cards_123 : decode cX11_cards 123 = .ok (.aload_n 0, 1) := by decide +kernel
theorem dX11_cards_124 : decode cX11_cards 124 = .ok (.iload_n 1, 1) := by decide +kernel
theorem dX11_cards_125 : decode cX11_cards 125 = .ok (.invokevirtual 122, 3) := by decide +kernel
theorem dX11_cards_128 : decode cX11_cards 128 = .ok (.ifCond .eq 48, 3) := by decide +kernel
theorem dX11_cards_131 : decode cX11_cards 131 = .ok (.aload_n 0, 1) := by decide +kernel
theorem dX11_cards_132 : decode cX11_cards 132 = .ok (.getfield 16, 3) := by decide +kernel
theorem dX11_cards_135 : decode cX11_cards 135 = .ok (.bipush 25, 2) := by decide +kernel
theorem dX11_cards_137 : decode cX11_cards 137 = .ok (.laload, 1) := by decide +kernel
theorem dX11_cards_138 : decode cX11_cards 138 = .ok (.lconst 0, 1) := by decide +kernel
theorem dX11_cards_139 : decode cX11_cards 139 = .ok (.lcmp, 1) := by decide +kernel
theorem dX11_cards_140 : decode cX11_cards 140 = .ok (.ifCond .le 36, 3) := by decide +kernel
theorem dX11_cards_143 : decode cX11_cards 143 = .ok (.aload_n 0, 1) := by decide +kernel
theorem dX11_cards_144 : decode cX11_cards 144 = .ok (.getfield 16, 3) := by decide +kernel
theorem dX11_cards_147 : decode cX11_cards 147 = .ok (.sipush 235, 3) := by decide +kernel
theorem dX11_cards_150 : decode cX11_cards 150 = .ok (.bipush 15, 2) := by decide +kernel
theorem dX11_cards_152 : decode cX11_cards 152 = .ok (.aload_n 0, 1) := by decide +kernel
theorem dX11_cards_153 : decode cX11_cards 153 = .ok (.bipush 25, 2) := by decide +kernel
theorem dX11_cards_155 : decode cX11_cards 155 = .ok (.invokevirtual 43, 3) := by decide +kernel
theorem dX11_cards_158 : decode cX11_cards 158 = .ok (.iconst 1, 1) := by decide +kernel
theorem dX11_cards_159 : decode cX11_cards 159 = .ok (.isub, 1) := by decide +kernel
theorem dX11_cards_160 : decode cX11_cards 160 = .ok (.imul, 1) := by decide +kernel
theorem dX11_cards_161 : decode cX11_cards 161 = .ok (.iadd, 1) := by decide +kernel
theorem dX11_cards_162 : decode cX11_cards 162 = .ok (.bipush 13, 2) := by decide +kernel
theorem dX11_cards_164 : decode cX11_cards 164 = .ok (.iadd, 1) := by decide +kernel
theorem dX11_cards_165 : decode cX11_cards 165 = .ok (.iconst 1, 1) := by decide +kernel
theorem dX11_cards_166 : decode cX11_cards 166 = .ok (.iadd, 1) := by decide +kernel
theorem dX11_cards_167 : decode cX11_cards 167 = .ok (.iload_n 1, 1) := by decide +kernel
theorem dX11_cards_168 : decode cX11_cards 168 = .ok (.isub, 1) := by decide +kernel
theorem dX11_cards_169 : decode cX11_cards 169 = .ok (.dup2, 1) := by decide +kernel
theorem dX11_cards_170 : decode cX11_cards 170 = .ok (.laload, 1) := by decide +kernel
theorem dX11_cards_171 : decode cX11_cards 171 = .ok (.ldc2_w 66, 3) := by decide +kernel
theorem dX11_cards_174 : decode cX11_cards 174 = .ok (.ladd, 1) := by decide +kernel
theorem dX11_cards_175 : decode cX11_cards 175 = .ok (.lastore, 1) := by decide +kernel
theorem dX11_cards_176 : decode cX11_cards 176 = .ok (.aload_n 0, 1) := by decide +kernel
theorem dX11_cards_177 : decode cX11_cards 177 = .ok (.invokevirtual 131, 3) := by decide +kernel
theorem dX11_cards_180 : decode cX11_cards 180 = .ok (.return_, 1) := by decide +kernel
def fX11_cards (a0 : Nat) (a1 : Int32) (a2 : Int32) (a3 : Int32) (M : xMem) : Option (xMem) :=
  xLt (((nI 10) * a1) + a2) fun x1 => xLt (fun  (M2 : xMem) => (xLt (fun (s3 : Int32) (M4 : xMem) => (xLt (fun  (M5 : xMem) => (xBn (fX11_allOutOf a0 a1 M5) fun r6 M7 => xLt (fun  (M8 : xMem) => (xBv (fX11_lineComes a0 M8) fun M9 => some M9 : Option (xMem))) fun J176 => if r6 = 0 then (J176  M7) else (xGb (nI 25) (xln (xnw M7)) (if (lg_cmp (M7.2.1 (xnw M7) (Int32.toNatClampNeg (nI 25))) (lN 0)) ≤ 0 then (J176  M7) else (xBn (fX11_get a0 (nI 25) M7) fun r11 M12 => xGb (((((nI 235) + ((nI 15) * (r11 - (nI 1)))) + (nI 13)) + (nI 1)) - a1) (xln (xnw M7)) (xGb (((((nI 235) + ((nI 15) * (r11 - (nI 1)))) + (nI 13)) + (nI 1)) - a1) (xln (xnw M7)) (xLt (xwL M12 (xnw M7) (Int32.toNatClampNeg (((((nI 235) + ((nI 15) * (r11 - (nI 1)))) + (nI 13)) + (nI 1)) - a1)) ((M12.2.1 (xnw M7) (Int32.toNatClampNeg (((((nI 235) + ((nI 15) * (r11 - (nI 1)))) + (nI 13)) + (nI 1)) - a1))) + (lN 2))) fun M15 => J176  M15))))) : Option (xMem))) fun J123 => xLt (fun  (M16 : xMem) => (xBv (fX11_leavesOuts a0 a1 a2 M16) fun M17 => xLt (fun (s18 : Int64) (M19 : xMem) => (xGb ((nI 48) + x1) (xln (xnw M17)) (xLt (xwL M19 (xnw M17) (Int32.toNatClampNeg ((nI 48) + x1)) s18) fun M21 => xLt (fun (s22 : Int64) (M23 : xMem) => (xGb ((nI 68) + x1) (xln (xnw M21)) (xLt (xwL M23 (xnw M21) (Int32.toNatClampNeg ((nI 68) + x1)) s22) fun M25 => J123  M25) : Option (xMem))) fun J122 => if s3 = 0 then (J122 (lN 0) M21) else (J122 (lN 6) M21)) : Option (xMem))) fun J100 => if s3 = 0 then (J100 (lN 4) M17) else (J100 (lN 3) M17) : Option (xMem))) fun J71 => if s3 = 0 then (if a3 = (nI 2) then (J71  M4) else (J123  M4)) else (J71  M4) : Option (xMem))) fun J59 => if a3 = (nI 1) then (J59 (nI 1) M2) else (if a3 = 0 then (xGb ((nI 88) + x1) (xln (xnw M2)) (if (lg_cmp ((M2.2.1 (xnw M2) (Int32.toNatClampNeg ((nI 88) + x1))) - (M2.2.1 (xnw M2) (Int32.toNatClampNeg ((nI 88) + x1))) / (lN 2) * (lN 2)) (lN 0)) = 0 then (J59 (nI 1) M2) else (J59 (nI 0) M2))) else (J59 (nI 0) M2)) : Option (xMem))) fun J26 => if a3 = 0 then (xGb ((nI 88) + x1) (xln (xnw M)) (xGb ((nI 88) + x1) (xln (xnw M)) (xLt (xwL M (xnw M) (Int32.toNatClampNeg ((nI 88) + x1)) ((M.2.1 (xnw M) (Int32.toNatClampNeg ((nI 88) + x1))) + (lN 1))) fun M29 => J26  M29))) else (J26  M)
set_option maxRecDepth 100000 in
set_option maxHeartbeats 4000000 in
theorem zX11_cards (G : xGX) (a0 : Nat) (h0 : xkd a0 = 11) (a1 : Int32) (a2 : Int32) (a3 : Int32) (M : xMem) (M' : xMem) (h : fX11_cards a0 a1 a2 a3 M = some M') : xCt G yX11_cards cX11_cards 6 none 5 [vr G a0, .int a1, .int a2, .int a3] M (none, M') := by
  refine xMet (lv := [some (vr G a0), some (.int a1), some (.int a2), some (.int a3), none, none]) (by decide) (Nat.le_of_ble_eq_true rfl) rfl ?_
  intro X hG hnL C R0
  subst hG
  have C : xCk X cX11_cards RX11 5 := C
  have hn4 : 4 < X.2.2.2.2.2.2.2.2.2.2.2.2.2 := by rw [hnL]; decide
  have hn5 : 5 < X.2.2.2.2.2.2.2.2.2.2.2.2.2 := by rw [hnL]; decide
  unfold fX11_cards at h
  refine r_bipush (pc := 0) (v := (nI 10)) C dX11_cards_0 (by decide) ?_
  refine r_iload_n (pc := 2) C dX11_cards_2 rfl rfl ?_
  refine r_imul (pc := 3) C dX11_cards_3 ?_
  refine r_iload_n (pc := 4) C dX11_cards_4 rfl rfl ?_
  refine r_iadd (pc := 5) C dX11_cards_5 ?_
  refine r_letI h (fun x1 h => ?_)
  refine r_istore (pc := 6) (lv' := [_, _, _, _, _, _]) C dX11_cards_6 hn4 rfl ?_
  refine r_iload_n (pc := 8) C dX11_cards_8 rfl rfl ?_
  refine r_jn (fun J => ∀  (M2 : xMem) , J  M2 = some M' → WW X 26 [some (vr X.1 a0), some (.int a1), some (.int a2), some (.int a3), some (.int x1), none] [] M2) h (fun  M2  h => ?_) (fun J26 hJ26 h => ?_)
  · refine r_iload_n (pc := 26) C dX11_cards_26 rfl rfl ?_
    refine r_iconst (pc := 27) (v := (nI 1)) C dX11_cards_27 (by decide) ?_
    refine r_jn (fun J => ∀ (s3 : Int32) (M4 : xMem) , J s3 M4 = some M' → WW X 59 [some (vr X.1 a0), some (.int a1), some (.int a2), some (.int a3), some (.int x1), none] [.int s3] M4) h (fun s3 M4  h => ?_) (fun J59 hJ59 h => ?_)
    · refine r_istore (pc := 59) (lv' := [_, _, _, _, _, _]) C dX11_cards_59 hn5 rfl ?_
      refine r_iload (pc := 61) C dX11_cards_61 rfl ?_
      refine r_jn (fun J => ∀  (M5 : xMem) , J  M5 = some M' → WW X 123 [some (vr X.1 a0), some (.int a1), some (.int a2), some (.int a3), some (.int x1), some (.int s3)] [] M5) h (fun  M5  h => ?_) (fun J123 hJ123 h => ?_)
      · refine r_aload_n (pc := 123) C dX11_cards_123 rfl rfl ?_
        refine r_iload_n (pc := 124) C dX11_cards_124 rfl rfl ?_
        refine r_vI1 (pc := 125) C (fun r M' e => zX11_allOutOf X.1 a0 h0 a1 M5 r M' e) h0 (by decide) rfl mX11_allOutOf lX11_122 (by decide) (Nat.le_of_ble_eq_true rfl) dX11_cards_125 h (fun r6 M7 h => ?_)
        refine r_jn (fun J => ∀  (M8 : xMem) , J  M8 = some M' → WW X 176 [some (vr X.1 a0), some (.int a1), some (.int a2), some (.int a3), some (.int x1), some (.int s3)] [] M8) h (fun  M8  h => ?_) (fun J176 hJ176 h => ?_)
        · refine r_aload_n (pc := 176) C dX11_cards_176 rfl rfl ?_
          refine r_vV0 (pc := 177) C (fun M' e => zX11_lineComes X.1 a0 h0 M8 M' e) h0 (by decide) rfl mX11_lineComes lX11_131 (by decide) (Nat.le_of_ble_eq_true rfl) dX11_cards_177 h (fun M9 h => ?_)
          exact r_vret (pc := 180) C R0 h dX11_cards_180
        refine r_if_eq (pc := 128) (tgt := 176) C dX11_cards_128 (by decide) h (fun _ h => ?_) (fun _ h => ?_)
        · exact hJ176  M7  h
        · refine r_aload_n (pc := 131) C dX11_cards_131 rfl rfl ?_
          refine r_getW (pc := 132) C kX11_16 h0 dX11_cards_132 ?_
          refine r_bipush (pc := 135) (v := (nI 25)) C dX11_cards_135 (by decide) ?_
          obtain ⟨g10, h⟩ := xGb_of h
          refine r_lald (pc := 137) C (xknw M7) g10 dX11_cards_137 ?_
          refine r_lconst (pc := 138) (v := lN 0) C dX11_cards_138 rfl ?_
          refine r_lcmp (pc := 139) C dX11_cards_139 ?_
          refine r_if_le (pc := 140) (tgt := 176) C dX11_cards_140 (by decide) h (fun _ h => ?_) (fun _ h => ?_)
          · exact hJ176  M7  h
          · refine r_aload_n (pc := 143) C dX11_cards_143 rfl rfl ?_
            refine r_getW (pc := 144) C kX11_16 h0 dX11_cards_144 ?_
            refine r_sipush (pc := 147) (v := (nI 235)) C dX11_cards_147 (by decide) ?_
            refine r_bipush (pc := 150) (v := (nI 15)) C dX11_cards_150 (by decide) ?_
            refine r_aload_n (pc := 152) C dX11_cards_152 rfl rfl ?_
            refine r_bipush (pc := 153) (v := (nI 25)) C dX11_cards_153 (by decide) ?_
            refine r_vI1 (pc := 155) C (fun r M' e => zX11_get X.1 a0 h0 (nI 25) M7 r M' e) h0 (by decide) rfl mX11_get lX11_43 (by decide) (Nat.le_of_ble_eq_true rfl) dX11_cards_155 h (fun r11 M12 h => ?_)
            refine r_iconst (pc := 158) (v := (nI 1)) C dX11_cards_158 (by decide) ?_
            refine r_isub (pc := 159) C dX11_cards_159 ?_
            refine r_imul (pc := 160) C dX11_cards_160 ?_
            refine r_iadd (pc := 161) C dX11_cards_161 ?_
            refine r_bipush (pc := 162) (v := (nI 13)) C dX11_cards_162 (by decide) ?_
            refine r_iadd (pc := 164) C dX11_cards_164 ?_
            refine r_iconst (pc := 165) (v := (nI 1)) C dX11_cards_165 (by decide) ?_
            refine r_iadd (pc := 166) C dX11_cards_166 ?_
            refine r_iload_n (pc := 167) C dX11_cards_167 rfl rfl ?_
            refine r_isub (pc := 168) C dX11_cards_168 ?_
            refine r_dup2 (pc := 169) C rfl rfl dX11_cards_169 ?_
            obtain ⟨g13, h⟩ := xGb_of h
            refine r_lald (pc := 170) C (xknw M7) g13 dX11_cards_170 ?_
            refine r_ldc2 (pc := 171) C nX11_66 dX11_cards_171 ?_
            refine r_ladd (pc := 174) C dX11_cards_174 ?_
            obtain ⟨g14, h⟩ := xGb_of h
            refine r_last (pc := 175) C (xknw M7) g14 dX11_cards_175 ?_
            refine r_letM h (fun M15 h => ?_)
            exact hJ176  M15  h
      refine r_jn (fun J => ∀  (M16 : xMem) , J  M16 = some M' → WW X 71 [some (vr X.1 a0), some (.int a1), some (.int a2), some (.int a3), some (.int x1), some (.int s3)] [] M16) h (fun  M16  h => ?_) (fun J71 hJ71 h => ?_)
      · refine r_aload_n (pc := 71) C dX11_cards_71 rfl rfl ?_
        refine r_iload_n (pc := 72) C dX11_cards_72 rfl rfl ?_
        refine r_iload_n (pc := 73) C dX11_cards_73 rfl rfl ?_
        refine r_vV2 (pc := 74) C (fun M' e => zX11_leavesOuts X.1 a0 h0 a1 a2 M16 M' e) h0 (by decide) rfl mX11_leavesOuts lX11_68 (by decide) (Nat.le_of_ble_eq_true rfl) dX11_cards_74 h (fun M17 h => ?_)
        refine r_aload_n (pc := 77) C dX11_cards_77 rfl rfl ?_
        refine r_getW (pc := 78) C kX11_16 h0 dX11_cards_78 ?_
        refine r_bipush (pc := 81) (v := (nI 48)) C dX11_cards_81 (by decide) ?_
        refine r_iload (pc := 83) C dX11_cards_83 rfl ?_
        refine r_iadd (pc := 85) C dX11_cards_85 ?_
        refine r_iload (pc := 86) C dX11_cards_86 rfl ?_
        refine r_jn (fun J => ∀ (s18 : Int64) (M19 : xMem) , J s18 M19 = some M' → WW X 100 [some (vr X.1 a0), some (.int a1), some (.int a2), some (.int a3), some (.int x1), some (.int s3)] [.long s18, .int ((nI 48) + x1), vr X.1 (xnw M17)] M19) h (fun s18 M19  h => ?_) (fun J100 hJ100 h => ?_)
        · obtain ⟨g20, h⟩ := xGb_of h
          refine r_last (pc := 100) C (xknw M17) g20 dX11_cards_100 ?_
          refine r_letM h (fun M21 h => ?_)
          refine r_aload_n (pc := 101) C dX11_cards_101 rfl rfl ?_
          refine r_getW (pc := 102) C kX11_16 h0 dX11_cards_102 ?_
          refine r_bipush (pc := 105) (v := (nI 68)) C dX11_cards_105 (by decide) ?_
          refine r_iload (pc := 107) C dX11_cards_107 rfl ?_
          refine r_iadd (pc := 109) C dX11_cards_109 ?_
          refine r_iload (pc := 110) C dX11_cards_110 rfl ?_
          refine r_jn (fun J => ∀ (s22 : Int64) (M23 : xMem) , J s22 M23 = some M' → WW X 122 [some (vr X.1 a0), some (.int a1), some (.int a2), some (.int a3), some (.int x1), some (.int s3)] [.long s22, .int ((nI 68) + x1), vr X.1 (xnw M21)] M23) h (fun s22 M23  h => ?_) (fun J122 hJ122 h => ?_)
          · obtain ⟨g24, h⟩ := xGb_of h
            refine r_last (pc := 122) C (xknw M21) g24 dX11_cards_122 ?_
            refine r_letM h (fun M25 h => ?_)
            exact hJ123  M25  h
          refine r_if_eq (pc := 112) (tgt := 121) C dX11_cards_112 (by decide) h (fun _ h => ?_) (fun _ h => ?_)
          · refine r_lconst (pc := 121) (v := lN 0) C dX11_cards_121 rfl ?_
            exact hJ122 (lN 0) M21  h
          · refine r_ldc2 (pc := 115) C nX11_129 dX11_cards_115 ?_
            refine r_goto (pc := 118) (tgt := 122) C dX11_cards_118 (by decide) ?_
            exact hJ122 (lN 6) M21  h
        refine r_if_eq (pc := 88) (tgt := 97) C dX11_cards_88 (by decide) h (fun _ h => ?_) (fun _ h => ?_)
        · refine r_ldc2 (pc := 97) C nX11_127 dX11_cards_97 ?_
          exact hJ100 (lN 4) M17  h
        · refine r_ldc2 (pc := 91) C nX11_125 dX11_cards_91 ?_
          refine r_goto (pc := 94) (tgt := 100) C dX11_cards_94 (by decide) ?_
          exact hJ100 (lN 3) M17  h
      refine r_if_ne (pc := 63) (tgt := 71) C dX11_cards_63 (by decide) h (fun _ h => ?_) (fun _ h => ?_)
      · exact hJ71  M4  h
      · refine r_iload_n (pc := 66) C dX11_cards_66 rfl rfl ?_
        refine r_iconst (pc := 67) (v := (nI 2)) C dX11_cards_67 (by decide) ?_
        refine r_icmp_ne (pc := 68) (tgt := 123) C dX11_cards_68 (by decide) h (fun _ h => ?_) (fun _ h => ?_)
        · exact hJ123  M4  h
        · exact hJ71  M4  h
    refine r_icmp_eq (pc := 28) (tgt := 54) C dX11_cards_28 (by decide) h (fun _ h => ?_) (fun _ h => ?_)
    · refine r_iconst (pc := 54) (v := (nI 1)) C dX11_cards_54 (by decide) ?_
      refine r_goto (pc := 55) (tgt := 59) C dX11_cards_55 (by decide) ?_
      exact hJ59 (nI 1) M2  h
    · refine r_iload_n (pc := 31) C dX11_cards_31 rfl rfl ?_
      refine r_if_ne (pc := 32) (tgt := 58) C dX11_cards_32 (by decide) h (fun _ h => ?_) (fun _ h => ?_)
      · refine r_iconst (pc := 58) (v := (nI 0)) C dX11_cards_58 (by decide) ?_
        exact hJ59 (nI 0) M2  h
      · refine r_aload_n (pc := 35) C dX11_cards_35 rfl rfl ?_
        refine r_getW (pc := 36) C kX11_16 h0 dX11_cards_36 ?_
        refine r_bipush (pc := 39) (v := (nI 88)) C dX11_cards_39 (by decide) ?_
        refine r_iload (pc := 41) C dX11_cards_41 rfl ?_
        refine r_iadd (pc := 43) C dX11_cards_43 ?_
        obtain ⟨g26, h⟩ := xGb_of h
        refine r_lald (pc := 44) C (xknw M2) g26 dX11_cards_44 ?_
        refine r_ldc2 (pc := 45) C nX11_66 dX11_cards_45 ?_
        refine r_lrem (pc := 48) C (by decide) dX11_cards_48 ?_
        refine r_lconst (pc := 49) (v := lN 0) C dX11_cards_49 rfl ?_
        refine r_lcmp (pc := 50) C dX11_cards_50 ?_
        refine r_if_ne (pc := 51) (tgt := 58) C dX11_cards_51 (by decide) h (fun _ h => ?_) (fun _ h => ?_)
        · refine r_iconst (pc := 58) (v := (nI 0)) C dX11_cards_58 (by decide) ?_
          exact hJ59 (nI 0) M2  h
        · refine r_iconst (pc := 54) (v := (nI 1)) C dX11_cards_54 (by decide) ?_
          refine r_goto (pc := 55) (tgt := 59) C dX11_cards_55 (by decide) ?_
          exact hJ59 (nI 1) M2  h
  refine r_if_ne (pc := 9) (tgt := 26) C dX11_cards_9 (by decide) h (fun _ h => ?_) (fun _ h => ?_)
  · exact hJ26  M  h
  · refine r_aload_n (pc := 12) C dX11_cards_12 rfl rfl ?_
    refine r_getW (pc := 13) C kX11_16 h0 dX11_cards_13 ?_
    refine r_bipush (pc := 16) (v := (nI 88)) C dX11_cards_16 (by decide) ?_
    refine r_iload (pc := 18) C dX11_cards_18 rfl ?_
    refine r_iadd (pc := 20) C dX11_cards_20 ?_
    refine r_dup2 (pc := 21) C rfl rfl dX11_cards_21 ?_
    obtain ⟨g27, h⟩ := xGb_of h
    refine r_lald (pc := 22) C (xknw M) g27 dX11_cards_22 ?_
    refine r_lconst (pc := 23) (v := lN 1) C dX11_cards_23 rfl ?_
    refine r_ladd (pc := 24) C dX11_cards_24 ?_
    obtain ⟨g28, h⟩ := xGb_of h
    refine r_last (pc := 25) C (xknw M) g28 dX11_cards_25 ?_
    refine r_letM h (fun M29 h => ?_)
    exact hJ26  M29  h
theorem dX11_changesOver_0 : decode cX11_changesOver 0 = .ok (.aload_n 0, 1) := by decide +kernel
theorem dX11_changesOver_1 : decode cX11_changesOver 1 = .ok (.getfield 16, 3) := by decide +kernel
theorem dX11_changesOver_4 : decode cX11_changesOver 4 = .ok (.bipush 48, 2) := by decide +kernel
theorem dX11_changesOver_6 : decode cX11_changesOver 6 = .ok (.bipush 10, 2) := by decide +kernel
theorem dX11_changesOver_8 : decode cX11_changesOver 8 = .ok (.iload_n 1, 1) := by decide +kernel
theorem dX11_changesOver_9 : decode cX11_changesOver 9 = .ok (.imul, 1) := by decide +kernel
theorem dX11_changesOver_10 : decode cX11_changesOver 10 = .ok (.iadd, 1) := by decide +kernel
theorem dX11_changesOver_11 : decode cX11_changesOver 11 = .ok (.iload_n 2, 1) := by decide +kernel
theorem dX11_changesOver_12 : decode cX11_changesOver 12 = .ok (.iadd, 1) := by decide +kernel
theorem dX11_changesOver_13 : decode cX11_changesOver 13 = .ok (.ldc2_w 66, 3) := by decide +kernel
theorem dX11_changesOver_16 : decode cX11_changesOver 16 = .ok (.lastore, 1) := by decide +kernel
theorem dX11_changesOver_17 : decode cX11_changesOver 17 = .ok (.aload_n 0, 1) := by decide +kernel
theorem dX11_changesOver_18 : decode cX11_changesOver 18 = .ok (.getfield 16, 3) := by decide +kernel
theorem dX11_changesOver_21 : decode cX11_changesOver 21 = .ok (.bipush 48, 2) := by decide +kernel
theorem dX11_changesOver_23 : decode cX11_changesOver 23 = .ok (.bipush 10, 2) := by decide +kernel
theorem dX11_changesOver_25 : decode cX11_changesOver 25 = .ok (.iload_n 1, 1) := by decide +kernel
theorem dX11_changesOver_26 : decode cX11_changesOver 26 = .ok (.imul, 1) := by decide +kernel
theorem dX11_changesOver_27 : decode cX11_changesOver 27 = .ok (.iadd, 1) := by decide +kernel
theorem dX11_changesOver_28 : decode cX11_changesOver 28 = .ok (.iload_n 3, 1) := by decide +kernel
theorem dX11_changesOver_29 : decode cX11_changesOver 29 = .ok (.iadd, 1) := by decide +kernel
theorem dX11_changesOver_30 : decode cX11_changesOver 30 = .ok (.lconst 0, 1) := by decide +kernel
theorem dX11_changesOver_31 : decode cX11_changesOver 31 = .ok (.lastore, 1) := by decide +kernel
theorem dX11_changesOver_32 : decode cX11_changesOver 32 = .ok (.aload_n 0, 1) := by decide +kernel
theorem dX11_changesOver_33 : decode cX11_changesOver 33 = .ok (.getfield 16, 3) := by decide +kernel
theorem dX11_changesOver_36 : decode cX11_changesOver 36 = .ok (.bipush 32, 2) := by decide +kernel
theorem dX11_changesOver_38 : decode cX11_changesOver 38 = .ok (.iload_n 1, 1) := by decide +kernel
theorem dX11_changesOver_39 : decode cX11_changesOver 39 = .ok (.iadd, 1) := by decide +kernel
theorem dX11_changesOver_40 : decode cX11_changesOver 40 = .ok (.dup2, 1) := by decide +kernel
theorem dX11_changesOver_41 : decode cX11_changesOver 41 = .ok (.laload, 1) := by decide +kernel
theorem dX11_changesOver_42 : decode cX11_changesOver 42 = .ok (.lconst 1, 1) := by decide +kernel
theorem dX11_changesOver_43 : decode cX11_changesOver 43 = .ok (.ladd, 1) := by decide +kernel
theorem dX11_changesOver_44 : decode cX11_changesOver 44 = .ok (.lastore, 1) := by decide +kernel
theorem dX11_changesOver_45 : decode cX11_changesOver 45 = .ok (.aload_n 0, 1) := by decide +kernel
theorem dX11_changesOver_46 : decode cX11_changesOver 46 = .ok (.invokevirtual 131, 3) := by decide +kernel
theorem dX11_changesOver_49 : decode cX11_changesOver 49 = .ok (.return_, 1) := by decide +kernel
def fX11_changesOver (a0 : Nat) (a1 : Int32) (a2 : Int32) (a3 : Int32) (M : xMem) : Option (xMem) :=
  xGb (((nI 48) + ((nI 10) * a1)) + a2) (xln (xnw M)) (xLt (xwL M (xnw M) (Int32.toNatClampNeg (((nI 48) + ((nI 10) * a1)) + a2)) (lN 2)) fun M2 => xGb (((nI 48) + ((nI 10) * a1)) + a3) (xln (xnw M2)) (xLt (xwL M2 (xnw M2) (Int32.toNatClampNeg (((nI 48) + ((nI 10) * a1)) + a3)) (lN 0)) fun M4 => xGb ((nI 32) + a1) (xln (xnw M4)) (xGb ((nI 32) + a1) (xln (xnw M4)) (xLt (xwL M4 (xnw M4) (Int32.toNatClampNeg ((nI 32) + a1)) ((M4.2.1 (xnw M4) (Int32.toNatClampNeg ((nI 32) + a1))) + (lN 1))) fun M7 => xBv (fX11_lineComes a0 M7) fun M8 => some M8))))
set_option maxRecDepth 100000 in
set_option maxHeartbeats 4000000 in
theorem zX11_changesOver (G : xGX) (a0 : Nat) (h0 : xkd a0 = 11) (a1 : Int32) (a2 : Int32) (a3 : Int32) (M : xMem) (M' : xMem) (h : fX11_changesOver a0 a1 a2 a3 M = some M') : xCt G yX11_changesOver cX11_changesOver 4 none 2 [vr G a0, .int a1, .int a2, .int a3] M (none, M') := by
  refine xMet (lv := [some (vr G a0), some (.int a1), some (.int a2), some (.int a3)]) (by decide) (Nat.le_of_ble_eq_true rfl) rfl ?_
  intro X hG hnL C R0
  subst hG
  have C : xCk X cX11_changesOver RX11 2 := C
  unfold fX11_changesOver at h
  refine r_aload_n (pc := 0) C dX11_changesOver_0 rfl rfl ?_
  refine r_getW (pc := 1) C kX11_16 h0 dX11_changesOver_1 ?_
  refine r_bipush (pc := 4) (v := (nI 48)) C dX11_changesOver_4 (by decide) ?_
  refine r_bipush (pc := 6) (v := (nI 10)) C dX11_changesOver_6 (by decide) ?_
  refine r_iload_n (pc := 8) C dX11_changesOver_8 rfl rfl ?_
  refine r_imul (pc := 9) C dX11_changesOver_9 ?_
  refine r_iadd (pc := 10) C dX11_changesOver_10 ?_
  refine r_iload_n (pc := 11) C dX11_changesOver_11 rfl rfl ?_
  refine r_iadd (pc := 12) C dX11_changesOver_12 ?_
  refine r_ldc2 (pc := 13) C nX11_66 dX11_changesOver_13 ?_
  obtain ⟨g1, h⟩ := xGb_of h
  refine r_last (pc := 16) C (xknw M) g1 dX11_changesOver_16 ?_
  refine r_letM h (fun M2 h => ?_)
  refine r_aload_n (pc := 17) C dX11_changesOver_17 rfl rfl ?_
  refine r_getW (pc := 18) C kX11_16 h0 dX11_changesOver_18 ?_
  refine r_bipush (pc := 21) (v := (nI 48)) C dX11_changesOver_21 (by decide) ?_
  refine r_bipush (pc := 23) (v := (nI 10)) C dX11_changesOver_23 (by decide) ?_
  refine r_iload_n (pc := 25) C dX11_changesOver_25 rfl rfl ?_
  refine r_imul (pc := 26) C dX11_changesOver_26 ?_
  refine r_iadd (pc := 27) C dX11_changesOver_27 ?_
  refine r_iload_n (pc := 28) C dX11_changesOver_28 rfl rfl ?_
  refine r_iadd (pc := 29) C dX11_changesOver_29 ?_
  refine r_lconst (pc := 30) (v := lN 0) C dX11_changesOver_30 rfl ?_
  obtain ⟨g3, h⟩ := xGb_of h
  refine r_last (pc := 31) C (xknw M2) g3 dX11_changesOver_31 ?_
  refine r_letM h (fun M4 h => ?_)
  refine r_aload_n (pc := 32) C dX11_changesOver_32 rfl rfl ?_
  refine r_getW (pc := 33) C kX11_16 h0 dX11_changesOver_33 ?_
  refine r_bipush (pc := 36) (v := (nI 32)) C dX11_changesOver_36 (by decide) ?_
  refine r_iload_n (pc := 38) C dX11_changesOver_38 rfl rfl ?_
  refine r_iadd (pc := 39) C dX11_changesOver_39 ?_
  refine r_dup2 (pc := 40) C rfl rfl dX11_changesOver_40 ?_
  obtain ⟨g5, h⟩ := xGb_of h
  refine r_lald (pc := 41) C (xknw M4) g5 dX11_changesOver_41 ?_
  refine r_lconst (pc := 42) (v := lN 1) C dX11_changesOver_42 rfl ?_
  refine r_ladd (pc := 43) C dX11_changesOver_43 ?_
  obtain ⟨g6, h⟩ := xGb_of h
  refine r_last (pc := 44) C (xknw M4) g6 dX11_changesOver_44 ?_
  refine r_letM h (fun M7 h => ?_)
  refine r_aload_n (pc := 45) C dX11_changesOver_45 rfl rfl ?_
  refine r_vV0 (pc := 46) C (fun M' e => zX11_lineComes X.1 a0 h0 M7 M' e) h0 (by decide) rfl mX11_lineComes lX11_131 (by decide) (Nat.le_of_ble_eq_true rfl) dX11_changesOver_46 h (fun M8 h => ?_)
  exact r_vret (pc := 49) C R0 h dX11_changesOver_49
theorem dX11_halves_0 : decode cX11_halves 0 = .ok (.aload_n 0, 1) := by decide +kernel
theorem dX11_halves_1 : decode cX11_halves 1 = .ok (.getfield 16, 3) := by decide +kernel
theorem dX11_halves_4 : decode cX11_halves 4 = .ok (.bipush 27, 2) := by decide +kernel
theorem dX11_halves_6 : decode cX11_halves 6 = .ok (.dup2, 1) := by decide +kernel
theorem dX11_halves_7 : decode cX11_halves 7 = .ok (.laload, 1) := by decide +kernel
theorem dX11_halves_8 : decode cX11_halves 8 = .ok (.lconst 1, 1) := by decide +kernel
theorem dX11_halves_9 : decode cX11_halves 9 = .ok (.ladd, 1) := by decide +kernel
theorem dX11_halves_10 : decode cX11_halves 10 = .ok (.lastore, 1) := by decide +kernel
theorem dX11_halves_11 : decode cX11_halves 11 = .ok (.aload_n 0, 1) := by decide +kernel
theorem dX11_halves_12 : decode cX11_halves 12 = .ok (.getfield 16, 3) := by decide +kernel
theorem dX11_halves_15 : decode cX11_halves 15 = .ok (.bipush 28, 2) := by decide +kernel
theorem dX11_halves_17 : decode cX11_halves 17 = .ok (.lconst 1, 1) := by decide +kernel
theorem dX11_halves_18 : decode cX11_halves 18 = .ok (.lastore, 1) := by decide +kernel
theorem dX11_halves_19 : decode cX11_halves 19 = .ok (.iconst 0, 1) := by decide +kernel
theorem dX11_halves_20 : decode cX11_halves 20 = .ok (.istore_n 1, 1) := by decide +kernel
theorem dX11_halves_21 : decode cX11_halves 21 = .ok (.iload_n 1, 1) := by decide +kernel
theorem dX11_halves_22 : decode cX11_halves 22 = .ok (.iconst 2, 1) := by decide +kernel
theorem dX11_halves_23 : decode cX11_halves 23 = .ok (.if_icmp .ge 29, 3) := by decide +kernel
theorem dX11_halves_26 : decode cX11_halves 26 = .ok (.aload_n 0, 1) := by decide +kernel
theorem dX11_halves_27 : decode cX11_halves 27 = .ok (.getfield 16, 3) := by decide +kernel
theorem dX11_halves_30 : decode cX11_halves 30 = .ok (.bipush 30, 2) := by decide +kernel
theorem dX11_halves_32 : decode cX11_halves 32 = .ok (.iload_n 1, 1) := by decide +kernel
theorem dX11_halves_33 : decode cX11_halves 33 = .ok (.iadd, 1) := by decide +kernel
theorem dX11_halves_34 : decode cX11_halves 34 = .ok (.lconst 0, 1) := by decide +kernel
theorem dX11_halves_35 : decode cX11_halves 35 = .ok (.lastore, 1) := by decide +kernel
theorem dX11_halves_36 : decode cX11_halves 36 = .ok (.aload_n 0, 1) := by decide +kernel
theorem dX11_halves_37 : decode cX11_halves 37 = .ok (.getfield 16, 3) := by decide +kernel
theorem dX11_halves_40 : decode cX11_halves 40 = .ok (.bipush 34, 2) := by decide +kernel
theorem dX11_halves_42 : decode cX11_halves 42 = .ok (.iload_n 1, 1) := by decide +kernel
theorem dX11_halves_43 : decode cX11_halves 43 = .ok (.iadd, 1) := by decide +kernel
theorem dX11_halves_44 : decode cX11_halves 44 = .ok (.lconst 0, 1) := by decide +kernel
theorem dX11_halves_45 : decode cX11_halves 45 = .ok (.lastore, 1) := by decide +kernel
theorem dX11_halves_46 : decode cX11_halves 46 = .ok (.iinc 1 1, 3) := by decide +kernel
theorem dX11_halves_49 : decode cX11_halves 49 = .ok (.goto (-28), 3) := by decide +kernel
theorem dX11_halves_52 : decode cX11_halves 52 = .ok (.aload_n 0, 1) := by decide +kernel
theorem dX11_halves_53 : decode cX11_halves 53 = .ok (.invokevirtual 131, 3) := by decide +kernel
theorem dX11_halves_56 : decode cX11_halves 56 = .ok (.return_, 1) := by decide +kernel
def fX11_halves_l21 (p0 : Nat) (K : Int32 → xMem → Option (xMem)) : Nat → Int32 → xMem → Option (xMem)
  | 0, _, _ => none
  | n + 1, v1, M => if (nI 2) ≤ v1 then (K v1 M) else (xGb ((nI 30) + v1) (xln (xnw M)) (xLt (xwL M (xnw M) (Int32.toNatClampNeg ((nI 30) + v1)) (lN 0)) fun M7 => xGb ((nI 34) + v1) (xln (xnw M7)) (xLt (xwL M7 (xnw M7) (Int32.toNatClampNeg ((nI 34) + v1)) (lN 0)) fun M9 => xLt (v1 + nI 1) fun x10 => fX11_halves_l21 p0 K n x10 M9)))
def fX11_halves (a0 : Nat) (M : xMem) : Option (xMem) :=
  xGb (nI 27) (xln (xnw M)) (xGb (nI 27) (xln (xnw M)) (xLt (xwL M (xnw M) (Int32.toNatClampNeg (nI 27)) ((M.2.1 (xnw M) (Int32.toNatClampNeg (nI 27))) + (lN 1))) fun M3 => xGb (nI 28) (xln (xnw M3)) (xLt (xwL M3 (xnw M3) (Int32.toNatClampNeg (nI 28)) (lN 1)) fun M5 => fX11_halves_l21 a0 (fun (v11 : Int32) (M12 : xMem) => xBv (fX11_lineComes a0 M12) fun M13 => some M13) xFU (nI 0) M5)))
set_option maxRecDepth 100000 in
set_option maxHeartbeats 4000000 in
theorem lX11_halves_21 {X : xCX} {M' : xMem} (C : xCk X cX11_halves RX11 2) (R0 : xRk X none (none, M')) (hnL : X.2.2.2.2.2.2.2.2.2.2.2.2.2 = 2) (p0 : Nat) (hp0 : xkd p0 = 11) (K : Int32 → xMem → Option (xMem)) (hK : ∀ (v1 : Int32) (M : xMem), K v1 M = some M' → WW X 52 [some (vr X.1 p0), some (.int v1)] [] M) : ∀ (n : Nat) (v1 : Int32) (M : xMem), fX11_halves_l21 p0 K n v1 M = some M' → WW X 21 [some (vr X.1 p0), some (.int v1)] [] M := by
  have hn1 : 1 < X.2.2.2.2.2.2.2.2.2.2.2.2.2 := by rw [hnL]; decide
  intro n
  induction n with
  | zero =>
    intro v1 M h
    cases (show (none : Option (xMem)) = some M' from h)
  | succ n ih =>
    intro v1 M h
    rw [fX11_halves_l21.eq_2] at h
    refine r_iload_n (pc := 21) C dX11_halves_21 rfl rfl ?_
    refine r_iconst (pc := 22) (v := (nI 2)) C dX11_halves_22 (by decide) ?_
    refine r_icmp_ge (pc := 23) (tgt := 52) C dX11_halves_23 (by decide) h (fun _ h => ?_) (fun _ h => ?_)
    · exact hK v1 M h
    · refine r_aload_n (pc := 26) C dX11_halves_26 rfl rfl ?_
      refine r_getW (pc := 27) C kX11_16 hp0 dX11_halves_27 ?_
      refine r_bipush (pc := 30) (v := (nI 30)) C dX11_halves_30 (by decide) ?_
      refine r_iload_n (pc := 32) C dX11_halves_32 rfl rfl ?_
      refine r_iadd (pc := 33) C dX11_halves_33 ?_
      refine r_lconst (pc := 34) (v := lN 0) C dX11_halves_34 rfl ?_
      obtain ⟨g6, h⟩ := xGb_of h
      refine r_last (pc := 35) C (xknw M) g6 dX11_halves_35 ?_
      refine r_letM h (fun M7 h => ?_)
      refine r_aload_n (pc := 36) C dX11_halves_36 rfl rfl ?_
      refine r_getW (pc := 37) C kX11_16 hp0 dX11_halves_37 ?_
      refine r_bipush (pc := 40) (v := (nI 34)) C dX11_halves_40 (by decide) ?_
      refine r_iload_n (pc := 42) C dX11_halves_42 rfl rfl ?_
      refine r_iadd (pc := 43) C dX11_halves_43 ?_
      refine r_lconst (pc := 44) (v := lN 0) C dX11_halves_44 rfl ?_
      obtain ⟨g8, h⟩ := xGb_of h
      refine r_last (pc := 45) C (xknw M7) g8 dX11_halves_45 ?_
      refine r_letM h (fun M9 h => ?_)
      refine r_iincL (pc := 46) (c := nI 1) C dX11_halves_46 rfl (by decide) hn1 h (fun x10 h => ?_)
      refine r_lvE (lv' := [_, _]) rfl ?_
      refine r_goto (pc := 49) (tgt := 21) C dX11_halves_49 (by decide) ?_
      exact ih x10 M9 h
set_option maxRecDepth 100000 in
set_option maxHeartbeats 4000000 in
theorem zX11_halves (G : xGX) (a0 : Nat) (h0 : xkd a0 = 11) (M : xMem) (M' : xMem) (h : fX11_halves a0 M = some M') : xCt G yX11_halves cX11_halves 2 none 2 [vr G a0] M (none, M') := by
  refine xMet (lv := [some (vr G a0), none]) (by decide) (Nat.le_of_ble_eq_true rfl) rfl ?_
  intro X hG hnL C R0
  subst hG
  have C : xCk X cX11_halves RX11 2 := C
  have hn1 : 1 < X.2.2.2.2.2.2.2.2.2.2.2.2.2 := by rw [hnL]; decide
  unfold fX11_halves at h
  refine r_aload_n (pc := 0) C dX11_halves_0 rfl rfl ?_
  refine r_getW (pc := 1) C kX11_16 h0 dX11_halves_1 ?_
  refine r_bipush (pc := 4) (v := (nI 27)) C dX11_halves_4 (by decide) ?_
  refine r_dup2 (pc := 6) C rfl rfl dX11_halves_6 ?_
  obtain ⟨g1, h⟩ := xGb_of h
  refine r_lald (pc := 7) C (xknw M) g1 dX11_halves_7 ?_
  refine r_lconst (pc := 8) (v := lN 1) C dX11_halves_8 rfl ?_
  refine r_ladd (pc := 9) C dX11_halves_9 ?_
  obtain ⟨g2, h⟩ := xGb_of h
  refine r_last (pc := 10) C (xknw M) g2 dX11_halves_10 ?_
  refine r_letM h (fun M3 h => ?_)
  refine r_aload_n (pc := 11) C dX11_halves_11 rfl rfl ?_
  refine r_getW (pc := 12) C kX11_16 h0 dX11_halves_12 ?_
  refine r_bipush (pc := 15) (v := (nI 28)) C dX11_halves_15 (by decide) ?_
  refine r_lconst (pc := 17) (v := lN 1) C dX11_halves_17 rfl ?_
  obtain ⟨g4, h⟩ := xGb_of h
  refine r_last (pc := 18) C (xknw M3) g4 dX11_halves_18 ?_
  refine r_letM h (fun M5 h => ?_)
  refine r_iconst (pc := 19) (v := (nI 0)) C dX11_halves_19 (by decide) ?_
  refine r_istore_n (pc := 20) (lv' := [_, _]) C dX11_halves_20 rfl hn1 rfl ?_
  refine lX11_halves_21 C R0 hnL a0 h0 _ (fun v11 M12 h => ?_) _ _ _ h
  refine r_aload_n (pc := 52) C dX11_halves_52 rfl rfl ?_
  refine r_vV0 (pc := 53) C (fun M' e => zX11_lineComes X.1 a0 h0 M12 M' e) h0 (by decide) rfl mX11_lineComes lX11_131 (by decide) (Nat.le_of_ble_eq_true rfl) dX11_halves_53 h (fun M13 h => ?_)
  exact r_vret (pc := 56) C R0 h dX11_halves_56
theorem dX11_canReview_0 : decode cX11_canReview 0 = .ok (.aload_n 0, 1) := by decide +kernel
theorem dX11_canReview_1 : decode cX11_canReview 1 = .ok (.invokevirtual 134, 3) := by decide +kernel
theorem dX11_canReview_4 : decode cX11_canReview 4 = .ok (.ifCond .ne 47, 3) := by decide +kernel
theorem dX11_canReview_7 : decode cX11_canReview 7 = .ok (.aload_n 0, 1) := by decide +kernel
theorem dX11_canReview_8 : decode cX11_canReview 8 = .ok (.getfield 16, 3) := by decide +kernel
theorem dX11_canReview_11 : decode cX11_canReview 11 = .ok (.bipush 29, 2) := by decide +kernel
theorem dX11_canReview_13 : decode cX11_canReview 13 = .ok (.laload, 1) := by decide +kernel
theorem dX11_canReview_14 : decode cX11_canReview 14 = .ok (.lconst 1, 1) := by decide +kernel
theorem dX11_canReview_15 : decode cX11_canReview 15 = .ok (.lcmp, 1) := by decide +kernel
theorem dX11_canReview_16 : decode cX11_canReview 16 = .ok (.ifCond .ne 35, 3) := by decide +kernel
theorem dX11_canReview_19 : decode cX11_canReview 19 = .ok (.aload_n 0, 1) := by decide +kernel
theorem dX11_canReview_20 : decode cX11_canReview 20 = .ok (.getfield 16, 3) := by decide +kernel
theorem dX11_canReview_23 : decode cX11_canReview 23 = .ok (.bipush 34, 2) := by decide +kernel
theorem dX11_canReview_25 : decode cX11_canReview 25 = .ok (.iload_n 1, 1) := by decide +kernel
theorem dX11_canReview_26 : decode cX11_canReview 26 = .ok (.iadd, 1) := by decide +kernel
theorem dX11_canReview_27 : decode cX11_canReview 27 = .ok (.laload, 1) := by decide +kernel
theorem dX11_canReview_28 : decode cX11_canReview 28 = .ok (.lconst 0, 1) := by decide +kernel
theorem dX11_canReview_29 : decode cX11_canReview 29 = .ok (.lcmp, 1) := by decide +kernel
theorem dX11_canReview_30 : decode cX11_canReview 30 = .ok (.ifCond .ne 21, 3) := by decide +kernel
theorem dX11_canReview_33 : decode cX11_canReview 33 = .ok (.aload_n 0, 1) := by decide +kernel
theorem dX11_canReview_34 : decode cX11_canReview 34 = .ok (.getfield 16, 3) := by decide +kernel
theorem dX11_canReview_37 : decode cX11_canReview 37 = .ok (.bipush 26, 2) := by decide +kernel
theorem dX11_canReview_39 : decode cX11_canReview 39 = .ok (.laload, 1) := by decide +kernel
theorem dX11_canReview_40 : decode cX11_canReview 40 = .ok (.ldc2_w 137, 3) := by decide +kernel
theorem dX11_canReview_43 : decode cX11_canReview 43 = .ok (.lcmp, 1) := by decide +kernel
theorem dX11_canReview_44 : decode cX11_canReview 44 = .ok (.ifCond .ge 7, 3) := by decide +kernel
theorem dX11_canReview_47 : decode cX11_canReview 47 = .ok (.iconst 1, 1) := by decide +kernel
theorem dX11_canReview_48 : decode cX11_canReview 48 = .ok (.goto 4, 3) := by decide +kernel
theorem dX11_canReview_51 : decode cX11_canReview 51 = .ok (.iconst 0, 1) := by decide +kernel
theorem dX11_canReview_52 : decode cX11_canReview 52 = .ok (.ireturn, 1) := by decide +kernel
def fX11_canReview (a0 : Nat) (a1 : Int32) (M : xMem) : Option (Int32 × xMem) :=
  xBn (fX11_isOver a0 M) fun r1 M2 => if r1 = 0 then (xGb (nI 29) (xln (xnw M2)) (if (lg_cmp (M2.2.1 (xnw M2) (Int32.toNatClampNeg (nI 29))) (lN 1)) = 0 then (xGb ((nI 34) + a1) (xln (xnw M2)) (if (lg_cmp (M2.2.1 (xnw M2) (Int32.toNatClampNeg ((nI 34) + a1))) (lN 0)) = 0 then (xGb (nI 26) (xln (xnw M2)) (if 0 ≤ (lg_cmp (M2.2.1 (xnw M2) (Int32.toNatClampNeg (nI 26))) (lN 40)) then (some ((nI 0), M2)) else (some ((nI 1), M2)))) else (some ((nI 0), M2)))) else (some ((nI 0), M2)))) else (some ((nI 0), M2))
set_option maxRecDepth 100000 in
set_option maxHeartbeats 4000000 in
theorem zX11_canReview (G : xGX) (a0 : Nat) (h0 : xkd a0 = 11) (a1 : Int32) (M : xMem) (r : Int32) (M' : xMem) (h : fX11_canReview a0 a1 M = some (r, M')) : xCt G yX11_canReview cX11_canReview 2 (some .boolean) 2 [vr G a0, .int a1] M (some (.int r), M') := by
  refine xMet (lv := [some (vr G a0), some (.int a1)]) (by decide) (Nat.le_of_ble_eq_true rfl) rfl ?_
  intro X hG hnL C R0
  subst hG
  have C : xCk X cX11_canReview RX11 2 := C
  unfold fX11_canReview at h
  refine r_aload_n (pc := 0) C dX11_canReview_0 rfl rfl ?_
  refine r_vI0 (pc := 1) C (fun r M' e => zX11_isOver X.1 a0 h0 M r M' e) h0 (by decide) rfl mX11_isOver lX11_134 (by decide) (Nat.le_of_ble_eq_true rfl) dX11_canReview_1 h (fun r1 M2 h => ?_)
  refine r_if_ne (pc := 4) (tgt := 51) C dX11_canReview_4 (by decide) h (fun _ h => ?_) (fun _ h => ?_)
  · refine r_iconst (pc := 51) (v := (nI 0)) C dX11_canReview_51 (by decide) ?_
    exact r_zret (pc := 52) (Or.inl (by decide)) C R0 h dX11_canReview_52
  · refine r_aload_n (pc := 7) C dX11_canReview_7 rfl rfl ?_
    refine r_getW (pc := 8) C kX11_16 h0 dX11_canReview_8 ?_
    refine r_bipush (pc := 11) (v := (nI 29)) C dX11_canReview_11 (by decide) ?_
    obtain ⟨g3, h⟩ := xGb_of h
    refine r_lald (pc := 13) C (xknw M2) g3 dX11_canReview_13 ?_
    refine r_lconst (pc := 14) (v := lN 1) C dX11_canReview_14 rfl ?_
    refine r_lcmp (pc := 15) C dX11_canReview_15 ?_
    refine r_if_ne (pc := 16) (tgt := 51) C dX11_canReview_16 (by decide) h (fun _ h => ?_) (fun _ h => ?_)
    · refine r_iconst (pc := 51) (v := (nI 0)) C dX11_canReview_51 (by decide) ?_
      exact r_zret (pc := 52) (Or.inl (by decide)) C R0 h dX11_canReview_52
    · refine r_aload_n (pc := 19) C dX11_canReview_19 rfl rfl ?_
      refine r_getW (pc := 20) C kX11_16 h0 dX11_canReview_20 ?_
      refine r_bipush (pc := 23) (v := (nI 34)) C dX11_canReview_23 (by decide) ?_
      refine r_iload_n (pc := 25) C dX11_canReview_25 rfl rfl ?_
      refine r_iadd (pc := 26) C dX11_canReview_26 ?_
      obtain ⟨g4, h⟩ := xGb_of h
      refine r_lald (pc := 27) C (xknw M2) g4 dX11_canReview_27 ?_
      refine r_lconst (pc := 28) (v := lN 0) C dX11_canReview_28 rfl ?_
      refine r_lcmp (pc := 29) C dX11_canReview_29 ?_
      refine r_if_ne (pc := 30) (tgt := 51) C dX11_canReview_30 (by decide) h (fun _ h => ?_) (fun _ h => ?_)
      · refine r_iconst (pc := 51) (v := (nI 0)) C dX11_canReview_51 (by decide) ?_
        exact r_zret (pc := 52) (Or.inl (by decide)) C R0 h dX11_canReview_52
      · refine r_aload_n (pc := 33) C dX11_canReview_33 rfl rfl ?_
        refine r_getW (pc := 34) C kX11_16 h0 dX11_canReview_34 ?_
        refine r_bipush (pc := 37) (v := (nI 26)) C dX11_canReview_37 (by decide) ?_
        obtain ⟨g5, h⟩ := xGb_of h
        refine r_lald (pc := 39) C (xknw M2) g5 dX11_canReview_39 ?_
        refine r_ldc2 (pc := 40) C nX11_137 dX11_canReview_40 ?_
        refine r_lcmp (pc := 43) C dX11_canReview_43 ?_
        refine r_if_ge (pc := 44) (tgt := 51) C dX11_canReview_44 (by decide) h (fun _ h => ?_) (fun _ h => ?_)
        · refine r_iconst (pc := 51) (v := (nI 0)) C dX11_canReview_51 (by decide) ?_
          exact r_zret (pc := 52) (Or.inl (by decide)) C R0 h dX11_canReview_52
        · refine r_iconst (pc := 47) (v := (nI 1)) C dX11_canReview_47 (by decide) ?_
          refine r_goto (pc := 48) (tgt := 52) C dX11_canReview_48 (by decide) ?_
          exact r_zret (pc := 52) (Or.inr (by decide)) C R0 h dX11_canReview_52
theorem dX11_reviews_0 : decode cX11_reviews 0 = .ok (.iconst 0, 1) := by decide +kernel
theorem dX11_reviews_1 : decode cX11_reviews 1 = .ok (.istore_n 3, 1) := by decide +kernel
theorem dX11_reviews_2 : decode cX11_reviews 2 = .ok (.iload_n 3, 1) := by decide +kernel
theorem dX11_reviews_3 : decode cX11_reviews 3 = .ok (.bipush 105, 2) := by decide +kernel
theorem dX11_reviews_5 : decode cX11_reviews 5 = .ok (.if_icmp .ge 32, 3) := by decide +kernel
theorem dX11_reviews_8 : decode cX11_reviews 8 = .ok (.iload_n 2, 1) := by decide +kernel
theorem dX11_reviews_9 : decode cX11_reviews 9 = .ok (.ifCond .eq 28, 3) := by decide +kernel
theorem dX11_reviews_12 : decode cX11_reviews 12 = .ok (.aload_n 0, 1) := by decide +kernel
theorem dX11_reviews_13 : decode cX11_reviews 13 = .ok (.getfield 16, 3) := by decide +kernel
theorem dX11_reviews_16 : decode cX11_reviews 16 = .ok (.bipush 25, 2) := by decide +kernel
theorem dX11_reviews_18 : decode cX11_reviews 18 = .ok (.iload_n 3, 1) := by decide +kernel
theorem dX11_reviews_19 : decode cX11_reviews 19 = .ok (.iadd, 1) := by decide +kernel
theorem dX11_reviews_20 : decode cX11_reviews 20 = .ok (.aload_n 0, 1) := by decide +kernel
theorem dX11_reviews_21 : decode cX11_reviews 21 = .ok (.getfield 16, 3) := by decide +kernel
theorem dX11_reviews_24 : decode cX11_reviews 24 = .ok (.sipush 130, 3) := by decide +kernel
theorem dX11_reviews_27 : decode cX11_reviews 27 = .ok (.iload_n 3, 1) := by decide +kernel
theorem dX11_reviews_28 : decode cX11_reviews 28 = .ok (.iadd, 1) := by decide +kernel
theorem dX11_reviews_29 : decode cX11_reviews 29 = .ok (.laload, 1) := by decide +kernel
theorem dX11_reviews_30 : decode cX11_reviews 30 = .ok (.lastore, 1) := by decide +kernel
theorem dX11_reviews_31 : decode cX11_reviews 31 = .ok (.iinc 3 1, 3) := by decide +kernel
theorem dX11_reviews_34 : decode cX11_reviews 34 = .ok (.goto (-32), 3) := by decide +kernel
theorem dX11_reviews_37 : decode cX11_reviews 37 = .ok (.iload_n 2, 1) := by decide +kernel
theorem dX11_reviews_38 : decode cX11_reviews 38 = .ok (.ifCond .ne 13, 3) := by decide +kernel
theorem dX11_reviews_41 : decode cX11_reviews 41 = .ok (.aload_n 0, 1) := by decide +kernel
theorem dX11_reviews_42 : decode cX11_reviews 42 = .ok (.getfield 16, 3) := by decide +kernel
theorem dX11_reviews_45 : decode cX11_reviews 45 = .ok (.bipush 34, 2) := by decide +kernel
theorem dX11_reviews_47 : decode cX11_reviews 47 = .ok (.iload_n 1, 1) := by decide +kernel
theorem dX11_reviews_48 : decode cX11_reviews 48 = .ok (.iadd, 1) := by decide +kernel
theorem dX11_reviews_49 : decode cX11_reviews 49 = .ok (.lconst 1, 1) := by decide +kernel
theorem dX11_reviews_50 : decode cX11_reviews 50 = .ok (.lastore, 1) := by decide +kernel
theorem dX11_reviews_51 : decode cX11_reviews 51 = .ok (.aload_n 0, 1) := by decide +kernel
theorem dX11_reviews_52 : decode cX11_reviews 52 = .ok (.invokevirtual 131, 3) := by decide +kernel
theorem dX11_reviews_55 : decode cX11_reviews 55 = .ok (.return_, 1) := by decide +kernel
def fX11_reviews_l2 (p0 : Nat) (p1 : Int32) (p2 : Int32) (K : Int32 → xMem → Option (xMem)) : Nat → Int32 → xMem → Option (xMem)
  | 0, _, _ => none
  | n + 1, v3, M => if (nI 105) ≤ v3 then (K v3 M) else (if p2 = 0 then (K v3 M) else (xGb ((nI 130) + v3) (xln (xnw M)) (xGb ((nI 25) + v3) (xln (xnw M)) (xLt (xwL M (xnw M) (Int32.toNatClampNeg ((nI 25) + v3)) (M.2.1 (xnw M) (Int32.toNatClampNeg ((nI 130) + v3)))) fun M3 => xLt (v3 + nI 1) fun x4 => fX11_reviews_l2 p0 p1 p2 K n x4 M3))))
def fX11_reviews (a0 : Nat) (a1 : Int32) (a2 : Int32) (M : xMem) : Option (xMem) :=
  fX11_reviews_l2 a0 a1 a2 (fun (v5 : Int32) (M6 : xMem) => xLt (fun  (M7 : xMem) => (xBv (fX11_lineComes a0 M7) fun M8 => some M8 : Option (xMem))) fun J51 => if a2 = 0 then (xGb ((nI 34) + a1) (xln (xnw M6)) (xLt (xwL M6 (xnw M6) (Int32.toNatClampNeg ((nI 34) + a1)) (lN 1)) fun M10 => J51  M10)) else (J51  M6)) xFU (nI 0) M
set_option maxRecDepth 100000 in
set_option maxHeartbeats 4000000 in
theorem lX11_reviews_2 {X : xCX} {M' : xMem} (C : xCk X cX11_reviews RX11 2) (R0 : xRk X none (none, M')) (hnL : X.2.2.2.2.2.2.2.2.2.2.2.2.2 = 4) (p0 : Nat) (hp0 : xkd p0 = 11) (p1 : Int32) (p2 : Int32) (K : Int32 → xMem → Option (xMem)) (hK : ∀ (v3 : Int32) (M : xMem), K v3 M = some M' → WW X 37 [some (vr X.1 p0), some (.int p1), some (.int p2), some (.int v3)] [] M) : ∀ (n : Nat) (v3 : Int32) (M : xMem), fX11_reviews_l2 p0 p1 p2 K n v3 M = some M' → WW X 2 [some (vr X.1 p0), some (.int p1), some (.int p2), some (.int v3)] [] M := by
  have hn3 : 3 < X.2.2.2.2.2.2.2.2.2.2.2.2.2 := by rw [hnL]; decide
  intro n
  induction n with
  | zero =>
    intro v3 M h
    cases (show (none : Option (xMem)) = some M' from h)
  | succ n ih =>
    intro v3 M h
    rw [fX11_reviews_l2.eq_2] at h
    refine r_iload_n (pc := 2) C dX11_reviews_2 rfl rfl ?_
    refine r_bipush (pc := 3) (v := (nI 105)) C dX11_reviews_3 (by decide) ?_
    refine r_icmp_ge (pc := 5) (tgt := 37) C dX11_reviews_5 (by decide) h (fun _ h => ?_) (fun _ h => ?_)
    · exact hK v3 M h
    · refine r_iload_n (pc := 8) C dX11_reviews_8 rfl rfl ?_
      refine r_if_eq (pc := 9) (tgt := 37) C dX11_reviews_9 (by decide) h (fun _ h => ?_) (fun _ h => ?_)
      · exact hK v3 M h
      · refine r_aload_n (pc := 12) C dX11_reviews_12 rfl rfl ?_
        refine r_getW (pc := 13) C kX11_16 hp0 dX11_reviews_13 ?_
        refine r_bipush (pc := 16) (v := (nI 25)) C dX11_reviews_16 (by decide) ?_
        refine r_iload_n (pc := 18) C dX11_reviews_18 rfl rfl ?_
        refine r_iadd (pc := 19) C dX11_reviews_19 ?_
        refine r_aload_n (pc := 20) C dX11_reviews_20 rfl rfl ?_
        refine r_getW (pc := 21) C kX11_16 hp0 dX11_reviews_21 ?_
        refine r_sipush (pc := 24) (v := (nI 130)) C dX11_reviews_24 (by decide) ?_
        refine r_iload_n (pc := 27) C dX11_reviews_27 rfl rfl ?_
        refine r_iadd (pc := 28) C dX11_reviews_28 ?_
        obtain ⟨g1, h⟩ := xGb_of h
        refine r_lald (pc := 29) C (xknw M) g1 dX11_reviews_29 ?_
        obtain ⟨g2, h⟩ := xGb_of h
        refine r_last (pc := 30) C (xknw M) g2 dX11_reviews_30 ?_
        refine r_letM h (fun M3 h => ?_)
        refine r_iincL (pc := 31) (c := nI 1) C dX11_reviews_31 rfl (by decide) hn3 h (fun x4 h => ?_)
        refine r_lvE (lv' := [_, _, _, _]) rfl ?_
        refine r_goto (pc := 34) (tgt := 2) C dX11_reviews_34 (by decide) ?_
        exact ih x4 M3 h
set_option maxRecDepth 100000 in
set_option maxHeartbeats 4000000 in
theorem zX11_reviews (G : xGX) (a0 : Nat) (h0 : xkd a0 = 11) (a1 : Int32) (a2 : Int32) (M : xMem) (M' : xMem) (h : fX11_reviews a0 a1 a2 M = some M') : xCt G yX11_reviews cX11_reviews 4 none 2 [vr G a0, .int a1, .int a2] M (none, M') := by
  refine xMet (lv := [some (vr G a0), some (.int a1), some (.int a2), none]) (by decide) (Nat.le_of_ble_eq_true rfl) rfl ?_
  intro X hG hnL C R0
  subst hG
  have C : xCk X cX11_reviews RX11 2 := C
  have hn3 : 3 < X.2.2.2.2.2.2.2.2.2.2.2.2.2 := by rw [hnL]; decide
  unfold fX11_reviews at h
  refine r_iconst (pc := 0) (v := (nI 0)) C dX11_reviews_0 (by decide) ?_
  refine r_istore_n (pc := 1) (lv' := [_, _, _, _]) C dX11_reviews_1 rfl hn3 rfl ?_
  refine lX11_reviews_2 C R0 hnL a0 h0 a1 a2 _ (fun v5 M6 h => ?_) _ _ _ h
  refine r_iload_n (pc := 37) C dX11_reviews_37 rfl rfl ?_
  refine r_jn (fun J => ∀  (M7 : xMem) , J  M7 = some M' → WW X 51 [some (vr X.1 a0), some (.int a1), some (.int a2), some (.int v5)] [] M7) h (fun  M7  h => ?_) (fun J51 hJ51 h => ?_)
  · refine r_aload_n (pc := 51) C dX11_reviews_51 rfl rfl ?_
    refine r_vV0 (pc := 52) C (fun M' e => zX11_lineComes X.1 a0 h0 M7 M' e) h0 (by decide) rfl mX11_lineComes lX11_131 (by decide) (Nat.le_of_ble_eq_true rfl) dX11_reviews_52 h (fun M8 h => ?_)
    exact r_vret (pc := 55) C R0 h dX11_reviews_55
  refine r_if_ne (pc := 38) (tgt := 51) C dX11_reviews_38 (by decide) h (fun _ h => ?_) (fun _ h => ?_)
  · exact hJ51  M6  h
  · refine r_aload_n (pc := 41) C dX11_reviews_41 rfl rfl ?_
    refine r_getW (pc := 42) C kX11_16 h0 dX11_reviews_42 ?_
    refine r_bipush (pc := 45) (v := (nI 34)) C dX11_reviews_45 (by decide) ?_
    refine r_iload_n (pc := 47) C dX11_reviews_47 rfl rfl ?_
    refine r_iadd (pc := 48) C dX11_reviews_48 ?_
    refine r_lconst (pc := 49) (v := lN 1) C dX11_reviews_49 rfl ?_
    obtain ⟨g9, h⟩ := xGb_of h
    refine r_last (pc := 50) C (xknw M6) g9 dX11_reviews_50 ?_
    refine r_letM h (fun M10 h => ?_)
    exact hJ51  M10  h
theorem dX11_puts4_0 : decode cX11_puts4 0 = .ok (.bipush 24, 2) := by decide +kernel
theorem dX11_puts4_2 : decode cX11_puts4 2 = .ok (.istore_n 2, 1) := by decide +kernel
theorem dX11_puts4_3 : decode cX11_puts4 3 = .ok (.iload_n 2, 1) := by decide +kernel
theorem dX11_puts4_4 : decode cX11_puts4 4 = .ok (.ifCond .lt 32, 3) := by decide +kernel
theorem dX11_puts4_7 : decode cX11_puts4 7 = .ok (.aload_n 0, 1) := by decide +kernel
theorem dX11_puts4_8 : decode cX11_puts4 8 = .ok (.getfield 23, 3) := by decide +kernel
theorem dX11_puts4_11 : decode cX11_puts4 11 = .ok (.aload_n 0, 1) := by decide +kernel
theorem dX11_puts4_12 : decode cX11_puts4 12 = .ok (.getfield 139, 3) := by decide +kernel
theorem dX11_puts4_15 : decode cX11_puts4 15 = .ok (.iload_n 1, 1) := by decide +kernel
theorem dX11_puts4_16 : decode cX11_puts4 16 = .ok (.iload_n 2, 1) := by decide +kernel
theorem dX11_puts4_17 : decode cX11_puts4 17 = .ok (.ishr, 1) := by decide +kernel
theorem dX11_puts4_18 : decode cX11_puts4 18 = .ok (.i2b, 1) := by decide +kernel
theorem dX11_puts4_19 : decode cX11_puts4 19 = .ok (.bastore, 1) := by decide +kernel
theorem dX11_puts4_20 : decode cX11_puts4 20 = .ok (.aload_n 0, 1) := by decide +kernel
theorem dX11_puts4_21 : decode cX11_puts4 21 = .ok (.dup, 1) := by decide +kernel
theorem dX11_puts4_22 : decode cX11_puts4 22 = .ok (.getfield 139, 3) := by decide +kernel
theorem dX11_puts4_25 : decode cX11_puts4 25 = .ok (.iconst 1, 1) := by decide +kernel
theorem dX11_puts4_26 : decode cX11_puts4 26 = .ok (.iadd, 1) := by decide +kernel
theorem dX11_puts4_27 : decode cX11_puts4 27 = .ok (.putfield 139, 3) := by decide +kernel
theorem dX11_puts4_30 : decode cX11_puts4 30 = .ok (.iinc 2 (-8), 3) := by decide +kernel
theorem dX11_puts4_33 : decode cX11_puts4 33 = .ok (.goto (-30), 3) := by decide +kernel
theorem dX11_puts4_36 : decode cX11_puts4 36 = .ok (.return_, 1) := by decide +kernel
def fX11_puts4_l3 (p0 : Nat) (p1 : Int32) (K : Int32 → xMem → Option (xMem)) : Nat → Int32 → xMem → Option (xMem)
  | 0, _, _ => none
  | n + 1, v2, M => if v2 < 0 then (K v2 M) else (xGb (M.1 p0 11) (xln (xrf p0 10)) (xLt (xwI M (xrf p0 10) (Int32.toNatClampNeg (M.1 p0 11)) (vp_nar .byte ((Int32.toInt8 (p1 >>> (v2 &&& 31))).toInt32))) fun M2 => xLt (xwI M2 p0 11 ((M2.1 p0 11) + (nI 1))) fun M3 => xLt (v2 + (-8)) fun x4 => fX11_puts4_l3 p0 p1 K n x4 M3))
def fX11_puts4 (a0 : Nat) (a1 : Int32) (M : xMem) : Option (xMem) :=
  fX11_puts4_l3 a0 a1 (fun (v5 : Int32) (M6 : xMem) => some M6) xFU (nI 24) M
set_option maxRecDepth 100000 in
set_option maxHeartbeats 4000000 in
theorem lX11_puts4_3 {X : xCX} {M' : xMem} (C : xCk X cX11_puts4 RX11 1) (R0 : xRk X none (none, M')) (hnL : X.2.2.2.2.2.2.2.2.2.2.2.2.2 = 3) (p0 : Nat) (hp0 : xkd p0 = 11) (p1 : Int32) (K : Int32 → xMem → Option (xMem)) (hK : ∀ (v2 : Int32) (M : xMem), K v2 M = some M' → WW X 36 [some (vr X.1 p0), some (.int p1), some (.int v2)] [] M) : ∀ (n : Nat) (v2 : Int32) (M : xMem), fX11_puts4_l3 p0 p1 K n v2 M = some M' → WW X 3 [some (vr X.1 p0), some (.int p1), some (.int v2)] [] M := by
  have hn2 : 2 < X.2.2.2.2.2.2.2.2.2.2.2.2.2 := by rw [hnL]; decide
  intro n
  induction n with
  | zero =>
    intro v2 M h
    cases (show (none : Option (xMem)) = some M' from h)
  | succ n ih =>
    intro v2 M h
    rw [fX11_puts4_l3.eq_2] at h
    refine r_iload_n (pc := 3) C dX11_puts4_3 rfl rfl ?_
    refine r_if_lt (pc := 4) (tgt := 36) C dX11_puts4_4 (by decide) h (fun _ h => ?_) (fun _ h => ?_)
    · exact hK v2 M h
    · refine r_aload_n (pc := 7) C dX11_puts4_7 rfl rfl ?_
      refine r_getR (pc := 8) C kX11_23 hp0 (by decide) dX11_puts4_8 ?_
      refine r_aload_n (pc := 11) C dX11_puts4_11 rfl rfl ?_
      refine r_getI (pc := 12) C kX11_139 hp0 dX11_puts4_12 ?_
      refine r_iload_n (pc := 15) C dX11_puts4_15 rfl rfl ?_
      refine r_iload_n (pc := 16) C dX11_puts4_16 rfl rfl ?_
      refine r_ishr (pc := 17) C dX11_puts4_17 ?_
      refine r_i2b (pc := 18) C dX11_puts4_18 ?_
      obtain ⟨g1, h⟩ := xGb_of h
      refine r_bast (pc := 19) C (xtk hp0 (by decide) rfl rfl) g1 dX11_puts4_19 ?_
      refine r_letM h (fun M2 h => ?_)
      refine r_aload_n (pc := 20) C dX11_puts4_20 rfl rfl ?_
      refine r_dup (pc := 21) C rfl dX11_puts4_21 ?_
      refine r_getI (pc := 22) C kX11_139 hp0 dX11_puts4_22 ?_
      refine r_iconst (pc := 25) (v := (nI 1)) C dX11_puts4_25 (by decide) ?_
      refine r_iadd (pc := 26) C dX11_puts4_26 ?_
      refine r_putI (pc := 27) C kX11_139 hp0 dX11_puts4_27 ?_
      refine r_letM h (fun M3 h => ?_)
      refine r_iincL (pc := 30) (c := (-8)) C dX11_puts4_30 rfl (by decide) hn2 h (fun x4 h => ?_)
      refine r_lvE (lv' := [_, _, _]) rfl ?_
      refine r_goto (pc := 33) (tgt := 3) C dX11_puts4_33 (by decide) ?_
      exact ih x4 M3 h
set_option maxRecDepth 100000 in
set_option maxHeartbeats 4000000 in
theorem zX11_puts4 (G : xGX) (a0 : Nat) (h0 : xkd a0 = 11) (a1 : Int32) (M : xMem) (M' : xMem) (h : fX11_puts4 a0 a1 M = some M') : xCt G yX11_puts4 cX11_puts4 3 none 1 [vr G a0, .int a1] M (none, M') := by
  refine xMet (lv := [some (vr G a0), some (.int a1), none]) (by decide) (Nat.le_of_ble_eq_true rfl) rfl ?_
  intro X hG hnL C R0
  subst hG
  have C : xCk X cX11_puts4 RX11 1 := C
  have hn2 : 2 < X.2.2.2.2.2.2.2.2.2.2.2.2.2 := by rw [hnL]; decide
  unfold fX11_puts4 at h
  refine r_bipush (pc := 0) (v := (nI 24)) C dX11_puts4_0 (by decide) ?_
  refine r_istore_n (pc := 2) (lv' := [_, _, _]) C dX11_puts4_2 rfl hn2 rfl ?_
  refine lX11_puts4_3 C R0 hnL a0 h0 a1 _ (fun v5 M6 h => ?_) _ _ _ h
  exact r_vret (pc := 36) C R0 h dX11_puts4_36
theorem dX11_feed_0 : decode cX11_feed 0 = .ok (.aload_n 0, 1) := by decide +kernel
theorem dX11_feed_1 : decode cX11_feed 1 = .ok (.getfield 139, 3) := by decide +kernel
theorem dX11_feed_4 : decode cX11_feed 4 = .ok (.bipush 20, 2) := by decide +kernel
theorem dX11_feed_6 : decode cX11_feed 6 = .ok (.iadd, 1) := by decide +kernel
theorem dX11_feed_7 : decode cX11_feed 7 = .ok (.sipush 2000, 3) := by decide +kernel
theorem dX11_feed_10 : decode cX11_feed 10 = .ok (.if_icmp .le 5, 3) := by decide +kernel
theorem dX11_feed_13 : decode cX11_feed 13 = .ok (.iconst (-1), 1) := by decide +kernel
theorem dX11_feed_14 : decode cX11_feed 14 = .ok (.ireturn, 1) := by decide +kernel
theorem dX11_feed_15 : decode cX11_feed 15 = .ok (.aload_n 0, 1) := by decide +kernel
theorem dX11_feed_16 : decode cX11_feed 16 = .ok (.iload_n 1, 1) := by decide +kernel
theorem dX11_feed_17 : decode cX11_feed 17 = .ok (.invokevirtual 142, 3) := by decide +kernel
theorem dX11_feed_20 : decode cX11_feed 20 = .ok (.aload_n 0, 1) := by decide +kernel
theorem dX11_feed_21 : decode cX11_feed 21 = .ok (.iload_n 2, 1) := by decide +kernel
theorem dX11_feed_22 : decode cX11_feed 22 = .ok (.invokevirtual 142, 3) := by decide +kernel
theorem dX11_feed_25 : decode cX11_feed 25 = .ok (.aload_n 0, 1) := by decide +kernel
theorem dX11_feed_26 : decode cX11_feed 26 = .ok (.iload_n 3, 1) := by decide +kernel
theorem dX11_feed_27 : decode cX11_feed 27 = .ok (.invokevirtual 142, 3) := by decide +kernel
theorem dX11_feed_30 : decode cX11_feed 30 = .ok (.aload_n 0, 1) := by decide +kernel
theorem dX11_feed_31 : decode cX11_feed 31 = .ok (.iload 4, 2) := by decide +kernel
theorem dX11_feed_33 : decode cX11_feed 33 = .ok (.invokevirtual 142, 3) := by decide +kernel
theorem dX11_feed_36 : decode cX11_feed 36 = .ok (.aload_n 0, 1) := by decide +kernel
theorem dX11_feed_37 : decode cX11_feed 37 = .ok (.iload 5, 2) := by decide +kernel
theorem dX11_feed_39 : decode cX11_feed 39 = .ok (.invokevirtual 142, 3) := by decide +kernel
theorem dX11_feed_42 : decode cX11_feed 42 = .ok (.aload_n 0, 1) := by decide +kernel
theorem dX11_feed_43 : decode cX11_feed 43 = .ok (.getfield 139, 3) := by decide +kernel
theorem dX11_feed_46 : decode cX11_feed 46 = .ok (.ireturn, 1) := by decide +kernel
def fX11_feed (a0 : Nat) (a1 : Int32) (a2 : Int32) (a3 : Int32) (a4 : Int32) (a5 : Int32) (M : xMem) : Option (Int32 × xMem) :=
  if ((M.1 a0 11) + (nI 20)) ≤ (nI 2000) then (xBv (fX11_puts4 a0 a1 M) fun M1 => xBv (fX11_puts4 a0 a2 M1) fun M2 => xBv (fX11_puts4 a0 a3 M2) fun M3 => xBv (fX11_puts4 a0 a4 M3) fun M4 => xBv (fX11_puts4 a0 a5 M4) fun M5 => some ((M5.1 a0 11), M5)) else (some ((-1), M))
set_option maxRecDepth 100000 in
set_option maxHeartbeats 4000000 in
theorem zX11_feed (G : xGX) (a0 : Nat) (h0 : xkd a0 = 11) (a1 : Int32) (a2 : Int32) (a3 : Int32) (a4 : Int32) (a5 : Int32) (M : xMem) (r : Int32) (M' : xMem) (h : fX11_feed a0 a1 a2 a3 a4 a5 M = some (r, M')) : xCt G yX11_feed cX11_feed 6 (some .int) 2 [vr G a0, .int a1, .int a2, .int a3, .int a4, .int a5] M (some (.int r), M') := by
  refine xMet (lv := [some (vr G a0), some (.int a1), some (.int a2), some (.int a3), some (.int a4), some (.int a5)]) (by decide) (Nat.le_of_ble_eq_true rfl) rfl ?_
  intro X hG hnL C R0
  subst hG
  have C : xCk X cX11_feed RX11 2 := C
  unfold fX11_feed at h
  refine r_aload_n (pc := 0) C dX11_feed_0 rfl rfl ?_
  refine r_getI (pc := 1) C kX11_139 h0 dX11_feed_1 ?_
  refine r_bipush (pc := 4) (v := (nI 20)) C dX11_feed_4 (by decide) ?_
  refine r_iadd (pc := 6) C dX11_feed_6 ?_
  refine r_sipush (pc := 7) (v := (nI 2000)) C dX11_feed_7 (by decide) ?_
  refine r_icmp_le (pc := 10) (tgt := 15) C dX11_feed_10 (by decide) h (fun _ h => ?_) (fun _ h => ?_)
  · refine r_aload_n (pc := 15) C dX11_feed_15 rfl rfl ?_
    refine r_iload_n (pc := 16) C dX11_feed_16 rfl rfl ?_
    refine r_vV1 (pc := 17) C (fun M' e => zX11_puts4 X.1 a0 h0 a1 M M' e) h0 (by decide) rfl mX11_puts4 lX11_142 (by decide) (Nat.le_of_ble_eq_true rfl) dX11_feed_17 h (fun M1 h => ?_)
    refine r_aload_n (pc := 20) C dX11_feed_20 rfl rfl ?_
    refine r_iload_n (pc := 21) C dX11_feed_21 rfl rfl ?_
    refine r_vV1 (pc := 22) C (fun M' e => zX11_puts4 X.1 a0 h0 a2 M1 M' e) h0 (by decide) rfl mX11_puts4 lX11_142 (by decide) (Nat.le_of_ble_eq_true rfl) dX11_feed_22 h (fun M2 h => ?_)
    refine r_aload_n (pc := 25) C dX11_feed_25 rfl rfl ?_
    refine r_iload_n (pc := 26) C dX11_feed_26 rfl rfl ?_
    refine r_vV1 (pc := 27) C (fun M' e => zX11_puts4 X.1 a0 h0 a3 M2 M' e) h0 (by decide) rfl mX11_puts4 lX11_142 (by decide) (Nat.le_of_ble_eq_true rfl) dX11_feed_27 h (fun M3 h => ?_)
    refine r_aload_n (pc := 30) C dX11_feed_30 rfl rfl ?_
    refine r_iload (pc := 31) C dX11_feed_31 rfl ?_
    refine r_vV1 (pc := 33) C (fun M' e => zX11_puts4 X.1 a0 h0 a4 M3 M' e) h0 (by decide) rfl mX11_puts4 lX11_142 (by decide) (Nat.le_of_ble_eq_true rfl) dX11_feed_33 h (fun M4 h => ?_)
    refine r_aload_n (pc := 36) C dX11_feed_36 rfl rfl ?_
    refine r_iload (pc := 37) C dX11_feed_37 rfl ?_
    refine r_vV1 (pc := 39) C (fun M' e => zX11_puts4 X.1 a0 h0 a5 M4 M' e) h0 (by decide) rfl mX11_puts4 lX11_142 (by decide) (Nat.le_of_ble_eq_true rfl) dX11_feed_39 h (fun M5 h => ?_)
    refine r_aload_n (pc := 42) C dX11_feed_42 rfl rfl ?_
    refine r_getI (pc := 43) C kX11_139 h0 dX11_feed_43 ?_
    exact r_iret (pc := 46) C R0 h dX11_feed_46
  · refine r_iconst (pc := 13) (v := (-1)) C dX11_feed_13 (by decide) ?_
    exact r_iret (pc := 14) C R0 h dX11_feed_14
theorem dX11_end_0 : decode cX11_end 0 = .ok (.iload_n 1, 1) := by decide +kernel
theorem dX11_end_1 : decode cX11_end 1 = .ok (.i2l, 1) := by decide +kernel
theorem dX11_end_2 : decode cX11_end 2 = .ok (.lconst 0, 1) := by decide +kernel
theorem dX11_end_3 : decode cX11_end 3 = .ok (.aload_n 0, 1) := by decide +kernel
theorem dX11_end_4 : decode cX11_end 4 = .ok (.getfield 139, 3) := by decide +kernel
theorem dX11_end_7 : decode cX11_end 7 = .ok (.i2l, 1) := by decide +kernel
theorem dX11_end_8 : decode cX11_end 8 = .ok (.invokestatic 51, 3) := by decide +kernel
theorem dX11_end_11 : decode cX11_end 11 = .ok (.ifCond .ne 5, 3) := by decide +kernel
theorem dX11_end_14 : decode cX11_end 14 = .ok (.iconst (-1), 1) := by decide +kernel
theorem dX11_end_15 : decode cX11_end 15 = .ok (.ireturn, 1) := by decide +kernel
theorem dX11_end_16 : decode cX11_end 16 = .ok (.aload_n 0, 1) := by decide +kernel
theorem dX11_end_17 : decode cX11_end 17 = .ok (.iload_n 1, 1) := by decide +kernel
theorem dX11_end_18 : decode cX11_end 18 = .ok (.putfield 139, 3) := by decide +kernel
theorem dX11_end_21 : decode cX11_end 21 = .ok (.iload_n 1, 1) := by decide +kernel
theorem dX11_end_22 : decode cX11_end 22 = .ok (.ireturn, 1) := by decide +kernel
def fX11_end (a0 : Nat) (a1 : Int32) (M : xMem) : Option (Int32 × xMem) :=
  xBn (fX11_in (Int32.toInt64 a1) (lN 0) (Int32.toInt64 (M.1 a0 11)) M) fun r1 M2 => if r1 = 0 then (some ((-1), M2)) else (xLt (xwI M2 a0 11 a1) fun M3 => some (a1, M3))
set_option maxRecDepth 100000 in
set_option maxHeartbeats 4000000 in
theorem zX11_end (G : xGX) (a0 : Nat) (h0 : xkd a0 = 11) (a1 : Int32) (M : xMem) (r : Int32) (M' : xMem) (h : fX11_end a0 a1 M = some (r, M')) : xCt G yX11_end cX11_end 2 (some .int) 2 [vr G a0, .int a1] M (some (.int r), M') := by
  refine xMet (lv := [some (vr G a0), some (.int a1)]) (by decide) (Nat.le_of_ble_eq_true rfl) rfl ?_
  intro X hG hnL C R0
  subst hG
  have C : xCk X cX11_end RX11 2 := C
  unfold fX11_end at h
  refine r_iload_n (pc := 0) C dX11_end_0 rfl rfl ?_
  refine r_i2l (pc := 1) C dX11_end_1 ?_
  refine r_lconst (pc := 2) (v := lN 0) C dX11_end_2 rfl ?_
  refine r_aload_n (pc := 3) C dX11_end_3 rfl rfl ?_
  refine r_getI (pc := 4) C kX11_139 h0 dX11_end_4 ?_
  refine r_i2l (pc := 7) C dX11_end_7 ?_
  refine r_sI3 (pc := 8) C (fun r M' e => zX11_in X.1 (Int32.toInt64 a1) (lN 0) (Int32.toInt64 (M.1 a0 11)) M r M' e) mX11_in lX11_51 (by decide) (Nat.le_of_ble_eq_true rfl) dX11_end_8 h (fun r1 M2 h => ?_)
  refine r_if_ne (pc := 11) (tgt := 16) C dX11_end_11 (by decide) h (fun _ h => ?_) (fun _ h => ?_)
  · refine r_aload_n (pc := 16) C dX11_end_16 rfl rfl ?_
    refine r_iload_n (pc := 17) C dX11_end_17 rfl rfl ?_
    refine r_putI (pc := 18) C kX11_139 h0 dX11_end_18 ?_
    refine r_letM h (fun M3 h => ?_)
    refine r_iload_n (pc := 21) C dX11_end_21 rfl rfl ?_
    exact r_iret (pc := 22) C R0 h dX11_end_22
  · refine r_iconst (pc := 14) (v := (-1)) C dX11_end_14 (by decide) ?_
    exact r_iret (pc := 15) C R0 h dX11_end_15
theorem dX11_good_0 : decode cX11_good 0 = .ok (.aload_n 0, 1) := by decide +kernel
theorem dX11_good_1 : decode cX11_good 1 = .ok (.getfield 146, 3) := by decide +kernel
theorem dX11_good_4 : decode cX11_good 4 = .ok (.ifCond .ne 7, 3) := by decide +kernel
theorem dX11_good_7 : decode cX11_good 7 = .ok (.iconst 1, 1) := by decide +kernel
theorem dX11_good_8 : decode cX11_good 8 = .ok (.goto 4, 3) := by decide +kernel
theorem dX11_good_11 : decode cX11_good 11 = .ok (.iconst 0, 1) := by decide +kernel
theorem dX11_good_12 : decode cX11_good 12 = .ok (.ireturn, 1) := by decide +kernel
def fX11_good (a0 : Nat) (M : xMem) : Option (Int32 × xMem) :=
  if (M.1 a0 17) = 0 then (some ((nI 1), M)) else (some ((nI 0), M))
set_option maxRecDepth 100000 in
set_option maxHeartbeats 4000000 in
theorem zX11_good (G : xGX) (a0 : Nat) (h0 : xkd a0 = 11) (M : xMem) (r : Int32) (M' : xMem) (h : fX11_good a0 M = some (r, M')) : xCt G yX11_good cX11_good 1 (some .boolean) 1 [vr G a0] M (some (.int r), M') := by
  refine xMet (lv := [some (vr G a0)]) (by decide) (Nat.le_of_ble_eq_true rfl) rfl ?_
  intro X hG hnL C R0
  subst hG
  have C : xCk X cX11_good RX11 1 := C
  unfold fX11_good at h
  refine r_aload_n (pc := 0) C dX11_good_0 rfl rfl ?_
  refine r_getI (pc := 1) C kX11_146 h0 dX11_good_1 ?_
  refine r_if_ne (pc := 4) (tgt := 11) C dX11_good_4 (by decide) h (fun _ h => ?_) (fun _ h => ?_)
  · refine r_iconst (pc := 11) (v := (nI 0)) C dX11_good_11 (by decide) ?_
    exact r_zret (pc := 12) (Or.inl (by decide)) C R0 h dX11_good_12
  · refine r_iconst (pc := 7) (v := (nI 1)) C dX11_good_7 (by decide) ?_
    refine r_goto (pc := 8) (tgt := 12) C dX11_good_8 (by decide) ?_
    exact r_zret (pc := 12) (Or.inr (by decide)) C R0 h dX11_good_12
theorem dX11_errs_0 : decode cX11_errs 0 = .ok (.aload_n 0, 1) := by decide +kernel
theorem dX11_errs_1 : decode cX11_errs 1 = .ok (.invokevirtual 149, 3) := by decide +kernel
theorem dX11_errs_4 : decode cX11_errs 4 = .ok (.ifCond .ne 4, 3) := by decide +kernel
theorem dX11_errs_7 : decode cX11_errs 7 = .ok (.return_, 1) := by decide +kernel
theorem dX11_errs_8 : decode cX11_errs 8 = .ok (.aload_n 0, 1) := by decide +kernel
theorem dX11_errs_9 : decode cX11_errs 9 = .ok (.iload_n 1, 1) := by decide +kernel
theorem dX11_errs_10 : decode cX11_errs 10 = .ok (.putfield 146, 3) := by decide +kernel
theorem dX11_errs_13 : decode cX11_errs 13 = .ok (.aload_n 0, 1) := by decide +kernel
theorem dX11_errs_14 : decode cX11_errs 14 = .ok (.iload_n 2, 1) := by decide +kernel
theorem dX11_errs_15 : decode cX11_errs 15 = .ok (.putfield 27, 3) := by decide +kernel
theorem dX11_errs_18 : decode cX11_errs 18 = .ok (.return_, 1) := by decide +kernel
def fX11_errs (a0 : Nat) (a1 : Int32) (a2 : Int32) (M : xMem) : Option (xMem) :=
  xBn (fX11_good a0 M) fun r1 M2 => if r1 = 0 then (some M2) else (xLt (xwI M2 a0 17 a1) fun M3 => xLt (xwI M3 a0 18 a2) fun M4 => some M4)
set_option maxRecDepth 100000 in
set_option maxHeartbeats 4000000 in
theorem zX11_errs (G : xGX) (a0 : Nat) (h0 : xkd a0 = 11) (a1 : Int32) (a2 : Int32) (M : xMem) (M' : xMem) (h : fX11_errs a0 a1 a2 M = some M') : xCt G yX11_errs cX11_errs 3 none 2 [vr G a0, .int a1, .int a2] M (none, M') := by
  refine xMet (lv := [some (vr G a0), some (.int a1), some (.int a2)]) (by decide) (Nat.le_of_ble_eq_true rfl) rfl ?_
  intro X hG hnL C R0
  subst hG
  have C : xCk X cX11_errs RX11 2 := C
  unfold fX11_errs at h
  refine r_aload_n (pc := 0) C dX11_errs_0 rfl rfl ?_
  refine r_vI0 (pc := 1) C (fun r M' e => zX11_good X.1 a0 h0 M r M' e) h0 (by decide) rfl mX11_good lX11_149 (by decide) (Nat.le_of_ble_eq_true rfl) dX11_errs_1 h (fun r1 M2 h => ?_)
  refine r_if_ne (pc := 4) (tgt := 8) C dX11_errs_4 (by decide) h (fun _ h => ?_) (fun _ h => ?_)
  · refine r_aload_n (pc := 8) C dX11_errs_8 rfl rfl ?_
    refine r_iload_n (pc := 9) C dX11_errs_9 rfl rfl ?_
    refine r_putI (pc := 10) C kX11_146 h0 dX11_errs_10 ?_
    refine r_letM h (fun M3 h => ?_)
    refine r_aload_n (pc := 13) C dX11_errs_13 rfl rfl ?_
    refine r_iload_n (pc := 14) C dX11_errs_14 rfl rfl ?_
    refine r_putI (pc := 15) C kX11_27 h0 dX11_errs_15 ?_
    refine r_letM h (fun M4 h => ?_)
    exact r_vret (pc := 18) C R0 h dX11_errs_18
  · exact r_vret (pc := 7) C R0 h dX11_errs_7
theorem dX11_see_0 : decode cX11_see 0 = .ok (.iload_n 1, 1) := by decide +kernel
theorem dX11_see_1 : decode cX11_see 1 = .ok (.aload_n 0, 1) := by decide +kernel
theorem dX11_see_2 : decode cX11_see 2 = .ok (.getfield 152, 3) := by decide +kernel
theorem dX11_see_5 : decode cX11_see 5 = .ok (.if_icmp .ge 16, 3) := by decide +kernel
theorem dX11_see_8 : decode cX11_see 8 = .ok (.aload_n 0, 1) := by decide +kernel
theorem dX11_see_9 : decode cX11_see 9 = .ok (.getfield 23, 3) := by decide +kernel
theorem dX11_see_12 : decode cX11_see 12 = .ok (.iload_n 1, 1) := by decide +kernel
theorem dX11_see_13 : decode cX11_see 13 = .ok (.baload, 1) := by decide +kernel
theorem dX11_see_14 : decode cX11_see 14 = .ok (.sipush 255, 3) := by decide +kernel
theorem dX11_see_17 : decode cX11_see 17 = .ok (.iand, 1) := by decide +kernel
theorem dX11_see_18 : decode cX11_see 18 = .ok (.goto 4, 3) := by decide +kernel
theorem dX11_see_21 : decode cX11_see 21 = .ok (.iconst (-1), 1) := by decide +kernel
theorem dX11_see_22 : decode cX11_see 22 = .ok (.ireturn, 1) := by decide +kernel
def fX11_see (a0 : Nat) (a1 : Int32) (M : xMem) : Option (Int32 × xMem) :=
  if (M.1 a0 12) ≤ a1 then (some ((-1), M)) else (xGb a1 (xln (xrf a0 10)) (some (((M.1 (xrf a0 10) (Int32.toNatClampNeg a1)) &&& (nI 255)), M)))
set_option maxRecDepth 100000 in
set_option maxHeartbeats 4000000 in
theorem zX11_see (G : xGX) (a0 : Nat) (h0 : xkd a0 = 11) (a1 : Int32) (M : xMem) (r : Int32) (M' : xMem) (h : fX11_see a0 a1 M = some (r, M')) : xCt G yX11_see cX11_see 2 (some .int) 1 [vr G a0, .int a1] M (some (.int r), M') := by
  refine xMet (lv := [some (vr G a0), some (.int a1)]) (by decide) (Nat.le_of_ble_eq_true rfl) rfl ?_
  intro X hG hnL C R0
  subst hG
  have C : xCk X cX11_see RX11 1 := C
  unfold fX11_see at h
  refine r_iload_n (pc := 0) C dX11_see_0 rfl rfl ?_
  refine r_aload_n (pc := 1) C dX11_see_1 rfl rfl ?_
  refine r_getI (pc := 2) C kX11_152 h0 dX11_see_2 ?_
  refine r_icmp_ge (pc := 5) (tgt := 21) C dX11_see_5 (by decide) h (fun _ h => ?_) (fun _ h => ?_)
  · refine r_iconst (pc := 21) (v := (-1)) C dX11_see_21 (by decide) ?_
    exact r_iret (pc := 22) C R0 h dX11_see_22
  · refine r_aload_n (pc := 8) C dX11_see_8 rfl rfl ?_
    refine r_getR (pc := 9) C kX11_23 h0 (by decide) dX11_see_9 ?_
    refine r_iload_n (pc := 12) C dX11_see_12 rfl rfl ?_
    obtain ⟨g1, h⟩ := xGb_of h
    refine r_bald (pc := 13) C (xtk h0 (by decide) rfl rfl) g1 dX11_see_13 ?_
    refine r_sipush (pc := 14) (v := (nI 255)) C dX11_see_14 (by decide) ?_
    refine r_iand (pc := 17) C dX11_see_17 ?_
    refine r_goto (pc := 18) (tgt := 22) C dX11_see_18 (by decide) ?_
    exact r_iret (pc := 22) C R0 h dX11_see_22
theorem dX11_advance_0 : decode cX11_advance 0 = .ok (.aload_n 0, 1) := by decide +kernel
theorem dX11_advance_1 : decode cX11_advance 1 = .ok (.aload_n 0, 1) := by decide +kernel
theorem dX11_advance_2 : decode cX11_advance 2 = .ok (.getfield 155, 3) := by decide +kernel
theorem dX11_advance_5 : decode cX11_advance 5 = .ok (.invokevirtual 158, 3) := by decide +kernel
theorem dX11_advance_8 : decode cX11_advance 8 = .ok (.bipush 32, 2) := by decide +kernel
theorem dX11_advance_10 : decode cX11_advance 10 = .ok (.if_icmp .eq 16, 3) := by decide +kernel
theorem dX11_advance_13 : decode cX11_advance 13 = .ok (.aload_n 0, 1) := by decide +kernel
theorem dX11_advance_14 : decode cX11_advance 14 = .ok (.aload_n 0, 1) := by decide +kernel
theorem dX11_advance_15 : decode cX11_advance 15 = .ok (.getfield 155, 3) := by decide +kernel
theorem dX11_advance_18 : decode cX11_advance 18 = .ok (.invokevirtual 158, 3) := by decide +kernel
theorem dX11_advance_21 : decode cX11_advance 21 = .ok (.bipush 10, 2) := by decide +kernel
theorem dX11_advance_23 : decode cX11_advance 23 = .ok (.if_icmp .ne 16, 3) := by decide +kernel
theorem dX11_advance_26 : decode cX11_advance 26 = .ok (.aload_n 0, 1) := by decide +kernel
theorem dX11_advance_27 : decode cX11_advance 27 = .ok (.dup, 1) := by decide +kernel
theorem dX11_advance_28 : decode cX11_advance 28 = .ok (.getfield 155, 3) := by decide +kernel
theorem dX11_advance_31 : decode cX11_advance 31 = .ok (.iconst 1, 1) := by decide +kernel
theorem dX11_advance_32 : decode cX11_advance 32 = .ok (.iadd, 1) := by decide +kernel
theorem dX11_advance_33 : decode cX11_advance 33 = .ok (.putfield 155, 3) := by decide +kernel
theorem dX11_advance_36 : decode cX11_advance 36 = .ok (.goto (-36), 3) := by decide +kernel
theorem dX11_advance_39 : decode cX11_advance 39 = .ok (.aload_n 0, 1) := by decide +kernel
theorem dX11_advance_40 : decode cX11_advance 40 = .ok (.aload_n 0, 1) := by decide +kernel
theorem dX11_advance_41 : decode cX11_advance 41 = .ok (.getfield 155, 3) := by decide +kernel
theorem dX11_advance_44 : decode cX11_advance 44 = .ok (.putfield 161, 3) := by decide +kernel
theorem dX11_advance_47 : decode cX11_advance 47 = .ok (.aload_n 0, 1) := by decide +kernel
theorem dX11_advance_48 : decode cX11_advance 48 = .ok (.aload_n 0, 1) := by decide +kernel
theorem dX11_advance_49 : decode cX11_advance 49 = .ok (.getfield 155, 3) := by decide +kernel
theorem dX11_advance_52 : decode cX11_advance 52 = .ok (.invokevirtual 158, 3) := by decide +kernel
theorem dX11_advance_55 : decode cX11_advance 55 = .ok (.istore_n 1, 1) := by decide +kernel
theorem dX11_advance_56 : decode cX11_advance 56 = .ok (.iload_n 1, 1) := by decide +kernel
theorem dX11_advance_57 : decode cX11_advance 57 = .ok (.iconst (-1), 1) := by decide +kernel
theorem dX11_advance_58 : decode cX11_advance 58 = .ok (.if_icmp .ne 11, 3) := by decide +kernel
theorem dX11_advance_61 : decode cX11_advance 61 = .ok (.aload_n 0, 1) := by decide +kernel
theorem dX11_advance_62 : decode cX11_advance 62 = .ok (.iconst 0, 1) := by decide +kernel
theorem dX11_advance_63 : decode cX11_advance 63 = .ok (.putfield 164, 3) := by decide +kernel
theorem dX11_advance_66 : decode cX11_advance 66 = .ok (.goto 169, 3) := by decide +kernel
theorem dX11_advance_69 : decode cX11_advance 69 = .ok (.iload_n 1, 1) := by decide +kernel
theorem dX11_advance_70 : decode cX11_advance 70 = .ok (.i2l, 1) := by decide +kernel
theorem dX11_advance_71 : decode cX11_advance 71 = .ok (.ldc2_w 167, 3) := by decide +kernel
theorem dX11_advance_74 : decode cX11_advance 74 = .ok (.ldc2_w 169, 3) := by decide +kernel
theorem dX11_advance_77 : decode cX11_advance 77 = .ok (.invokestatic 51, 3) := by decide +kernel
theorem dX11_advance_80 : decode cX11_advance 80 = .ok (.ifCond .eq 45, 3) := by decide +kernel
theorem dX11_advance_83 : decode cX11_advance 83 = .ok (.aload_n 0, 1) := by decide +kernel
theorem dX11_advance_84 : decode cX11_advance 84 = .ok (.aload_n 0, 1) := by decide +kernel
theorem dX11_advance_85 : decode cX11_advance 85 = .ok (.getfield 155, 3) := by decide +kernel
theorem dX11_advance_88 : decode cX11_advance 88 = .ok (.invokevirtual 158, 3) := by decide +kernel
theorem dX11_advance_91 : decode cX11_advance 91 = .ok (.i2l, 1) := by decide +kernel
theorem dX11_advance_92 : decode cX11_advance 92 = .ok (.ldc2_w 167, 3) := by decide +kernel
theorem dX11_advance_95 : decode cX11_advance 95 = .ok (.ldc2_w 169, 3) := by decide +kernel
theorem dX11_advance_98 : decode cX11_advance 98 = .ok (.invokestatic 51, 3) := by decide +kernel
theorem dX11_advance_101 : decode cX11_advance 101 = .ok (.ifCond .eq 16, 3) := by decide +kernel
theorem dX11_advance_104 : decode cX11_advance 104 = .ok (.aload_n 0, 1) := by decide +kernel
theorem dX11_advance_105 : decode cX11_advance 105 = .ok (.dup, 1) := by decide +kernel
theorem dX11_advance_106 : decode cX11_advance 106 = .ok (.getfield 155, 3) := by decide +kernel
theorem dX11_advance_109 : decode cX11_advance 109 = .ok (.iconst 1, 1) := by decide +kernel
theorem dX11_advance_110 : decode cX11_advance 110 = .ok (.iadd, 1) := by decide +kernel
theorem dX11_advance_111 : decode cX11_advance 111 = .ok (.putfield 155, 3) := by decide +kernel
theorem dX11_advance_114 : decode cX11_advance 114 = .ok (.goto (-31), 3) := by decide +kernel
theorem dX11_advance_117 : decode cX11_advance 117 = .ok (.aload_n 0, 1) := by decide +kernel
theorem dX11_advance_118 : decode cX11_advance 118 = .ok (.iconst 1, 1) := by decide +kernel
theorem dX11_advance_119 : decode cX11_advance 119 = .ok (.putfield 164, 3) := by decide +kernel
theorem dX11_advance_122 : decode cX11_advance 122 = .ok (.goto 113, 3) := by decide +kernel
theorem dX11_advance_125 : decode cX11_advance 125 = .ok (.iload_n 1, 1) := by decide +kernel
theorem dX11_advance_126 : decode cX11_advance 126 = .ok (.i2l, 1) := by decide +kernel
theorem dX11_advance_127 : decode cX11_advance 127 = .ok (.ldc2_w 171, 3) := by decide +kernel
theorem dX11_advance_130 : decode cX11_advance 130 = .ok (.ldc2_w 173, 3) := by decide +kernel
theorem dX11_advance_133 : decode cX11_advance 133 = .ok (.invokestatic 51, 3) := by decide +kernel
theorem dX11_advance_136 : decode cX11_advance 136 = .ok (.ifCond .eq 79, 3) := by decide +kernel
theorem dX11_advance_139 : decode cX11_advance 139 = .ok (.aload_n 0, 1) := by decide +kernel
theorem dX11_advance_140 : decode cX11_advance 140 = .ok (.iconst 0, 1) := by decide +kernel
theorem dX11_advance_141 : decode cX11_advance 141 = .ok (.putfield 175, 3) := by decide +kernel
theorem dX11_advance_144 : decode cX11_advance 144 = .ok (.aload_n 0, 1) := by decide +kernel
theorem dX11_advance_145 : decode cX11_advance 145 = .ok (.aload_n 0, 1) := by decide +kernel
theorem dX11_advance_146 : decode cX11_advance 146 = .ok (.getfield 155, 3) := by decide +kernel
theorem dX11_advance_149 : decode cX11_advance 149 = .ok (.invokevirtual 158, 3) := by decide +kernel
theorem dX11_advance_152 : decode cX11_advance 152 = .ok (.i2l, 1) := by decide +kernel
theorem dX11_advance_153 : decode cX11_advance 153 = .ok (.ldc2_w 171, 3) := by decide +kernel
theorem dX11_advance_156 : decode cX11_advance 156 = .ok (.ldc2_w 173, 3) := by decide +kernel
theorem dX11_advance_159 : decode cX11_advance 159 = .ok (.invokestatic 51, 3) := by decide +kernel
theorem dX11_advance_162 : decode cX11_advance 162 = .ok (.ifCond .eq 45, 3) := by decide +kernel
theorem dX11_advance_165 : decode cX11_advance 165 = .ok (.aload_n 0, 1) := by decide +kernel
theorem dX11_advance_166 : decode cX11_advance 166 = .ok (.sipush 9999, 3) := by decide +kernel
theorem dX11_advance_169 : decode cX11_advance 169 = .ok (.bipush 10, 2) := by decide +kernel
theorem dX11_advance_171 : decode cX11_advance 171 = .ok (.aload_n 0, 1) := by decide +kernel
theorem dX11_advance_172 : decode cX11_advance 172 = .ok (.getfield 175, 3) := by decide +kernel
theorem dX11_advance_175 : decode cX11_advance 175 = .ok (.imul, 1) := by decide +kernel
theorem dX11_advance_176 : decode cX11_advance 176 = .ok (.aload_n 0, 1) := by decide +kernel
theorem dX11_advance_177 : decode cX11_advance 177 = .ok (.aload_n 0, 1) := by decide +kernel
theorem dX11_advance_178 : decode cX11_advance 178 = .ok (.getfield 155, 3) := by decide +kernel
theorem dX11_advance_181 : decode cX11_advance 181 = .ok (.invokevirtual 158, 3) := by decide +kernel
theorem dX11_advance_184 : decode cX11_advance 184 = .ok (.iadd, 1) := by decide +kernel
theorem dX11_advance_185 : decode cX11_advance 185 = .ok (.bipush 48, 2) := by decide +kernel
theorem dX11_advance_187 : decode cX11_advance 187 = .ok (.isub, 1) := by decide +kernel
theorem dX11_advance_188 : decode cX11_advance 188 = .ok (.invokestatic 178, 3) := by decide +kernel
theorem dX11_advance_191 : decode cX11_advance 191 = .ok (.putfield 175, 3) := by decide +kernel
theorem dX11_advance_194 : decode cX11_advance 194 = .ok (.aload_n 0, 1) := by decide +kernel
theorem dX11_advance_195 : decode cX11_advance 195 = .ok (.dup, 1) := by decide +kernel
theorem dX11_advance_196 : decode cX11_advance 196 = .ok (.getfield 155, 3) := by decide +kernel
theorem dX11_advance_199 : decode cX11_advance 199 = .ok (.iconst 1, 1) := by decide +kernel
theorem dX11_advance_200 : decode cX11_advance 200 = .ok (.iadd, 1) := by decide +kernel
theorem dX11_advance_201 : decode cX11_advance 201 = .ok (.putfield 155, 3) := by decide +kernel
theorem dX11_advance_204 : decode cX11_advance 204 = .ok (.goto (-60), 3) := by decide +kernel
theorem dX11_advance_207 : decode cX11_advance 207 = .ok (.aload_n 0, 1) := by decide +kernel
theorem dX11_advance_208 : decode cX11_advance 208 = .ok (.iconst 2, 1) := by decide +kernel
theorem dX11_advance_209 : decode cX11_advance 209 = .ok (.putfield 164, 3) := by decide +kernel
theorem dX11_advance_212 : decode cX11_advance 212 = .ok (.goto 23, 3) := by decide +kernel
theorem dX11_advance_215 : decode cX11_advance 215 = .ok (.aload_n 0, 1) := by decide +kernel
theorem dX11_advance_216 : decode cX11_advance 216 = .ok (.iconst 3, 1) := by decide +kernel
theorem dX11_advance_217 : decode cX11_advance 217 = .ok (.putfield 164, 3) := by decide +kernel
theorem dX11_advance_220 : decode cX11_advance 220 = .ok (.aload_n 0, 1) := by decide +kernel
theorem dX11_advance_221 : decode cX11_advance 221 = .ok (.iload_n 1, 1) := by decide +kernel
theorem dX11_advance_222 : decode cX11_advance 222 = .ok (.putfield 175, 3) := by decide +kernel
theorem dX11_advance_225 : decode cX11_advance 225 = .ok (.aload_n 0, 1) := by decide +kernel
theorem dX11_advance_226 : decode cX11_advance 226 = .ok (.dup, 1) := by decide +kernel
theorem dX11_advance_227 : decode cX11_advance 227 = .ok (.getfield 155, 3) := by decide +kernel
theorem dX11_advance_230 : decode cX11_advance 230 = .ok (.iconst 1, 1) := by decide +kernel
theorem dX11_advance_231 : decode cX11_advance 231 = .ok (.iadd, 1) := by decide +kernel
theorem dX11_advance_232 : decode cX11_advance 232 = .ok (.putfield 155, 3) := by decide +kernel
theorem dX11_advance_235 : decode cX11_advance 235 = .ok (.return_, 1) := by decide +kernel
def fX11_advance_l0 (p0 : Nat) (K : xMem → Option (xMem)) : Nat → xMem → Option (xMem)
  | 0, _ => none
  | n + 1, M => xBn (fX11_see p0 (M.1 p0 13) M) fun r1 M2 => xLt (fun  (M3 : xMem) => (xLt (xwI M3 p0 13 ((M3.1 p0 13) + (nI 1))) fun M4 => fX11_advance_l0 p0 K n  M4 : Option (xMem))) fun J26 => if r1 = (nI 32) then (J26  M2) else (xBn (fX11_see p0 (M2.1 p0 13) M2) fun r5 M6 => if r5 = (nI 10) then (J26  M6) else (K  M6))
def fX11_advance_l144 (p0 : Nat) (p1 : Int32) (K : xMem → Option (xMem)) : Nat → xMem → Option (xMem)
  | 0, _ => none
  | n + 1, M => xBn (fX11_see p0 (M.1 p0 13) M) fun r19 M20 => xBn (fX11_in (Int32.toInt64 r19) (lN 48) (lN 57) M20) fun r21 M22 => if r21 = 0 then (K  M22) else (xBn (fX11_see p0 (M22.1 p0 13) M22) fun r23 M24 => xLt (xwI M24 p0 16 (if ((((nI 10) * (M22.1 p0 16)) + r23) - (nI 48)) < (nI 9999) then ((((nI 10) * (M22.1 p0 16)) + r23) - (nI 48)) else (nI 9999))) fun M25 => xLt (xwI M25 p0 13 ((M25.1 p0 13) + (nI 1))) fun M26 => fX11_advance_l144 p0 p1 K n  M26)
def fX11_advance_l83 (p0 : Nat) (p1 : Int32) (K : xMem → Option (xMem)) : Nat → xMem → Option (xMem)
  | 0, _ => none
  | n + 1, M => xBn (fX11_see p0 (M.1 p0 13) M) fun r29 M30 => xBn (fX11_in (Int32.toInt64 r29) (lN 97) (lN 122) M30) fun r31 M32 => if r31 = 0 then (K  M32) else (xLt (xwI M32 p0 13 ((M32.1 p0 13) + (nI 1))) fun M33 => fX11_advance_l83 p0 p1 K n  M33)
def fX11_advance (a0 : Nat) (M : xMem) : Option (xMem) :=
  fX11_advance_l0 a0 (fun  (M7 : xMem) => xLt (xwI M7 a0 14 (M7.1 a0 13)) fun M8 => xBn (fX11_see a0 (M8.1 a0 13) M8) fun r9 M10 => if r9 = (-1) then (xLt (xwI M10 a0 15 (nI 0)) fun M36 => some M36) else (xBn (fX11_in (Int32.toInt64 r9) (lN 97) (lN 122) M10) fun r11 M12 => if r11 = 0 then (xBn (fX11_in (Int32.toInt64 r9) (lN 48) (lN 57) M12) fun r13 M14 => if r13 = 0 then (xLt (xwI M14 a0 15 (nI 3)) fun M15 => xLt (xwI M15 a0 16 r9) fun M16 => xLt (xwI M16 a0 13 ((M16.1 a0 13) + (nI 1))) fun M17 => some M17) else (xLt (xwI M14 a0 16 (nI 0)) fun M18 => fX11_advance_l144 a0 r9 (fun  (M27 : xMem) => xLt (xwI M27 a0 15 (nI 2)) fun M28 => some M28) xFU  M18)) else (fX11_advance_l83 a0 r9 (fun  (M34 : xMem) => xLt (xwI M34 a0 15 (nI 1)) fun M35 => some M35) xFU  M12))) xFU  M
set_option maxRecDepth 100000 in
set_option maxHeartbeats 4000000 in
theorem lX11_advance_0 {X : xCX} {M' : xMem} (C : xCk X cX11_advance RX11 2) (R0 : xRk X none (none, M')) (hnL : X.2.2.2.2.2.2.2.2.2.2.2.2.2 = 2) (p0 : Nat) (hp0 : xkd p0 = 11) (K : xMem → Option (xMem)) (hK : ∀  (M : xMem), K  M = some M' → WW X 39 [some (vr X.1 p0), none] [] M) : ∀ (n : Nat)  (M : xMem), fX11_advance_l0 p0 K n  M = some M' → WW X 0 [some (vr X.1 p0), none] [] M := by
  have hn1 : 1 < X.2.2.2.2.2.2.2.2.2.2.2.2.2 := by rw [hnL]; decide
  intro n
  induction n with
  | zero =>
    intro  M h
    cases (show (none : Option (xMem)) = some M' from h)
  | succ n ih =>
    intro  M h
    rw [fX11_advance_l0.eq_2] at h
    refine r_aload_n (pc := 0) C dX11_advance_0 rfl rfl ?_
    refine r_aload_n (pc := 1) C dX11_advance_1 rfl rfl ?_
    refine r_getI (pc := 2) C kX11_155 hp0 dX11_advance_2 ?_
    refine r_vI1 (pc := 5) C (fun r M' e => zX11_see X.1 p0 hp0 (M.1 p0 13) M r M' e) hp0 (by decide) rfl mX11_see lX11_158 (by decide) (Nat.le_of_ble_eq_true rfl) dX11_advance_5 h (fun r1 M2 h => ?_)
    refine r_bipush (pc := 8) (v := (nI 32)) C dX11_advance_8 (by decide) ?_
    refine r_jn (fun J => ∀  (M3 : xMem) , J  M3 = some M' → WW X 26 [some (vr X.1 p0), none] [] M3) h (fun  M3  h => ?_) (fun J26 hJ26 h => ?_)
    · refine r_aload_n (pc := 26) C dX11_advance_26 rfl rfl ?_
      refine r_dup (pc := 27) C rfl dX11_advance_27 ?_
      refine r_getI (pc := 28) C kX11_155 hp0 dX11_advance_28 ?_
      refine r_iconst (pc := 31) (v := (nI 1)) C dX11_advance_31 (by decide) ?_
      refine r_iadd (pc := 32) C dX11_advance_32 ?_
      refine r_putI (pc := 33) C kX11_155 hp0 dX11_advance_33 ?_
      refine r_letM h (fun M4 h => ?_)
      refine r_goto (pc := 36) (tgt := 0) C dX11_advance_36 (by decide) ?_
      exact ih  M4 h
    refine r_icmp_eq (pc := 10) (tgt := 26) C dX11_advance_10 (by decide) h (fun _ h => ?_) (fun _ h => ?_)
    · exact hJ26  M2  h
    · refine r_aload_n (pc := 13) C dX11_advance_13 rfl rfl ?_
      refine r_aload_n (pc := 14) C dX11_advance_14 rfl rfl ?_
      refine r_getI (pc := 15) C kX11_155 hp0 dX11_advance_15 ?_
      refine r_vI1 (pc := 18) C (fun r M' e => zX11_see X.1 p0 hp0 (M2.1 p0 13) M2 r M' e) hp0 (by decide) rfl mX11_see lX11_158 (by decide) (Nat.le_of_ble_eq_true rfl) dX11_advance_18 h (fun r5 M6 h => ?_)
      refine r_bipush (pc := 21) (v := (nI 10)) C dX11_advance_21 (by decide) ?_
      refine r_icmp_ne (pc := 23) (tgt := 39) C dX11_advance_23 (by decide) h (fun _ h => ?_) (fun _ h => ?_)
      · exact hK  M6 h
      · exact hJ26  M6  h
set_option maxRecDepth 100000 in
set_option maxHeartbeats 4000000 in
theorem lX11_advance_144 {X : xCX} {M' : xMem} (C : xCk X cX11_advance RX11 2) (R0 : xRk X none (none, M')) (hnL : X.2.2.2.2.2.2.2.2.2.2.2.2.2 = 2) (p0 : Nat) (hp0 : xkd p0 = 11) (p1 : Int32) (K : xMem → Option (xMem)) (hK : ∀  (M : xMem), K  M = some M' → WW X 207 [some (vr X.1 p0), some (.int p1)] [] M) : ∀ (n : Nat)  (M : xMem), fX11_advance_l144 p0 p1 K n  M = some M' → WW X 144 [some (vr X.1 p0), some (.int p1)] [] M := by
  have hn1 : 1 < X.2.2.2.2.2.2.2.2.2.2.2.2.2 := by rw [hnL]; decide
  intro n
  induction n with
  | zero =>
    intro  M h
    cases (show (none : Option (xMem)) = some M' from h)
  | succ n ih =>
    intro  M h
    rw [fX11_advance_l144.eq_2] at h
    refine r_aload_n (pc := 144) C dX11_advance_144 rfl rfl ?_
    refine r_aload_n (pc := 145) C dX11_advance_145 rfl rfl ?_
    refine r_getI (pc := 146) C kX11_155 hp0 dX11_advance_146 ?_
    refine r_vI1 (pc := 149) C (fun r M' e => zX11_see X.1 p0 hp0 (M.1 p0 13) M r M' e) hp0 (by decide) rfl mX11_see lX11_158 (by decide) (Nat.le_of_ble_eq_true rfl) dX11_advance_149 h (fun r19 M20 h => ?_)
    refine r_i2l (pc := 152) C dX11_advance_152 ?_
    refine r_ldc2 (pc := 153) C nX11_171 dX11_advance_153 ?_
    refine r_ldc2 (pc := 156) C nX11_173 dX11_advance_156 ?_
    refine r_sI3 (pc := 159) C (fun r M' e => zX11_in X.1 (Int32.toInt64 r19) (lN 48) (lN 57) M20 r M' e) mX11_in lX11_51 (by decide) (Nat.le_of_ble_eq_true rfl) dX11_advance_159 h (fun r21 M22 h => ?_)
    refine r_if_eq (pc := 162) (tgt := 207) C dX11_advance_162 (by decide) h (fun _ h => ?_) (fun _ h => ?_)
    · exact hK  M22 h
    · refine r_aload_n (pc := 165) C dX11_advance_165 rfl rfl ?_
      refine r_sipush (pc := 166) (v := (nI 9999)) C dX11_advance_166 (by decide) ?_
      refine r_bipush (pc := 169) (v := (nI 10)) C dX11_advance_169 (by decide) ?_
      refine r_aload_n (pc := 171) C dX11_advance_171 rfl rfl ?_
      refine r_getI (pc := 172) C kX11_175 hp0 dX11_advance_172 ?_
      refine r_imul (pc := 175) C dX11_advance_175 ?_
      refine r_aload_n (pc := 176) C dX11_advance_176 rfl rfl ?_
      refine r_aload_n (pc := 177) C dX11_advance_177 rfl rfl ?_
      refine r_getI (pc := 178) C kX11_155 hp0 dX11_advance_178 ?_
      refine r_vI1 (pc := 181) C (fun r M' e => zX11_see X.1 p0 hp0 (M22.1 p0 13) M22 r M' e) hp0 (by decide) rfl mX11_see lX11_158 (by decide) (Nat.le_of_ble_eq_true rfl) dX11_advance_181 h (fun r23 M24 h => ?_)
      refine r_iadd (pc := 184) C dX11_advance_184 ?_
      refine r_bipush (pc := 185) (v := (nI 48)) C dX11_advance_185 (by decide) ?_
      refine r_isub (pc := 187) C dX11_advance_187 ?_
      refine r_mmin (pc := 188) C lX11_178 (fun _ => by simp [xNM]) (by decide) (Nat.le_of_ble_eq_true rfl) dX11_advance_188 ?_
      refine r_putI (pc := 191) C kX11_175 hp0 dX11_advance_191 ?_
      refine r_letM h (fun M25 h => ?_)
      refine r_aload_n (pc := 194) C dX11_advance_194 rfl rfl ?_
      refine r_dup (pc := 195) C rfl dX11_advance_195 ?_
      refine r_getI (pc := 196) C kX11_155 hp0 dX11_advance_196 ?_
      refine r_iconst (pc := 199) (v := (nI 1)) C dX11_advance_199 (by decide) ?_
      refine r_iadd (pc := 200) C dX11_advance_200 ?_
      refine r_putI (pc := 201) C kX11_155 hp0 dX11_advance_201 ?_
      refine r_letM h (fun M26 h => ?_)
      refine r_goto (pc := 204) (tgt := 144) C dX11_advance_204 (by decide) ?_
      exact ih  M26 h
set_option maxRecDepth 100000 in
set_option maxHeartbeats 4000000 in
theorem lX11_advance_83 {X : xCX} {M' : xMem} (C : xCk X cX11_advance RX11 2) (R0 : xRk X none (none, M')) (hnL : X.2.2.2.2.2.2.2.2.2.2.2.2.2 = 2) (p0 : Nat) (hp0 : xkd p0 = 11) (p1 : Int32) (K : xMem → Option (xMem)) (hK : ∀  (M : xMem), K  M = some M' → WW X 117 [some (vr X.1 p0), some (.int p1)] [] M) : ∀ (n : Nat)  (M : xMem), fX11_advance_l83 p0 p1 K n  M = some M' → WW X 83 [some (vr X.1 p0), some (.int p1)] [] M := by
  have hn1 : 1 < X.2.2.2.2.2.2.2.2.2.2.2.2.2 := by rw [hnL]; decide
  intro n
  induction n with
  | zero =>
    intro  M h
    cases (show (none : Option (xMem)) = some M' from h)
  | succ n ih =>
    intro  M h
    rw [fX11_advance_l83.eq_2] at h
    refine r_aload_n (pc := 83) C dX11_advance_83 rfl rfl ?_
    refine r_aload_n (pc := 84) C dX11_advance_84 rfl rfl ?_
    refine r_getI (pc := 85) C kX11_155 hp0 dX11_advance_85 ?_
    refine r_vI1 (pc := 88) C (fun r M' e => zX11_see X.1 p0 hp0 (M.1 p0 13) M r M' e) hp0 (by decide) rfl mX11_see lX11_158 (by decide) (Nat.le_of_ble_eq_true rfl) dX11_advance_88 h (fun r29 M30 h => ?_)
    refine r_i2l (pc := 91) C dX11_advance_91 ?_
    refine r_ldc2 (pc := 92) C nX11_167 dX11_advance_92 ?_
    refine r_ldc2 (pc := 95) C nX11_169 dX11_advance_95 ?_
    refine r_sI3 (pc := 98) C (fun r M' e => zX11_in X.1 (Int32.toInt64 r29) (lN 97) (lN 122) M30 r M' e) mX11_in lX11_51 (by decide) (Nat.le_of_ble_eq_true rfl) dX11_advance_98 h (fun r31 M32 h => ?_)
    refine r_if_eq (pc := 101) (tgt := 117) C dX11_advance_101 (by decide) h (fun _ h => ?_) (fun _ h => ?_)
    · exact hK  M32 h
    · refine r_aload_n (pc := 104) C dX11_advance_104 rfl rfl ?_
      refine r_dup (pc := 105) C rfl dX11_advance_105 ?_
      refine r_getI (pc := 106) C kX11_155 hp0 dX11_advance_106 ?_
      refine r_iconst (pc := 109) (v := (nI 1)) C dX11_advance_109 (by decide) ?_
      refine r_iadd (pc := 110) C dX11_advance_110 ?_
      refine r_putI (pc := 111) C kX11_155 hp0 dX11_advance_111 ?_
      refine r_letM h (fun M33 h => ?_)
      refine r_goto (pc := 114) (tgt := 83) C dX11_advance_114 (by decide) ?_
      exact ih  M33 h
set_option maxRecDepth 100000 in
set_option maxHeartbeats 4000000 in
theorem zX11_advance (G : xGX) (a0 : Nat) (h0 : xkd a0 = 11) (M : xMem) (M' : xMem) (h : fX11_advance a0 M = some M') : xCt G yX11_advance cX11_advance 2 none 2 [vr G a0] M (none, M') := by
  refine xMet (lv := [some (vr G a0), none]) (by decide) (Nat.le_of_ble_eq_true rfl) rfl ?_
  intro X hG hnL C R0
  subst hG
  have C : xCk X cX11_advance RX11 2 := C
  have hn1 : 1 < X.2.2.2.2.2.2.2.2.2.2.2.2.2 := by rw [hnL]; decide
  unfold fX11_advance at h
  refine lX11_advance_0 C R0 hnL a0 h0 _ (fun  M7 h => ?_) _  _ h
  refine r_aload_n (pc := 39) C dX11_advance_39 rfl rfl ?_
  refine r_aload_n (pc := 40) C dX11_advance_40 rfl rfl ?_
  refine r_getI (pc := 41) C kX11_155 h0 dX11_advance_41 ?_
  refine r_putI (pc := 44) C kX11_161 h0 dX11_advance_44 ?_
  refine r_letM h (fun M8 h => ?_)
  refine r_aload_n (pc := 47) C dX11_advance_47 rfl rfl ?_
  refine r_aload_n (pc := 48) C dX11_advance_48 rfl rfl ?_
  refine r_getI (pc := 49) C kX11_155 h0 dX11_advance_49 ?_
  refine r_vI1 (pc := 52) C (fun r M' e => zX11_see X.1 a0 h0 (M8.1 a0 13) M8 r M' e) h0 (by decide) rfl mX11_see lX11_158 (by decide) (Nat.le_of_ble_eq_true rfl) dX11_advance_52 h (fun r9 M10 h => ?_)
  refine r_istore_n (pc := 55) (lv' := [_, _]) C dX11_advance_55 rfl hn1 rfl ?_
  refine r_iload_n (pc := 56) C dX11_advance_56 rfl rfl ?_
  refine r_iconst (pc := 57) (v := (-1)) C dX11_advance_57 (by decide) ?_
  refine r_icmp_ne (pc := 58) (tgt := 69) C dX11_advance_58 (by decide) h (fun _ h => ?_) (fun _ h => ?_)
  · refine r_iload_n (pc := 69) C dX11_advance_69 rfl rfl ?_
    refine r_i2l (pc := 70) C dX11_advance_70 ?_
    refine r_ldc2 (pc := 71) C nX11_167 dX11_advance_71 ?_
    refine r_ldc2 (pc := 74) C nX11_169 dX11_advance_74 ?_
    refine r_sI3 (pc := 77) C (fun r M' e => zX11_in X.1 (Int32.toInt64 r9) (lN 97) (lN 122) M10 r M' e) mX11_in lX11_51 (by decide) (Nat.le_of_ble_eq_true rfl) dX11_advance_77 h (fun r11 M12 h => ?_)
    refine r_if_eq (pc := 80) (tgt := 125) C dX11_advance_80 (by decide) h (fun _ h => ?_) (fun _ h => ?_)
    · refine r_iload_n (pc := 125) C dX11_advance_125 rfl rfl ?_
      refine r_i2l (pc := 126) C dX11_advance_126 ?_
      refine r_ldc2 (pc := 127) C nX11_171 dX11_advance_127 ?_
      refine r_ldc2 (pc := 130) C nX11_173 dX11_advance_130 ?_
      refine r_sI3 (pc := 133) C (fun r M' e => zX11_in X.1 (Int32.toInt64 r9) (lN 48) (lN 57) M12 r M' e) mX11_in lX11_51 (by decide) (Nat.le_of_ble_eq_true rfl) dX11_advance_133 h (fun r13 M14 h => ?_)
      refine r_if_eq (pc := 136) (tgt := 215) C dX11_advance_136 (by decide) h (fun _ h => ?_) (fun _ h => ?_)
      · refine r_aload_n (pc := 215) C dX11_advance_215 rfl rfl ?_
        refine r_iconst (pc := 216) (v := (nI 3)) C dX11_advance_216 (by decide) ?_
        refine r_putI (pc := 217) C kX11_164 h0 dX11_advance_217 ?_
        refine r_letM h (fun M15 h => ?_)
        refine r_aload_n (pc := 220) C dX11_advance_220 rfl rfl ?_
        refine r_iload_n (pc := 221) C dX11_advance_221 rfl rfl ?_
        refine r_putI (pc := 222) C kX11_175 h0 dX11_advance_222 ?_
        refine r_letM h (fun M16 h => ?_)
        refine r_aload_n (pc := 225) C dX11_advance_225 rfl rfl ?_
        refine r_dup (pc := 226) C rfl dX11_advance_226 ?_
        refine r_getI (pc := 227) C kX11_155 h0 dX11_advance_227 ?_
        refine r_iconst (pc := 230) (v := (nI 1)) C dX11_advance_230 (by decide) ?_
        refine r_iadd (pc := 231) C dX11_advance_231 ?_
        refine r_putI (pc := 232) C kX11_155 h0 dX11_advance_232 ?_
        refine r_letM h (fun M17 h => ?_)
        exact r_vret (pc := 235) C R0 h dX11_advance_235
      · refine r_aload_n (pc := 139) C dX11_advance_139 rfl rfl ?_
        refine r_iconst (pc := 140) (v := (nI 0)) C dX11_advance_140 (by decide) ?_
        refine r_putI (pc := 141) C kX11_175 h0 dX11_advance_141 ?_
        refine r_letM h (fun M18 h => ?_)
        refine lX11_advance_144 C R0 hnL a0 h0 r9 _ (fun  M27 h => ?_) _  _ h
        refine r_aload_n (pc := 207) C dX11_advance_207 rfl rfl ?_
        refine r_iconst (pc := 208) (v := (nI 2)) C dX11_advance_208 (by decide) ?_
        refine r_putI (pc := 209) C kX11_164 h0 dX11_advance_209 ?_
        refine r_letM h (fun M28 h => ?_)
        refine r_goto (pc := 212) (tgt := 235) C dX11_advance_212 (by decide) ?_
        exact r_vret (pc := 235) C R0 h dX11_advance_235
    · refine lX11_advance_83 C R0 hnL a0 h0 r9 _ (fun  M34 h => ?_) _  _ h
      refine r_aload_n (pc := 117) C dX11_advance_117 rfl rfl ?_
      refine r_iconst (pc := 118) (v := (nI 1)) C dX11_advance_118 (by decide) ?_
      refine r_putI (pc := 119) C kX11_164 h0 dX11_advance_119 ?_
      refine r_letM h (fun M35 h => ?_)
      refine r_goto (pc := 122) (tgt := 235) C dX11_advance_122 (by decide) ?_
      exact r_vret (pc := 235) C R0 h dX11_advance_235
  · refine r_aload_n (pc := 61) C dX11_advance_61 rfl rfl ?_
    refine r_iconst (pc := 62) (v := (nI 0)) C dX11_advance_62 (by decide) ?_
    refine r_putI (pc := 63) C kX11_164 h0 dX11_advance_63 ?_
    refine r_letM h (fun M36 h => ?_)
    refine r_goto (pc := 66) (tgt := 235) C dX11_advance_66 (by decide) ?_
    exact r_vret (pc := 235) C R0 h dX11_advance_235
theorem dX11_isWord_0 : decode cX11_isWord 0 = .ok (.aload_n 0, 1) := by decide +kernel
theorem dX11_isWord_1 : decode cX11_isWord 1 = .ok (.invokevirtual 149, 3) := by decide +kernel
theorem dX11_isWord_4 : decode cX11_isWord 4 = .ok (.ifCond .eq 31, 3) := by decide +kernel
theorem dX11_isWord_7 : decode cX11_isWord 7 = .ok (.aload_n 0, 1) := by decide +kernel
theorem dX11_isWord_8 : decode cX11_isWord 8 = .ok (.getfield 164, 3) := by decide +kernel
theorem dX11_isWord_11 : decode cX11_isWord 11 = .ok (.iconst 1, 1) := by decide +kernel
theorem dX11_isWord_12 : decode cX11_isWord 12 = .ok (.if_icmp .ne 23, 3) := by decide +kernel
theorem dX11_isWord_15 : decode cX11_isWord 15 = .ok (.aload_n 0, 1) := by decide +kernel
theorem dX11_isWord_16 : decode cX11_isWord 16 = .ok (.getfield 155, 3) := by decide +kernel
theorem dX11_isWord_19 : decode cX11_isWord 19 = .ok (.aload_n 0, 1) := by decide +kernel
theorem dX11_isWord_20 : decode cX11_isWord 20 = .ok (.getfield 161, 3) := by decide +kernel
theorem dX11_isWord_23 : decode cX11_isWord 23 = .ok (.isub, 1) := by decide +kernel
theorem dX11_isWord_24 : decode cX11_isWord 24 = .ok (.aload_n 1, 1) := by decide +kernel
theorem dX11_isWord_25 : decode cX11_isWord 25 = .ok (.invokevirtual 183, 3) := by decide +kernel
theorem dX11_isWord_28 : decode cX11_isWord 28 = .ok (.if_icmp .ne 7, 3) := by decide +kernel
theorem dX11_isWord_31 : decode cX11_isWord 31 = .ok (.iconst 1, 1) := by decide +kernel
theorem dX11_isWord_32 : decode cX11_isWord 32 = .ok (.goto 4, 3) := by decide +kernel
theorem dX11_isWord_35 : decode cX11_isWord 35 = .ok (.iconst 0, 1) := by decide +kernel
theorem dX11_isWord_36 : decode cX11_isWord 36 = .ok (.istore_n 2, 1) := by decide +kernel
theorem dX11_isWord_37 : decode cX11_isWord 37 = .ok (.iconst 0, 1) := by decide +kernel
theorem dX11_isWord_38 : decode cX11_isWord 38 = .ok (.istore_n 3, 1) := by decide +kernel
theorem dX11_isWord_39 : decode cX11_isWord 39 = .ok (.iload_n 3, 1) := by decide +kernel
theorem dX11_isWord_40 : decode cX11_isWord 40 = .ok (.aload_n 1, 1) := by decide +kernel
theorem dX11_isWord_41 : decode cX11_isWord 41 = .ok (.invokevirtual 183, 3) := by decide +kernel
theorem dX11_isWord_44 : decode cX11_isWord 44 = .ok (.if_icmp .ge 38, 3) := by decide +kernel
theorem dX11_isWord_47 : decode cX11_isWord 47 = .ok (.iload_n 2, 1) := by decide +kernel
theorem dX11_isWord_48 : decode cX11_isWord 48 = .ok (.ifCond .eq 34, 3) := by decide +kernel
theorem dX11_isWord_51 : decode cX11_isWord 51 = .ok (.aload_n 0, 1) := by decide +kernel
theorem dX11_isWord_52 : decode cX11_isWord 52 = .ok (.getfield 23, 3) := by decide +kernel
theorem dX11_isWord_55 : decode cX11_isWord 55 = .ok (.aload_n 0, 1) := by decide +kernel
theorem dX11_isWord_56 : decode cX11_isWord 56 = .ok (.getfield 161, 3) := by decide +kernel
theorem dX11_isWord_59 : decode cX11_isWord 59 = .ok (.iload_n 3, 1) := by decide +kernel
theorem dX11_isWord_60 : decode cX11_isWord 60 = .ok (.iadd, 1) := by decide +kernel
theorem dX11_isWord_61 : decode cX11_isWord 61 = .ok (.baload, 1) := by decide +kernel
theorem dX11_isWord_62 : decode cX11_isWord 62 = .ok (.aload_n 1, 1) := by decide +kernel
theorem dX11_isWord_63 : decode cX11_isWord 63 = .ok (.iload_n 3, 1) := by decide +kernel
theorem dX11_isWord_64 : decode cX11_isWord 64 = .ok (.invokevirtual 188, 3) := by decide +kernel
theorem dX11_isWord_67 : decode cX11_isWord 67 = .ok (.if_icmp .ne 7, 3) := by decide +kernel
theorem dX11_isWord_70 : decode cX11_isWord 70 = .ok (.iconst 1, 1) := by decide +kernel
theorem dX11_isWord_71 : decode cX11_isWord 71 = .ok (.goto 4, 3) := by decide +kernel
theorem dX11_isWord_74 : decode cX11_isWord 74 = .ok (.iconst 0, 1) := by decide +kernel
theorem dX11_isWord_75 : decode cX11_isWord 75 = .ok (.istore_n 2, 1) := by decide +kernel
theorem dX11_isWord_76 : decode cX11_isWord 76 = .ok (.iinc 3 1, 3) := by decide +kernel
theorem dX11_isWord_79 : decode cX11_isWord 79 = .ok (.goto (-40), 3) := by decide +kernel
theorem dX11_isWord_82 : decode cX11_isWord 82 = .ok (.iload_n 2, 1) := by decide +kernel
theorem dX11_isWord_83 : decode cX11_isWord 83 = .ok (.ireturn, 1) := by decide +kernel
def fX11_isWord_l39 (p0 : Nat) (p1 : Nat) (K : Int32 → Int32 → xMem → Option (Int32 × xMem)) : Nat → Int32 → Int32 → xMem → Option (Int32 × xMem)
  | 0, _, _, _ => none
  | n + 1, v2, v3, M => if (nI (xsn p1)) ≤ v3 then (K v2 v3 M) else (if v2 = 0 then (K v2 v3 M) else (xGb ((M.1 p0 14) + v3) (xln (xrf p0 10)) (xGb v3 (xsn p1) (xLt (fun (s7 : Int32) (M8 : xMem) => (xLt (v3 + nI 1) fun x9 => fX11_isWord_l39 p0 p1 K n s7 x9 M8 : Option (Int32 × xMem))) fun J75 => if (M.1 (xrf p0 10) (Int32.toNatClampNeg ((M.1 p0 14) + v3))) = (xsc p1 (Int32.toNatClampNeg v3)) then (J75 (nI 1) M) else (J75 (nI 0) M)))))
def fX11_isWord (a0 : Nat) (a1 : Nat) (M : xMem) : Option (Int32 × xMem) :=
  xBn (fX11_good a0 M) fun r1 M2 => xLt (fun (s3 : Int32) (M4 : xMem) => (fX11_isWord_l39 a0 a1 (fun (v10 : Int32) (v11 : Int32) (M12 : xMem) => xGd (v10 = 0 ∨ v10 = 1) (some (v10, M12))) xFU s3 (nI 0) M4 : Option (Int32 × xMem))) fun J36 => if r1 = 0 then (J36 (nI 0) M2) else (if (M2.1 a0 15) = (nI 1) then (if ((M2.1 a0 13) - (M2.1 a0 14)) = (nI (xsn a1)) then (J36 (nI 1) M2) else (J36 (nI 0) M2)) else (J36 (nI 0) M2))
set_option maxRecDepth 100000 in
set_option maxHeartbeats 4000000 in
theorem lX11_isWord_39 {X : xCX} {r : Int32} {M' : xMem} (C : xCk X cX11_isWord RX11 5) (R0 : xRk X (some .boolean) (some (.int r), M')) (hnL : X.2.2.2.2.2.2.2.2.2.2.2.2.2 = 4) (p0 : Nat) (hp0 : xkd p0 = 11) (p1 : Nat) (hp1 : p1 < 30) (K : Int32 → Int32 → xMem → Option (Int32 × xMem)) (hK : ∀ (v2 : Int32) (v3 : Int32) (M : xMem), K v2 v3 M = some (r, M') → WW X 82 [some (vr X.1 p0), some (vs X.1 p1), some (.int v2), some (.int v3)] [] M) : ∀ (n : Nat) (v2 : Int32) (v3 : Int32) (M : xMem), fX11_isWord_l39 p0 p1 K n v2 v3 M = some (r, M') → WW X 39 [some (vr X.1 p0), some (vs X.1 p1), some (.int v2), some (.int v3)] [] M := by
  have hn2 : 2 < X.2.2.2.2.2.2.2.2.2.2.2.2.2 := by rw [hnL]; decide
  have hn3 : 3 < X.2.2.2.2.2.2.2.2.2.2.2.2.2 := by rw [hnL]; decide
  intro n
  induction n with
  | zero =>
    intro v2 v3 M h
    cases (show (none : Option (Int32 × xMem)) = some (r, M') from h)
  | succ n ih =>
    intro v2 v3 M h
    rw [fX11_isWord_l39.eq_2] at h
    refine r_iload_n (pc := 39) C dX11_isWord_39 rfl rfl ?_
    refine r_sload_n (pc := 40) C dX11_isWord_40 rfl rfl ?_
    refine r_slen (pc := 41) C hp1 lX11_183 (by decide) (Nat.le_of_ble_eq_true rfl) dX11_isWord_41 ?_
    refine r_icmp_ge (pc := 44) (tgt := 82) C dX11_isWord_44 (by decide) h (fun _ h => ?_) (fun _ h => ?_)
    · exact hK v2 v3 M h
    · refine r_iload_n (pc := 47) C dX11_isWord_47 rfl rfl ?_
      refine r_if_eq (pc := 48) (tgt := 82) C dX11_isWord_48 (by decide) h (fun _ h => ?_) (fun _ h => ?_)
      · exact hK v2 v3 M h
      · refine r_aload_n (pc := 51) C dX11_isWord_51 rfl rfl ?_
        refine r_getR (pc := 52) C kX11_23 hp0 (by decide) dX11_isWord_52 ?_
        refine r_aload_n (pc := 55) C dX11_isWord_55 rfl rfl ?_
        refine r_getI (pc := 56) C kX11_161 hp0 dX11_isWord_56 ?_
        refine r_iload_n (pc := 59) C dX11_isWord_59 rfl rfl ?_
        refine r_iadd (pc := 60) C dX11_isWord_60 ?_
        obtain ⟨g5, h⟩ := xGb_of h
        refine r_bald (pc := 61) C (xtk hp0 (by decide) rfl rfl) g5 dX11_isWord_61 ?_
        refine r_sload_n (pc := 62) C dX11_isWord_62 rfl rfl ?_
        refine r_iload_n (pc := 63) C dX11_isWord_63 rfl rfl ?_
        obtain ⟨g6, h⟩ := xGb_of h
        refine r_schar (pc := 64) C hp1 g6 lX11_188 (by decide) (Nat.le_of_ble_eq_true rfl) dX11_isWord_64 ?_
        refine r_jn (fun J => ∀ (s7 : Int32) (M8 : xMem) , J s7 M8 = some (r, M') → WW X 75 [some (vr X.1 p0), some (vs X.1 p1), some (.int v2), some (.int v3)] [.int s7] M8) h (fun s7 M8  h => ?_) (fun J75 hJ75 h => ?_)
        · refine r_istore_n (pc := 75) (lv' := [_, _, _, _]) C dX11_isWord_75 rfl hn2 rfl ?_
          refine r_iincL (pc := 76) (c := nI 1) C dX11_isWord_76 rfl (by decide) hn3 h (fun x9 h => ?_)
          refine r_lvE (lv' := [_, _, _, _]) rfl ?_
          refine r_goto (pc := 79) (tgt := 39) C dX11_isWord_79 (by decide) ?_
          exact ih s7 x9 M8 h
        refine r_icmp_ne (pc := 67) (tgt := 74) C dX11_isWord_67 (by decide) h (fun _ h => ?_) (fun _ h => ?_)
        · refine r_iconst (pc := 74) (v := (nI 0)) C dX11_isWord_74 (by decide) ?_
          exact hJ75 (nI 0) M  h
        · refine r_iconst (pc := 70) (v := (nI 1)) C dX11_isWord_70 (by decide) ?_
          refine r_goto (pc := 71) (tgt := 75) C dX11_isWord_71 (by decide) ?_
          exact hJ75 (nI 1) M  h
set_option maxRecDepth 100000 in
set_option maxHeartbeats 4000000 in
theorem zX11_isWord (G : xGX) (a0 : Nat) (h0 : xkd a0 = 11) (a1 : Nat) (h1 : a1 < 30) (M : xMem) (r : Int32) (M' : xMem) (h : fX11_isWord a0 a1 M = some (r, M')) : xCt G yX11_isWord cX11_isWord 4 (some .boolean) 5 [vr G a0, vs G a1] M (some (.int r), M') := by
  refine xMet (lv := [some (vr G a0), some (vs G a1), none, none]) (by decide) (Nat.le_of_ble_eq_true rfl) rfl ?_
  intro X hG hnL C R0
  subst hG
  have C : xCk X cX11_isWord RX11 5 := C
  have hn2 : 2 < X.2.2.2.2.2.2.2.2.2.2.2.2.2 := by rw [hnL]; decide
  have hn3 : 3 < X.2.2.2.2.2.2.2.2.2.2.2.2.2 := by rw [hnL]; decide
  unfold fX11_isWord at h
  refine r_aload_n (pc := 0) C dX11_isWord_0 rfl rfl ?_
  refine r_vI0 (pc := 1) C (fun r M' e => zX11_good X.1 a0 h0 M r M' e) h0 (by decide) rfl mX11_good lX11_149 (by decide) (Nat.le_of_ble_eq_true rfl) dX11_isWord_1 h (fun r1 M2 h => ?_)
  refine r_jn (fun J => ∀ (s3 : Int32) (M4 : xMem) , J s3 M4 = some (r, M') → WW X 36 [some (vr X.1 a0), some (vs X.1 a1), none, none] [.int s3] M4) h (fun s3 M4  h => ?_) (fun J36 hJ36 h => ?_)
  · refine r_istore_n (pc := 36) (lv' := [_, _, _, _]) C dX11_isWord_36 rfl hn2 rfl ?_
    refine r_iconst (pc := 37) (v := (nI 0)) C dX11_isWord_37 (by decide) ?_
    refine r_istore_n (pc := 38) (lv' := [_, _, _, _]) C dX11_isWord_38 rfl hn3 rfl ?_
    refine lX11_isWord_39 C R0 hnL a0 h0 a1 h1 _ (fun v10 v11 M12 h => ?_) _ _ _ _ h
    refine r_iload_n (pc := 82) C dX11_isWord_82 rfl rfl ?_
    obtain ⟨g13, h⟩ := xGd_of h
    exact r_zret (pc := 83) g13 C R0 h dX11_isWord_83
  refine r_if_eq (pc := 4) (tgt := 35) C dX11_isWord_4 (by decide) h (fun _ h => ?_) (fun _ h => ?_)
  · refine r_iconst (pc := 35) (v := (nI 0)) C dX11_isWord_35 (by decide) ?_
    exact hJ36 (nI 0) M2  h
  · refine r_aload_n (pc := 7) C dX11_isWord_7 rfl rfl ?_
    refine r_getI (pc := 8) C kX11_164 h0 dX11_isWord_8 ?_
    refine r_iconst (pc := 11) (v := (nI 1)) C dX11_isWord_11 (by decide) ?_
    refine r_icmp_ne (pc := 12) (tgt := 35) C dX11_isWord_12 (by decide) h (fun _ h => ?_) (fun _ h => ?_)
    · refine r_iconst (pc := 35) (v := (nI 0)) C dX11_isWord_35 (by decide) ?_
      exact hJ36 (nI 0) M2  h
    · refine r_aload_n (pc := 15) C dX11_isWord_15 rfl rfl ?_
      refine r_getI (pc := 16) C kX11_155 h0 dX11_isWord_16 ?_
      refine r_aload_n (pc := 19) C dX11_isWord_19 rfl rfl ?_
      refine r_getI (pc := 20) C kX11_161 h0 dX11_isWord_20 ?_
      refine r_isub (pc := 23) C dX11_isWord_23 ?_
      refine r_sload_n (pc := 24) C dX11_isWord_24 rfl rfl ?_
      refine r_slen (pc := 25) C h1 lX11_183 (by decide) (Nat.le_of_ble_eq_true rfl) dX11_isWord_25 ?_
      refine r_icmp_ne (pc := 28) (tgt := 35) C dX11_isWord_28 (by decide) h (fun _ h => ?_) (fun _ h => ?_)
      · refine r_iconst (pc := 35) (v := (nI 0)) C dX11_isWord_35 (by decide) ?_
        exact hJ36 (nI 0) M2  h
      · refine r_iconst (pc := 31) (v := (nI 1)) C dX11_isWord_31 (by decide) ?_
        refine r_goto (pc := 32) (tgt := 36) C dX11_isWord_32 (by decide) ?_
        exact hJ36 (nI 1) M2  h
theorem dX11_eats_0 : decode cX11_eats 0 = .ok (.aload_n 0, 1) := by decide +kernel
theorem dX11_eats_1 : decode cX11_eats 1 = .ok (.aload_n 1, 1) := by decide +kernel
theorem dX11_eats_2 : decode cX11_eats 2 = .ok (.invokevirtual 192, 3) := by decide +kernel
theorem dX11_eats_5 : decode cX11_eats 5 = .ok (.ifCond .ne 5, 3) := by decide +kernel
theorem dX11_eats_8 : decode cX11_eats 8 = .ok (.iconst 0, 1) := by decide +kernel
theorem dX11_eats_9 : decode cX11_eats 9 = .ok (.ireturn, 1) := by decide +kernel
theorem dX11_eats_10 : decode cX11_eats 10 = .ok (.aload_n 0, 1) := by decide +kernel
theorem dX11_eats_11 : decode cX11_eats 11 = .ok (.invokevirtual 196, 3) := by decide +kernel
theorem dX11_eats_14 : decode cX11_eats 14 = .ok (.iconst 1, 1) := by decide +kernel
theorem dX11_eats_15 : decode cX11_eats 15 = .ok (.ireturn, 1) := by decide +kernel
def fX11_eats (a0 : Nat) (a1 : Nat) (M : xMem) : Option (Int32 × xMem) :=
  xBn (fX11_isWord a0 a1 M) fun r1 M2 => if r1 = 0 then (some ((nI 0), M2)) else (xBv (fX11_advance a0 M2) fun M3 => some ((nI 1), M3))
set_option maxRecDepth 100000 in
set_option maxHeartbeats 4000000 in
theorem zX11_eats (G : xGX) (a0 : Nat) (h0 : xkd a0 = 11) (a1 : Nat) (h1 : a1 < 30) (M : xMem) (r : Int32) (M' : xMem) (h : fX11_eats a0 a1 M = some (r, M')) : xCt G yX11_eats cX11_eats 2 (some .boolean) 6 [vr G a0, vs G a1] M (some (.int r), M') := by
  refine xMet (lv := [some (vr G a0), some (vs G a1)]) (by decide) (Nat.le_of_ble_eq_true rfl) rfl ?_
  intro X hG hnL C R0
  subst hG
  have C : xCk X cX11_eats RX11 6 := C
  unfold fX11_eats at h
  refine r_aload_n (pc := 0) C dX11_eats_0 rfl rfl ?_
  refine r_sload_n (pc := 1) C dX11_eats_1 rfl rfl ?_
  refine r_vI1 (pc := 2) C (fun r M' e => zX11_isWord X.1 a0 h0 a1 h1 M r M' e) h0 (by decide) rfl mX11_isWord lX11_192 (by decide) (Nat.le_of_ble_eq_true rfl) dX11_eats_2 h (fun r1 M2 h => ?_)
  refine r_if_ne (pc := 5) (tgt := 10) C dX11_eats_5 (by decide) h (fun _ h => ?_) (fun _ h => ?_)
  · refine r_aload_n (pc := 10) C dX11_eats_10 rfl rfl ?_
    refine r_vV0 (pc := 11) C (fun M' e => zX11_advance X.1 a0 h0 M2 M' e) h0 (by decide) rfl mX11_advance lX11_196 (by decide) (Nat.le_of_ble_eq_true rfl) dX11_eats_11 h (fun M3 h => ?_)
    refine r_iconst (pc := 14) (v := (nI 1)) C dX11_eats_14 (by decide) ?_
    exact r_zret (pc := 15) (Or.inr (by decide)) C R0 h dX11_eats_15
  · refine r_iconst (pc := 8) (v := (nI 0)) C dX11_eats_8 (by decide) ?_
    exact r_zret (pc := 9) (Or.inl (by decide)) C R0 h dX11_eats_9
theorem dX11_passes_0 : decode cX11_passes 0 = .ok (.aload_n 0, 1) := by decide +kernel
theorem dX11_passes_1 : decode cX11_passes 1 = .ok (.aload_n 1, 1) := by decide +kernel
theorem dX11_passes_2 : decode cX11_passes 2 = .ok (.invokevirtual 199, 3) := by decide +kernel
theorem dX11_passes_5 : decode cX11_passes 5 = .ok (.ifCond .ne 12, 3) := by decide +kernel
theorem dX11_passes_8 : decode cX11_passes 8 = .ok (.aload_n 0, 1) := by decide +kernel
theorem dX11_passes_9 : decode cX11_passes 9 = .ok (.iconst 1, 1) := by decide +kernel
theorem dX11_passes_10 : decode cX11_passes 10 = .ok (.aload_n 0, 1) := by decide +kernel
theorem dX11_passes_11 : decode cX11_passes 11 = .ok (.getfield 161, 3) := by decide +kernel
theorem dX11_passes_14 : decode cX11_passes 14 = .ok (.invokevirtual 202, 3) := by decide +kernel
theorem dX11_passes_17 : decode cX11_passes 17 = .ok (.return_, 1) := by decide +kernel
def fX11_passes (a0 : Nat) (a1 : Nat) (M : xMem) : Option (xMem) :=
  xBn (fX11_eats a0 a1 M) fun r1 M2 => if r1 = 0 then (xBv (fX11_errs a0 (nI 1) (M2.1 a0 14) M2) fun M3 => some M3) else (some M2)
set_option maxRecDepth 100000 in
set_option maxHeartbeats 4000000 in
theorem zX11_passes (G : xGX) (a0 : Nat) (h0 : xkd a0 = 11) (a1 : Nat) (h1 : a1 < 30) (M : xMem) (M' : xMem) (h : fX11_passes a0 a1 M = some M') : xCt G yX11_passes cX11_passes 2 none 7 [vr G a0, vs G a1] M (none, M') := by
  refine xMet (lv := [some (vr G a0), some (vs G a1)]) (by decide) (Nat.le_of_ble_eq_true rfl) rfl ?_
  intro X hG hnL C R0
  subst hG
  have C : xCk X cX11_passes RX11 7 := C
  unfold fX11_passes at h
  refine r_aload_n (pc := 0) C dX11_passes_0 rfl rfl ?_
  refine r_sload_n (pc := 1) C dX11_passes_1 rfl rfl ?_
  refine r_vI1 (pc := 2) C (fun r M' e => zX11_eats X.1 a0 h0 a1 h1 M r M' e) h0 (by decide) rfl mX11_eats lX11_199 (by decide) (Nat.le_of_ble_eq_true rfl) dX11_passes_2 h (fun r1 M2 h => ?_)
  refine r_if_ne (pc := 5) (tgt := 17) C dX11_passes_5 (by decide) h (fun _ h => ?_) (fun _ h => ?_)
  · exact r_vret (pc := 17) C R0 h dX11_passes_17
  · refine r_aload_n (pc := 8) C dX11_passes_8 rfl rfl ?_
    refine r_iconst (pc := 9) (v := (nI 1)) C dX11_passes_9 (by decide) ?_
    refine r_aload_n (pc := 10) C dX11_passes_10 rfl rfl ?_
    refine r_getI (pc := 11) C kX11_161 h0 dX11_passes_11 ?_
    refine r_vV2 (pc := 14) C (fun M' e => zX11_errs X.1 a0 h0 (nI 1) (M2.1 a0 14) M2 M' e) h0 (by decide) rfl mX11_errs lX11_202 (by decide) (Nat.le_of_ble_eq_true rfl) dX11_passes_14 h (fun M3 h => ?_)
    exact r_vret (pc := 17) C R0 h dX11_passes_17
theorem dX11_eatsByte_0 : decode cX11_eatsByte 0 = .ok (.aload_n 0, 1) := by decide +kernel
theorem dX11_eatsByte_1 : decode cX11_eatsByte 1 = .ok (.invokevirtual 149, 3) := by decide +kernel
theorem dX11_eatsByte_4 : decode cX11_eatsByte 4 = .ok (.ifCond .eq 19, 3) := by decide +kernel
theorem dX11_eatsByte_7 : decode cX11_eatsByte 7 = .ok (.aload_n 0, 1) := by decide +kernel
theorem dX11_eatsByte_8 : decode cX11_eatsByte 8 = .ok (.getfield 164, 3) := by decide +kernel
theorem dX11_eatsByte_11 : decode cX11_eatsByte 11 = .ok (.iconst 3, 1) := by decide +kernel
theorem dX11_eatsByte_12 : decode cX11_eatsByte 12 = .ok (.if_icmp .ne 11, 3) := by decide +kernel
theorem dX11_eatsByte_15 : decode cX11_eatsByte 15 = .ok (.aload_n 0, 1) := by decide +kernel
theorem dX11_eatsByte_16 : decode cX11_eatsByte 16 = .ok (.getfield 175, 3) := by decide +kernel
theorem dX11_eatsByte_19 : decode cX11_eatsByte 19 = .ok (.iload_n 1, 1) := by decide +kernel
theorem dX11_eatsByte_20 : decode cX11_eatsByte 20 = .ok (.if_icmp .eq 5, 3) := by decide +kernel
theorem dX11_eatsByte_23 : decode cX11_eatsByte 23 = .ok (.iconst 0, 1) := by decide +kernel
theorem dX11_eatsByte_24 : decode cX11_eatsByte 24 = .ok (.ireturn, 1) := by decide +kernel
theorem dX11_eatsByte_25 : decode cX11_eatsByte 25 = .ok (.aload_n 0, 1) := by decide +kernel
theorem dX11_eatsByte_26 : decode cX11_eatsByte 26 = .ok (.invokevirtual 196, 3) := by decide +kernel
theorem dX11_eatsByte_29 : decode cX11_eatsByte 29 = .ok (.iconst 1, 1) := by decide +kernel
theorem dX11_eatsByte_30 : decode cX11_eatsByte 30 = .ok (.ireturn, 1) := by decide +kernel
def fX11_eatsByte (a0 : Nat) (a1 : Int32) (M : xMem) : Option (Int32 × xMem) :=
  xBn (fX11_good a0 M) fun r1 M2 => if r1 = 0 then (some ((nI 0), M2)) else (if (M2.1 a0 15) = (nI 3) then (if (M2.1 a0 16) = a1 then (xBv (fX11_advance a0 M2) fun M3 => some ((nI 1), M3)) else (some ((nI 0), M2))) else (some ((nI 0), M2)))
set_option maxRecDepth 100000 in
set_option maxHeartbeats 4000000 in
theorem zX11_eatsByte (G : xGX) (a0 : Nat) (h0 : xkd a0 = 11) (a1 : Int32) (M : xMem) (r : Int32) (M' : xMem) (h : fX11_eatsByte a0 a1 M = some (r, M')) : xCt G yX11_eatsByte cX11_eatsByte 2 (some .boolean) 3 [vr G a0, .int a1] M (some (.int r), M') := by
  refine xMet (lv := [some (vr G a0), some (.int a1)]) (by decide) (Nat.le_of_ble_eq_true rfl) rfl ?_
  intro X hG hnL C R0
  subst hG
  have C : xCk X cX11_eatsByte RX11 3 := C
  unfold fX11_eatsByte at h
  refine r_aload_n (pc := 0) C dX11_eatsByte_0 rfl rfl ?_
  refine r_vI0 (pc := 1) C (fun r M' e => zX11_good X.1 a0 h0 M r M' e) h0 (by decide) rfl mX11_good lX11_149 (by decide) (Nat.le_of_ble_eq_true rfl) dX11_eatsByte_1 h (fun r1 M2 h => ?_)
  refine r_if_eq (pc := 4) (tgt := 23) C dX11_eatsByte_4 (by decide) h (fun _ h => ?_) (fun _ h => ?_)
  · refine r_iconst (pc := 23) (v := (nI 0)) C dX11_eatsByte_23 (by decide) ?_
    exact r_zret (pc := 24) (Or.inl (by decide)) C R0 h dX11_eatsByte_24
  · refine r_aload_n (pc := 7) C dX11_eatsByte_7 rfl rfl ?_
    refine r_getI (pc := 8) C kX11_164 h0 dX11_eatsByte_8 ?_
    refine r_iconst (pc := 11) (v := (nI 3)) C dX11_eatsByte_11 (by decide) ?_
    refine r_icmp_ne (pc := 12) (tgt := 23) C dX11_eatsByte_12 (by decide) h (fun _ h => ?_) (fun _ h => ?_)
    · refine r_iconst (pc := 23) (v := (nI 0)) C dX11_eatsByte_23 (by decide) ?_
      exact r_zret (pc := 24) (Or.inl (by decide)) C R0 h dX11_eatsByte_24
    · refine r_aload_n (pc := 15) C dX11_eatsByte_15 rfl rfl ?_
      refine r_getI (pc := 16) C kX11_175 h0 dX11_eatsByte_16 ?_
      refine r_iload_n (pc := 19) C dX11_eatsByte_19 rfl rfl ?_
      refine r_icmp_eq (pc := 20) (tgt := 25) C dX11_eatsByte_20 (by decide) h (fun _ h => ?_) (fun _ h => ?_)
      · refine r_aload_n (pc := 25) C dX11_eatsByte_25 rfl rfl ?_
        refine r_vV0 (pc := 26) C (fun M' e => zX11_advance X.1 a0 h0 M2 M' e) h0 (by decide) rfl mX11_advance lX11_196 (by decide) (Nat.le_of_ble_eq_true rfl) dX11_eatsByte_26 h (fun M3 h => ?_)
        refine r_iconst (pc := 29) (v := (nI 1)) C dX11_eatsByte_29 (by decide) ?_
        exact r_zret (pc := 30) (Or.inr (by decide)) C R0 h dX11_eatsByte_30
      · refine r_iconst (pc := 23) (v := (nI 0)) C dX11_eatsByte_23 (by decide) ?_
        exact r_zret (pc := 24) (Or.inl (by decide)) C R0 h dX11_eatsByte_24
theorem dX11_passesByte_0 : decode cX11_passesByte 0 = .ok (.aload_n 0, 1) := by decide +kernel
theorem dX11_passesByte_1 : decode cX11_passesByte 1 = .ok (.iload_n 1, 1) := by decide +kernel
theorem dX11_passesByte_2 : decode cX11_passesByte 2 = .ok (.invokevirtual 205, 3) := by decide +kernel
theorem dX11_passesByte_5 : decode cX11_passesByte 5 = .ok (.ifCond .ne 12, 3) := by decide +kernel
theorem dX11_passesByte_8 : decode cX11_passesByte 8 = .ok (.aload_n 0, 1) := by decide +kernel
theorem dX11_passesByte_9 : decode cX11_passesByte 9 = .ok (.iconst 1, 1) := by decide +kernel
theorem dX11_passesByte_10 : decode cX11_passesByte 10 = .ok (.aload_n 0, 1) := by decide +kernel
theorem dX11_passesByte_11 : decode cX11_passesByte 11 = .ok (.getfield 161, 3) := by decide +kernel
theorem dX11_passesByte_14 : decode cX11_passesByte 14 = .ok (.invokevirtual 202, 3) := by decide +kernel
theorem dX11_passesByte_17 : decode cX11_passesByte 17 = .ok (.return_, 1) := by decide +kernel
def fX11_passesByte (a0 : Nat) (a1 : Int32) (M : xMem) : Option (xMem) :=
  xBn (fX11_eatsByte a0 a1 M) fun r1 M2 => if r1 = 0 then (xBv (fX11_errs a0 (nI 1) (M2.1 a0 14) M2) fun M3 => some M3) else (some M2)
set_option maxRecDepth 100000 in
set_option maxHeartbeats 4000000 in
theorem zX11_passesByte (G : xGX) (a0 : Nat) (h0 : xkd a0 = 11) (a1 : Int32) (M : xMem) (M' : xMem) (h : fX11_passesByte a0 a1 M = some M') : xCt G yX11_passesByte cX11_passesByte 2 none 4 [vr G a0, .int a1] M (none, M') := by
  refine xMet (lv := [some (vr G a0), some (.int a1)]) (by decide) (Nat.le_of_ble_eq_true rfl) rfl ?_
  intro X hG hnL C R0
  subst hG
  have C : xCk X cX11_passesByte RX11 4 := C
  unfold fX11_passesByte at h
  refine r_aload_n (pc := 0) C dX11_passesByte_0 rfl rfl ?_
  refine r_iload_n (pc := 1) C dX11_passesByte_1 rfl rfl ?_
  refine r_vI1 (pc := 2) C (fun r M' e => zX11_eatsByte X.1 a0 h0 a1 M r M' e) h0 (by decide) rfl mX11_eatsByte lX11_205 (by decide) (Nat.le_of_ble_eq_true rfl) dX11_passesByte_2 h (fun r1 M2 h => ?_)
  refine r_if_ne (pc := 5) (tgt := 17) C dX11_passesByte_5 (by decide) h (fun _ h => ?_) (fun _ h => ?_)
  · exact r_vret (pc := 17) C R0 h dX11_passesByte_17
  · refine r_aload_n (pc := 8) C dX11_passesByte_8 rfl rfl ?_
    refine r_iconst (pc := 9) (v := (nI 1)) C dX11_passesByte_9 (by decide) ?_
    refine r_aload_n (pc := 10) C dX11_passesByte_10 rfl rfl ?_
    refine r_getI (pc := 11) C kX11_161 h0 dX11_passesByte_11 ?_
    refine r_vV2 (pc := 14) C (fun M' e => zX11_errs X.1 a0 h0 (nI 1) (M2.1 a0 14) M2 M' e) h0 (by decide) rfl mX11_errs lX11_202 (by decide) (Nat.le_of_ble_eq_true rfl) dX11_passesByte_14 h (fun M3 h => ?_)
    exact r_vret (pc := 17) C R0 h dX11_passesByte_17
theorem dX11_isOwn_0 : decode cX11_isOwn 0 = .ok (.aload_n 0, 1) := by decide +kernel
theorem dX11_isOwn_1 : decode cX11_isOwn 1 = .ok (.ldc 208, 2) := by decide +kernel
theorem dX11_isOwn_3 : decode cX11_isOwn 3 = .ok (.invokevirtual 192, 3) := by decide +kernel
theorem dX11_isOwn_6 : decode cX11_isOwn 6 = .ok (.ifCond .ne 75, 3) := by decide +kernel
theorem dX11_isOwn_9 : decode cX11_isOwn 9 = .ok (.aload_n 0, 1) := by decide +kernel
theorem dX11_isOwn_10 : decode cX11_isOwn 10 = .ok (.ldc 210, 2) := by decide +kernel
theorem dX11_isOwn_12 : decode cX11_isOwn 12 = .ok (.invokevirtual 192, 3) := by decide +kernel
theorem dX11_isOwn_15 : decode cX11_isOwn 15 = .ok (.ifCond .ne 66, 3) := by decide +kernel
theorem dX11_isOwn_18 : decode cX11_isOwn 18 = .ok (.aload_n 0, 1) := by decide +kernel
theorem dX11_isOwn_19 : decode cX11_isOwn 19 = .ok (.ldc 212, 2) := by decide +kernel
theorem dX11_isOwn_21 : decode cX11_isOwn 21 = .ok (.invokevirtual 192, 3) := by decide +kernel
theorem dX11_isOwn_24 : decode cX11_isOwn 24 = .ok (.ifCond .ne 57, 3) := by decide +kernel
theorem dX11_isOwn_27 : decode cX11_isOwn 27 = .ok (.aload_n 0, 1) := by decide +kernel
theorem dX11_isOwn_28 : decode cX11_isOwn 28 = .ok (.ldc 214, 2) := by decide +kernel
theorem dX11_isOwn_30 : decode cX11_isOwn 30 = .ok (.invokevirtual 192, 3) := by decide +kernel
theorem dX11_isOwn_33 : decode cX11_isOwn 33 = .ok (.ifCond .ne 48, 3) := by decide +kernel
theorem dX11_isOwn_36 : decode cX11_isOwn 36 = .ok (.aload_n 0, 1) := by decide +kernel
theorem dX11_isOwn_37 : decode cX11_isOwn 37 = .ok (.ldc 216, 2) := by decide +kernel
theorem dX11_isOwn_39 : decode cX11_isOwn 39 = .ok (.invokevirtual 192, 3) := by decide +kernel
theorem dX11_isOwn_42 : decode cX11_isOwn 42 = .ok (.ifCond .ne 39, 3) := by decide +kernel
theorem dX11_isOwn_45 : decode cX11_isOwn 45 = .ok (.aload_n 0, 1) := by decide +kernel
theorem dX11_isOwn_46 : decode cX11_isOwn 46 = .ok (.ldc 218, 2) := by decide +kernel
theorem dX11_isOwn_48 : decode cX11_isOwn 48 = .ok (.invokevirtual 192, 3) := by decide +kernel
theorem dX11_isOwn_51 : decode cX11_isOwn 51 = .ok (.ifCond .ne 30, 3) := by decide +kernel
theorem dX11_isOwn_54 : decode cX11_isOwn 54 = .ok (.aload_n 0, 1) := by decide +kernel
theorem dX11_isOwn_55 : decode cX11_isOwn 55 = .ok (.ldc 220, 2) := by decide +kernel
theorem dX11_isOwn_57 : decode cX11_isOwn 57 = .ok (.invokevirtual 192, 3) := by decide +kernel
theorem dX11_isOwn_60 : decode cX11_isOwn 60 = .ok (.ifCond .ne 21, 3) := by decide +kernel
theorem dX11_isOwn_63 : decode cX11_isOwn 63 = .ok (.aload_n 0, 1) := by decide +kernel
theorem dX11_isOwn_64 : decode cX11_isOwn 64 = .ok (.ldc 222, 2) := by decide +kernel
theorem dX11_isOwn_66 : decode cX11_isOwn 66 = .ok (.invokevirtual 192, 3) := by decide +kernel
theorem dX11_isOwn_69 : decode cX11_isOwn 69 = .ok (.ifCond .ne 12, 3) := by decide +kernel
theorem dX11_isOwn_72 : decode cX11_isOwn 72 = .ok (.aload_n 0, 1) := by decide +kernel
theorem dX11_isOwn_73 : decode cX11_isOwn 73 = .ok (.ldc 224, 2) := by decide +kernel
theorem dX11_isOwn_75 : decode cX11_isOwn 75 = .ok (.invokevirtual 192, 3) := by decide +kernel
theorem dX11_isOwn_78 : decode cX11_isOwn 78 = .ok (.ifCond .eq 7, 3) := by decide +kernel
theorem dX11_isOwn_81 : decode cX11_isOwn 81 = .ok (.iconst 1, 1) := by decide +kernel
theorem dX11_isOwn_82 : decode cX11_isOwn 82 = .ok (.goto 4, 3) := by decide +kernel
theorem dX11_isOwn_85 : decode cX11_isOwn 85 = .ok (.iconst 0, 1) := by decide +kernel
theorem dX11_isOwn_86 : decode cX11_isOwn 86 = .ok (.istore_n 1, 1) := by decide +kernel
theorem dX11_isOwn_87 : decode cX11_isOwn 87 = .ok (.iload_n 1, 1) := by decide +kernel
theorem dX11_isOwn_88 : decode cX11_isOwn 88 = .ok (.ifCond .ne 75, 3) := by decide +kernel
theorem dX11_isOwn_91 : decode cX11_isOwn 91 = .ok (.aload_n 0, 1) := by decide +kernel
theorem dX11_isOwn_92 : decode cX11_isOwn 92 = .ok (.ldc 226, 2) := by decide +kernel
theorem dX11_isOwn_94 : decode cX11_isOwn 94 = .ok (.invokevirtual 192, 3) := by decide +kernel
theorem dX11_isOwn_97 : decode cX11_isOwn 97 = .ok (.ifCond .ne 66, 3) := by decide +kernel
theorem dX11_isOwn_100 : decode cX11_isOwn 100 = .ok (.aload_n 0, 1) := by decide +kernel
theorem dX11_isOwn_101 : decode cX11_isOwn 101 = .ok (.ldc 228, 2) := by decide +kernel
theorem dX11_isOwn_103 : decode cX11_isOwn 103 = .ok (.invokevirtual 192, 3) := by decide +kernel
theorem dX11_isOwn_106 : decode cX11_isOwn 106 = .ok (.ifCond .ne 57, 3) := by decide +kernel
theorem dX11_isOwn_109 : decode cX11_isOwn 109 = .ok (.aload_n 0, 1) := by decide +kernel
theorem dX11_isOwn_110 : decode cX11_isOwn 110 = .ok (.ldc 230, 2) := by decide +kernel
theorem dX11_isOwn_112 : decode cX11_isOwn 112 = .ok (.invokevirtual 192, 3) := by decide +kernel
theorem dX11_isOwn_115 : decode cX11_isOwn 115 = .ok (.ifCond .ne 48, 3) := by decide +kernel
theorem dX11_isOwn_118 : decode cX11_isOwn 118 = .ok (.aload_n 0, 1) := by decide +kernel
theorem dX11_isOwn_119 : decode cX11_isOwn 119 = .ok (.ldc 232, 2) := by decide +kernel
theorem dX11_isOwn_121 : decode cX11_isOwn 121 = .ok (.invokevirtual 192, 3) := by decide +kernel
theorem dX11_isOwn_124 : decode cX11_isOwn 124 = .ok (.ifCond .ne 39, 3) := by decide +kernel
theorem dX11_isOwn_127 : decode cX11_isOwn 127 = .ok (.aload_n 0, 1) := by decide +kernel
theorem dX11_isOwn_128 : decode cX11_isOwn 128 = .ok (.ldc 234, 2) := by decide +kernel
theorem dX11_isOwn_130 : decode cX11_isOwn 130 = .ok (.invokevirtual 192, 3) := by decide +kernel
theorem dX11_isOwn_133 : decode cX11_isOwn 133 = .ok (.ifCond .ne 30, 3) := by decide +kernel
theorem dX11_isOwn_136 : decode cX11_isOwn 136 = .ok (.aload_n 0, 1) := by decide +kernel
theorem dX11_isOwn_137 : decode cX11_isOwn 137 = .ok (.ldc 235, 2) := by decide +kernel
theorem dX11_isOwn_139 : decode cX11_isOwn 139 = .ok (.invokevirtual 192, 3) := by decide +kernel
theorem dX11_isOwn_142 : decode cX11_isOwn 142 = .ok (.ifCond .ne 21, 3) := by decide +kernel
theorem dX11_isOwn_145 : decode cX11_isOwn 145 = .ok (.aload_n 0, 1) := by decide +kernel
theorem dX11_isOwn_146 : decode cX11_isOwn 146 = .ok (.ldc 237, 2) := by decide +kernel
theorem dX11_isOwn_148 : decode cX11_isOwn 148 = .ok (.invokevirtual 192, 3) := by decide +kernel
theorem dX11_isOwn_151 : decode cX11_isOwn 151 = .ok (.ifCond .ne 12, 3) := by decide +kernel
theorem dX11_isOwn_154 : decode cX11_isOwn 154 = .ok (.aload_n 0, 1) := by decide +kernel
theorem dX11_isOwn_155 : decode cX11_isOwn 155 = .ok (.ldc 239, 2) := by decide +kernel
theorem dX11_isOwn_157 : decode cX11_isOwn 157 = .ok (.invokevirtual 192, 3) := by decide +kernel
theorem dX11_isOwn_160 : decode cX11_isOwn 160 = .ok (.ifCond .eq 7, 3) := by decide +kernel
theorem dX11_isOwn_163 : decode cX11_isOwn 163 = .ok (.iconst 1, 1) := by decide +kernel
theorem dX11_isOwn_164 : decode cX11_isOwn 164 = .ok (.goto 4, 3) := by decide +kernel
theorem dX11_isOwn_167 : decode cX11_isOwn 167 = .ok (.iconst 0, 1) := by decide +kernel
theorem dX11_isOwn_168 : decode cX11_isOwn 168 = .ok (.ireturn, 1) := by decide +kernel
def fX11_isOwn (a0 : Nat) (M : xMem) : Option (Int32 × xMem) :=
  xBn (fX11_isWord a0 7 M) fun r1 M2 => xLt (fun (s3 : Int32) (M4 : xMem) => (if s3 = 0 then (xBn (fX11_isWord a0 16 M4) fun r5 M6 => if r5 = 0 then (xBn (fX11_isWord a0 17 M6) fun r7 M8 => if r7 = 0 then (xBn (fX11_isWord a0 18 M8) fun r9 M10 => if r9 = 0 then (xBn (fX11_isWord a0 19 M10) fun r11 M12 => if r11 = 0 then (xBn (fX11_isWord a0 20 M12) fun r13 M14 => if r13 = 0 then (xBn (fX11_isWord a0 21 M14) fun r15 M16 => if r15 = 0 then (xBn (fX11_isWord a0 22 M16) fun r17 M18 => if r17 = 0 then (xBn (fX11_isWord a0 23 M18) fun r19 M20 => if r19 = 0 then (some ((nI 0), M20)) else (some ((nI 1), M20))) else (some ((nI 1), M18))) else (some ((nI 1), M16))) else (some ((nI 1), M14))) else (some ((nI 1), M12))) else (some ((nI 1), M10))) else (some ((nI 1), M8))) else (some ((nI 1), M6))) else (some ((nI 1), M4)) : Option (Int32 × xMem))) fun J86 => if r1 = 0 then (xBn (fX11_isWord a0 8 M2) fun r21 M22 => if r21 = 0 then (xBn (fX11_isWord a0 9 M22) fun r23 M24 => if r23 = 0 then (xBn (fX11_isWord a0 10 M24) fun r25 M26 => if r25 = 0 then (xBn (fX11_isWord a0 11 M26) fun r27 M28 => if r27 = 0 then (xBn (fX11_isWord a0 12 M28) fun r29 M30 => if r29 = 0 then (xBn (fX11_isWord a0 13 M30) fun r31 M32 => if r31 = 0 then (xBn (fX11_isWord a0 14 M32) fun r33 M34 => if r33 = 0 then (xBn (fX11_isWord a0 15 M34) fun r35 M36 => if r35 = 0 then (J86 (nI 0) M36) else (J86 (nI 1) M36)) else (J86 (nI 1) M34)) else (J86 (nI 1) M32)) else (J86 (nI 1) M30)) else (J86 (nI 1) M28)) else (J86 (nI 1) M26)) else (J86 (nI 1) M24)) else (J86 (nI 1) M22)) else (J86 (nI 1) M2)
set_option maxRecDepth 100000 in
set_option maxHeartbeats 4000000 in
theorem zX11_isOwn (G : xGX) (a0 : Nat) (h0 : xkd a0 = 11) (M : xMem) (r : Int32) (M' : xMem) (h : fX11_isOwn a0 M = some (r, M')) : xCt G yX11_isOwn cX11_isOwn 2 (some .boolean) 6 [vr G a0] M (some (.int r), M') := by
  refine xMet (lv := [some (vr G a0), none]) (by decide) (Nat.le_of_ble_eq_true rfl) rfl ?_
  intro X hG hnL C R0
  subst hG
  have C : xCk X cX11_isOwn RX11 6 := C
  have hn1 : 1 < X.2.2.2.2.2.2.2.2.2.2.2.2.2 := by rw [hnL]; decide
  unfold fX11_isOwn at h
  refine r_aload_n (pc := 0) C dX11_isOwn_0 rfl rfl ?_
  refine r_ldcS (pc := 1) (i := 7) C (by decide) rfl dX11_isOwn_1 ?_
  refine r_vI1 (pc := 3) C (fun r M' e => zX11_isWord X.1 a0 h0 7 (by decide) M r M' e) h0 (by decide) rfl mX11_isWord lX11_192 (by decide) (Nat.le_of_ble_eq_true rfl) dX11_isOwn_3 h (fun r1 M2 h => ?_)
  refine r_jn (fun J => ∀ (s3 : Int32) (M4 : xMem) , J s3 M4 = some (r, M') → WW X 86 [some (vr X.1 a0), none] [.int s3] M4) h (fun s3 M4  h => ?_) (fun J86 hJ86 h => ?_)
  · refine r_istore_n (pc := 86) (lv' := [_, _]) C dX11_isOwn_86 rfl hn1 rfl ?_
    refine r_iload_n (pc := 87) C dX11_isOwn_87 rfl rfl ?_
    refine r_if_ne (pc := 88) (tgt := 163) C dX11_isOwn_88 (by decide) h (fun _ h => ?_) (fun _ h => ?_)
    · refine r_iconst (pc := 163) (v := (nI 1)) C dX11_isOwn_163 (by decide) ?_
      refine r_goto (pc := 164) (tgt := 168) C dX11_isOwn_164 (by decide) ?_
      exact r_zret (pc := 168) (Or.inr (by decide)) C R0 h dX11_isOwn_168
    · refine r_aload_n (pc := 91) C dX11_isOwn_91 rfl rfl ?_
      refine r_ldcS (pc := 92) (i := 16) C (by decide) rfl dX11_isOwn_92 ?_
      refine r_vI1 (pc := 94) C (fun r M' e => zX11_isWord X.1 a0 h0 16 (by decide) M4 r M' e) h0 (by decide) rfl mX11_isWord lX11_192 (by decide) (Nat.le_of_ble_eq_true rfl) dX11_isOwn_94 h (fun r5 M6 h => ?_)
      refine r_if_ne (pc := 97) (tgt := 163) C dX11_isOwn_97 (by decide) h (fun _ h => ?_) (fun _ h => ?_)
      · refine r_iconst (pc := 163) (v := (nI 1)) C dX11_isOwn_163 (by decide) ?_
        refine r_goto (pc := 164) (tgt := 168) C dX11_isOwn_164 (by decide) ?_
        exact r_zret (pc := 168) (Or.inr (by decide)) C R0 h dX11_isOwn_168
      · refine r_aload_n (pc := 100) C dX11_isOwn_100 rfl rfl ?_
        refine r_ldcS (pc := 101) (i := 17) C (by decide) rfl dX11_isOwn_101 ?_
        refine r_vI1 (pc := 103) C (fun r M' e => zX11_isWord X.1 a0 h0 17 (by decide) M6 r M' e) h0 (by decide) rfl mX11_isWord lX11_192 (by decide) (Nat.le_of_ble_eq_true rfl) dX11_isOwn_103 h (fun r7 M8 h => ?_)
        refine r_if_ne (pc := 106) (tgt := 163) C dX11_isOwn_106 (by decide) h (fun _ h => ?_) (fun _ h => ?_)
        · refine r_iconst (pc := 163) (v := (nI 1)) C dX11_isOwn_163 (by decide) ?_
          refine r_goto (pc := 164) (tgt := 168) C dX11_isOwn_164 (by decide) ?_
          exact r_zret (pc := 168) (Or.inr (by decide)) C R0 h dX11_isOwn_168
        · refine r_aload_n (pc := 109) C dX11_isOwn_109 rfl rfl ?_
          refine r_ldcS (pc := 110) (i := 18) C (by decide) rfl dX11_isOwn_110 ?_
          refine r_vI1 (pc := 112) C (fun r M' e => zX11_isWord X.1 a0 h0 18 (by decide) M8 r M' e) h0 (by decide) rfl mX11_isWord lX11_192 (by decide) (Nat.le_of_ble_eq_true rfl) dX11_isOwn_112 h (fun r9 M10 h => ?_)
          refine r_if_ne (pc := 115) (tgt := 163) C dX11_isOwn_115 (by decide) h (fun _ h => ?_) (fun _ h => ?_)
          · refine r_iconst (pc := 163) (v := (nI 1)) C dX11_isOwn_163 (by decide) ?_
            refine r_goto (pc := 164) (tgt := 168) C dX11_isOwn_164 (by decide) ?_
            exact r_zret (pc := 168) (Or.inr (by decide)) C R0 h dX11_isOwn_168
          · refine r_aload_n (pc := 118) C dX11_isOwn_118 rfl rfl ?_
            refine r_ldcS (pc := 119) (i := 19) C (by decide) rfl dX11_isOwn_119 ?_
            refine r_vI1 (pc := 121) C (fun r M' e => zX11_isWord X.1 a0 h0 19 (by decide) M10 r M' e) h0 (by decide) rfl mX11_isWord lX11_192 (by decide) (Nat.le_of_ble_eq_true rfl) dX11_isOwn_121 h (fun r11 M12 h => ?_)
            refine r_if_ne (pc := 124) (tgt := 163) C dX11_isOwn_124 (by decide) h (fun _ h => ?_) (fun _ h => ?_)
            · refine r_iconst (pc := 163) (v := (nI 1)) C dX11_isOwn_163 (by decide) ?_
              refine r_goto (pc := 164) (tgt := 168) C dX11_isOwn_164 (by decide) ?_
              exact r_zret (pc := 168) (Or.inr (by decide)) C R0 h dX11_isOwn_168
            · refine r_aload_n (pc := 127) C dX11_isOwn_127 rfl rfl ?_
              refine r_ldcS (pc := 128) (i := 20) C (by decide) rfl dX11_isOwn_128 ?_
              refine r_vI1 (pc := 130) C (fun r M' e => zX11_isWord X.1 a0 h0 20 (by decide) M12 r M' e) h0 (by decide) rfl mX11_isWord lX11_192 (by decide) (Nat.le_of_ble_eq_true rfl) dX11_isOwn_130 h (fun r13 M14 h => ?_)
              refine r_if_ne (pc := 133) (tgt := 163) C dX11_isOwn_133 (by decide) h (fun _ h => ?_) (fun _ h => ?_)
              · refine r_iconst (pc := 163) (v := (nI 1)) C dX11_isOwn_163 (by decide) ?_
                refine r_goto (pc := 164) (tgt := 168) C dX11_isOwn_164 (by decide) ?_
                exact r_zret (pc := 168) (Or.inr (by decide)) C R0 h dX11_isOwn_168
              · refine r_aload_n (pc := 136) C dX11_isOwn_136 rfl rfl ?_
                refine r_ldcS (pc := 137) (i := 21) C (by decide) rfl dX11_isOwn_137 ?_
                refine r_vI1 (pc := 139) C (fun r M' e => zX11_isWord X.1 a0 h0 21 (by decide) M14 r M' e) h0 (by decide) rfl mX11_isWord lX11_192 (by decide) (Nat.le_of_ble_eq_true rfl) dX11_isOwn_139 h (fun r15 M16 h => ?_)
                refine r_if_ne (pc := 142) (tgt := 163) C dX11_isOwn_142 (by decide) h (fun _ h => ?_) (fun _ h => ?_)
                · refine r_iconst (pc := 163) (v := (nI 1)) C dX11_isOwn_163 (by decide) ?_
                  refine r_goto (pc := 164) (tgt := 168) C dX11_isOwn_164 (by decide) ?_
                  exact r_zret (pc := 168) (Or.inr (by decide)) C R0 h dX11_isOwn_168
                · refine r_aload_n (pc := 145) C dX11_isOwn_145 rfl rfl ?_
                  refine r_ldcS (pc := 146) (i := 22) C (by decide) rfl dX11_isOwn_146 ?_
                  refine r_vI1 (pc := 148) C (fun r M' e => zX11_isWord X.1 a0 h0 22 (by decide) M16 r M' e) h0 (by decide) rfl mX11_isWord lX11_192 (by decide) (Nat.le_of_ble_eq_true rfl) dX11_isOwn_148 h (fun r17 M18 h => ?_)
                  refine r_if_ne (pc := 151) (tgt := 163) C dX11_isOwn_151 (by decide) h (fun _ h => ?_) (fun _ h => ?_)
                  · refine r_iconst (pc := 163) (v := (nI 1)) C dX11_isOwn_163 (by decide) ?_
                    refine r_goto (pc := 164) (tgt := 168) C dX11_isOwn_164 (by decide) ?_
                    exact r_zret (pc := 168) (Or.inr (by decide)) C R0 h dX11_isOwn_168
                  · refine r_aload_n (pc := 154) C dX11_isOwn_154 rfl rfl ?_
                    refine r_ldcS (pc := 155) (i := 23) C (by decide) rfl dX11_isOwn_155 ?_
                    refine r_vI1 (pc := 157) C (fun r M' e => zX11_isWord X.1 a0 h0 23 (by decide) M18 r M' e) h0 (by decide) rfl mX11_isWord lX11_192 (by decide) (Nat.le_of_ble_eq_true rfl) dX11_isOwn_157 h (fun r19 M20 h => ?_)
                    refine r_if_eq (pc := 160) (tgt := 167) C dX11_isOwn_160 (by decide) h (fun _ h => ?_) (fun _ h => ?_)
                    · refine r_iconst (pc := 167) (v := (nI 0)) C dX11_isOwn_167 (by decide) ?_
                      exact r_zret (pc := 168) (Or.inl (by decide)) C R0 h dX11_isOwn_168
                    · refine r_iconst (pc := 163) (v := (nI 1)) C dX11_isOwn_163 (by decide) ?_
                      refine r_goto (pc := 164) (tgt := 168) C dX11_isOwn_164 (by decide) ?_
                      exact r_zret (pc := 168) (Or.inr (by decide)) C R0 h dX11_isOwn_168
  refine r_if_ne (pc := 6) (tgt := 81) C dX11_isOwn_6 (by decide) h (fun _ h => ?_) (fun _ h => ?_)
  · refine r_iconst (pc := 81) (v := (nI 1)) C dX11_isOwn_81 (by decide) ?_
    refine r_goto (pc := 82) (tgt := 86) C dX11_isOwn_82 (by decide) ?_
    exact hJ86 (nI 1) M2  h
  · refine r_aload_n (pc := 9) C dX11_isOwn_9 rfl rfl ?_
    refine r_ldcS (pc := 10) (i := 8) C (by decide) rfl dX11_isOwn_10 ?_
    refine r_vI1 (pc := 12) C (fun r M' e => zX11_isWord X.1 a0 h0 8 (by decide) M2 r M' e) h0 (by decide) rfl mX11_isWord lX11_192 (by decide) (Nat.le_of_ble_eq_true rfl) dX11_isOwn_12 h (fun r21 M22 h => ?_)
    refine r_if_ne (pc := 15) (tgt := 81) C dX11_isOwn_15 (by decide) h (fun _ h => ?_) (fun _ h => ?_)
    · refine r_iconst (pc := 81) (v := (nI 1)) C dX11_isOwn_81 (by decide) ?_
      refine r_goto (pc := 82) (tgt := 86) C dX11_isOwn_82 (by decide) ?_
      exact hJ86 (nI 1) M22  h
    · refine r_aload_n (pc := 18) C dX11_isOwn_18 rfl rfl ?_
      refine r_ldcS (pc := 19) (i := 9) C (by decide) rfl dX11_isOwn_19 ?_
      refine r_vI1 (pc := 21) C (fun r M' e => zX11_isWord X.1 a0 h0 9 (by decide) M22 r M' e) h0 (by decide) rfl mX11_isWord lX11_192 (by decide) (Nat.le_of_ble_eq_true rfl) dX11_isOwn_21 h (fun r23 M24 h => ?_)
      refine r_if_ne (pc := 24) (tgt := 81) C dX11_isOwn_24 (by decide) h (fun _ h => ?_) (fun _ h => ?_)
      · refine r_iconst (pc := 81) (v := (nI 1)) C dX11_isOwn_81 (by decide) ?_
        refine r_goto (pc := 82) (tgt := 86) C dX11_isOwn_82 (by decide) ?_
        exact hJ86 (nI 1) M24  h
      · refine r_aload_n (pc := 27) C dX11_isOwn_27 rfl rfl ?_
        refine r_ldcS (pc := 28) (i := 10) C (by decide) rfl dX11_isOwn_28 ?_
        refine r_vI1 (pc := 30) C (fun r M' e => zX11_isWord X.1 a0 h0 10 (by decide) M24 r M' e) h0 (by decide) rfl mX11_isWord lX11_192 (by decide) (Nat.le_of_ble_eq_true rfl) dX11_isOwn_30 h (fun r25 M26 h => ?_)
        refine r_if_ne (pc := 33) (tgt := 81) C dX11_isOwn_33 (by decide) h (fun _ h => ?_) (fun _ h => ?_)
        · refine r_iconst (pc := 81) (v := (nI 1)) C dX11_isOwn_81 (by decide) ?_
          refine r_goto (pc := 82) (tgt := 86) C dX11_isOwn_82 (by decide) ?_
          exact hJ86 (nI 1) M26  h
        · refine r_aload_n (pc := 36) C dX11_isOwn_36 rfl rfl ?_
          refine r_ldcS (pc := 37) (i := 11) C (by decide) rfl dX11_isOwn_37 ?_
          refine r_vI1 (pc := 39) C (fun r M' e => zX11_isWord X.1 a0 h0 11 (by decide) M26 r M' e) h0 (by decide) rfl mX11_isWord lX11_192 (by decide) (Nat.le_of_ble_eq_true rfl) dX11_isOwn_39 h (fun r27 M28 h => ?_)
          refine r_if_ne (pc := 42) (tgt := 81) C dX11_isOwn_42 (by decide) h (fun _ h => ?_) (fun _ h => ?_)
          · refine r_iconst (pc := 81) (v := (nI 1)) C dX11_isOwn_81 (by decide) ?_
            refine r_goto (pc := 82) (tgt := 86) C dX11_isOwn_82 (by decide) ?_
            exact hJ86 (nI 1) M28  h
          · refine r_aload_n (pc := 45) C dX11_isOwn_45 rfl rfl ?_
            refine r_ldcS (pc := 46) (i := 12) C (by decide) rfl dX11_isOwn_46 ?_
            refine r_vI1 (pc := 48) C (fun r M' e => zX11_isWord X.1 a0 h0 12 (by decide) M28 r M' e) h0 (by decide) rfl mX11_isWord lX11_192 (by decide) (Nat.le_of_ble_eq_true rfl) dX11_isOwn_48 h (fun r29 M30 h => ?_)
            refine r_if_ne (pc := 51) (tgt := 81) C dX11_isOwn_51 (by decide) h (fun _ h => ?_) (fun _ h => ?_)
            · refine r_iconst (pc := 81) (v := (nI 1)) C dX11_isOwn_81 (by decide) ?_
              refine r_goto (pc := 82) (tgt := 86) C dX11_isOwn_82 (by decide) ?_
              exact hJ86 (nI 1) M30  h
            · refine r_aload_n (pc := 54) C dX11_isOwn_54 rfl rfl ?_
              refine r_ldcS (pc := 55) (i := 13) C (by decide) rfl dX11_isOwn_55 ?_
              refine r_vI1 (pc := 57) C (fun r M' e => zX11_isWord X.1 a0 h0 13 (by decide) M30 r M' e) h0 (by decide) rfl mX11_isWord lX11_192 (by decide) (Nat.le_of_ble_eq_true rfl) dX11_isOwn_57 h (fun r31 M32 h => ?_)
              refine r_if_ne (pc := 60) (tgt := 81) C dX11_isOwn_60 (by decide) h (fun _ h => ?_) (fun _ h => ?_)
              · refine r_iconst (pc := 81) (v := (nI 1)) C dX11_isOwn_81 (by decide) ?_
                refine r_goto (pc := 82) (tgt := 86) C dX11_isOwn_82 (by decide) ?_
                exact hJ86 (nI 1) M32  h
              · refine r_aload_n (pc := 63) C dX11_isOwn_63 rfl rfl ?_
                refine r_ldcS (pc := 64) (i := 14) C (by decide) rfl dX11_isOwn_64 ?_
                refine r_vI1 (pc := 66) C (fun r M' e => zX11_isWord X.1 a0 h0 14 (by decide) M32 r M' e) h0 (by decide) rfl mX11_isWord lX11_192 (by decide) (Nat.le_of_ble_eq_true rfl) dX11_isOwn_66 h (fun r33 M34 h => ?_)
                refine r_if_ne (pc := 69) (tgt := 81) C dX11_isOwn_69 (by decide) h (fun _ h => ?_) (fun _ h => ?_)
                · refine r_iconst (pc := 81) (v := (nI 1)) C dX11_isOwn_81 (by decide) ?_
                  refine r_goto (pc := 82) (tgt := 86) C dX11_isOwn_82 (by decide) ?_
                  exact hJ86 (nI 1) M34  h
                · refine r_aload_n (pc := 72) C dX11_isOwn_72 rfl rfl ?_
                  refine r_ldcS (pc := 73) (i := 15) C (by decide) rfl dX11_isOwn_73 ?_
                  refine r_vI1 (pc := 75) C (fun r M' e => zX11_isWord X.1 a0 h0 15 (by decide) M34 r M' e) h0 (by decide) rfl mX11_isWord lX11_192 (by decide) (Nat.le_of_ble_eq_true rfl) dX11_isOwn_75 h (fun r35 M36 h => ?_)
                  refine r_if_eq (pc := 78) (tgt := 85) C dX11_isOwn_78 (by decide) h (fun _ h => ?_) (fun _ h => ?_)
                  · refine r_iconst (pc := 85) (v := (nI 0)) C dX11_isOwn_85 (by decide) ?_
                    exact hJ86 (nI 0) M36  h
                  · refine r_iconst (pc := 81) (v := (nI 1)) C dX11_isOwn_81 (by decide) ?_
                    refine r_goto (pc := 82) (tgt := 86) C dX11_isOwn_82 (by decide) ?_
                    exact hJ86 (nI 1) M36  h
theorem dX11_nameHere_0 : decode cX11_nameHere 0 = .ok (.aload_n 0, 1) := by decide +kernel
theorem dX11_nameHere_1 : decode cX11_nameHere 1 = .ok (.invokevirtual 149, 3) := by decide +kernel
theorem dX11_nameHere_4 : decode cX11_nameHere 4 = .ok (.ifCond .eq 41, 3) := by decide +kernel
theorem dX11_nameHere_7 : decode cX11_nameHere 7 = .ok (.aload_n 0, 1) := by decide +kernel
theorem dX11_nameHere_8 : decode cX11_nameHere 8 = .ok (.getfield 164, 3) := by decide +kernel
theorem dX11_nameHere_11 : decode cX11_nameHere 11 = .ok (.iconst 1, 1) := by decide +kernel
theorem dX11_nameHere_12 : decode cX11_nameHere 12 = .ok (.if_icmp .ne 24, 3) := by decide +kernel
theorem dX11_nameHere_15 : decode cX11_nameHere 15 = .ok (.aload_n 0, 1) := by decide +kernel
theorem dX11_nameHere_16 : decode cX11_nameHere 16 = .ok (.getfield 155, 3) := by decide +kernel
theorem dX11_nameHere_19 : decode cX11_nameHere 19 = .ok (.aload_n 0, 1) := by decide +kernel
theorem dX11_nameHere_20 : decode cX11_nameHere 20 = .ok (.getfield 161, 3) := by decide +kernel
theorem dX11_nameHere_23 : decode cX11_nameHere 23 = .ok (.isub, 1) := by decide +kernel
theorem dX11_nameHere_24 : decode cX11_nameHere 24 = .ok (.bipush 6, 2) := by decide +kernel
theorem dX11_nameHere_26 : decode cX11_nameHere 26 = .ok (.if_icmp .gt 10, 3) := by decide +kernel
theorem dX11_nameHere_29 : decode cX11_nameHere 29 = .ok (.aload_n 0, 1) := by decide +kernel
theorem dX11_nameHere_30 : decode cX11_nameHere 30 = .ok (.invokevirtual 241, 3) := by decide +kernel
theorem dX11_nameHere_33 : decode cX11_nameHere 33 = .ok (.ifCond .eq 12, 3) := by decide +kernel
theorem dX11_nameHere_36 : decode cX11_nameHere 36 = .ok (.aload_n 0, 1) := by decide +kernel
theorem dX11_nameHere_37 : decode cX11_nameHere 37 = .ok (.iconst 1, 1) := by decide +kernel
theorem dX11_nameHere_38 : decode cX11_nameHere 38 = .ok (.aload_n 0, 1) := by decide +kernel
theorem dX11_nameHere_39 : decode cX11_nameHere 39 = .ok (.getfield 161, 3) := by decide +kernel
theorem dX11_nameHere_42 : decode cX11_nameHere 42 = .ok (.invokevirtual 202, 3) := by decide +kernel
theorem dX11_nameHere_45 : decode cX11_nameHere 45 = .ok (.iconst 0, 1) := by decide +kernel
theorem dX11_nameHere_46 : decode cX11_nameHere 46 = .ok (.istore_n 1, 1) := by decide +kernel
theorem dX11_nameHere_47 : decode cX11_nameHere 47 = .ok (.iconst 0, 1) := by decide +kernel
theorem dX11_nameHere_48 : decode cX11_nameHere 48 = .ok (.istore_n 2, 1) := by decide +kernel
theorem dX11_nameHere_49 : decode cX11_nameHere 49 = .ok (.iload_n 2, 1) := by decide +kernel
theorem dX11_nameHere_50 : decode cX11_nameHere 50 = .ok (.bipush 6, 2) := by decide +kernel
theorem dX11_nameHere_52 : decode cX11_nameHere 52 = .ok (.if_icmp .ge 55, 3) := by decide +kernel
theorem dX11_nameHere_55 : decode cX11_nameHere 55 = .ok (.aload_n 0, 1) := by decide +kernel
theorem dX11_nameHere_56 : decode cX11_nameHere 56 = .ok (.invokevirtual 149, 3) := by decide +kernel
theorem dX11_nameHere_59 : decode cX11_nameHere 59 = .ok (.ifCond .eq 48, 3) := by decide +kernel
theorem dX11_nameHere_62 : decode cX11_nameHere 62 = .ok (.bipush 27, 2) := by decide +kernel
theorem dX11_nameHere_64 : decode cX11_nameHere 64 = .ok (.iload_n 1, 1) := by decide +kernel
theorem dX11_nameHere_65 : decode cX11_nameHere 65 = .ok (.imul, 1) := by decide +kernel
theorem dX11_nameHere_66 : decode cX11_nameHere 66 = .ok (.aload_n 0, 1) := by decide +kernel
theorem dX11_nameHere_67 : decode cX11_nameHere 67 = .ok (.getfield 161, 3) := by decide +kernel
theorem dX11_nameHere_70 : decode cX11_nameHere 70 = .ok (.iload_n 2, 1) := by decide +kernel
theorem dX11_nameHere_71 : decode cX11_nameHere 71 = .ok (.iadd, 1) := by decide +kernel
theorem dX11_nameHere_72 : decode cX11_nameHere 72 = .ok (.aload_n 0, 1) := by decide +kernel
theorem dX11_nameHere_73 : decode cX11_nameHere 73 = .ok (.getfield 155, 3) := by decide +kernel
theorem dX11_nameHere_76 : decode cX11_nameHere 76 = .ok (.if_icmp .ge 22, 3) := by decide +kernel
theorem dX11_nameHere_79 : decode cX11_nameHere 79 = .ok (.aload_n 0, 1) := by decide +kernel
theorem dX11_nameHere_80 : decode cX11_nameHere 80 = .ok (.getfield 23, 3) := by decide +kernel
theorem dX11_nameHere_83 : decode cX11_nameHere 83 = .ok (.aload_n 0, 1) := by decide +kernel
theorem dX11_nameHere_84 : decode cX11_nameHere 84 = .ok (.getfield 161, 3) := by decide +kernel
theorem dX11_nameHere_87 : decode cX11_nameHere 87 = .ok (.iload_n 2, 1) := by decide +kernel
theorem dX11_nameHere_88 : decode cX11_nameHere 88 = .ok (.iadd, 1) := by decide +kernel
theorem dX11_nameHere_89 : decode cX11_nameHere 89 = .ok (.baload, 1) := by decide +kernel
theorem dX11_nameHere_90 : decode cX11_nameHere 90 = .ok (.bipush 97, 2) := by decide +kernel
theorem dX11_nameHere_92 : decode cX11_nameHere 92 = .ok (.isub, 1) := by decide +kernel
theorem dX11_nameHere_93 : decode cX11_nameHere 93 = .ok (.iconst 1, 1) := by decide +kernel
theorem dX11_nameHere_94 : decode cX11_nameHere 94 = .ok (.iadd, 1) := by decide +kernel
theorem dX11_nameHere_95 : decode cX11_nameHere 95 = .ok (.goto 4, 3) := by decide +kernel
theorem dX11_nameHere_98 : decode cX11_nameHere 98 = .ok (.iconst 0, 1) := by decide +kernel
theorem dX11_nameHere_99 : decode cX11_nameHere 99 = .ok (.iadd, 1) := by decide +kernel
theorem dX11_nameHere_100 : decode cX11_nameHere 100 = .ok (.istore_n 1, 1) := by decide +kernel
theorem dX11_nameHere_101 : decode cX11_nameHere 101 = .ok (.iinc 2 1, 3) := by decide +kernel
theorem dX11_nameHere_104 : decode cX11_nameHere 104 = .ok (.goto (-55), 3) := by decide +kernel
theorem dX11_nameHere_107 : decode cX11_nameHere 107 = .ok (.iload_n 1, 1) := by decide +kernel
theorem dX11_nameHere_108 : decode cX11_nameHere 108 = .ok (.ireturn, 1) := by decide +kernel
def fX11_nameHere_l49 (p0 : Nat) (K : Int32 → Int32 → xMem → Option (Int32 × xMem)) : Nat → Int32 → Int32 → xMem → Option (Int32 × xMem)
  | 0, _, _, _ => none
  | n + 1, v1, v2, M => if (nI 6) ≤ v2 then (K v1 v2 M) else (xBn (fX11_good p0 M) fun r4 M5 => if r4 = 0 then (K v1 v2 M5) else (xLt (fun (s6 : Int32) (M7 : xMem) => (xLt (((nI 27) * v1) + s6) fun x8 => xLt (v2 + nI 1) fun x9 => fX11_nameHere_l49 p0 K n x8 x9 M7 : Option (Int32 × xMem))) fun J99 => if (M5.1 p0 13) ≤ ((M5.1 p0 14) + v2) then (J99 (nI 0) M5) else (xGb ((M5.1 p0 14) + v2) (xln (xrf p0 10)) (J99 (((M5.1 (xrf p0 10) (Int32.toNatClampNeg ((M5.1 p0 14) + v2))) - (nI 97)) + (nI 1)) M5))))
def fX11_nameHere (a0 : Nat) (M : xMem) : Option (Int32 × xMem) :=
  xBn (fX11_good a0 M) fun r1 M2 => xLt (fun  (M3 : xMem) => (fX11_nameHere_l49 a0 (fun (v11 : Int32) (v12 : Int32) (M13 : xMem) => some (v11, M13)) xFU (nI 0) (nI 0) M3 : Option (Int32 × xMem))) fun J45 => if r1 = 0 then (J45  M2) else (xLt (fun  (M14 : xMem) => (xBv (fX11_errs a0 (nI 1) (M14.1 a0 14) M14) fun M15 => J45  M15 : Option (Int32 × xMem))) fun J36 => if (M2.1 a0 15) = (nI 1) then (if (nI 6) < ((M2.1 a0 13) - (M2.1 a0 14)) then (J36  M2) else (xBn (fX11_isOwn a0 M2) fun r16 M17 => if r16 = 0 then (J45  M17) else (J36  M17))) else (J36  M2))
set_option maxRecDepth 100000 in
set_option maxHeartbeats 4000000 in
theorem lX11_nameHere_49 {X : xCX} {r : Int32} {M' : xMem} (C : xCk X cX11_nameHere RX11 7) (R0 : xRk X (some .int) (some (.int r), M')) (hnL : X.2.2.2.2.2.2.2.2.2.2.2.2.2 = 3) (p0 : Nat) (hp0 : xkd p0 = 11) (K : Int32 → Int32 → xMem → Option (Int32 × xMem)) (hK : ∀ (v1 : Int32) (v2 : Int32) (M : xMem), K v1 v2 M = some (r, M') → WW X 107 [some (vr X.1 p0), some (.int v1), some (.int v2)] [] M) : ∀ (n : Nat) (v1 : Int32) (v2 : Int32) (M : xMem), fX11_nameHere_l49 p0 K n v1 v2 M = some (r, M') → WW X 49 [some (vr X.1 p0), some (.int v1), some (.int v2)] [] M := by
  have hn1 : 1 < X.2.2.2.2.2.2.2.2.2.2.2.2.2 := by rw [hnL]; decide
  have hn2 : 2 < X.2.2.2.2.2.2.2.2.2.2.2.2.2 := by rw [hnL]; decide
  intro n
  induction n with
  | zero =>
    intro v1 v2 M h
    cases (show (none : Option (Int32 × xMem)) = some (r, M') from h)
  | succ n ih =>
    intro v1 v2 M h
    rw [fX11_nameHere_l49.eq_2] at h
    refine r_iload_n (pc := 49) C dX11_nameHere_49 rfl rfl ?_
    refine r_bipush (pc := 50) (v := (nI 6)) C dX11_nameHere_50 (by decide) ?_
    refine r_icmp_ge (pc := 52) (tgt := 107) C dX11_nameHere_52 (by decide) h (fun _ h => ?_) (fun _ h => ?_)
    · exact hK v1 v2 M h
    · refine r_aload_n (pc := 55) C dX11_nameHere_55 rfl rfl ?_
      refine r_vI0 (pc := 56) C (fun r M' e => zX11_good X.1 p0 hp0 M r M' e) hp0 (by decide) rfl mX11_good lX11_149 (by decide) (Nat.le_of_ble_eq_true rfl) dX11_nameHere_56 h (fun r4 M5 h => ?_)
      refine r_if_eq (pc := 59) (tgt := 107) C dX11_nameHere_59 (by decide) h (fun _ h => ?_) (fun _ h => ?_)
      · exact hK v1 v2 M5 h
      · refine r_bipush (pc := 62) (v := (nI 27)) C dX11_nameHere_62 (by decide) ?_
        refine r_iload_n (pc := 64) C dX11_nameHere_64 rfl rfl ?_
        refine r_imul (pc := 65) C dX11_nameHere_65 ?_
        refine r_aload_n (pc := 66) C dX11_nameHere_66 rfl rfl ?_
        refine r_getI (pc := 67) C kX11_161 hp0 dX11_nameHere_67 ?_
        refine r_iload_n (pc := 70) C dX11_nameHere_70 rfl rfl ?_
        refine r_iadd (pc := 71) C dX11_nameHere_71 ?_
        refine r_aload_n (pc := 72) C dX11_nameHere_72 rfl rfl ?_
        refine r_getI (pc := 73) C kX11_155 hp0 dX11_nameHere_73 ?_
        refine r_jn (fun J => ∀ (s6 : Int32) (M7 : xMem) , J s6 M7 = some (r, M') → WW X 99 [some (vr X.1 p0), some (.int v1), some (.int v2)] [.int s6, .int ((nI 27) * v1)] M7) h (fun s6 M7  h => ?_) (fun J99 hJ99 h => ?_)
        · refine r_iadd (pc := 99) C dX11_nameHere_99 ?_
          refine r_letI h (fun x8 h => ?_)
          refine r_istore_n (pc := 100) (lv' := [_, _, _]) C dX11_nameHere_100 rfl hn1 rfl ?_
          refine r_iincL (pc := 101) (c := nI 1) C dX11_nameHere_101 rfl (by decide) hn2 h (fun x9 h => ?_)
          refine r_lvE (lv' := [_, _, _]) rfl ?_
          refine r_goto (pc := 104) (tgt := 49) C dX11_nameHere_104 (by decide) ?_
          exact ih x8 x9 M7 h
        refine r_icmp_ge (pc := 76) (tgt := 98) C dX11_nameHere_76 (by decide) h (fun _ h => ?_) (fun _ h => ?_)
        · refine r_iconst (pc := 98) (v := (nI 0)) C dX11_nameHere_98 (by decide) ?_
          exact hJ99 (nI 0) M5  h
        · refine r_aload_n (pc := 79) C dX11_nameHere_79 rfl rfl ?_
          refine r_getR (pc := 80) C kX11_23 hp0 (by decide) dX11_nameHere_80 ?_
          refine r_aload_n (pc := 83) C dX11_nameHere_83 rfl rfl ?_
          refine r_getI (pc := 84) C kX11_161 hp0 dX11_nameHere_84 ?_
          refine r_iload_n (pc := 87) C dX11_nameHere_87 rfl rfl ?_
          refine r_iadd (pc := 88) C dX11_nameHere_88 ?_
          obtain ⟨g10, h⟩ := xGb_of h
          refine r_bald (pc := 89) C (xtk hp0 (by decide) rfl rfl) g10 dX11_nameHere_89 ?_
          refine r_bipush (pc := 90) (v := (nI 97)) C dX11_nameHere_90 (by decide) ?_
          refine r_isub (pc := 92) C dX11_nameHere_92 ?_
          refine r_iconst (pc := 93) (v := (nI 1)) C dX11_nameHere_93 (by decide) ?_
          refine r_iadd (pc := 94) C dX11_nameHere_94 ?_
          refine r_goto (pc := 95) (tgt := 99) C dX11_nameHere_95 (by decide) ?_
          exact hJ99 (((M5.1 (xrf p0 10) (Int32.toNatClampNeg ((M5.1 p0 14) + v2))) - (nI 97)) + (nI 1)) M5  h
set_option maxRecDepth 100000 in
set_option maxHeartbeats 4000000 in
theorem zX11_nameHere (G : xGX) (a0 : Nat) (h0 : xkd a0 = 11) (M : xMem) (r : Int32) (M' : xMem) (h : fX11_nameHere a0 M = some (r, M')) : xCt G yX11_nameHere cX11_nameHere 3 (some .int) 7 [vr G a0] M (some (.int r), M') := by
  refine xMet (lv := [some (vr G a0), none, none]) (by decide) (Nat.le_of_ble_eq_true rfl) rfl ?_
  intro X hG hnL C R0
  subst hG
  have C : xCk X cX11_nameHere RX11 7 := C
  have hn1 : 1 < X.2.2.2.2.2.2.2.2.2.2.2.2.2 := by rw [hnL]; decide
  have hn2 : 2 < X.2.2.2.2.2.2.2.2.2.2.2.2.2 := by rw [hnL]; decide
  unfold fX11_nameHere at h
  refine r_aload_n (pc := 0) C dX11_nameHere_0 rfl rfl ?_
  refine r_vI0 (pc := 1) C (fun r M' e => zX11_good X.1 a0 h0 M r M' e) h0 (by decide) rfl mX11_good lX11_149 (by decide) (Nat.le_of_ble_eq_true rfl) dX11_nameHere_1 h (fun r1 M2 h => ?_)
  refine r_jn (fun J => ∀  (M3 : xMem) , J  M3 = some (r, M') → WW X 45 [some (vr X.1 a0), none, none] [] M3) h (fun  M3  h => ?_) (fun J45 hJ45 h => ?_)
  · refine r_iconst (pc := 45) (v := (nI 0)) C dX11_nameHere_45 (by decide) ?_
    refine r_istore_n (pc := 46) (lv' := [_, _, _]) C dX11_nameHere_46 rfl hn1 rfl ?_
    refine r_iconst (pc := 47) (v := (nI 0)) C dX11_nameHere_47 (by decide) ?_
    refine r_istore_n (pc := 48) (lv' := [_, _, _]) C dX11_nameHere_48 rfl hn2 rfl ?_
    refine lX11_nameHere_49 C R0 hnL a0 h0 _ (fun v11 v12 M13 h => ?_) _ _ _ _ h
    refine r_iload_n (pc := 107) C dX11_nameHere_107 rfl rfl ?_
    exact r_iret (pc := 108) C R0 h dX11_nameHere_108
  refine r_if_eq (pc := 4) (tgt := 45) C dX11_nameHere_4 (by decide) h (fun _ h => ?_) (fun _ h => ?_)
  · exact hJ45  M2  h
  · refine r_aload_n (pc := 7) C dX11_nameHere_7 rfl rfl ?_
    refine r_getI (pc := 8) C kX11_164 h0 dX11_nameHere_8 ?_
    refine r_iconst (pc := 11) (v := (nI 1)) C dX11_nameHere_11 (by decide) ?_
    refine r_jn (fun J => ∀  (M14 : xMem) , J  M14 = some (r, M') → WW X 36 [some (vr X.1 a0), none, none] [] M14) h (fun  M14  h => ?_) (fun J36 hJ36 h => ?_)
    · refine r_aload_n (pc := 36) C dX11_nameHere_36 rfl rfl ?_
      refine r_iconst (pc := 37) (v := (nI 1)) C dX11_nameHere_37 (by decide) ?_
      refine r_aload_n (pc := 38) C dX11_nameHere_38 rfl rfl ?_
      refine r_getI (pc := 39) C kX11_161 h0 dX11_nameHere_39 ?_
      refine r_vV2 (pc := 42) C (fun M' e => zX11_errs X.1 a0 h0 (nI 1) (M14.1 a0 14) M14 M' e) h0 (by decide) rfl mX11_errs lX11_202 (by decide) (Nat.le_of_ble_eq_true rfl) dX11_nameHere_42 h (fun M15 h => ?_)
      exact hJ45  M15  h
    refine r_icmp_ne (pc := 12) (tgt := 36) C dX11_nameHere_12 (by decide) h (fun _ h => ?_) (fun _ h => ?_)
    · exact hJ36  M2  h
    · refine r_aload_n (pc := 15) C dX11_nameHere_15 rfl rfl ?_
      refine r_getI (pc := 16) C kX11_155 h0 dX11_nameHere_16 ?_
      refine r_aload_n (pc := 19) C dX11_nameHere_19 rfl rfl ?_
      refine r_getI (pc := 20) C kX11_161 h0 dX11_nameHere_20 ?_
      refine r_isub (pc := 23) C dX11_nameHere_23 ?_
      refine r_bipush (pc := 24) (v := (nI 6)) C dX11_nameHere_24 (by decide) ?_
      refine r_icmp_gt (pc := 26) (tgt := 36) C dX11_nameHere_26 (by decide) h (fun _ h => ?_) (fun _ h => ?_)
      · exact hJ36  M2  h
      · refine r_aload_n (pc := 29) C dX11_nameHere_29 rfl rfl ?_
        refine r_vI0 (pc := 30) C (fun r M' e => zX11_isOwn X.1 a0 h0 M2 r M' e) h0 (by decide) rfl mX11_isOwn lX11_241 (by decide) (Nat.le_of_ble_eq_true rfl) dX11_nameHere_30 h (fun r16 M17 h => ?_)
        refine r_if_eq (pc := 33) (tgt := 45) C dX11_nameHere_33 (by decide) h (fun _ h => ?_) (fun _ h => ?_)
        · exact hJ45  M17  h
        · exact hJ36  M17  h
theorem dX11_teamHere_0 : decode cX11_teamHere 0 = .ok (.aload_n 0, 1) := by decide +kernel
theorem dX11_teamHere_1 : decode cX11_teamHere 1 = .ok (.invokevirtual 244, 3) := by decide +kernel
theorem dX11_teamHere_4 : decode cX11_teamHere 4 = .ok (.istore_n 1, 1) := by decide +kernel
theorem dX11_teamHere_5 : decode cX11_teamHere 5 = .ok (.iconst 0, 1) := by decide +kernel
theorem dX11_teamHere_6 : decode cX11_teamHere 6 = .ok (.istore_n 2, 1) := by decide +kernel
theorem dX11_teamHere_7 : decode cX11_teamHere 7 = .ok (.iload_n 2, 1) := by decide +kernel
theorem dX11_teamHere_8 : decode cX11_teamHere 8 = .ok (.iconst 2, 1) := by decide +kernel
theorem dX11_teamHere_9 : decode cX11_teamHere 9 = .ok (.if_icmp .ge 32, 3) := by decide +kernel
theorem dX11_teamHere_12 : decode cX11_teamHere 12 = .ok (.aload_n 0, 1) := by decide +kernel
theorem dX11_teamHere_13 : decode cX11_teamHere 13 = .ok (.invokevirtual 149, 3) := by decide +kernel
theorem dX11_teamHere_16 : decode cX11_teamHere 16 = .ok (.ifCond .eq 25, 3) := by decide +kernel
theorem dX11_teamHere_19 : decode cX11_teamHere 19 = .ok (.aload_n 0, 1) := by decide +kernel
theorem dX11_teamHere_20 : decode cX11_teamHere 20 = .ok (.getfield 16, 3) := by decide +kernel
theorem dX11_teamHere_23 : decode cX11_teamHere 23 = .ok (.iconst 3, 1) := by decide +kernel
theorem dX11_teamHere_24 : decode cX11_teamHere 24 = .ok (.iload_n 2, 1) := by decide +kernel
theorem dX11_teamHere_25 : decode cX11_teamHere 25 = .ok (.iadd, 1) := by decide +kernel
theorem dX11_teamHere_26 : decode cX11_teamHere 26 = .ok (.laload, 1) := by decide +kernel
theorem dX11_teamHere_27 : decode cX11_teamHere 27 = .ok (.iload_n 1, 1) := by decide +kernel
theorem dX11_teamHere_28 : decode cX11_teamHere 28 = .ok (.i2l, 1) := by decide +kernel
theorem dX11_teamHere_29 : decode cX11_teamHere 29 = .ok (.lcmp, 1) := by decide +kernel
theorem dX11_teamHere_30 : decode cX11_teamHere 30 = .ok (.ifCond .ne 5, 3) := by decide +kernel
theorem dX11_teamHere_33 : decode cX11_teamHere 33 = .ok (.iload_n 2, 1) := by decide +kernel
theorem dX11_teamHere_34 : decode cX11_teamHere 34 = .ok (.ireturn, 1) := by decide +kernel
theorem dX11_teamHere_35 : decode cX11_teamHere 35 = .ok (.iinc 2 1, 3) := by decide +kernel
theorem dX11_teamHere_38 : decode cX11_teamHere 38 = .ok (.goto (-31), 3) := by decide +kernel
theorem dX11_teamHere_41 : decode cX11_teamHere 41 = .ok (.aload_n 0, 1) := by decide +kernel
theorem dX11_teamHere_42 : decode cX11_teamHere 42 = .ok (.iconst 4, 1) := by decide +kernel
theorem dX11_teamHere_43 : decode cX11_teamHere 43 = .ok (.aload_n 0, 1) := by decide +kernel
theorem dX11_teamHere_44 : decode cX11_teamHere 44 = .ok (.getfield 161, 3) := by decide +kernel
theorem dX11_teamHere_47 : decode cX11_teamHere 47 = .ok (.invokevirtual 202, 3) := by decide +kernel
theorem dX11_teamHere_50 : decode cX11_teamHere 50 = .ok (.iconst 0, 1) := by decide +kernel
theorem dX11_teamHere_51 : decode cX11_teamHere 51 = .ok (.ireturn, 1) := by decide +kernel
def fX11_teamHere_l7 (p0 : Nat) (p1 : Int32) (K : Int32 → xMem → Option (Int32 × xMem)) : Nat → Int32 → xMem → Option (Int32 × xMem)
  | 0, _, _ => none
  | n + 1, v2, M => if (nI 2) ≤ v2 then (K v2 M) else (xBn (fX11_good p0 M) fun r3 M4 => if r3 = 0 then (K v2 M4) else (xGb ((nI 3) + v2) (xln (xnw M4)) (if (lg_cmp (M4.2.1 (xnw M4) (Int32.toNatClampNeg ((nI 3) + v2))) (Int32.toInt64 p1)) = 0 then (some (v2, M4)) else (xLt (v2 + nI 1) fun x6 => fX11_teamHere_l7 p0 p1 K n x6 M4))))
def fX11_teamHere (a0 : Nat) (M : xMem) : Option (Int32 × xMem) :=
  xBn (fX11_nameHere a0 M) fun r1 M2 => fX11_teamHere_l7 a0 r1 (fun (v7 : Int32) (M8 : xMem) => xBv (fX11_errs a0 (nI 4) (M8.1 a0 14) M8) fun M9 => some ((nI 0), M9)) xFU (nI 0) M2
set_option maxRecDepth 100000 in
set_option maxHeartbeats 4000000 in
theorem lX11_teamHere_7 {X : xCX} {r : Int32} {M' : xMem} (C : xCk X cX11_teamHere RX11 8) (R0 : xRk X (some .int) (some (.int r), M')) (hnL : X.2.2.2.2.2.2.2.2.2.2.2.2.2 = 3) (p0 : Nat) (hp0 : xkd p0 = 11) (p1 : Int32) (K : Int32 → xMem → Option (Int32 × xMem)) (hK : ∀ (v2 : Int32) (M : xMem), K v2 M = some (r, M') → WW X 41 [some (vr X.1 p0), some (.int p1), some (.int v2)] [] M) : ∀ (n : Nat) (v2 : Int32) (M : xMem), fX11_teamHere_l7 p0 p1 K n v2 M = some (r, M') → WW X 7 [some (vr X.1 p0), some (.int p1), some (.int v2)] [] M := by
  have hn1 : 1 < X.2.2.2.2.2.2.2.2.2.2.2.2.2 := by rw [hnL]; decide
  have hn2 : 2 < X.2.2.2.2.2.2.2.2.2.2.2.2.2 := by rw [hnL]; decide
  intro n
  induction n with
  | zero =>
    intro v2 M h
    cases (show (none : Option (Int32 × xMem)) = some (r, M') from h)
  | succ n ih =>
    intro v2 M h
    rw [fX11_teamHere_l7.eq_2] at h
    refine r_iload_n (pc := 7) C dX11_teamHere_7 rfl rfl ?_
    refine r_iconst (pc := 8) (v := (nI 2)) C dX11_teamHere_8 (by decide) ?_
    refine r_icmp_ge (pc := 9) (tgt := 41) C dX11_teamHere_9 (by decide) h (fun _ h => ?_) (fun _ h => ?_)
    · exact hK v2 M h
    · refine r_aload_n (pc := 12) C dX11_teamHere_12 rfl rfl ?_
      refine r_vI0 (pc := 13) C (fun r M' e => zX11_good X.1 p0 hp0 M r M' e) hp0 (by decide) rfl mX11_good lX11_149 (by decide) (Nat.le_of_ble_eq_true rfl) dX11_teamHere_13 h (fun r3 M4 h => ?_)
      refine r_if_eq (pc := 16) (tgt := 41) C dX11_teamHere_16 (by decide) h (fun _ h => ?_) (fun _ h => ?_)
      · exact hK v2 M4 h
      · refine r_aload_n (pc := 19) C dX11_teamHere_19 rfl rfl ?_
        refine r_getW (pc := 20) C kX11_16 hp0 dX11_teamHere_20 ?_
        refine r_iconst (pc := 23) (v := (nI 3)) C dX11_teamHere_23 (by decide) ?_
        refine r_iload_n (pc := 24) C dX11_teamHere_24 rfl rfl ?_
        refine r_iadd (pc := 25) C dX11_teamHere_25 ?_
        obtain ⟨g5, h⟩ := xGb_of h
        refine r_lald (pc := 26) C (xknw M4) g5 dX11_teamHere_26 ?_
        refine r_iload_n (pc := 27) C dX11_teamHere_27 rfl rfl ?_
        refine r_i2l (pc := 28) C dX11_teamHere_28 ?_
        refine r_lcmp (pc := 29) C dX11_teamHere_29 ?_
        refine r_if_ne (pc := 30) (tgt := 35) C dX11_teamHere_30 (by decide) h (fun _ h => ?_) (fun _ h => ?_)
        · refine r_iincL (pc := 35) (c := nI 1) C dX11_teamHere_35 rfl (by decide) hn2 h (fun x6 h => ?_)
          refine r_lvE (lv' := [_, _, _]) rfl ?_
          refine r_goto (pc := 38) (tgt := 7) C dX11_teamHere_38 (by decide) ?_
          exact ih x6 M4 h
        · refine r_iload_n (pc := 33) C dX11_teamHere_33 rfl rfl ?_
          exact r_iret (pc := 34) C R0 h dX11_teamHere_34
set_option maxRecDepth 100000 in
set_option maxHeartbeats 4000000 in
theorem zX11_teamHere (G : xGX) (a0 : Nat) (h0 : xkd a0 = 11) (M : xMem) (r : Int32) (M' : xMem) (h : fX11_teamHere a0 M = some (r, M')) : xCt G yX11_teamHere cX11_teamHere 3 (some .int) 8 [vr G a0] M (some (.int r), M') := by
  refine xMet (lv := [some (vr G a0), none, none]) (by decide) (Nat.le_of_ble_eq_true rfl) rfl ?_
  intro X hG hnL C R0
  subst hG
  have C : xCk X cX11_teamHere RX11 8 := C
  have hn1 : 1 < X.2.2.2.2.2.2.2.2.2.2.2.2.2 := by rw [hnL]; decide
  have hn2 : 2 < X.2.2.2.2.2.2.2.2.2.2.2.2.2 := by rw [hnL]; decide
  unfold fX11_teamHere at h
  refine r_aload_n (pc := 0) C dX11_teamHere_0 rfl rfl ?_
  refine r_vI0 (pc := 1) C (fun r M' e => zX11_nameHere X.1 a0 h0 M r M' e) h0 (by decide) rfl mX11_nameHere lX11_244 (by decide) (Nat.le_of_ble_eq_true rfl) dX11_teamHere_1 h (fun r1 M2 h => ?_)
  refine r_istore_n (pc := 4) (lv' := [_, _, _]) C dX11_teamHere_4 rfl hn1 rfl ?_
  refine r_iconst (pc := 5) (v := (nI 0)) C dX11_teamHere_5 (by decide) ?_
  refine r_istore_n (pc := 6) (lv' := [_, _, _]) C dX11_teamHere_6 rfl hn2 rfl ?_
  refine lX11_teamHere_7 C R0 hnL a0 h0 r1 _ (fun v7 M8 h => ?_) _ _ _ h
  refine r_aload_n (pc := 41) C dX11_teamHere_41 rfl rfl ?_
  refine r_iconst (pc := 42) (v := (nI 4)) C dX11_teamHere_42 (by decide) ?_
  refine r_aload_n (pc := 43) C dX11_teamHere_43 rfl rfl ?_
  refine r_getI (pc := 44) C kX11_161 h0 dX11_teamHere_44 ?_
  refine r_vV2 (pc := 47) C (fun M' e => zX11_errs X.1 a0 h0 (nI 4) (M8.1 a0 14) M8 M' e) h0 (by decide) rfl mX11_errs lX11_202 (by decide) (Nat.le_of_ble_eq_true rfl) dX11_teamHere_47 h (fun M9 h => ?_)
  refine r_iconst (pc := 50) (v := (nI 0)) C dX11_teamHere_50 (by decide) ?_
  exact r_iret (pc := 51) C R0 h dX11_teamHere_51
theorem dX11_teamRead_0 : decode cX11_teamRead 0 = .ok (.aload_n 0, 1) := by decide +kernel
theorem dX11_teamRead_1 : decode cX11_teamRead 1 = .ok (.invokevirtual 247, 3) := by decide +kernel
theorem dX11_teamRead_4 : decode cX11_teamRead 4 = .ok (.istore_n 1, 1) := by decide +kernel
theorem dX11_teamRead_5 : decode cX11_teamRead 5 = .ok (.aload_n 0, 1) := by decide +kernel
theorem dX11_teamRead_6 : decode cX11_teamRead 6 = .ok (.invokevirtual 149, 3) := by decide +kernel
theorem dX11_teamRead_9 : decode cX11_teamRead 9 = .ok (.ifCond .eq 7, 3) := by decide +kernel
theorem dX11_teamRead_12 : decode cX11_teamRead 12 = .ok (.aload_n 0, 1) := by decide +kernel
theorem dX11_teamRead_13 : decode cX11_teamRead 13 = .ok (.invokevirtual 196, 3) := by decide +kernel
theorem dX11_teamRead_16 : decode cX11_teamRead 16 = .ok (.iload_n 1, 1) := by decide +kernel
theorem dX11_teamRead_17 : decode cX11_teamRead 17 = .ok (.ireturn, 1) := by decide +kernel
def fX11_teamRead (a0 : Nat) (M : xMem) : Option (Int32 × xMem) :=
  xBn (fX11_teamHere a0 M) fun r1 M2 => xBn (fX11_good a0 M2) fun r3 M4 => if r3 = 0 then (some (r1, M4)) else (xBv (fX11_advance a0 M4) fun M5 => some (r1, M5))
set_option maxRecDepth 100000 in
set_option maxHeartbeats 4000000 in
theorem zX11_teamRead (G : xGX) (a0 : Nat) (h0 : xkd a0 = 11) (M : xMem) (r : Int32) (M' : xMem) (h : fX11_teamRead a0 M = some (r, M')) : xCt G yX11_teamRead cX11_teamRead 2 (some .int) 9 [vr G a0] M (some (.int r), M') := by
  refine xMet (lv := [some (vr G a0), none]) (by decide) (Nat.le_of_ble_eq_true rfl) rfl ?_
  intro X hG hnL C R0
  subst hG
  have C : xCk X cX11_teamRead RX11 9 := C
  have hn1 : 1 < X.2.2.2.2.2.2.2.2.2.2.2.2.2 := by rw [hnL]; decide
  unfold fX11_teamRead at h
  refine r_aload_n (pc := 0) C dX11_teamRead_0 rfl rfl ?_
  refine r_vI0 (pc := 1) C (fun r M' e => zX11_teamHere X.1 a0 h0 M r M' e) h0 (by decide) rfl mX11_teamHere lX11_247 (by decide) (Nat.le_of_ble_eq_true rfl) dX11_teamRead_1 h (fun r1 M2 h => ?_)
  refine r_istore_n (pc := 4) (lv' := [_, _]) C dX11_teamRead_4 rfl hn1 rfl ?_
  refine r_aload_n (pc := 5) C dX11_teamRead_5 rfl rfl ?_
  refine r_vI0 (pc := 6) C (fun r M' e => zX11_good X.1 a0 h0 M2 r M' e) h0 (by decide) rfl mX11_good lX11_149 (by decide) (Nat.le_of_ble_eq_true rfl) dX11_teamRead_6 h (fun r3 M4 h => ?_)
  refine r_if_eq (pc := 9) (tgt := 16) C dX11_teamRead_9 (by decide) h (fun _ h => ?_) (fun _ h => ?_)
  · refine r_iload_n (pc := 16) C dX11_teamRead_16 rfl rfl ?_
    exact r_iret (pc := 17) C R0 h dX11_teamRead_17
  · refine r_aload_n (pc := 12) C dX11_teamRead_12 rfl rfl ?_
    refine r_vV0 (pc := 13) C (fun M' e => zX11_advance X.1 a0 h0 M4 M' e) h0 (by decide) rfl mX11_advance lX11_196 (by decide) (Nat.le_of_ble_eq_true rfl) dX11_teamRead_13 h (fun M5 h => ?_)
    refine r_iload_n (pc := 16) C dX11_teamRead_16 rfl rfl ?_
    exact r_iret (pc := 17) C R0 h dX11_teamRead_17
theorem dX11_shirtHere_0 : decode cX11_shirtHere 0 = .ok (.aload_n 0, 1) := by decide +kernel
theorem dX11_shirtHere_1 : decode cX11_shirtHere 1 = .ok (.invokevirtual 149, 3) := by decide +kernel
theorem dX11_shirtHere_4 : decode cX11_shirtHere 4 = .ok (.ifCond .eq 20, 3) := by decide +kernel
theorem dX11_shirtHere_7 : decode cX11_shirtHere 7 = .ok (.aload_n 0, 1) := by decide +kernel
theorem dX11_shirtHere_8 : decode cX11_shirtHere 8 = .ok (.getfield 164, 3) := by decide +kernel
theorem dX11_shirtHere_11 : decode cX11_shirtHere 11 = .ok (.iconst 2, 1) := by decide +kernel
theorem dX11_shirtHere_12 : decode cX11_shirtHere 12 = .ok (.if_icmp .eq 12, 3) := by decide +kernel
theorem dX11_shirtHere_15 : decode cX11_shirtHere 15 = .ok (.aload_n 0, 1) := by decide +kernel
theorem dX11_shirtHere_16 : decode cX11_shirtHere 16 = .ok (.iconst 1, 1) := by decide +kernel
theorem dX11_shirtHere_17 : decode cX11_shirtHere 17 = .ok (.aload_n 0, 1) := by decide +kernel
theorem dX11_shirtHere_18 : decode cX11_shirtHere 18 = .ok (.getfield 161, 3) := by decide +kernel
theorem dX11_shirtHere_21 : decode cX11_shirtHere 21 = .ok (.invokevirtual 202, 3) := by decide +kernel
theorem dX11_shirtHere_24 : decode cX11_shirtHere 24 = .ok (.aload_n 0, 1) := by decide +kernel
theorem dX11_shirtHere_25 : decode cX11_shirtHere 25 = .ok (.invokevirtual 149, 3) := by decide +kernel
theorem dX11_shirtHere_28 : decode cX11_shirtHere 28 = .ok (.ifCond .eq 27, 3) := by decide +kernel
theorem dX11_shirtHere_31 : decode cX11_shirtHere 31 = .ok (.aload_n 0, 1) := by decide +kernel
theorem dX11_shirtHere_32 : decode cX11_shirtHere 32 = .ok (.getfield 175, 3) := by decide +kernel
theorem dX11_shirtHere_35 : decode cX11_shirtHere 35 = .ok (.i2l, 1) := by decide +kernel
theorem dX11_shirtHere_36 : decode cX11_shirtHere 36 = .ok (.lconst 1, 1) := by decide +kernel
theorem dX11_shirtHere_37 : decode cX11_shirtHere 37 = .ok (.ldc2_w 250, 3) := by decide +kernel
theorem dX11_shirtHere_40 : decode cX11_shirtHere 40 = .ok (.invokestatic 51, 3) := by decide +kernel
theorem dX11_shirtHere_43 : decode cX11_shirtHere 43 = .ok (.ifCond .ne 12, 3) := by decide +kernel
theorem dX11_shirtHere_46 : decode cX11_shirtHere 46 = .ok (.aload_n 0, 1) := by decide +kernel
theorem dX11_shirtHere_47 : decode cX11_shirtHere 47 = .ok (.iconst 2, 1) := by decide +kernel
theorem dX11_shirtHere_48 : decode cX11_shirtHere 48 = .ok (.aload_n 0, 1) := by decide +kernel
theorem dX11_shirtHere_49 : decode cX11_shirtHere 49 = .ok (.getfield 161, 3) := by decide +kernel
theorem dX11_shirtHere_52 : decode cX11_shirtHere 52 = .ok (.invokevirtual 202, 3) := by decide +kernel
theorem dX11_shirtHere_55 : decode cX11_shirtHere 55 = .ok (.aload_n 0, 1) := by decide +kernel
theorem dX11_shirtHere_56 : decode cX11_shirtHere 56 = .ok (.invokevirtual 149, 3) := by decide +kernel
theorem dX11_shirtHere_59 : decode cX11_shirtHere 59 = .ok (.ifCond .eq 10, 3) := by decide +kernel
theorem dX11_shirtHere_62 : decode cX11_shirtHere 62 = .ok (.aload_n 0, 1) := by decide +kernel
theorem dX11_shirtHere_63 : decode cX11_shirtHere 63 = .ok (.getfield 175, 3) := by decide +kernel
theorem dX11_shirtHere_66 : decode cX11_shirtHere 66 = .ok (.goto 4, 3) := by decide +kernel
theorem dX11_shirtHere_69 : decode cX11_shirtHere 69 = .ok (.iconst 0, 1) := by decide +kernel
theorem dX11_shirtHere_70 : decode cX11_shirtHere 70 = .ok (.ireturn, 1) := by decide +kernel
def fX11_shirtHere (a0 : Nat) (M : xMem) : Option (Int32 × xMem) :=
  xBn (fX11_good a0 M) fun r1 M2 => xLt (fun  (M3 : xMem) => (xBn (fX11_good a0 M3) fun r4 M5 => xLt (fun  (M6 : xMem) => (xBn (fX11_good a0 M6) fun r7 M8 => if r7 = 0 then (some ((nI 0), M8)) else (some ((M8.1 a0 16), M8)) : Option (Int32 × xMem))) fun J55 => if r4 = 0 then (J55  M5) else (xBn (fX11_in (Int32.toInt64 (M5.1 a0 16)) (lN 1) (lN 99) M5) fun r9 M10 => if r9 = 0 then (xBv (fX11_errs a0 (nI 2) (M10.1 a0 14) M10) fun M11 => J55  M11) else (J55  M10)) : Option (Int32 × xMem))) fun J24 => if r1 = 0 then (J24  M2) else (if (M2.1 a0 15) = (nI 2) then (J24  M2) else (xBv (fX11_errs a0 (nI 1) (M2.1 a0 14) M2) fun M12 => J24  M12))
set_option maxRecDepth 100000 in
set_option maxHeartbeats 4000000 in
theorem zX11_shirtHere (G : xGX) (a0 : Nat) (h0 : xkd a0 = 11) (M : xMem) (r : Int32) (M' : xMem) (h : fX11_shirtHere a0 M = some (r, M')) : xCt G yX11_shirtHere cX11_shirtHere 1 (some .int) 3 [vr G a0] M (some (.int r), M') := by
  refine xMet (lv := [some (vr G a0)]) (by decide) (Nat.le_of_ble_eq_true rfl) rfl ?_
  intro X hG hnL C R0
  subst hG
  have C : xCk X cX11_shirtHere RX11 3 := C
  unfold fX11_shirtHere at h
  refine r_aload_n (pc := 0) C dX11_shirtHere_0 rfl rfl ?_
  refine r_vI0 (pc := 1) C (fun r M' e => zX11_good X.1 a0 h0 M r M' e) h0 (by decide) rfl mX11_good lX11_149 (by decide) (Nat.le_of_ble_eq_true rfl) dX11_shirtHere_1 h (fun r1 M2 h => ?_)
  refine r_jn (fun J => ∀  (M3 : xMem) , J  M3 = some (r, M') → WW X 24 [some (vr X.1 a0)] [] M3) h (fun  M3  h => ?_) (fun J24 hJ24 h => ?_)
  · refine r_aload_n (pc := 24) C dX11_shirtHere_24 rfl rfl ?_
    refine r_vI0 (pc := 25) C (fun r M' e => zX11_good X.1 a0 h0 M3 r M' e) h0 (by decide) rfl mX11_good lX11_149 (by decide) (Nat.le_of_ble_eq_true rfl) dX11_shirtHere_25 h (fun r4 M5 h => ?_)
    refine r_jn (fun J => ∀  (M6 : xMem) , J  M6 = some (r, M') → WW X 55 [some (vr X.1 a0)] [] M6) h (fun  M6  h => ?_) (fun J55 hJ55 h => ?_)
    · refine r_aload_n (pc := 55) C dX11_shirtHere_55 rfl rfl ?_
      refine r_vI0 (pc := 56) C (fun r M' e => zX11_good X.1 a0 h0 M6 r M' e) h0 (by decide) rfl mX11_good lX11_149 (by decide) (Nat.le_of_ble_eq_true rfl) dX11_shirtHere_56 h (fun r7 M8 h => ?_)
      refine r_if_eq (pc := 59) (tgt := 69) C dX11_shirtHere_59 (by decide) h (fun _ h => ?_) (fun _ h => ?_)
      · refine r_iconst (pc := 69) (v := (nI 0)) C dX11_shirtHere_69 (by decide) ?_
        exact r_iret (pc := 70) C R0 h dX11_shirtHere_70
      · refine r_aload_n (pc := 62) C dX11_shirtHere_62 rfl rfl ?_
        refine r_getI (pc := 63) C kX11_175 h0 dX11_shirtHere_63 ?_
        refine r_goto (pc := 66) (tgt := 70) C dX11_shirtHere_66 (by decide) ?_
        exact r_iret (pc := 70) C R0 h dX11_shirtHere_70
    refine r_if_eq (pc := 28) (tgt := 55) C dX11_shirtHere_28 (by decide) h (fun _ h => ?_) (fun _ h => ?_)
    · exact hJ55  M5  h
    · refine r_aload_n (pc := 31) C dX11_shirtHere_31 rfl rfl ?_
      refine r_getI (pc := 32) C kX11_175 h0 dX11_shirtHere_32 ?_
      refine r_i2l (pc := 35) C dX11_shirtHere_35 ?_
      refine r_lconst (pc := 36) (v := lN 1) C dX11_shirtHere_36 rfl ?_
      refine r_ldc2 (pc := 37) C nX11_250 dX11_shirtHere_37 ?_
      refine r_sI3 (pc := 40) C (fun r M' e => zX11_in X.1 (Int32.toInt64 (M5.1 a0 16)) (lN 1) (lN 99) M5 r M' e) mX11_in lX11_51 (by decide) (Nat.le_of_ble_eq_true rfl) dX11_shirtHere_40 h (fun r9 M10 h => ?_)
      refine r_if_ne (pc := 43) (tgt := 55) C dX11_shirtHere_43 (by decide) h (fun _ h => ?_) (fun _ h => ?_)
      · exact hJ55  M10  h
      · refine r_aload_n (pc := 46) C dX11_shirtHere_46 rfl rfl ?_
        refine r_iconst (pc := 47) (v := (nI 2)) C dX11_shirtHere_47 (by decide) ?_
        refine r_aload_n (pc := 48) C dX11_shirtHere_48 rfl rfl ?_
        refine r_getI (pc := 49) C kX11_161 h0 dX11_shirtHere_49 ?_
        refine r_vV2 (pc := 52) C (fun M' e => zX11_errs X.1 a0 h0 (nI 2) (M10.1 a0 14) M10 M' e) h0 (by decide) rfl mX11_errs lX11_202 (by decide) (Nat.le_of_ble_eq_true rfl) dX11_shirtHere_52 h (fun M11 h => ?_)
        exact hJ55  M11  h
  refine r_if_eq (pc := 4) (tgt := 24) C dX11_shirtHere_4 (by decide) h (fun _ h => ?_) (fun _ h => ?_)
  · exact hJ24  M2  h
  · refine r_aload_n (pc := 7) C dX11_shirtHere_7 rfl rfl ?_
    refine r_getI (pc := 8) C kX11_164 h0 dX11_shirtHere_8 ?_
    refine r_iconst (pc := 11) (v := (nI 2)) C dX11_shirtHere_11 (by decide) ?_
    refine r_icmp_eq (pc := 12) (tgt := 24) C dX11_shirtHere_12 (by decide) h (fun _ h => ?_) (fun _ h => ?_)
    · exact hJ24  M2  h
    · refine r_aload_n (pc := 15) C dX11_shirtHere_15 rfl rfl ?_
      refine r_iconst (pc := 16) (v := (nI 1)) C dX11_shirtHere_16 (by decide) ?_
      refine r_aload_n (pc := 17) C dX11_shirtHere_17 rfl rfl ?_
      refine r_getI (pc := 18) C kX11_161 h0 dX11_shirtHere_18 ?_
      refine r_vV2 (pc := 21) C (fun M' e => zX11_errs X.1 a0 h0 (nI 1) (M2.1 a0 14) M2 M' e) h0 (by decide) rfl mX11_errs lX11_202 (by decide) (Nat.le_of_ble_eq_true rfl) dX11_shirtHere_21 h (fun M12 h => ?_)
      exact hJ24  M12  h
theorem dX11_findShirt_0 : decode cX11_findShirt 0 = .ok (.iconst 0, 1) := by decide +kernel
theorem dX11_findShirt_1 : decode cX11_findShirt 1 = .ok (.istore_n 3, 1) := by decide +kernel
theorem dX11_findShirt_2 : decode cX11_findShirt 2 = .ok (.iload_n 3, 1) := by decide +kernel
theorem dX11_findShirt_3 : decode cX11_findShirt 3 = .ok (.aload_n 0, 1) := by decide +kernel
theorem dX11_findShirt_4 : decode cX11_findShirt 4 = .ok (.iload_n 1, 1) := by decide +kernel
theorem dX11_findShirt_5 : decode cX11_findShirt 5 = .ok (.invokevirtual 59, 3) := by decide +kernel
theorem dX11_findShirt_8 : decode cX11_findShirt 8 = .ok (.if_icmp .ge 30, 3) := by decide +kernel
theorem dX11_findShirt_11 : decode cX11_findShirt 11 = .ok (.aload_n 0, 1) := by decide +kernel
theorem dX11_findShirt_12 : decode cX11_findShirt 12 = .ok (.getfield 16, 3) := by decide +kernel
theorem dX11_findShirt_15 : decode cX11_findShirt 15 = .ok (.iconst 5, 1) := by decide +kernel
theorem dX11_findShirt_16 : decode cX11_findShirt 16 = .ok (.bipush 10, 2) := by decide +kernel
theorem dX11_findShirt_18 : decode cX11_findShirt 18 = .ok (.iload_n 1, 1) := by decide +kernel
theorem dX11_findShirt_19 : decode cX11_findShirt 19 = .ok (.imul, 1) := by decide +kernel
theorem dX11_findShirt_20 : decode cX11_findShirt 20 = .ok (.iadd, 1) := by decide +kernel
theorem dX11_findShirt_21 : decode cX11_findShirt 21 = .ok (.iload_n 3, 1) := by decide +kernel
theorem dX11_findShirt_22 : decode cX11_findShirt 22 = .ok (.iadd, 1) := by decide +kernel
theorem dX11_findShirt_23 : decode cX11_findShirt 23 = .ok (.laload, 1) := by decide +kernel
theorem dX11_findShirt_24 : decode cX11_findShirt 24 = .ok (.iload_n 2, 1) := by decide +kernel
theorem dX11_findShirt_25 : decode cX11_findShirt 25 = .ok (.i2l, 1) := by decide +kernel
theorem dX11_findShirt_26 : decode cX11_findShirt 26 = .ok (.lcmp, 1) := by decide +kernel
theorem dX11_findShirt_27 : decode cX11_findShirt 27 = .ok (.ifCond .ne 5, 3) := by decide +kernel
theorem dX11_findShirt_30 : decode cX11_findShirt 30 = .ok (.iload_n 3, 1) := by decide +kernel
theorem dX11_findShirt_31 : decode cX11_findShirt 31 = .ok (.ireturn, 1) := by decide +kernel
theorem dX11_findShirt_32 : decode cX11_findShirt 32 = .ok (.iinc 3 1, 3) := by decide +kernel
theorem dX11_findShirt_35 : decode cX11_findShirt 35 = .ok (.goto (-33), 3) := by decide +kernel
theorem dX11_findShirt_38 : decode cX11_findShirt 38 = .ok (.iconst (-1), 1) := by decide +kernel
theorem dX11_findShirt_39 : decode cX11_findShirt 39 = .ok (.ireturn, 1) := by decide +kernel
def fX11_findShirt_l2 (p0 : Nat) (p1 : Int32) (p2 : Int32) (K : Int32 → xMem → Option (Int32 × xMem)) : Nat → Int32 → xMem → Option (Int32 × xMem)
  | 0, _, _ => none
  | n + 1, v3, M => xBn (fX11_many p0 p1 M) fun r1 M2 => if r1 ≤ v3 then (K v3 M2) else (xGb (((nI 5) + ((nI 10) * p1)) + v3) (xln (xnw M2)) (if (lg_cmp (M2.2.1 (xnw M2) (Int32.toNatClampNeg (((nI 5) + ((nI 10) * p1)) + v3))) (Int32.toInt64 p2)) = 0 then (some (v3, M2)) else (xLt (v3 + nI 1) fun x4 => fX11_findShirt_l2 p0 p1 p2 K n x4 M2)))
def fX11_findShirt (a0 : Nat) (a1 : Int32) (a2 : Int32) (M : xMem) : Option (Int32 × xMem) :=
  fX11_findShirt_l2 a0 a1 a2 (fun (v5 : Int32) (M6 : xMem) => some ((-1), M6)) xFU (nI 0) M
set_option maxRecDepth 100000 in
set_option maxHeartbeats 4000000 in
theorem lX11_findShirt_2 {X : xCX} {r : Int32} {M' : xMem} (C : xCk X cX11_findShirt RX11 3) (R0 : xRk X (some .int) (some (.int r), M')) (hnL : X.2.2.2.2.2.2.2.2.2.2.2.2.2 = 4) (p0 : Nat) (hp0 : xkd p0 = 11) (p1 : Int32) (p2 : Int32) (K : Int32 → xMem → Option (Int32 × xMem)) (hK : ∀ (v3 : Int32) (M : xMem), K v3 M = some (r, M') → WW X 38 [some (vr X.1 p0), some (.int p1), some (.int p2), some (.int v3)] [] M) : ∀ (n : Nat) (v3 : Int32) (M : xMem), fX11_findShirt_l2 p0 p1 p2 K n v3 M = some (r, M') → WW X 2 [some (vr X.1 p0), some (.int p1), some (.int p2), some (.int v3)] [] M := by
  have hn3 : 3 < X.2.2.2.2.2.2.2.2.2.2.2.2.2 := by rw [hnL]; decide
  intro n
  induction n with
  | zero =>
    intro v3 M h
    cases (show (none : Option (Int32 × xMem)) = some (r, M') from h)
  | succ n ih =>
    intro v3 M h
    rw [fX11_findShirt_l2.eq_2] at h
    refine r_iload_n (pc := 2) C dX11_findShirt_2 rfl rfl ?_
    refine r_aload_n (pc := 3) C dX11_findShirt_3 rfl rfl ?_
    refine r_iload_n (pc := 4) C dX11_findShirt_4 rfl rfl ?_
    refine r_vI1 (pc := 5) C (fun r M' e => zX11_many X.1 p0 hp0 p1 M r M' e) hp0 (by decide) rfl mX11_many lX11_59 (by decide) (Nat.le_of_ble_eq_true rfl) dX11_findShirt_5 h (fun r1 M2 h => ?_)
    refine r_icmp_ge (pc := 8) (tgt := 38) C dX11_findShirt_8 (by decide) h (fun _ h => ?_) (fun _ h => ?_)
    · exact hK v3 M2 h
    · refine r_aload_n (pc := 11) C dX11_findShirt_11 rfl rfl ?_
      refine r_getW (pc := 12) C kX11_16 hp0 dX11_findShirt_12 ?_
      refine r_iconst (pc := 15) (v := (nI 5)) C dX11_findShirt_15 (by decide) ?_
      refine r_bipush (pc := 16) (v := (nI 10)) C dX11_findShirt_16 (by decide) ?_
      refine r_iload_n (pc := 18) C dX11_findShirt_18 rfl rfl ?_
      refine r_imul (pc := 19) C dX11_findShirt_19 ?_
      refine r_iadd (pc := 20) C dX11_findShirt_20 ?_
      refine r_iload_n (pc := 21) C dX11_findShirt_21 rfl rfl ?_
      refine r_iadd (pc := 22) C dX11_findShirt_22 ?_
      obtain ⟨g3, h⟩ := xGb_of h
      refine r_lald (pc := 23) C (xknw M2) g3 dX11_findShirt_23 ?_
      refine r_iload_n (pc := 24) C dX11_findShirt_24 rfl rfl ?_
      refine r_i2l (pc := 25) C dX11_findShirt_25 ?_
      refine r_lcmp (pc := 26) C dX11_findShirt_26 ?_
      refine r_if_ne (pc := 27) (tgt := 32) C dX11_findShirt_27 (by decide) h (fun _ h => ?_) (fun _ h => ?_)
      · refine r_iincL (pc := 32) (c := nI 1) C dX11_findShirt_32 rfl (by decide) hn3 h (fun x4 h => ?_)
        refine r_lvE (lv' := [_, _, _, _]) rfl ?_
        refine r_goto (pc := 35) (tgt := 2) C dX11_findShirt_35 (by decide) ?_
        exact ih x4 M2 h
      · refine r_iload_n (pc := 30) C dX11_findShirt_30 rfl rfl ?_
        exact r_iret (pc := 31) C R0 h dX11_findShirt_31
set_option maxRecDepth 100000 in
set_option maxHeartbeats 4000000 in
theorem zX11_findShirt (G : xGX) (a0 : Nat) (h0 : xkd a0 = 11) (a1 : Int32) (a2 : Int32) (M : xMem) (r : Int32) (M' : xMem) (h : fX11_findShirt a0 a1 a2 M = some (r, M')) : xCt G yX11_findShirt cX11_findShirt 4 (some .int) 3 [vr G a0, .int a1, .int a2] M (some (.int r), M') := by
  refine xMet (lv := [some (vr G a0), some (.int a1), some (.int a2), none]) (by decide) (Nat.le_of_ble_eq_true rfl) rfl ?_
  intro X hG hnL C R0
  subst hG
  have C : xCk X cX11_findShirt RX11 3 := C
  have hn3 : 3 < X.2.2.2.2.2.2.2.2.2.2.2.2.2 := by rw [hnL]; decide
  unfold fX11_findShirt at h
  refine r_iconst (pc := 0) (v := (nI 0)) C dX11_findShirt_0 (by decide) ?_
  refine r_istore_n (pc := 1) (lv' := [_, _, _, _]) C dX11_findShirt_1 rfl hn3 rfl ?_
  refine lX11_findShirt_2 C R0 hnL a0 h0 a1 a2 _ (fun v5 M6 h => ?_) _ _ _ h
  refine r_iconst (pc := 38) (v := (-1)) C dX11_findShirt_38 (by decide) ?_
  exact r_iret (pc := 39) C R0 h dX11_findShirt_39
theorem dX11_oneHere_0 : decode cX11_oneHere 0 = .ok (.aload_n 0, 1) := by decide +kernel
theorem dX11_oneHere_1 : decode cX11_oneHere 1 = .ok (.invokevirtual 252, 3) := by decide +kernel
theorem dX11_oneHere_4 : decode cX11_oneHere 4 = .ok (.istore_n 2, 1) := by decide +kernel
theorem dX11_oneHere_5 : decode cX11_oneHere 5 = .ok (.aload_n 0, 1) := by decide +kernel
theorem dX11_oneHere_6 : decode cX11_oneHere 6 = .ok (.iload_n 1, 1) := by decide +kernel
theorem dX11_oneHere_7 : decode cX11_oneHere 7 = .ok (.iload_n 2, 1) := by decide +kernel
theorem dX11_oneHere_8 : decode cX11_oneHere 8 = .ok (.invokevirtual 255, 3) := by decide +kernel
theorem dX11_oneHere_11 : decode cX11_oneHere 11 = .ok (.istore_n 3, 1) := by decide +kernel
theorem dX11_oneHere_12 : decode cX11_oneHere 12 = .ok (.aload_n 0, 1) := by decide +kernel
theorem dX11_oneHere_13 : decode cX11_oneHere 13 = .ok (.invokevirtual 149, 3) := by decide +kernel
theorem dX11_oneHere_16 : decode cX11_oneHere 16 = .ok (.ifCond .eq 17, 3) := by decide +kernel
theorem dX11_oneHere_19 : decode cX11_oneHere 19 = .ok (.iload_n 3, 1) := by decide +kernel
theorem dX11_oneHere_20 : decode cX11_oneHere 20 = .ok (.iconst (-1), 1) := by decide +kernel
theorem dX11_oneHere_21 : decode cX11_oneHere 21 = .ok (.if_icmp .ne 12, 3) := by decide +kernel
theorem dX11_oneHere_24 : decode cX11_oneHere 24 = .ok (.aload_n 0, 1) := by decide +kernel
theorem dX11_oneHere_25 : decode cX11_oneHere 25 = .ok (.iconst 4, 1) := by decide +kernel
theorem dX11_oneHere_26 : decode cX11_oneHere 26 = .ok (.aload_n 0, 1) := by decide +kernel
theorem dX11_oneHere_27 : decode cX11_oneHere 27 = .ok (.getfield 161, 3) := by decide +kernel
theorem dX11_oneHere_30 : decode cX11_oneHere 30 = .ok (.invokevirtual 202, 3) := by decide +kernel
theorem dX11_oneHere_33 : decode cX11_oneHere 33 = .ok (.aload_n 0, 1) := by decide +kernel
theorem dX11_oneHere_34 : decode cX11_oneHere 34 = .ok (.invokevirtual 149, 3) := by decide +kernel
theorem dX11_oneHere_37 : decode cX11_oneHere 37 = .ok (.ifCond .eq 7, 3) := by decide +kernel
theorem dX11_oneHere_40 : decode cX11_oneHere 40 = .ok (.iload_n 3, 1) := by decide +kernel
theorem dX11_oneHere_41 : decode cX11_oneHere 41 = .ok (.goto 4, 3) := by decide +kernel
theorem dX11_oneHere_44 : decode cX11_oneHere 44 = .ok (.iconst 0, 1) := by decide +kernel
theorem dX11_oneHere_45 : decode cX11_oneHere 45 = .ok (.ireturn, 1) := by decide +kernel
def fX11_oneHere (a0 : Nat) (a1 : Int32) (M : xMem) : Option (Int32 × xMem) :=
  xBn (fX11_shirtHere a0 M) fun r1 M2 => xBn (fX11_findShirt a0 a1 r1 M2) fun r3 M4 => xBn (fX11_good a0 M4) fun r5 M6 => xLt (fun  (M7 : xMem) => (xBn (fX11_good a0 M7) fun r8 M9 => if r8 = 0 then (some ((nI 0), M9)) else (some (r3, M9)) : Option (Int32 × xMem))) fun J33 => if r5 = 0 then (J33  M6) else (if r3 = (-1) then (xBv (fX11_errs a0 (nI 4) (M6.1 a0 14) M6) fun M10 => J33  M10) else (J33  M6))
set_option maxRecDepth 100000 in
set_option maxHeartbeats 4000000 in
theorem zX11_oneHere (G : xGX) (a0 : Nat) (h0 : xkd a0 = 11) (a1 : Int32) (M : xMem) (r : Int32) (M' : xMem) (h : fX11_oneHere a0 a1 M = some (r, M')) : xCt G yX11_oneHere cX11_oneHere 4 (some .int) 4 [vr G a0, .int a1] M (some (.int r), M') := by
  refine xMet (lv := [some (vr G a0), some (.int a1), none, none]) (by decide) (Nat.le_of_ble_eq_true rfl) rfl ?_
  intro X hG hnL C R0
  subst hG
  have C : xCk X cX11_oneHere RX11 4 := C
  have hn2 : 2 < X.2.2.2.2.2.2.2.2.2.2.2.2.2 := by rw [hnL]; decide
  have hn3 : 3 < X.2.2.2.2.2.2.2.2.2.2.2.2.2 := by rw [hnL]; decide
  unfold fX11_oneHere at h
  refine r_aload_n (pc := 0) C dX11_oneHere_0 rfl rfl ?_
  refine r_vI0 (pc := 1) C (fun r M' e => zX11_shirtHere X.1 a0 h0 M r M' e) h0 (by decide) rfl mX11_shirtHere lX11_252 (by decide) (Nat.le_of_ble_eq_true rfl) dX11_oneHere_1 h (fun r1 M2 h => ?_)
  refine r_istore_n (pc := 4) (lv' := [_, _, _, _]) C dX11_oneHere_4 rfl hn2 rfl ?_
  refine r_aload_n (pc := 5) C dX11_oneHere_5 rfl rfl ?_
  refine r_iload_n (pc := 6) C dX11_oneHere_6 rfl rfl ?_
  refine r_iload_n (pc := 7) C dX11_oneHere_7 rfl rfl ?_
  refine r_vI2 (pc := 8) C (fun r M' e => zX11_findShirt X.1 a0 h0 a1 r1 M2 r M' e) h0 (by decide) rfl mX11_findShirt lX11_255 (by decide) (Nat.le_of_ble_eq_true rfl) dX11_oneHere_8 h (fun r3 M4 h => ?_)
  refine r_istore_n (pc := 11) (lv' := [_, _, _, _]) C dX11_oneHere_11 rfl hn3 rfl ?_
  refine r_aload_n (pc := 12) C dX11_oneHere_12 rfl rfl ?_
  refine r_vI0 (pc := 13) C (fun r M' e => zX11_good X.1 a0 h0 M4 r M' e) h0 (by decide) rfl mX11_good lX11_149 (by decide) (Nat.le_of_ble_eq_true rfl) dX11_oneHere_13 h (fun r5 M6 h => ?_)
  refine r_jn (fun J => ∀  (M7 : xMem) , J  M7 = some (r, M') → WW X 33 [some (vr X.1 a0), some (.int a1), some (.int r1), some (.int r3)] [] M7) h (fun  M7  h => ?_) (fun J33 hJ33 h => ?_)
  · refine r_aload_n (pc := 33) C dX11_oneHere_33 rfl rfl ?_
    refine r_vI0 (pc := 34) C (fun r M' e => zX11_good X.1 a0 h0 M7 r M' e) h0 (by decide) rfl mX11_good lX11_149 (by decide) (Nat.le_of_ble_eq_true rfl) dX11_oneHere_34 h (fun r8 M9 h => ?_)
    refine r_if_eq (pc := 37) (tgt := 44) C dX11_oneHere_37 (by decide) h (fun _ h => ?_) (fun _ h => ?_)
    · refine r_iconst (pc := 44) (v := (nI 0)) C dX11_oneHere_44 (by decide) ?_
      exact r_iret (pc := 45) C R0 h dX11_oneHere_45
    · refine r_iload_n (pc := 40) C dX11_oneHere_40 rfl rfl ?_
      refine r_goto (pc := 41) (tgt := 45) C dX11_oneHere_41 (by decide) ?_
      exact r_iret (pc := 45) C R0 h dX11_oneHere_45
  refine r_if_eq (pc := 16) (tgt := 33) C dX11_oneHere_16 (by decide) h (fun _ h => ?_) (fun _ h => ?_)
  · exact hJ33  M6  h
  · refine r_iload_n (pc := 19) C dX11_oneHere_19 rfl rfl ?_
    refine r_iconst (pc := 20) (v := (-1)) C dX11_oneHere_20 (by decide) ?_
    refine r_icmp_ne (pc := 21) (tgt := 33) C dX11_oneHere_21 (by decide) h (fun _ h => ?_) (fun _ h => ?_)
    · exact hJ33  M6  h
    · refine r_aload_n (pc := 24) C dX11_oneHere_24 rfl rfl ?_
      refine r_iconst (pc := 25) (v := (nI 4)) C dX11_oneHere_25 (by decide) ?_
      refine r_aload_n (pc := 26) C dX11_oneHere_26 rfl rfl ?_
      refine r_getI (pc := 27) C kX11_161 h0 dX11_oneHere_27 ?_
      refine r_vV2 (pc := 30) C (fun M' e => zX11_errs X.1 a0 h0 (nI 4) (M6.1 a0 14) M6 M' e) h0 (by decide) rfl mX11_errs lX11_202 (by decide) (Nat.le_of_ble_eq_true rfl) dX11_oneHere_30 h (fun M10 h => ?_)
      exact hJ33  M10  h
theorem dX11_can_0 : decode cX11_can 0 = .ok (.aload_n 0, 1) := by decide +kernel
theorem dX11_can_1 : decode cX11_can 1 = .ok (.invokevirtual 149, 3) := by decide +kernel
theorem dX11_can_4 : decode cX11_can 4 = .ok (.ifCond .eq 16, 3) := by decide +kernel
theorem dX11_can_7 : decode cX11_can 7 = .ok (.iload_n 1, 1) := by decide +kernel
theorem dX11_can_8 : decode cX11_can 8 = .ok (.ifCond .ne 12, 3) := by decide +kernel
theorem dX11_can_11 : decode cX11_can 11 = .ok (.aload_n 0, 1) := by decide +kernel
theorem dX11_can_12 : decode cX11_can 12 = .ok (.iconst 5, 1) := by decide +kernel
theorem dX11_can_13 : decode cX11_can 13 = .ok (.aload_n 0, 1) := by decide +kernel
theorem dX11_can_14 : decode cX11_can 14 = .ok (.getfield 161, 3) := by decide +kernel
theorem dX11_can_17 : decode cX11_can 17 = .ok (.invokevirtual 202, 3) := by decide +kernel
theorem dX11_can_20 : decode cX11_can 20 = .ok (.return_, 1) := by decide +kernel
def fX11_can (a0 : Nat) (a1 : Int32) (M : xMem) : Option (xMem) :=
  xBn (fX11_good a0 M) fun r1 M2 => if r1 = 0 then (some M2) else (if a1 = 0 then (xBv (fX11_errs a0 (nI 5) (M2.1 a0 14) M2) fun M3 => some M3) else (some M2))
set_option maxRecDepth 100000 in
set_option maxHeartbeats 4000000 in
theorem zX11_can (G : xGX) (a0 : Nat) (h0 : xkd a0 = 11) (a1 : Int32) (M : xMem) (M' : xMem) (h : fX11_can a0 a1 M = some M') : xCt G yX11_can cX11_can 2 none 3 [vr G a0, .int a1] M (none, M') := by
  refine xMet (lv := [some (vr G a0), some (.int a1)]) (by decide) (Nat.le_of_ble_eq_true rfl) rfl ?_
  intro X hG hnL C R0
  subst hG
  have C : xCk X cX11_can RX11 3 := C
  unfold fX11_can at h
  refine r_aload_n (pc := 0) C dX11_can_0 rfl rfl ?_
  refine r_vI0 (pc := 1) C (fun r M' e => zX11_good X.1 a0 h0 M r M' e) h0 (by decide) rfl mX11_good lX11_149 (by decide) (Nat.le_of_ble_eq_true rfl) dX11_can_1 h (fun r1 M2 h => ?_)
  refine r_if_eq (pc := 4) (tgt := 20) C dX11_can_4 (by decide) h (fun _ h => ?_) (fun _ h => ?_)
  · exact r_vret (pc := 20) C R0 h dX11_can_20
  · refine r_iload_n (pc := 7) C dX11_can_7 rfl rfl ?_
    refine r_if_ne (pc := 8) (tgt := 20) C dX11_can_8 (by decide) h (fun _ h => ?_) (fun _ h => ?_)
    · exact r_vret (pc := 20) C R0 h dX11_can_20
    · refine r_aload_n (pc := 11) C dX11_can_11 rfl rfl ?_
      refine r_iconst (pc := 12) (v := (nI 5)) C dX11_can_12 (by decide) ?_
      refine r_aload_n (pc := 13) C dX11_can_13 rfl rfl ?_
      refine r_getI (pc := 14) C kX11_161 h0 dX11_can_14 ?_
      refine r_vV2 (pc := 17) C (fun M' e => zX11_errs X.1 a0 h0 (nI 5) (M2.1 a0 14) M2 M' e) h0 (by decide) rfl mX11_errs lX11_202 (by decide) (Nat.le_of_ble_eq_true rfl) dX11_can_17 h (fun M3 h => ?_)
      exact r_vret (pc := 20) C R0 h dX11_can_20
