/-! ===== the law's loop ===== -/
theorem dL_law_18 : decode cL_law 18 = .ok (.iload_n 3, 1) := by decide +kernel
theorem dL_law_19 : decode cL_law 19 = .ok (.aload_n 0, 1) := by decide +kernel
theorem dL_law_20 : decode cL_law 20 = .ok (.arraylength, 1) := by decide +kernel
theorem dL_law_21 : decode cL_law 21 = .ok (.bipush 6, 2) := by decide +kernel
theorem dL_law_23 : decode cL_law 23 = .ok (.isub, 1) := by decide +kernel
theorem dL_law_24 : decode cL_law 24 = .ok (.if_icmp .gt 1915, 3) := by decide +kernel
theorem dL_law_27 : decode cL_law 27 = .ok (.aload_n 0, 1) := by decide +kernel
theorem dL_law_28 : decode cL_law 28 = .ok (.iload_n 3, 1) := by decide +kernel
theorem dL_law_29 : decode cL_law 29 = .ok (.iaload, 1) := by decide +kernel
theorem dL_law_30 : decode cL_law 30 = .ok (.bipush 63, 2) := by decide +kernel
theorem dL_law_32 : decode cL_law 32 = .ok (.iand, 1) := by decide +kernel
theorem dL_law_33 : decode cL_law 33 = .ok (.tableswitch 1900 0 54 #[235, 298, 321, 334, 357, 380, 413, 446, 479, 512, 545, 578, 611, 634, 647, 670, 683, 726, 759, 792, 815, 828, 851, 884, 937, 1000, 1013, 1036, 1089, 1122, 1155, 1178, 1201, 1224, 1267, 1320, 1363, 1406, 1419, 1452, 1475, 1488, 1511, 1534, 1547, 1580, 1623, 1666, 1699, 1732, 1745, 1778, 1811, 1844, 1877], 235) := by decide +kernel
theorem dL_law_1933 : decode cL_law 1933 = .ok (.iinc 3 6, 3) := by decide +kernel
theorem dL_law_1936 : decode cL_law 1936 = .ok (.goto (-1918), 3) := by decide +kernel
theorem dL_law_1939 : decode cL_law 1939 = .ok (.iconst 1, 1) := by decide +kernel
theorem dL_law_1940 : decode cL_law 1940 = .ok (.ireturn, 1) := by decide +kernel
set_option maxRecDepth 100000 in
theorem law_loop {X : xCX} {b L : Nat} {xs : Nat → Int32} (C : xCk X cL_law RL 16) (hn : X.2.2.2.2.2.2.2.2.2.2.2.2.2 = 4) (hS : xSc X b L xs) (hL : L ≤ 3072) (ke : ∀ i M, WW X 1939 [some (.ref b), some (vr X.1 0), some (vr X.1 146), some (.int (i))] [] M) : ∀ (f i : Nat) (M : xMem), i ≤ 3078 → L ≤ i + 6 * f → TOP M → WW X 18 [some (.ref b), some (vr X.1 0), some (vr X.1 146), some (.int (nI i))] [] M
  | f, i, M, hi, hf, hT => by
    refine r_iload_n (pc := 18) C dL_law_18 rfl rfl ?_
    refine r_xld_n (pc := 19) C dL_law_19 rfl rfl rfl ?_
    refine r_sclen (pc := 20) C hS dL_law_20 ?_
    refine r_bipush (pc := 21) (v := nI 6) C dL_law_21 (by decide) ?_
    refine r_isub (pc := 23) C dL_law_23 ?_
    refine r_icmp_gt (pc := 24) (tgt := 1939) (A := some ()) (B := some ()) (r := ()) C dL_law_24 (by decide) (by split <;> rfl) (fun _ _ => ke _ _) (fun hlt _ => ?_)
    have hlt : ¬ (nI L - nI 6 < nI i) := hlt
    have h6 : i + 6 ≤ L := by
      rw [Int32.lt_iff_toInt_lt, pk_sub_toInt (by omega) (by decide), nI_toInt (by omega)] at hlt
      omega
    have h5 : ∀ j, j < 6 → vp_in (nI i + nI j) L := fun j hj => pk_in (i + j) L (by omega) (nI_add i j) (by omega)
    have kk : ∀ M', TOP M' → WW X 1933 [some (.ref b), some (vr X.1 0), some (vr X.1 146), some (.int (nI i))] [] M' := by
      intro M' hT'
      refine r_iinc (pc := 1933) (x := nI i) (v := nI (i + 6)) (lv' := [some (.ref b), some (vr X.1 0), some (vr X.1 146), some (.int (nI (i + 6)))]) C dL_law_1933 rfl (nI_add i 6) (by rw [hn]; decide) rfl ?_
      refine r_goto (pc := 1936) (tgt := 18) C dL_law_1936 (by decide) ?_
      match f, hf with
      | 0, hf => omega
      | f + 1, hf => exact law_loop C hn hS hL ke f (i + 6) M' (by omega) (by omega) hT'
    refine r_xld_n (pc := 27) C dL_law_27 rfl rfl rfl ?_
    refine r_iload_n (pc := 28) C dL_law_28 rfl rfl ?_
    refine r_scld (pc := 29) C hS (pk_in i L (by omega) rfl (by omega)) dL_law_29 ?_
    refine r_bipush (pc := 30) (v := 63) C dL_law_30 (by decide) ?_
    refine r_iand (pc := 32) C dL_law_32 ?_
    obtain ⟨k, hk, he⟩ := pk_andE (xs (nI i).toNatClampNeg) (m := 63) 6 (by decide)
    rcases (show k = 0 ∨ k = 1 ∨ k = 2 ∨ k = 3 ∨ k = 4 ∨ k = 5 ∨ k = 6 ∨ k = 7 ∨ k = 8 ∨ k = 9 ∨ k = 10 ∨ k = 11 ∨ k = 12 ∨ k = 13 ∨ k = 14 ∨ k = 15 ∨ k = 16 ∨ k = 17 ∨ k = 18 ∨ k = 19 ∨ k = 20 ∨ k = 21 ∨ k = 22 ∨ k = 23 ∨ k = 24 ∨ k = 25 ∨ k = 26 ∨ k = 27 ∨ k = 28 ∨ k = 29 ∨ k = 30 ∨ k = 31 ∨ k = 32 ∨ k = 33 ∨ k = 34 ∨ k = 35 ∨ k = 36 ∨ k = 37 ∨ k = 38 ∨ k = 39 ∨ k = 40 ∨ k = 41 ∨ k = 42 ∨ k = 43 ∨ k = 44 ∨ k = 45 ∨ k = 46 ∨ k = 47 ∨ k = 48 ∨ k = 49 ∨ k = 50 ∨ k = 51 ∨ k = 52 ∨ k = 53 ∨ k = 54 ∨ 55 ≤ k by omega) with rfl | rfl | rfl | rfl | rfl | rfl | rfl | rfl | rfl | rfl | rfl | rfl | rfl | rfl | rfl | rfl | rfl | rfl | rfl | rfl | rfl | rfl | rfl | rfl | rfl | rfl | rfl | rfl | rfl | rfl | rfl | rfl | rfl | rfl | rfl | rfl | rfl | rfl | rfl | rfl | rfl | rfl | rfl | rfl | rfl | rfl | rfl | rfl | rfl | rfl | rfl | rfl | rfl | rfl | rfl | hk9
    · exact r_tabInE (pc := 33) (tgt := 268) (c := nI 0) (off := 235) he C dL_law_33 (by decide) (by decide) (by decide) (by decide) (lawc_0 C hS h5 hT kk)
    · exact r_tabInE (pc := 33) (tgt := 331) (c := nI 1) (off := 298) he C dL_law_33 (by decide) (by decide) (by decide) (by decide) (lawc_1 C hS h5 hT kk)
    · exact r_tabInE (pc := 33) (tgt := 354) (c := nI 2) (off := 321) he C dL_law_33 (by decide) (by decide) (by decide) (by decide) (lawc_2 C hS h5 hT kk)
    · exact r_tabInE (pc := 33) (tgt := 367) (c := nI 3) (off := 334) he C dL_law_33 (by decide) (by decide) (by decide) (by decide) (lawc_3 C hS h5 hT kk)
    · exact r_tabInE (pc := 33) (tgt := 390) (c := nI 4) (off := 357) he C dL_law_33 (by decide) (by decide) (by decide) (by decide) (lawc_4 C hS h5 hT kk)
    · exact r_tabInE (pc := 33) (tgt := 413) (c := nI 5) (off := 380) he C dL_law_33 (by decide) (by decide) (by decide) (by decide) (lawc_5 C hS h5 hT kk)
    · exact r_tabInE (pc := 33) (tgt := 446) (c := nI 6) (off := 413) he C dL_law_33 (by decide) (by decide) (by decide) (by decide) (lawc_6 C hS h5 hT kk)
    · exact r_tabInE (pc := 33) (tgt := 479) (c := nI 7) (off := 446) he C dL_law_33 (by decide) (by decide) (by decide) (by decide) (lawc_7 C hS h5 hT kk)
    · exact r_tabInE (pc := 33) (tgt := 512) (c := nI 8) (off := 479) he C dL_law_33 (by decide) (by decide) (by decide) (by decide) (lawc_8 C hS h5 hT kk)
    · exact r_tabInE (pc := 33) (tgt := 545) (c := nI 9) (off := 512) he C dL_law_33 (by decide) (by decide) (by decide) (by decide) (lawc_9 C hS h5 hT kk)
    · exact r_tabInE (pc := 33) (tgt := 578) (c := nI 10) (off := 545) he C dL_law_33 (by decide) (by decide) (by decide) (by decide) (lawc_10 C hS h5 hT kk)
    · exact r_tabInE (pc := 33) (tgt := 611) (c := nI 11) (off := 578) he C dL_law_33 (by decide) (by decide) (by decide) (by decide) (lawc_11 C hS h5 hT kk)
    · exact r_tabInE (pc := 33) (tgt := 644) (c := nI 12) (off := 611) he C dL_law_33 (by decide) (by decide) (by decide) (by decide) (lawc_12 C hS h5 hT kk)
    · exact r_tabInE (pc := 33) (tgt := 667) (c := nI 13) (off := 634) he C dL_law_33 (by decide) (by decide) (by decide) (by decide) (lawc_13 C hS h5 hT kk)
    · exact r_tabInE (pc := 33) (tgt := 680) (c := nI 14) (off := 647) he C dL_law_33 (by decide) (by decide) (by decide) (by decide) (lawc_14 C hS h5 hT kk)
    · exact r_tabInE (pc := 33) (tgt := 703) (c := nI 15) (off := 670) he C dL_law_33 (by decide) (by decide) (by decide) (by decide) (lawc_15 C hS h5 hT kk)
    · exact r_tabInE (pc := 33) (tgt := 716) (c := nI 16) (off := 683) he C dL_law_33 (by decide) (by decide) (by decide) (by decide) (lawc_16 C hS h5 hT kk)
    · exact r_tabInE (pc := 33) (tgt := 759) (c := nI 17) (off := 726) he C dL_law_33 (by decide) (by decide) (by decide) (by decide) (lawc_17 C hS h5 hT kk)
    · exact r_tabInE (pc := 33) (tgt := 792) (c := nI 18) (off := 759) he C dL_law_33 (by decide) (by decide) (by decide) (by decide) (lawc_18 C hS h5 hT kk)
    · exact r_tabInE (pc := 33) (tgt := 825) (c := nI 19) (off := 792) he C dL_law_33 (by decide) (by decide) (by decide) (by decide) (lawc_19 C hS h5 hT kk)
    · exact r_tabInE (pc := 33) (tgt := 848) (c := nI 20) (off := 815) he C dL_law_33 (by decide) (by decide) (by decide) (by decide) (lawc_20 C hS h5 hT kk)
    · exact r_tabInE (pc := 33) (tgt := 861) (c := nI 21) (off := 828) he C dL_law_33 (by decide) (by decide) (by decide) (by decide) (lawc_21 C hS h5 hT kk)
    · exact r_tabInE (pc := 33) (tgt := 884) (c := nI 22) (off := 851) he C dL_law_33 (by decide) (by decide) (by decide) (by decide) (lawc_22 C hS h5 hT kk)
    · exact r_tabInE (pc := 33) (tgt := 917) (c := nI 23) (off := 884) he C dL_law_33 (by decide) (by decide) (by decide) (by decide) (lawc_23 C hS h5 hT kk)
    · exact r_tabInE (pc := 33) (tgt := 970) (c := nI 24) (off := 937) he C dL_law_33 (by decide) (by decide) (by decide) (by decide) (lawc_24 C hS h5 hT kk)
    · exact r_tabInE (pc := 33) (tgt := 1033) (c := nI 25) (off := 1000) he C dL_law_33 (by decide) (by decide) (by decide) (by decide) (lawc_25 C hS h5 hT kk)
    · exact r_tabInE (pc := 33) (tgt := 1046) (c := nI 26) (off := 1013) he C dL_law_33 (by decide) (by decide) (by decide) (by decide) (lawc_26 C hS h5 hT kk)
    · exact r_tabInE (pc := 33) (tgt := 1069) (c := nI 27) (off := 1036) he C dL_law_33 (by decide) (by decide) (by decide) (by decide) (lawc_27 C hS h5 hT kk)
    · exact r_tabInE (pc := 33) (tgt := 1122) (c := nI 28) (off := 1089) he C dL_law_33 (by decide) (by decide) (by decide) (by decide) (lawc_28 C hS h5 hT kk)
    · exact r_tabInE (pc := 33) (tgt := 1155) (c := nI 29) (off := 1122) he C dL_law_33 (by decide) (by decide) (by decide) (by decide) (lawc_29 C hS h5 hT kk)
    · exact r_tabInE (pc := 33) (tgt := 1188) (c := nI 30) (off := 1155) he C dL_law_33 (by decide) (by decide) (by decide) (by decide) (lawc_30 C hS h5 hT kk)
    · exact r_tabInE (pc := 33) (tgt := 1211) (c := nI 31) (off := 1178) he C dL_law_33 (by decide) (by decide) (by decide) (by decide) (lawc_31 C hS h5 hT kk)
    · exact r_tabInE (pc := 33) (tgt := 1234) (c := nI 32) (off := 1201) he C dL_law_33 (by decide) (by decide) (by decide) (by decide) (lawc_32 C hS h5 hT kk)
    · exact r_tabInE (pc := 33) (tgt := 1257) (c := nI 33) (off := 1224) he C dL_law_33 (by decide) (by decide) (by decide) (by decide) (lawc_33 C hS h5 hT kk)
    · exact r_tabInE (pc := 33) (tgt := 1300) (c := nI 34) (off := 1267) he C dL_law_33 (by decide) (by decide) (by decide) (by decide) (lawc_34 C hS h5 hT kk)
    · exact r_tabInE (pc := 33) (tgt := 1353) (c := nI 35) (off := 1320) he C dL_law_33 (by decide) (by decide) (by decide) (by decide) (lawc_35 C hS h5 hT kk)
    · exact r_tabInE (pc := 33) (tgt := 1396) (c := nI 36) (off := 1363) he C dL_law_33 (by decide) (by decide) (by decide) (by decide) (lawc_36 C hS h5 hT kk)
    · exact r_tabInE (pc := 33) (tgt := 1439) (c := nI 37) (off := 1406) he C dL_law_33 (by decide) (by decide) (by decide) (by decide) (lawc_37 C hS h5 hT kk)
    · exact r_tabInE (pc := 33) (tgt := 1452) (c := nI 38) (off := 1419) he C dL_law_33 (by decide) (by decide) (by decide) (by decide) (lawc_38 C hS h5 hT kk)
    · exact r_tabInE (pc := 33) (tgt := 1485) (c := nI 39) (off := 1452) he C dL_law_33 (by decide) (by decide) (by decide) (by decide) (lawc_39 C hS h5 hT kk)
    · exact r_tabInE (pc := 33) (tgt := 1508) (c := nI 40) (off := 1475) he C dL_law_33 (by decide) (by decide) (by decide) (by decide) (lawc_40 C hS h5 hT kk)
    · exact r_tabInE (pc := 33) (tgt := 1521) (c := nI 41) (off := 1488) he C dL_law_33 (by decide) (by decide) (by decide) (by decide) (lawc_41 C hS h5 hT kk)
    · exact r_tabInE (pc := 33) (tgt := 1544) (c := nI 42) (off := 1511) he C dL_law_33 (by decide) (by decide) (by decide) (by decide) (lawc_42 C hS h5 hT kk)
    · exact r_tabInE (pc := 33) (tgt := 1567) (c := nI 43) (off := 1534) he C dL_law_33 (by decide) (by decide) (by decide) (by decide) (lawc_43 C hS h5 hT kk)
    · exact r_tabInE (pc := 33) (tgt := 1580) (c := nI 44) (off := 1547) he C dL_law_33 (by decide) (by decide) (by decide) (by decide) (lawc_44 C hS h5 hT kk)
    · exact r_tabInE (pc := 33) (tgt := 1613) (c := nI 45) (off := 1580) he C dL_law_33 (by decide) (by decide) (by decide) (by decide) (lawc_45 C hS h5 hT kk)
    · exact r_tabInE (pc := 33) (tgt := 1656) (c := nI 46) (off := 1623) he C dL_law_33 (by decide) (by decide) (by decide) (by decide) (lawc_46 C hS h5 hT kk)
    · exact r_tabInE (pc := 33) (tgt := 1699) (c := nI 47) (off := 1666) he C dL_law_33 (by decide) (by decide) (by decide) (by decide) (lawc_47 C hS h5 hT kk)
    · exact r_tabInE (pc := 33) (tgt := 1732) (c := nI 48) (off := 1699) he C dL_law_33 (by decide) (by decide) (by decide) (by decide) (lawc_48 C hS h5 hT kk)
    · exact r_tabInE (pc := 33) (tgt := 1765) (c := nI 49) (off := 1732) he C dL_law_33 (by decide) (by decide) (by decide) (by decide) (lawc_49 C hS h5 hT kk)
    · exact r_tabInE (pc := 33) (tgt := 1778) (c := nI 50) (off := 1745) he C dL_law_33 (by decide) (by decide) (by decide) (by decide) (lawc_50 C hS h5 hT kk)
    · exact r_tabInE (pc := 33) (tgt := 1811) (c := nI 51) (off := 1778) he C dL_law_33 (by decide) (by decide) (by decide) (by decide) (lawc_51 C hS h5 hT kk)
    · exact r_tabInE (pc := 33) (tgt := 1844) (c := nI 52) (off := 1811) he C dL_law_33 (by decide) (by decide) (by decide) (by decide) (lawc_52 C hS h5 hT kk)
    · exact r_tabInE (pc := 33) (tgt := 1877) (c := nI 53) (off := 1844) he C dL_law_33 (by decide) (by decide) (by decide) (by decide) (lawc_53 C hS h5 hT kk)
    · exact r_tabInE (pc := 33) (tgt := 1910) (c := nI 54) (off := 1877) he C dL_law_33 (by decide) (by decide) (by decide) (by decide) (lawc_54 C hS h5 hT kk)
    · refine r_tabOut (pc := 33) (tgt := 1933) C dL_law_33 (Or.inr ?_) (by decide) (kk M hT)
      rw [he, nI_toInt (by omega)]
      omega
