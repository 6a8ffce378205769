theorem dX7_begin_0 : decode cX7_begin 0 = .ok (.aload_n 0, 1) := by decide +kernel
theorem dX7_begin_1 : decode cX7_begin 1 = .ok (.iload_n 1, 1) := by decide +kernel
theorem dX7_begin_2 : decode cX7_begin 2 = .ok (.putfield 24, 3) := by decide +kernel
theorem dX7_begin_5 : decode cX7_begin 5 = .ok (.aload_n 0, 1) := by decide +kernel
theorem dX7_begin_6 : decode cX7_begin 6 = .ok (.iconst 0, 1) := by decide +kernel
theorem dX7_begin_7 : decode cX7_begin 7 = .ok (.putfield 28, 3) := by decide +kernel
theorem dX7_begin_10 : decode cX7_begin 10 = .ok (.aload_n 0, 1) := by decide +kernel
theorem dX7_begin_11 : decode cX7_begin 11 = .ok (.iconst 0, 1) := by decide +kernel
theorem dX7_begin_12 : decode cX7_begin 12 = .ok (.putfield 31, 3) := by decide +kernel
theorem dX7_begin_15 : decode cX7_begin 15 = .ok (.aload_n 0, 1) := by decide +kernel
theorem dX7_begin_16 : decode cX7_begin 16 = .ok (.iconst 0, 1) := by decide +kernel
theorem dX7_begin_17 : decode cX7_begin 17 = .ok (.putfield 34, 3) := by decide +kernel
theorem dX7_begin_20 : decode cX7_begin 20 = .ok (.aload_n 0, 1) := by decide +kernel
theorem dX7_begin_21 : decode cX7_begin 21 = .ok (.iconst 0, 1) := by decide +kernel
theorem dX7_begin_22 : decode cX7_begin 22 = .ok (.putfield 37, 3) := by decide +kernel
theorem dX7_begin_25 : decode cX7_begin 25 = .ok (.aload_n 0, 1) := by decide +kernel
theorem dX7_begin_26 : decode cX7_begin 26 = .ok (.iconst 0, 1) := by decide +kernel
theorem dX7_begin_27 : decode cX7_begin 27 = .ok (.putfield 40, 3) := by decide +kernel
theorem dX7_begin_30 : decode cX7_begin 30 = .ok (.iconst 0, 1) := by decide +kernel
theorem dX7_begin_31 : decode cX7_begin 31 = .ok (.istore_n 2, 1) := by decide +kernel
theorem dX7_begin_32 : decode cX7_begin 32 = .ok (.iload_n 2, 1) := by decide +kernel
theorem dX7_begin_33 : decode cX7_begin 33 = .ok (.bipush 10, 2) := by decide +kernel
theorem dX7_begin_35 : decode cX7_begin 35 = .ok (.if_icmp .ge 40, 3) := by decide +kernel
theorem dX7_begin_38 : decode cX7_begin 38 = .ok (.aload_n 0, 1) := by decide +kernel
theorem dX7_begin_39 : decode cX7_begin 39 = .ok (.getfield 9, 3) := by decide +kernel
theorem dX7_begin_42 : decode cX7_begin 42 = .ok (.iload_n 2, 1) := by decide +kernel
theorem dX7_begin_43 : decode cX7_begin 43 = .ok (.iload_n 2, 1) := by decide +kernel
theorem dX7_begin_44 : decode cX7_begin 44 = .ok (.bipush 7, 2) := by decide +kernel
theorem dX7_begin_46 : decode cX7_begin 46 = .ok (.if_icmp .ge 7, 3) := by decide +kernel
theorem dX7_begin_49 : decode cX7_begin 49 = .ok (.iconst 0, 1) := by decide +kernel
theorem dX7_begin_50 : decode cX7_begin 50 = .ok (.goto 4, 3) := by decide +kernel
theorem dX7_begin_53 : decode cX7_begin 53 = .ok (.iconst 2, 1) := by decide +kernel
theorem dX7_begin_54 : decode cX7_begin 54 = .ok (.iastore, 1) := by decide +kernel
theorem dX7_begin_55 : decode cX7_begin 55 = .ok (.aload_n 0, 1) := by decide +kernel
theorem dX7_begin_56 : decode cX7_begin 56 = .ok (.getfield 15, 3) := by decide +kernel
theorem dX7_begin_59 : decode cX7_begin 59 = .ok (.iload_n 2, 1) := by decide +kernel
theorem dX7_begin_60 : decode cX7_begin 60 = .ok (.iconst 0, 1) := by decide +kernel
theorem dX7_begin_61 : decode cX7_begin 61 = .ok (.iastore, 1) := by decide +kernel
theorem dX7_begin_62 : decode cX7_begin 62 = .ok (.aload_n 0, 1) := by decide +kernel
theorem dX7_begin_63 : decode cX7_begin 63 = .ok (.getfield 18, 3) := by decide +kernel
theorem dX7_begin_66 : decode cX7_begin 66 = .ok (.iload_n 2, 1) := by decide +kernel
theorem dX7_begin_67 : decode cX7_begin 67 = .ok (.iconst 0, 1) := by decide +kernel
theorem dX7_begin_68 : decode cX7_begin 68 = .ok (.iastore, 1) := by decide +kernel
theorem dX7_begin_69 : decode cX7_begin 69 = .ok (.iinc 2 1, 3) := by decide +kernel
theorem dX7_begin_72 : decode cX7_begin 72 = .ok (.goto (-40), 3) := by decide +kernel
theorem dX7_begin_75 : decode cX7_begin 75 = .ok (.return_, 1) := by decide +kernel
def fX7_begin_l32 (p0 : Nat) (p1 : Int32) (K : Int32 → xMem → Option (xMem)) : Nat → Int32 → xMem → Option (xMem)
  | 0, _, _ => none
  | n + 1, v2, M => if (nI 10) ≤ v2 then (K v2 M) else (xLt (fun (s7 : Int32) (M8 : xMem) => (xGb v2 (xln (xrf p0 0)) (xLt (xwI M8 (xrf p0 0) (Int32.toNatClampNeg v2) s7) fun M10 => xGb v2 (xln (xrf p0 1)) (xLt (xwI M10 (xrf p0 1) (Int32.toNatClampNeg v2) (nI 0)) fun M12 => xGb v2 (xln (xrf p0 2)) (xLt (xwI M12 (xrf p0 2) (Int32.toNatClampNeg v2) (nI 0)) fun M14 => xLt (v2 + nI 1) fun x15 => fX7_begin_l32 p0 p1 K n x15 M14))) : Option (xMem))) fun J54 => if (nI 7) ≤ v2 then (J54 (nI 2) M) else (J54 (nI 0) M))
def fX7_begin (a0 : Nat) (a1 : Int32) (M : xMem) : Option (xMem) :=
  xLt (xwI M a0 4 a1) fun M1 => xLt (xwI M1 a0 5 (nI 0)) fun M2 => xLt (xwI M2 a0 6 (nI 0)) fun M3 => xLt (xwI M3 a0 7 (nI 0)) fun M4 => xLt (xwI M4 a0 8 (nI 0)) fun M5 => xLt (xwI M5 a0 9 (nI 0)) fun M6 => fX7_begin_l32 a0 a1 (fun (v16 : Int32) (M17 : xMem) => some M17) xFU (nI 0) M6
set_option maxRecDepth 100000 in
set_option maxHeartbeats 4000000 in
theorem lX7_begin_32 {X : xCX} {M' : xMem} (C : xCk X cX7_begin RX7 1) (R0 : xRk X none (none, M')) (hnL : X.2.2.2.2.2.2.2.2.2.2.2.2.2 = 3) (p0 : Nat) (hp0 : xkd p0 = 7) (p1 : Int32) (K : Int32 → xMem → Option (xMem)) (hK : ∀ (v2 : Int32) (M : xMem), K v2 M = some M' → WW X 75 [some (vr X.1 p0), some (.int p1), some (.int v2)] [] M) : ∀ (n : Nat) (v2 : Int32) (M : xMem), fX7_begin_l32 p0 p1 K n v2 M = some M' → WW X 32 [some (vr X.1 p0), some (.int p1), some (.int v2)] [] M := by
  have hn2 : 2 < X.2.2.2.2.2.2.2.2.2.2.2.2.2 := by rw [hnL]; decide
  intro n
  induction n with
  | zero =>
    intro v2 M h
    cases (show (none : Option (xMem)) = some M' from h)
  | succ n ih =>
    intro v2 M h
    rw [fX7_begin_l32.eq_2] at h
    refine r_iload_n (pc := 32) C dX7_begin_32 rfl rfl ?_
    refine r_bipush (pc := 33) (v := (nI 10)) C dX7_begin_33 (by decide) ?_
    refine r_icmp_ge (pc := 35) (tgt := 75) C dX7_begin_35 (by decide) h (fun _ h => ?_) (fun _ h => ?_)
    · exact hK v2 M h
    · refine r_aload_n (pc := 38) C dX7_begin_38 rfl rfl ?_
      refine r_getR (pc := 39) C kX7_9 hp0 (by decide) dX7_begin_39 ?_
      refine r_iload_n (pc := 42) C dX7_begin_42 rfl rfl ?_
      refine r_iload_n (pc := 43) C dX7_begin_43 rfl rfl ?_
      refine r_bipush (pc := 44) (v := (nI 7)) C dX7_begin_44 (by decide) ?_
      refine r_jn (fun J => ∀ (s7 : Int32) (M8 : xMem) , J s7 M8 = some M' → WW X 54 [some (vr X.1 p0), some (.int p1), some (.int v2)] [.int s7, .int v2, vr X.1 (xrf p0 0)] M8) h (fun s7 M8  h => ?_) (fun J54 hJ54 h => ?_)
      · obtain ⟨g9, h⟩ := xGb_of h
        refine r_iast (pc := 54) C (xtk hp0 (by decide) rfl rfl) g9 dX7_begin_54 ?_
        refine r_letM h (fun M10 h => ?_)
        refine r_aload_n (pc := 55) C dX7_begin_55 rfl rfl ?_
        refine r_getR (pc := 56) C kX7_15 hp0 (by decide) dX7_begin_56 ?_
        refine r_iload_n (pc := 59) C dX7_begin_59 rfl rfl ?_
        refine r_iconst (pc := 60) (v := (nI 0)) C dX7_begin_60 (by decide) ?_
        obtain ⟨g11, h⟩ := xGb_of h
        refine r_iast (pc := 61) C (xtk hp0 (by decide) rfl rfl) g11 dX7_begin_61 ?_
        refine r_letM h (fun M12 h => ?_)
        refine r_aload_n (pc := 62) C dX7_begin_62 rfl rfl ?_
        refine r_getR (pc := 63) C kX7_18 hp0 (by decide) dX7_begin_63 ?_
        refine r_iload_n (pc := 66) C dX7_begin_66 rfl rfl ?_
        refine r_iconst (pc := 67) (v := (nI 0)) C dX7_begin_67 (by decide) ?_
        obtain ⟨g13, h⟩ := xGb_of h
        refine r_iast (pc := 68) C (xtk hp0 (by decide) rfl rfl) g13 dX7_begin_68 ?_
        refine r_letM h (fun M14 h => ?_)
        refine r_iincL (pc := 69) (c := nI 1) C dX7_begin_69 rfl (by decide) hn2 h (fun x15 h => ?_)
        refine r_lvE (lv' := [_, _, _]) rfl ?_
        refine r_goto (pc := 72) (tgt := 32) C dX7_begin_72 (by decide) ?_
        exact ih x15 M14 h
      refine r_icmp_ge (pc := 46) (tgt := 53) C dX7_begin_46 (by decide) h (fun _ h => ?_) (fun _ h => ?_)
      · refine r_iconst (pc := 53) (v := (nI 2)) C dX7_begin_53 (by decide) ?_
        exact hJ54 (nI 2) M  h
      · refine r_iconst (pc := 49) (v := (nI 0)) C dX7_begin_49 (by decide) ?_
        refine r_goto (pc := 50) (tgt := 54) C dX7_begin_50 (by decide) ?_
        exact hJ54 (nI 0) M  h
set_option maxRecDepth 100000 in
set_option maxHeartbeats 4000000 in
theorem zX7_begin (G : xGX) (a0 : Nat) (h0 : xkd a0 = 7) (a1 : Int32) (M : xMem) (M' : xMem) (h : fX7_begin a0 a1 M = some M') : xCt G yX7_begin cX7_begin 3 none 1 [vr G a0, .int a1] M (none, M') := by
  refine xMet (lv := [some (vr G a0), some (.int a1), none]) (by decide) (Nat.le_of_ble_eq_true rfl) rfl ?_
  intro X hG hnL C R0
  subst hG
  have C : xCk X cX7_begin RX7 1 := C
  have hn2 : 2 < X.2.2.2.2.2.2.2.2.2.2.2.2.2 := by rw [hnL]; decide
  unfold fX7_begin at h
  refine r_aload_n (pc := 0) C dX7_begin_0 rfl rfl ?_
  refine r_iload_n (pc := 1) C dX7_begin_1 rfl rfl ?_
  refine r_putI (pc := 2) C kX7_24 h0 dX7_begin_2 ?_
  refine r_letM h (fun M1 h => ?_)
  refine r_aload_n (pc := 5) C dX7_begin_5 rfl rfl ?_
  refine r_iconst (pc := 6) (v := (nI 0)) C dX7_begin_6 (by decide) ?_
  refine r_putI (pc := 7) C kX7_28 h0 dX7_begin_7 ?_
  refine r_letM h (fun M2 h => ?_)
  refine r_aload_n (pc := 10) C dX7_begin_10 rfl rfl ?_
  refine r_iconst (pc := 11) (v := (nI 0)) C dX7_begin_11 (by decide) ?_
  refine r_putI (pc := 12) C kX7_31 h0 dX7_begin_12 ?_
  refine r_letM h (fun M3 h => ?_)
  refine r_aload_n (pc := 15) C dX7_begin_15 rfl rfl ?_
  refine r_iconst (pc := 16) (v := (nI 0)) C dX7_begin_16 (by decide) ?_
  refine r_putI (pc := 17) C kX7_34 h0 dX7_begin_17 ?_
  refine r_letM h (fun M4 h => ?_)
  refine r_aload_n (pc := 20) C dX7_begin_20 rfl rfl ?_
  refine r_iconst (pc := 21) (v := (nI 0)) C dX7_begin_21 (by decide) ?_
  refine r_putI (pc := 22) C kX7_37 h0 dX7_begin_22 ?_
  refine r_letM h (fun M5 h => ?_)
  refine r_aload_n (pc := 25) C dX7_begin_25 rfl rfl ?_
  refine r_iconst (pc := 26) (v := (nI 0)) C dX7_begin_26 (by decide) ?_
  refine r_putZ (pc := 27) C kX7_40 h0 (Or.inl (by decide)) dX7_begin_27 ?_
  refine r_letM h (fun M6 h => ?_)
  refine r_iconst (pc := 30) (v := (nI 0)) C dX7_begin_30 (by decide) ?_
  refine r_istore_n (pc := 31) (lv' := [_, _, _]) C dX7_begin_31 rfl hn2 rfl ?_
  refine lX7_begin_32 C R0 hnL a0 h0 a1 _ (fun v16 M17 h => ?_) _ _ _ h
  exact r_vret (pc := 75) C R0 h dX7_begin_75
theorem dX7_copyFrom_0 : decode cX7_copyFrom 0 = .ok (.aload_n 1, 1) := by decide +kernel
theorem dX7_copyFrom_1 : decode cX7_copyFrom 1 = .ok (.getfield 9, 3) := by decide +kernel
theorem dX7_copyFrom_4 : decode cX7_copyFrom 4 = .ok (.iconst 0, 1) := by decide +kernel
theorem dX7_copyFrom_5 : decode cX7_copyFrom 5 = .ok (.aload_n 0, 1) := by decide +kernel
theorem dX7_copyFrom_6 : decode cX7_copyFrom 6 = .ok (.getfield 9, 3) := by decide +kernel
theorem dX7_copyFrom_9 : decode cX7_copyFrom 9 = .ok (.iconst 0, 1) := by decide +kernel
theorem dX7_copyFrom_10 : decode cX7_copyFrom 10 = .ok (.bipush 10, 2) := by decide +kernel
theorem dX7_copyFrom_12 : decode cX7_copyFrom 12 = .ok (.invokestatic 44, 3) := by decide +kernel
theorem dX7_copyFrom_15 : decode cX7_copyFrom 15 = .ok (.aload_n 1, 1) := by decide +kernel
theorem dX7_copyFrom_16 : decode cX7_copyFrom 16 = .ok (.getfield 15, 3) := by decide +kernel
theorem dX7_copyFrom_19 : decode cX7_copyFrom 19 = .ok (.iconst 0, 1) := by decide +kernel
theorem dX7_copyFrom_20 : decode cX7_copyFrom 20 = .ok (.aload_n 0, 1) := by decide +kernel
theorem dX7_copyFrom_21 : decode cX7_copyFrom 21 = .ok (.getfield 15, 3) := by decide +kernel
theorem dX7_copyFrom_24 : decode cX7_copyFrom 24 = .ok (.iconst 0, 1) := by decide +kernel
theorem dX7_copyFrom_25 : decode cX7_copyFrom 25 = .ok (.bipush 10, 2) := by decide +kernel
theorem dX7_copyFrom_27 : decode cX7_copyFrom 27 = .ok (.invokestatic 44, 3) := by decide +kernel
theorem dX7_copyFrom_30 : decode cX7_copyFrom 30 = .ok (.aload_n 1, 1) := by decide +kernel
theorem dX7_copyFrom_31 : decode cX7_copyFrom 31 = .ok (.getfield 18, 3) := by decide +kernel
theorem dX7_copyFrom_34 : decode cX7_copyFrom 34 = .ok (.iconst 0, 1) := by decide +kernel
theorem dX7_copyFrom_35 : decode cX7_copyFrom 35 = .ok (.aload_n 0, 1) := by decide +kernel
theorem dX7_copyFrom_36 : decode cX7_copyFrom 36 = .ok (.getfield 18, 3) := by decide +kernel
theorem dX7_copyFrom_39 : decode cX7_copyFrom 39 = .ok (.iconst 0, 1) := by decide +kernel
theorem dX7_copyFrom_40 : decode cX7_copyFrom 40 = .ok (.bipush 10, 2) := by decide +kernel
theorem dX7_copyFrom_42 : decode cX7_copyFrom 42 = .ok (.invokestatic 44, 3) := by decide +kernel
theorem dX7_copyFrom_45 : decode cX7_copyFrom 45 = .ok (.aload_n 1, 1) := by decide +kernel
theorem dX7_copyFrom_46 : decode cX7_copyFrom 46 = .ok (.getfield 21, 3) := by decide +kernel
theorem dX7_copyFrom_49 : decode cX7_copyFrom 49 = .ok (.iconst 0, 1) := by decide +kernel
theorem dX7_copyFrom_50 : decode cX7_copyFrom 50 = .ok (.aload_n 0, 1) := by decide +kernel
theorem dX7_copyFrom_51 : decode cX7_copyFrom 51 = .ok (.getfield 21, 3) := by decide +kernel
theorem dX7_copyFrom_54 : decode cX7_copyFrom 54 = .ok (.iconst 0, 1) := by decide +kernel
theorem dX7_copyFrom_55 : decode cX7_copyFrom 55 = .ok (.bipush 10, 2) := by decide +kernel
theorem dX7_copyFrom_57 : decode cX7_copyFrom 57 = .ok (.invokestatic 44, 3) := by decide +kernel
theorem dX7_copyFrom_60 : decode cX7_copyFrom 60 = .ok (.aload_n 0, 1) := by decide +kernel
theorem dX7_copyFrom_61 : decode cX7_copyFrom 61 = .ok (.aload_n 1, 1) := by decide +kernel
theorem dX7_copyFrom_62 : decode cX7_copyFrom 62 = .ok (.getfield 24, 3) := by decide +kernel
theorem dX7_copyFrom_65 : decode cX7_copyFrom 65 = .ok (.putfield 24, 3) := by decide +kernel
theorem dX7_copyFrom_68 : decode cX7_copyFrom 68 = .ok (.aload_n 0, 1) := by decide +kernel
theorem dX7_copyFrom_69 : decode cX7_copyFrom 69 = .ok (.aload_n 1, 1) := by decide +kernel
theorem dX7_copyFrom_70 : decode cX7_copyFrom 70 = .ok (.getfield 28, 3) := by decide +kernel
theorem dX7_copyFrom_73 : decode cX7_copyFrom 73 = .ok (.putfield 28, 3) := by decide +kernel
theorem dX7_copyFrom_76 : decode cX7_copyFrom 76 = .ok (.aload_n 0, 1) := by decide +kernel
theorem dX7_copyFrom_77 : decode cX7_copyFrom 77 = .ok (.aload_n 1, 1) := by decide +kernel
theorem dX7_copyFrom_78 : decode cX7_copyFrom 78 = .ok (.getfield 31, 3) := by decide +kernel
theorem dX7_copyFrom_81 : decode cX7_copyFrom 81 = .ok (.putfield 31, 3) := by decide +kernel
theorem dX7_copyFrom_84 : decode cX7_copyFrom 84 = .ok (.aload_n 0, 1) := by decide +kernel
theorem dX7_copyFrom_85 : decode cX7_copyFrom 85 = .ok (.aload_n 1, 1) := by decide +kernel
theorem dX7_copyFrom_86 : decode cX7_copyFrom 86 = .ok (.getfield 34, 3) := by decide +kernel
theorem dX7_copyFrom_89 : decode cX7_copyFrom 89 = .ok (.putfield 34, 3) := by decide +kernel
theorem dX7_copyFrom_92 : decode cX7_copyFrom 92 = .ok (.aload_n 0, 1) := by decide +kernel
theorem dX7_copyFrom_93 : decode cX7_copyFrom 93 = .ok (.aload_n 1, 1) := by decide +kernel
theorem dX7_copyFrom_94 : decode cX7_copyFrom 94 = .ok (.getfield 37, 3) := by decide +kernel
theorem dX7_copyFrom_97 : decode cX7_copyFrom 97 = .ok (.putfield 37, 3) := by decide +kernel
theorem dX7_copyFrom_100 : decode cX7_copyFrom 100 = .ok (.aload_n 0, 1) := by decide +kernel
theorem dX7_copyFrom_101 : decode cX7_copyFrom 101 = .ok (.aload_n 1, 1) := by decide +kernel
theorem dX7_copyFrom_102 : decode cX7_copyFrom 102 = .ok (.getfield 40, 3) := by decide +kernel
theorem dX7_copyFrom_105 : decode cX7_copyFrom 105 = .ok (.putfield 40, 3) := by decide +kernel
theorem dX7_copyFrom_108 : decode cX7_copyFrom 108 = .ok (.return_, 1) := by decide +kernel
def fX7_copyFrom (a0 : Nat) (a1 : Nat) (M : xMem) : Option (xMem) :=
  xGc (nI 0) (nI 0) (nI 10) (xln (xrf a1 0)) (xln (xrf a0 0)) (xLt (xwR M (xrf a0 0) (va_cpy (M.1 (xrf a1 0)) (M.1 (xrf a0 0)) (Int32.toNatClampNeg (nI 0)) (Int32.toNatClampNeg (nI 0)) (Int32.toNatClampNeg (nI 10)))) fun M2 => xGc (nI 0) (nI 0) (nI 10) (xln (xrf a1 1)) (xln (xrf a0 1)) (xLt (xwR M2 (xrf a0 1) (va_cpy (M2.1 (xrf a1 1)) (M2.1 (xrf a0 1)) (Int32.toNatClampNeg (nI 0)) (Int32.toNatClampNeg (nI 0)) (Int32.toNatClampNeg (nI 10)))) fun M4 => xGc (nI 0) (nI 0) (nI 10) (xln (xrf a1 2)) (xln (xrf a0 2)) (xLt (xwR M4 (xrf a0 2) (va_cpy (M4.1 (xrf a1 2)) (M4.1 (xrf a0 2)) (Int32.toNatClampNeg (nI 0)) (Int32.toNatClampNeg (nI 0)) (Int32.toNatClampNeg (nI 10)))) fun M6 => xGc (nI 0) (nI 0) (nI 10) (xln (xrf a1 3)) (xln (xrf a0 3)) (xLt (xwR M6 (xrf a0 3) (va_cpy (M6.1 (xrf a1 3)) (M6.1 (xrf a0 3)) (Int32.toNatClampNeg (nI 0)) (Int32.toNatClampNeg (nI 0)) (Int32.toNatClampNeg (nI 10)))) fun M8 => xLt (xwI M8 a0 4 (M8.1 a1 4)) fun M9 => xLt (xwI M9 a0 5 (M9.1 a1 5)) fun M10 => xLt (xwI M10 a0 6 (M10.1 a1 6)) fun M11 => xLt (xwI M11 a0 7 (M11.1 a1 7)) fun M12 => xLt (xwI M12 a0 8 (M12.1 a1 8)) fun M13 => xGd ((M13.1 a1 9) = 0 ∨ (M13.1 a1 9) = 1) (xLt (xwI M13 a0 9 (M13.1 a1 9)) fun M15 => some M15)))))
set_option maxRecDepth 100000 in
set_option maxHeartbeats 4000000 in
theorem zX7_copyFrom (G : xGX) (a0 : Nat) (h0 : xkd a0 = 7) (a1 : Nat) (h1 : xkd a1 = 7) (M : xMem) (M' : xMem) (h : fX7_copyFrom a0 a1 M = some M') : xCt G yX7_copyFrom cX7_copyFrom 2 none 1 [vr G a0, vr G a1] M (none, M') := by
  refine xMet (lv := [some (vr G a0), some (vr G a1)]) (by decide) (Nat.le_of_ble_eq_true rfl) rfl ?_
  intro X hG hnL C R0
  subst hG
  have C : xCk X cX7_copyFrom RX7 1 := C
  unfold fX7_copyFrom at h
  refine r_aload_n (pc := 0) C dX7_copyFrom_0 rfl rfl ?_
  refine r_getR (pc := 1) C kX7_9 h1 (by decide) dX7_copyFrom_1 ?_
  refine r_iconst (pc := 4) (v := (nI 0)) C dX7_copyFrom_4 (by decide) ?_
  refine r_aload_n (pc := 5) C dX7_copyFrom_5 rfl rfl ?_
  refine r_getR (pc := 6) C kX7_9 h0 (by decide) dX7_copyFrom_6 ?_
  refine r_iconst (pc := 9) (v := (nI 0)) C dX7_copyFrom_9 (by decide) ?_
  refine r_bipush (pc := 10) (v := (nI 10)) C dX7_copyFrom_10 (by decide) ?_
  obtain ⟨g1, h⟩ := xGc_of h
  refine r_acpI (pc := 12) C (xTb_c4 7 rfl rfl) (xtk h1 (by decide) rfl rfl) (xtk h0 (by decide) rfl rfl) g1 (by decide) (Nat.le_of_ble_eq_true rfl) dX7_copyFrom_12 ?_
  refine r_letM h (fun M2 h => ?_)
  refine r_aload_n (pc := 15) C dX7_copyFrom_15 rfl rfl ?_
  refine r_getR (pc := 16) C kX7_15 h1 (by decide) dX7_copyFrom_16 ?_
  refine r_iconst (pc := 19) (v := (nI 0)) C dX7_copyFrom_19 (by decide) ?_
  refine r_aload_n (pc := 20) C dX7_copyFrom_20 rfl rfl ?_
  refine r_getR (pc := 21) C kX7_15 h0 (by decide) dX7_copyFrom_21 ?_
  refine r_iconst (pc := 24) (v := (nI 0)) C dX7_copyFrom_24 (by decide) ?_
  refine r_bipush (pc := 25) (v := (nI 10)) C dX7_copyFrom_25 (by decide) ?_
  obtain ⟨g3, h⟩ := xGc_of h
  refine r_acpI (pc := 27) C (xTb_c4 7 rfl rfl) (xtk h1 (by decide) rfl rfl) (xtk h0 (by decide) rfl rfl) g3 (by decide) (Nat.le_of_ble_eq_true rfl) dX7_copyFrom_27 ?_
  refine r_letM h (fun M4 h => ?_)
  refine r_aload_n (pc := 30) C dX7_copyFrom_30 rfl rfl ?_
  refine r_getR (pc := 31) C kX7_18 h1 (by decide) dX7_copyFrom_31 ?_
  refine r_iconst (pc := 34) (v := (nI 0)) C dX7_copyFrom_34 (by decide) ?_
  refine r_aload_n (pc := 35) C dX7_copyFrom_35 rfl rfl ?_
  refine r_getR (pc := 36) C kX7_18 h0 (by decide) dX7_copyFrom_36 ?_
  refine r_iconst (pc := 39) (v := (nI 0)) C dX7_copyFrom_39 (by decide) ?_
  refine r_bipush (pc := 40) (v := (nI 10)) C dX7_copyFrom_40 (by decide) ?_
  obtain ⟨g5, h⟩ := xGc_of h
  refine r_acpI (pc := 42) C (xTb_c4 7 rfl rfl) (xtk h1 (by decide) rfl rfl) (xtk h0 (by decide) rfl rfl) g5 (by decide) (Nat.le_of_ble_eq_true rfl) dX7_copyFrom_42 ?_
  refine r_letM h (fun M6 h => ?_)
  refine r_aload_n (pc := 45) C dX7_copyFrom_45 rfl rfl ?_
  refine r_getR (pc := 46) C kX7_21 h1 (by decide) dX7_copyFrom_46 ?_
  refine r_iconst (pc := 49) (v := (nI 0)) C dX7_copyFrom_49 (by decide) ?_
  refine r_aload_n (pc := 50) C dX7_copyFrom_50 rfl rfl ?_
  refine r_getR (pc := 51) C kX7_21 h0 (by decide) dX7_copyFrom_51 ?_
  refine r_iconst (pc := 54) (v := (nI 0)) C dX7_copyFrom_54 (by decide) ?_
  refine r_bipush (pc := 55) (v := (nI 10)) C dX7_copyFrom_55 (by decide) ?_
  obtain ⟨g7, h⟩ := xGc_of h
  refine r_acpI (pc := 57) C (xTb_c4 7 rfl rfl) (xtk h1 (by decide) rfl rfl) (xtk h0 (by decide) rfl rfl) g7 (by decide) (Nat.le_of_ble_eq_true rfl) dX7_copyFrom_57 ?_
  refine r_letM h (fun M8 h => ?_)
  refine r_aload_n (pc := 60) C dX7_copyFrom_60 rfl rfl ?_
  refine r_aload_n (pc := 61) C dX7_copyFrom_61 rfl rfl ?_
  refine r_getI (pc := 62) C kX7_24 h1 dX7_copyFrom_62 ?_
  refine r_putI (pc := 65) C kX7_24 h0 dX7_copyFrom_65 ?_
  refine r_letM h (fun M9 h => ?_)
  refine r_aload_n (pc := 68) C dX7_copyFrom_68 rfl rfl ?_
  refine r_aload_n (pc := 69) C dX7_copyFrom_69 rfl rfl ?_
  refine r_getI (pc := 70) C kX7_28 h1 dX7_copyFrom_70 ?_
  refine r_putI (pc := 73) C kX7_28 h0 dX7_copyFrom_73 ?_
  refine r_letM h (fun M10 h => ?_)
  refine r_aload_n (pc := 76) C dX7_copyFrom_76 rfl rfl ?_
  refine r_aload_n (pc := 77) C dX7_copyFrom_77 rfl rfl ?_
  refine r_getI (pc := 78) C kX7_31 h1 dX7_copyFrom_78 ?_
  refine r_putI (pc := 81) C kX7_31 h0 dX7_copyFrom_81 ?_
  refine r_letM h (fun M11 h => ?_)
  refine r_aload_n (pc := 84) C dX7_copyFrom_84 rfl rfl ?_
  refine r_aload_n (pc := 85) C dX7_copyFrom_85 rfl rfl ?_
  refine r_getI (pc := 86) C kX7_34 h1 dX7_copyFrom_86 ?_
  refine r_putI (pc := 89) C kX7_34 h0 dX7_copyFrom_89 ?_
  refine r_letM h (fun M12 h => ?_)
  refine r_aload_n (pc := 92) C dX7_copyFrom_92 rfl rfl ?_
  refine r_aload_n (pc := 93) C dX7_copyFrom_93 rfl rfl ?_
  refine r_getI (pc := 94) C kX7_37 h1 dX7_copyFrom_94 ?_
  refine r_putI (pc := 97) C kX7_37 h0 dX7_copyFrom_97 ?_
  refine r_letM h (fun M13 h => ?_)
  refine r_aload_n (pc := 100) C dX7_copyFrom_100 rfl rfl ?_
  refine r_aload_n (pc := 101) C dX7_copyFrom_101 rfl rfl ?_
  refine r_getI (pc := 102) C kX7_40 h1 dX7_copyFrom_102 ?_
  obtain ⟨g14, h⟩ := xGd_of h
  refine r_putZ (pc := 105) C kX7_40 h0 g14 dX7_copyFrom_105 ?_
  refine r_letM h (fun M15 h => ?_)
  exact r_vret (pc := 108) C R0 h dX7_copyFrom_108
theorem dX7_maskOf_0 : decode cX7_maskOf 0 = .ok (.iconst 0, 1) := by decide +kernel
theorem dX7_maskOf_1 : decode cX7_maskOf 1 = .ok (.istore_n 2, 1) := by decide +kernel
theorem dX7_maskOf_2 : decode cX7_maskOf 2 = .ok (.iconst 0, 1) := by decide +kernel
theorem dX7_maskOf_3 : decode cX7_maskOf 3 = .ok (.istore_n 3, 1) := by decide +kernel
theorem dX7_maskOf_4 : decode cX7_maskOf 4 = .ok (.iload_n 3, 1) := by decide +kernel
theorem dX7_maskOf_5 : decode cX7_maskOf 5 = .ok (.aload_n 0, 1) := by decide +kernel
theorem dX7_maskOf_6 : decode cX7_maskOf 6 = .ok (.getfield 24, 3) := by decide +kernel
theorem dX7_maskOf_9 : decode cX7_maskOf 9 = .ok (.if_icmp .ge 31, 3) := by decide +kernel
theorem dX7_maskOf_12 : decode cX7_maskOf 12 = .ok (.iload_n 3, 1) := by decide +kernel
theorem dX7_maskOf_13 : decode cX7_maskOf 13 = .ok (.bipush 10, 2) := by decide +kernel
theorem dX7_maskOf_15 : decode cX7_maskOf 15 = .ok (.if_icmp .ge 25, 3) := by decide +kernel
theorem dX7_maskOf_18 : decode cX7_maskOf 18 = .ok (.aload_n 0, 1) := by decide +kernel
theorem dX7_maskOf_19 : decode cX7_maskOf 19 = .ok (.getfield 9, 3) := by decide +kernel
theorem dX7_maskOf_22 : decode cX7_maskOf 22 = .ok (.iload_n 3, 1) := by decide +kernel
theorem dX7_maskOf_23 : decode cX7_maskOf 23 = .ok (.iaload, 1) := by decide +kernel
theorem dX7_maskOf_24 : decode cX7_maskOf 24 = .ok (.iload_n 1, 1) := by decide +kernel
theorem dX7_maskOf_25 : decode cX7_maskOf 25 = .ok (.if_icmp .ne 9, 3) := by decide +kernel
theorem dX7_maskOf_28 : decode cX7_maskOf 28 = .ok (.iload_n 2, 1) := by decide +kernel
theorem dX7_maskOf_29 : decode cX7_maskOf 29 = .ok (.iconst 1, 1) := by decide +kernel
theorem dX7_maskOf_30 : decode cX7_maskOf 30 = .ok (.iload_n 3, 1) := by decide +kernel
theorem dX7_maskOf_31 : decode cX7_maskOf 31 = .ok (.ishl, 1) := by decide +kernel
theorem dX7_maskOf_32 : decode cX7_maskOf 32 = .ok (.ior, 1) := by decide +kernel
theorem dX7_maskOf_33 : decode cX7_maskOf 33 = .ok (.istore_n 2, 1) := by decide +kernel
theorem dX7_maskOf_34 : decode cX7_maskOf 34 = .ok (.iinc 3 1, 3) := by decide +kernel
theorem dX7_maskOf_37 : decode cX7_maskOf 37 = .ok (.goto (-33), 3) := by decide +kernel
theorem dX7_maskOf_40 : decode cX7_maskOf 40 = .ok (.iload_n 2, 1) := by decide +kernel
theorem dX7_maskOf_41 : decode cX7_maskOf 41 = .ok (.ireturn, 1) := by decide +kernel
def fX7_maskOf_l4 (p0 : Nat) (p1 : Int32) (K : Int32 → Int32 → xMem → Option (Int32 × xMem)) : Nat → Int32 → Int32 → xMem → Option (Int32 × xMem)
  | 0, _, _, _ => none
  | n + 1, v2, v3, M => if (M.1 p0 4) ≤ v3 then (K v2 v3 M) else (if (nI 10) ≤ v3 then (K v2 v3 M) else (xGb v3 (xln (xrf p0 0)) (if (M.1 (xrf p0 0) (Int32.toNatClampNeg v3)) = p1 then (xLt (v2 ||| ((nI 1) <<< (v3 &&& 31))) fun x3 => xLt (v3 + nI 1) fun x4 => fX7_maskOf_l4 p0 p1 K n x3 x4 M) else (xLt (v3 + nI 1) fun x2 => fX7_maskOf_l4 p0 p1 K n v2 x2 M))))
def fX7_maskOf (a0 : Nat) (a1 : Int32) (M : xMem) : Option (Int32 × xMem) :=
  fX7_maskOf_l4 a0 a1 (fun (v5 : Int32) (v6 : Int32) (M7 : xMem) => some (v5, M7)) xFU (nI 0) (nI 0) M
set_option maxRecDepth 100000 in
set_option maxHeartbeats 4000000 in
theorem lX7_maskOf_4 {X : xCX} {r : Int32} {M' : xMem} (C : xCk X cX7_maskOf RX7 1) (R0 : xRk X (some .int) (some (.int r), M')) (hnL : X.2.2.2.2.2.2.2.2.2.2.2.2.2 = 4) (p0 : Nat) (hp0 : xkd p0 = 7) (p1 : Int32) (K : Int32 → Int32 → xMem → Option (Int32 × xMem)) (hK : ∀ (v2 : Int32) (v3 : Int32) (M : xMem), K v2 v3 M = some (r, M') → WW X 40 [some (vr X.1 p0), some (.int p1), some (.int v2), some (.int v3)] [] M) : ∀ (n : Nat) (v2 : Int32) (v3 : Int32) (M : xMem), fX7_maskOf_l4 p0 p1 K n v2 v3 M = some (r, M') → WW X 4 [some (vr X.1 p0), some (.int p1), some (.int v2), some (.int v3)] [] M := by
  have hn2 : 2 < X.2.2.2.2.2.2.2.2.2.2.2.2.2 := by rw [hnL]; decide
  have hn3 : 3 < X.2.2.2.2.2.2.2.2.2.2.2.2.2 := by rw [hnL]; decide
  intro n
  induction n with
  | zero =>
    intro v2 v3 M h
    cases (show (none : Option (Int32 × xMem)) = some (r, M') from h)
  | succ n ih =>
    intro v2 v3 M h
    rw [fX7_maskOf_l4.eq_2] at h
    refine r_iload_n (pc := 4) C dX7_maskOf_4 rfl rfl ?_
    refine r_aload_n (pc := 5) C dX7_maskOf_5 rfl rfl ?_
    refine r_getI (pc := 6) C kX7_24 hp0 dX7_maskOf_6 ?_
    refine r_icmp_ge (pc := 9) (tgt := 40) C dX7_maskOf_9 (by decide) h (fun _ h => ?_) (fun _ h => ?_)
    · exact hK v2 v3 M h
    · refine r_iload_n (pc := 12) C dX7_maskOf_12 rfl rfl ?_
      refine r_bipush (pc := 13) (v := (nI 10)) C dX7_maskOf_13 (by decide) ?_
      refine r_icmp_ge (pc := 15) (tgt := 40) C dX7_maskOf_15 (by decide) h (fun _ h => ?_) (fun _ h => ?_)
      · exact hK v2 v3 M h
      · refine r_aload_n (pc := 18) C dX7_maskOf_18 rfl rfl ?_
        refine r_getR (pc := 19) C kX7_9 hp0 (by decide) dX7_maskOf_19 ?_
        refine r_iload_n (pc := 22) C dX7_maskOf_22 rfl rfl ?_
        obtain ⟨g1, h⟩ := xGb_of h
        refine r_iald (pc := 23) C (xtk hp0 (by decide) rfl rfl) g1 dX7_maskOf_23 ?_
        refine r_iload_n (pc := 24) C dX7_maskOf_24 rfl rfl ?_
        refine r_icmp_ne (pc := 25) (tgt := 34) C dX7_maskOf_25 (by decide) h (fun _ h => ?_) (fun _ h => ?_)
        · refine r_iincL (pc := 34) (c := nI 1) C dX7_maskOf_34 rfl (by decide) hn3 h (fun x2 h => ?_)
          refine r_lvE (lv' := [_, _, _, _]) rfl ?_
          refine r_goto (pc := 37) (tgt := 4) C dX7_maskOf_37 (by decide) ?_
          exact ih v2 x2 M h
        · refine r_iload_n (pc := 28) C dX7_maskOf_28 rfl rfl ?_
          refine r_iconst (pc := 29) (v := (nI 1)) C dX7_maskOf_29 (by decide) ?_
          refine r_iload_n (pc := 30) C dX7_maskOf_30 rfl rfl ?_
          refine r_ishl (pc := 31) C dX7_maskOf_31 ?_
          refine r_ior (pc := 32) C dX7_maskOf_32 ?_
          refine r_letI h (fun x3 h => ?_)
          refine r_istore_n (pc := 33) (lv' := [_, _, _, _]) C dX7_maskOf_33 rfl hn2 rfl ?_
          refine r_iincL (pc := 34) (c := nI 1) C dX7_maskOf_34 rfl (by decide) hn3 h (fun x4 h => ?_)
          refine r_lvE (lv' := [_, _, _, _]) rfl ?_
          refine r_goto (pc := 37) (tgt := 4) C dX7_maskOf_37 (by decide) ?_
          exact ih x3 x4 M h
set_option maxRecDepth 100000 in
set_option maxHeartbeats 4000000 in
theorem zX7_maskOf (G : xGX) (a0 : Nat) (h0 : xkd a0 = 7) (a1 : Int32) (M : xMem) (r : Int32) (M' : xMem) (h : fX7_maskOf a0 a1 M = some (r, M')) : xCt G yX7_maskOf cX7_maskOf 4 (some .int) 1 [vr G a0, .int a1] M (some (.int r), M') := by
  refine xMet (lv := [some (vr G a0), some (.int a1), none, none]) (by decide) (Nat.le_of_ble_eq_true rfl) rfl ?_
  intro X hG hnL C R0
  subst hG
  have C : xCk X cX7_maskOf RX7 1 := C
  have hn2 : 2 < X.2.2.2.2.2.2.2.2.2.2.2.2.2 := by rw [hnL]; decide
  have hn3 : 3 < X.2.2.2.2.2.2.2.2.2.2.2.2.2 := by rw [hnL]; decide
  unfold fX7_maskOf at h
  refine r_iconst (pc := 0) (v := (nI 0)) C dX7_maskOf_0 (by decide) ?_
  refine r_istore_n (pc := 1) (lv' := [_, _, _, _]) C dX7_maskOf_1 rfl hn2 rfl ?_
  refine r_iconst (pc := 2) (v := (nI 0)) C dX7_maskOf_2 (by decide) ?_
  refine r_istore_n (pc := 3) (lv' := [_, _, _, _]) C dX7_maskOf_3 rfl hn3 rfl ?_
  refine lX7_maskOf_4 C R0 hnL a0 h0 a1 _ (fun v5 v6 M7 h => ?_) _ _ _ _ h
  refine r_iload_n (pc := 40) C dX7_maskOf_40 rfl rfl ?_
  exact r_iret (pc := 41) C R0 h dX7_maskOf_41
theorem dX7_countOf_0 : decode cX7_countOf 0 = .ok (.iconst 0, 1) := by decide +kernel
theorem dX7_countOf_1 : decode cX7_countOf 1 = .ok (.istore_n 2, 1) := by decide +kernel
theorem dX7_countOf_2 : decode cX7_countOf 2 = .ok (.iconst 0, 1) := by decide +kernel
theorem dX7_countOf_3 : decode cX7_countOf 3 = .ok (.istore_n 3, 1) := by decide +kernel
theorem dX7_countOf_4 : decode cX7_countOf 4 = .ok (.iload_n 3, 1) := by decide +kernel
theorem dX7_countOf_5 : decode cX7_countOf 5 = .ok (.aload_n 0, 1) := by decide +kernel
theorem dX7_countOf_6 : decode cX7_countOf 6 = .ok (.getfield 24, 3) := by decide +kernel
theorem dX7_countOf_9 : decode cX7_countOf 9 = .ok (.if_icmp .ge 33, 3) := by decide +kernel
theorem dX7_countOf_12 : decode cX7_countOf 12 = .ok (.iload_n 3, 1) := by decide +kernel
theorem dX7_countOf_13 : decode cX7_countOf 13 = .ok (.bipush 10, 2) := by decide +kernel
theorem dX7_countOf_15 : decode cX7_countOf 15 = .ok (.if_icmp .ge 27, 3) := by decide +kernel
theorem dX7_countOf_18 : decode cX7_countOf 18 = .ok (.iload_n 2, 1) := by decide +kernel
theorem dX7_countOf_19 : decode cX7_countOf 19 = .ok (.aload_n 0, 1) := by decide +kernel
theorem dX7_countOf_20 : decode cX7_countOf 20 = .ok (.getfield 9, 3) := by decide +kernel
theorem dX7_countOf_23 : decode cX7_countOf 23 = .ok (.iload_n 3, 1) := by decide +kernel
theorem dX7_countOf_24 : decode cX7_countOf 24 = .ok (.iaload, 1) := by decide +kernel
theorem dX7_countOf_25 : decode cX7_countOf 25 = .ok (.iload_n 1, 1) := by decide +kernel
theorem dX7_countOf_26 : decode cX7_countOf 26 = .ok (.if_icmp .ne 7, 3) := by decide +kernel
theorem dX7_countOf_29 : decode cX7_countOf 29 = .ok (.iconst 1, 1) := by decide +kernel
theorem dX7_countOf_30 : decode cX7_countOf 30 = .ok (.goto 4, 3) := by decide +kernel
theorem dX7_countOf_33 : decode cX7_countOf 33 = .ok (.iconst 0, 1) := by decide +kernel
theorem dX7_countOf_34 : decode cX7_countOf 34 = .ok (.iadd, 1) := by decide +kernel
theorem dX7_countOf_35 : decode cX7_countOf 35 = .ok (.istore_n 2, 1) := by decide +kernel
theorem dX7_countOf_36 : decode cX7_countOf 36 = .ok (.iinc 3 1, 3) := by decide +kernel
theorem dX7_countOf_39 : decode cX7_countOf 39 = .ok (.goto (-35), 3) := by decide +kernel
theorem dX7_countOf_42 : decode cX7_countOf 42 = .ok (.iload_n 2, 1) := by decide +kernel
theorem dX7_countOf_43 : decode cX7_countOf 43 = .ok (.ireturn, 1) := by decide +kernel
def fX7_countOf_l4 (p0 : Nat) (p1 : Int32) (K : Int32 → Int32 → xMem → Option (Int32 × xMem)) : Nat → Int32 → Int32 → xMem → Option (Int32 × xMem)
  | 0, _, _, _ => none
  | n + 1, v2, v3, M => if (M.1 p0 4) ≤ v3 then (K v2 v3 M) else (if (nI 10) ≤ v3 then (K v2 v3 M) else (xGb v3 (xln (xrf p0 0)) (xLt (fun (s2 : Int32) (M3 : xMem) => (xLt (v2 + s2) fun x4 => xLt (v3 + nI 1) fun x5 => fX7_countOf_l4 p0 p1 K n x4 x5 M3 : Option (Int32 × xMem))) fun J34 => if (M.1 (xrf p0 0) (Int32.toNatClampNeg v3)) = p1 then (J34 (nI 1) M) else (J34 (nI 0) M))))
def fX7_countOf (a0 : Nat) (a1 : Int32) (M : xMem) : Option (Int32 × xMem) :=
  fX7_countOf_l4 a0 a1 (fun (v6 : Int32) (v7 : Int32) (M8 : xMem) => some (v6, M8)) xFU (nI 0) (nI 0) M
set_option maxRecDepth 100000 in
set_option maxHeartbeats 4000000 in
theorem lX7_countOf_4 {X : xCX} {r : Int32} {M' : xMem} (C : xCk X cX7_countOf RX7 1) (R0 : xRk X (some .int) (some (.int r), M')) (hnL : X.2.2.2.2.2.2.2.2.2.2.2.2.2 = 4) (p0 : Nat) (hp0 : xkd p0 = 7) (p1 : Int32) (K : Int32 → Int32 → xMem → Option (Int32 × xMem)) (hK : ∀ (v2 : Int32) (v3 : Int32) (M : xMem), K v2 v3 M = some (r, M') → WW X 42 [some (vr X.1 p0), some (.int p1), some (.int v2), some (.int v3)] [] M) : ∀ (n : Nat) (v2 : Int32) (v3 : Int32) (M : xMem), fX7_countOf_l4 p0 p1 K n v2 v3 M = some (r, M') → WW X 4 [some (vr X.1 p0), some (.int p1), some (.int v2), some (.int v3)] [] M := by
  have hn2 : 2 < X.2.2.2.2.2.2.2.2.2.2.2.2.2 := by rw [hnL]; decide
  have hn3 : 3 < X.2.2.2.2.2.2.2.2.2.2.2.2.2 := by rw [hnL]; decide
  intro n
  induction n with
  | zero =>
    intro v2 v3 M h
    cases (show (none : Option (Int32 × xMem)) = some (r, M') from h)
  | succ n ih =>
    intro v2 v3 M h
    rw [fX7_countOf_l4.eq_2] at h
    refine r_iload_n (pc := 4) C dX7_countOf_4 rfl rfl ?_
    refine r_aload_n (pc := 5) C dX7_countOf_5 rfl rfl ?_
    refine r_getI (pc := 6) C kX7_24 hp0 dX7_countOf_6 ?_
    refine r_icmp_ge (pc := 9) (tgt := 42) C dX7_countOf_9 (by decide) h (fun _ h => ?_) (fun _ h => ?_)
    · exact hK v2 v3 M h
    · refine r_iload_n (pc := 12) C dX7_countOf_12 rfl rfl ?_
      refine r_bipush (pc := 13) (v := (nI 10)) C dX7_countOf_13 (by decide) ?_
      refine r_icmp_ge (pc := 15) (tgt := 42) C dX7_countOf_15 (by decide) h (fun _ h => ?_) (fun _ h => ?_)
      · exact hK v2 v3 M h
      · refine r_iload_n (pc := 18) C dX7_countOf_18 rfl rfl ?_
        refine r_aload_n (pc := 19) C dX7_countOf_19 rfl rfl ?_
        refine r_getR (pc := 20) C kX7_9 hp0 (by decide) dX7_countOf_20 ?_
        refine r_iload_n (pc := 23) C dX7_countOf_23 rfl rfl ?_
        obtain ⟨g1, h⟩ := xGb_of h
        refine r_iald (pc := 24) C (xtk hp0 (by decide) rfl rfl) g1 dX7_countOf_24 ?_
        refine r_iload_n (pc := 25) C dX7_countOf_25 rfl rfl ?_
        refine r_jn (fun J => ∀ (s2 : Int32) (M3 : xMem) , J s2 M3 = some (r, M') → WW X 34 [some (vr X.1 p0), some (.int p1), some (.int v2), some (.int v3)] [.int s2, .int v2] M3) h (fun s2 M3  h => ?_) (fun J34 hJ34 h => ?_)
        · refine r_iadd (pc := 34) C dX7_countOf_34 ?_
          refine r_letI h (fun x4 h => ?_)
          refine r_istore_n (pc := 35) (lv' := [_, _, _, _]) C dX7_countOf_35 rfl hn2 rfl ?_
          refine r_iincL (pc := 36) (c := nI 1) C dX7_countOf_36 rfl (by decide) hn3 h (fun x5 h => ?_)
          refine r_lvE (lv' := [_, _, _, _]) rfl ?_
          refine r_goto (pc := 39) (tgt := 4) C dX7_countOf_39 (by decide) ?_
          exact ih x4 x5 M3 h
        refine r_icmp_ne (pc := 26) (tgt := 33) C dX7_countOf_26 (by decide) h (fun _ h => ?_) (fun _ h => ?_)
        · refine r_iconst (pc := 33) (v := (nI 0)) C dX7_countOf_33 (by decide) ?_
          exact hJ34 (nI 0) M  h
        · refine r_iconst (pc := 29) (v := (nI 1)) C dX7_countOf_29 (by decide) ?_
          refine r_goto (pc := 30) (tgt := 34) C dX7_countOf_30 (by decide) ?_
          exact hJ34 (nI 1) M  h
set_option maxRecDepth 100000 in
set_option maxHeartbeats 4000000 in
theorem zX7_countOf (G : xGX) (a0 : Nat) (h0 : xkd a0 = 7) (a1 : Int32) (M : xMem) (r : Int32) (M' : xMem) (h : fX7_countOf a0 a1 M = some (r, M')) : xCt G yX7_countOf cX7_countOf 4 (some .int) 1 [vr G a0, .int a1] M (some (.int r), M') := by
  refine xMet (lv := [some (vr G a0), some (.int a1), none, none]) (by decide) (Nat.le_of_ble_eq_true rfl) rfl ?_
  intro X hG hnL C R0
  subst hG
  have C : xCk X cX7_countOf RX7 1 := C
  have hn2 : 2 < X.2.2.2.2.2.2.2.2.2.2.2.2.2 := by rw [hnL]; decide
  have hn3 : 3 < X.2.2.2.2.2.2.2.2.2.2.2.2.2 := by rw [hnL]; decide
  unfold fX7_countOf at h
  refine r_iconst (pc := 0) (v := (nI 0)) C dX7_countOf_0 (by decide) ?_
  refine r_istore_n (pc := 1) (lv' := [_, _, _, _]) C dX7_countOf_1 rfl hn2 rfl ?_
  refine r_iconst (pc := 2) (v := (nI 0)) C dX7_countOf_2 (by decide) ?_
  refine r_istore_n (pc := 3) (lv' := [_, _, _, _]) C dX7_countOf_3 rfl hn3 rfl ?_
  refine lX7_countOf_4 C R0 hnL a0 h0 a1 _ (fun v6 v7 M8 h => ?_) _ _ _ _ h
  refine r_iload_n (pc := 42) C dX7_countOf_42 rfl rfl ?_
  exact r_iret (pc := 43) C R0 h dX7_countOf_43
theorem dX7_goOut_0 : decode cX7_goOut 0 = .ok (.aload_n 0, 1) := by decide +kernel
theorem dX7_goOut_1 : decode cX7_goOut 1 = .ok (.getfield 9, 3) := by decide +kernel
theorem dX7_goOut_4 : decode cX7_goOut 4 = .ok (.iload_n 1, 1) := by decide +kernel
theorem dX7_goOut_5 : decode cX7_goOut 5 = .ok (.iconst 1, 1) := by decide +kernel
theorem dX7_goOut_6 : decode cX7_goOut 6 = .ok (.iastore, 1) := by decide +kernel
theorem dX7_goOut_7 : decode cX7_goOut 7 = .ok (.aload_n 0, 1) := by decide +kernel
theorem dX7_goOut_8 : decode cX7_goOut 8 = .ok (.getfield 28, 3) := by decide +kernel
theorem dX7_goOut_11 : decode cX7_goOut 11 = .ok (.aload_n 0, 1) := by decide +kernel
theorem dX7_goOut_12 : decode cX7_goOut 12 = .ok (.getfield 21, 3) := by decide +kernel
theorem dX7_goOut_15 : decode cX7_goOut 15 = .ok (.arraylength, 1) := by decide +kernel
theorem dX7_goOut_16 : decode cX7_goOut 16 = .ok (.if_icmp .ge 23, 3) := by decide +kernel
theorem dX7_goOut_19 : decode cX7_goOut 19 = .ok (.aload_n 0, 1) := by decide +kernel
theorem dX7_goOut_20 : decode cX7_goOut 20 = .ok (.getfield 21, 3) := by decide +kernel
theorem dX7_goOut_23 : decode cX7_goOut 23 = .ok (.aload_n 0, 1) := by decide +kernel
theorem dX7_goOut_24 : decode cX7_goOut 24 = .ok (.getfield 28, 3) := by decide +kernel
theorem dX7_goOut_27 : decode cX7_goOut 27 = .ok (.iload_n 1, 1) := by decide +kernel
theorem dX7_goOut_28 : decode cX7_goOut 28 = .ok (.iastore, 1) := by decide +kernel
theorem dX7_goOut_29 : decode cX7_goOut 29 = .ok (.aload_n 0, 1) := by decide +kernel
theorem dX7_goOut_30 : decode cX7_goOut 30 = .ok (.dup, 1) := by decide +kernel
theorem dX7_goOut_31 : decode cX7_goOut 31 = .ok (.getfield 28, 3) := by decide +kernel
theorem dX7_goOut_34 : decode cX7_goOut 34 = .ok (.iconst 1, 1) := by decide +kernel
theorem dX7_goOut_35 : decode cX7_goOut 35 = .ok (.iadd, 1) := by decide +kernel
theorem dX7_goOut_36 : decode cX7_goOut 36 = .ok (.putfield 28, 3) := by decide +kernel
theorem dX7_goOut_39 : decode cX7_goOut 39 = .ok (.return_, 1) := by decide +kernel
def fX7_goOut (a0 : Nat) (a1 : Int32) (M : xMem) : Option (xMem) :=
  xGb a1 (xln (xrf a0 0)) (xLt (xwI M (xrf a0 0) (Int32.toNatClampNeg a1) (nI 1)) fun M2 => if (nI (xln (xrf a0 3))) ≤ (M2.1 a0 5) then (some M2) else (xGb (M2.1 a0 5) (xln (xrf a0 3)) (xLt (xwI M2 (xrf a0 3) (Int32.toNatClampNeg (M2.1 a0 5)) a1) fun M4 => xLt (xwI M4 a0 5 ((M4.1 a0 5) + (nI 1))) fun M5 => some M5)))
set_option maxRecDepth 100000 in
set_option maxHeartbeats 4000000 in
theorem zX7_goOut (G : xGX) (a0 : Nat) (h0 : xkd a0 = 7) (a1 : Int32) (M : xMem) (M' : xMem) (h : fX7_goOut a0 a1 M = some M') : xCt G yX7_goOut cX7_goOut 2 none 1 [vr G a0, .int a1] M (none, M') := by
  refine xMet (lv := [some (vr G a0), some (.int a1)]) (by decide) (Nat.le_of_ble_eq_true rfl) rfl ?_
  intro X hG hnL C R0
  subst hG
  have C : xCk X cX7_goOut RX7 1 := C
  unfold fX7_goOut at h
  refine r_aload_n (pc := 0) C dX7_goOut_0 rfl rfl ?_
  refine r_getR (pc := 1) C kX7_9 h0 (by decide) dX7_goOut_1 ?_
  refine r_iload_n (pc := 4) C dX7_goOut_4 rfl rfl ?_
  refine r_iconst (pc := 5) (v := (nI 1)) C dX7_goOut_5 (by decide) ?_
  obtain ⟨g1, h⟩ := xGb_of h
  refine r_iast (pc := 6) C (xtk h0 (by decide) rfl rfl) g1 dX7_goOut_6 ?_
  refine r_letM h (fun M2 h => ?_)
  refine r_aload_n (pc := 7) C dX7_goOut_7 rfl rfl ?_
  refine r_getI (pc := 8) C kX7_28 h0 dX7_goOut_8 ?_
  refine r_aload_n (pc := 11) C dX7_goOut_11 rfl rfl ?_
  refine r_getR (pc := 12) C kX7_21 h0 (by decide) dX7_goOut_12 ?_
  refine r_alen (pc := 15) C (xkar (xtk h0 (by decide) rfl rfl) (by decide)) dX7_goOut_15 ?_
  refine r_icmp_ge (pc := 16) (tgt := 39) C dX7_goOut_16 (by decide) h (fun _ h => ?_) (fun _ h => ?_)
  · exact r_vret (pc := 39) C R0 h dX7_goOut_39
  · refine r_aload_n (pc := 19) C dX7_goOut_19 rfl rfl ?_
    refine r_getR (pc := 20) C kX7_21 h0 (by decide) dX7_goOut_20 ?_
    refine r_aload_n (pc := 23) C dX7_goOut_23 rfl rfl ?_
    refine r_getI (pc := 24) C kX7_28 h0 dX7_goOut_24 ?_
    refine r_iload_n (pc := 27) C dX7_goOut_27 rfl rfl ?_
    obtain ⟨g3, h⟩ := xGb_of h
    refine r_iast (pc := 28) C (xtk h0 (by decide) rfl rfl) g3 dX7_goOut_28 ?_
    refine r_letM h (fun M4 h => ?_)
    refine r_aload_n (pc := 29) C dX7_goOut_29 rfl rfl ?_
    refine r_dup (pc := 30) C rfl dX7_goOut_30 ?_
    refine r_getI (pc := 31) C kX7_28 h0 dX7_goOut_31 ?_
    refine r_iconst (pc := 34) (v := (nI 1)) C dX7_goOut_34 (by decide) ?_
    refine r_iadd (pc := 35) C dX7_goOut_35 ?_
    refine r_putI (pc := 36) C kX7_28 h0 dX7_goOut_36 ?_
    refine r_letM h (fun M5 h => ?_)
    exact r_vret (pc := 39) C R0 h dX7_goOut_39
theorem dX7_leaveQueue_0 : decode cX7_leaveQueue 0 = .ok (.iconst 0, 1) := by decide +kernel
theorem dX7_leaveQueue_1 : decode cX7_leaveQueue 1 = .ok (.istore_n 2, 1) := by decide +kernel
theorem dX7_leaveQueue_2 : decode cX7_leaveQueue 2 = .ok (.iconst 0, 1) := by decide +kernel
theorem dX7_leaveQueue_3 : decode cX7_leaveQueue 3 = .ok (.istore_n 3, 1) := by decide +kernel
theorem dX7_leaveQueue_4 : decode cX7_leaveQueue 4 = .ok (.iload_n 3, 1) := by decide +kernel
theorem dX7_leaveQueue_5 : decode cX7_leaveQueue 5 = .ok (.aload_n 0, 1) := by decide +kernel
theorem dX7_leaveQueue_6 : decode cX7_leaveQueue 6 = .ok (.getfield 28, 3) := by decide +kernel
theorem dX7_leaveQueue_9 : decode cX7_leaveQueue 9 = .ok (.if_icmp .ge 43, 3) := by decide +kernel
theorem dX7_leaveQueue_12 : decode cX7_leaveQueue 12 = .ok (.iload_n 3, 1) := by decide +kernel
theorem dX7_leaveQueue_13 : decode cX7_leaveQueue 13 = .ok (.aload_n 0, 1) := by decide +kernel
theorem dX7_leaveQueue_14 : decode cX7_leaveQueue 14 = .ok (.getfield 21, 3) := by decide +kernel
theorem dX7_leaveQueue_17 : decode cX7_leaveQueue 17 = .ok (.arraylength, 1) := by decide +kernel
theorem dX7_leaveQueue_18 : decode cX7_leaveQueue 18 = .ok (.if_icmp .ge 34, 3) := by decide +kernel
theorem dX7_leaveQueue_21 : decode cX7_leaveQueue 21 = .ok (.aload_n 0, 1) := by decide +kernel
theorem dX7_leaveQueue_22 : decode cX7_leaveQueue 22 = .ok (.getfield 21, 3) := by decide +kernel
theorem dX7_leaveQueue_25 : decode cX7_leaveQueue 25 = .ok (.iload_n 3, 1) := by decide +kernel
theorem dX7_leaveQueue_26 : decode cX7_leaveQueue 26 = .ok (.iaload, 1) := by decide +kernel
theorem dX7_leaveQueue_27 : decode cX7_leaveQueue 27 = .ok (.iload_n 1, 1) := by decide +kernel
theorem dX7_leaveQueue_28 : decode cX7_leaveQueue 28 = .ok (.if_icmp .eq 18, 3) := by decide +kernel
theorem dX7_leaveQueue_31 : decode cX7_leaveQueue 31 = .ok (.aload_n 0, 1) := by decide +kernel
theorem dX7_leaveQueue_32 : decode cX7_leaveQueue 32 = .ok (.getfield 21, 3) := by decide +kernel
theorem dX7_leaveQueue_35 : decode cX7_leaveQueue 35 = .ok (.iload_n 2, 1) := by decide +kernel
theorem dX7_leaveQueue_36 : decode cX7_leaveQueue 36 = .ok (.aload_n 0, 1) := by decide +kernel
theorem dX7_leaveQueue_37 : decode cX7_leaveQueue 37 = .ok (.getfield 21, 3) := by decide +kernel
theorem dX7_leaveQueue_40 : decode cX7_leaveQueue 40 = .ok (.iload_n 3, 1) := by decide +kernel
theorem dX7_leaveQueue_41 : decode cX7_leaveQueue 41 = .ok (.iaload, 1) := by decide +kernel
theorem dX7_leaveQueue_42 : decode cX7_leaveQueue 42 = .ok (.iastore, 1) := by decide +kernel
theorem dX7_leaveQueue_43 : decode cX7_leaveQueue 43 = .ok (.iinc 2 1, 3) := by decide +kernel
theorem dX7_leaveQueue_46 : decode cX7_leaveQueue 46 = .ok (.iinc 3 1, 3) := by decide +kernel
theorem dX7_leaveQueue_49 : decode cX7_leaveQueue 49 = .ok (.goto (-45), 3) := by decide +kernel
theorem dX7_leaveQueue_52 : decode cX7_leaveQueue 52 = .ok (.aload_n 0, 1) := by decide +kernel
theorem dX7_leaveQueue_53 : decode cX7_leaveQueue 53 = .ok (.iload_n 2, 1) := by decide +kernel
theorem dX7_leaveQueue_54 : decode cX7_leaveQueue 54 = .ok (.putfield 28, 3) := by decide +kernel
theorem dX7_leaveQueue_57 : decode cX7_leaveQueue 57 = .ok (.return_, 1) := by decide +kernel
def fX7_leaveQueue_l4 (p0 : Nat) (p1 : Int32) (K : Int32 → Int32 → xMem → Option (xMem)) : Nat → Int32 → Int32 → xMem → Option (xMem)
  | 0, _, _, _ => none
  | n + 1, v2, v3, M => if (M.1 p0 5) ≤ v3 then (K v2 v3 M) else (if (nI (xln (xrf p0 3))) ≤ v3 then (K v2 v3 M) else (xGb v3 (xln (xrf p0 3)) (if (M.1 (xrf p0 3) (Int32.toNatClampNeg v3)) = p1 then (xLt (v3 + nI 1) fun x2 => fX7_leaveQueue_l4 p0 p1 K n v2 x2 M) else (xGb v3 (xln (xrf p0 3)) (xGb v2 (xln (xrf p0 3)) (xLt (xwI M (xrf p0 3) (Int32.toNatClampNeg v2) (M.1 (xrf p0 3) (Int32.toNatClampNeg v3))) fun M5 => xLt (v2 + nI 1) fun x6 => xLt (v3 + nI 1) fun x7 => fX7_leaveQueue_l4 p0 p1 K n x6 x7 M5))))))
def fX7_leaveQueue (a0 : Nat) (a1 : Int32) (M : xMem) : Option (xMem) :=
  fX7_leaveQueue_l4 a0 a1 (fun (v8 : Int32) (v9 : Int32) (M10 : xMem) => xLt (xwI M10 a0 5 v8) fun M11 => some M11) xFU (nI 0) (nI 0) M
set_option maxRecDepth 100000 in
set_option maxHeartbeats 4000000 in
theorem lX7_leaveQueue_4 {X : xCX} {M' : xMem} (C : xCk X cX7_leaveQueue RX7 1) (R0 : xRk X none (none, M')) (hnL : X.2.2.2.2.2.2.2.2.2.2.2.2.2 = 4) (p0 : Nat) (hp0 : xkd p0 = 7) (p1 : Int32) (K : Int32 → Int32 → xMem → Option (xMem)) (hK : ∀ (v2 : Int32) (v3 : Int32) (M : xMem), K v2 v3 M = some M' → WW X 52 [some (vr X.1 p0), some (.int p1), some (.int v2), some (.int v3)] [] M) : ∀ (n : Nat) (v2 : Int32) (v3 : Int32) (M : xMem), fX7_leaveQueue_l4 p0 p1 K n v2 v3 M = some M' → WW X 4 [some (vr X.1 p0), some (.int p1), some (.int v2), some (.int v3)] [] M := by
  have hn2 : 2 < X.2.2.2.2.2.2.2.2.2.2.2.2.2 := by rw [hnL]; decide
  have hn3 : 3 < X.2.2.2.2.2.2.2.2.2.2.2.2.2 := by rw [hnL]; decide
  intro n
  induction n with
  | zero =>
    intro v2 v3 M h
    cases (show (none : Option (xMem)) = some M' from h)
  | succ n ih =>
    intro v2 v3 M h
    rw [fX7_leaveQueue_l4.eq_2] at h
    refine r_iload_n (pc := 4) C dX7_leaveQueue_4 rfl rfl ?_
    refine r_aload_n (pc := 5) C dX7_leaveQueue_5 rfl rfl ?_
    refine r_getI (pc := 6) C kX7_28 hp0 dX7_leaveQueue_6 ?_
    refine r_icmp_ge (pc := 9) (tgt := 52) C dX7_leaveQueue_9 (by decide) h (fun _ h => ?_) (fun _ h => ?_)
    · exact hK v2 v3 M h
    · refine r_iload_n (pc := 12) C dX7_leaveQueue_12 rfl rfl ?_
      refine r_aload_n (pc := 13) C dX7_leaveQueue_13 rfl rfl ?_
      refine r_getR (pc := 14) C kX7_21 hp0 (by decide) dX7_leaveQueue_14 ?_
      refine r_alen (pc := 17) C (xkar (xtk hp0 (by decide) rfl rfl) (by decide)) dX7_leaveQueue_17 ?_
      refine r_icmp_ge (pc := 18) (tgt := 52) C dX7_leaveQueue_18 (by decide) h (fun _ h => ?_) (fun _ h => ?_)
      · exact hK v2 v3 M h
      · refine r_aload_n (pc := 21) C dX7_leaveQueue_21 rfl rfl ?_
        refine r_getR (pc := 22) C kX7_21 hp0 (by decide) dX7_leaveQueue_22 ?_
        refine r_iload_n (pc := 25) C dX7_leaveQueue_25 rfl rfl ?_
        obtain ⟨g1, h⟩ := xGb_of h
        refine r_iald (pc := 26) C (xtk hp0 (by decide) rfl rfl) g1 dX7_leaveQueue_26 ?_
        refine r_iload_n (pc := 27) C dX7_leaveQueue_27 rfl rfl ?_
        refine r_icmp_eq (pc := 28) (tgt := 46) C dX7_leaveQueue_28 (by decide) h (fun _ h => ?_) (fun _ h => ?_)
        · refine r_iincL (pc := 46) (c := nI 1) C dX7_leaveQueue_46 rfl (by decide) hn3 h (fun x2 h => ?_)
          refine r_lvE (lv' := [_, _, _, _]) rfl ?_
          refine r_goto (pc := 49) (tgt := 4) C dX7_leaveQueue_49 (by decide) ?_
          exact ih v2 x2 M h
        · refine r_aload_n (pc := 31) C dX7_leaveQueue_31 rfl rfl ?_
          refine r_getR (pc := 32) C kX7_21 hp0 (by decide) dX7_leaveQueue_32 ?_
          refine r_iload_n (pc := 35) C dX7_leaveQueue_35 rfl rfl ?_
          refine r_aload_n (pc := 36) C dX7_leaveQueue_36 rfl rfl ?_
          refine r_getR (pc := 37) C kX7_21 hp0 (by decide) dX7_leaveQueue_37 ?_
          refine r_iload_n (pc := 40) C dX7_leaveQueue_40 rfl rfl ?_
          obtain ⟨g3, h⟩ := xGb_of h
          refine r_iald (pc := 41) C (xtk hp0 (by decide) rfl rfl) g3 dX7_leaveQueue_41 ?_
          obtain ⟨g4, h⟩ := xGb_of h
          refine r_iast (pc := 42) C (xtk hp0 (by decide) rfl rfl) g4 dX7_leaveQueue_42 ?_
          refine r_letM h (fun M5 h => ?_)
          refine r_iincL (pc := 43) (c := nI 1) C dX7_leaveQueue_43 rfl (by decide) hn2 h (fun x6 h => ?_)
          refine r_lvE (lv' := [_, _, _, _]) rfl ?_
          refine r_iincL (pc := 46) (c := nI 1) C dX7_leaveQueue_46 rfl (by decide) hn3 h (fun x7 h => ?_)
          refine r_lvE (lv' := [_, _, _, _]) rfl ?_
          refine r_goto (pc := 49) (tgt := 4) C dX7_leaveQueue_49 (by decide) ?_
          exact ih x6 x7 M5 h
set_option maxRecDepth 100000 in
set_option maxHeartbeats 4000000 in
theorem zX7_leaveQueue (G : xGX) (a0 : Nat) (h0 : xkd a0 = 7) (a1 : Int32) (M : xMem) (M' : xMem) (h : fX7_leaveQueue a0 a1 M = some M') : xCt G yX7_leaveQueue cX7_leaveQueue 4 none 1 [vr G a0, .int a1] M (none, M') := by
  refine xMet (lv := [some (vr G a0), some (.int a1), none, none]) (by decide) (Nat.le_of_ble_eq_true rfl) rfl ?_
  intro X hG hnL C R0
  subst hG
  have C : xCk X cX7_leaveQueue RX7 1 := C
  have hn2 : 2 < X.2.2.2.2.2.2.2.2.2.2.2.2.2 := by rw [hnL]; decide
  have hn3 : 3 < X.2.2.2.2.2.2.2.2.2.2.2.2.2 := by rw [hnL]; decide
  unfold fX7_leaveQueue at h
  refine r_iconst (pc := 0) (v := (nI 0)) C dX7_leaveQueue_0 (by decide) ?_
  refine r_istore_n (pc := 1) (lv' := [_, _, _, _]) C dX7_leaveQueue_1 rfl hn2 rfl ?_
  refine r_iconst (pc := 2) (v := (nI 0)) C dX7_leaveQueue_2 (by decide) ?_
  refine r_istore_n (pc := 3) (lv' := [_, _, _, _]) C dX7_leaveQueue_3 rfl hn3 rfl ?_
  refine lX7_leaveQueue_4 C R0 hnL a0 h0 a1 _ (fun v8 v9 M10 h => ?_) _ _ _ _ h
  refine r_aload_n (pc := 52) C dX7_leaveQueue_52 rfl rfl ?_
  refine r_iload_n (pc := 53) C dX7_leaveQueue_53 rfl rfl ?_
  refine r_putI (pc := 54) C kX7_28 h0 dX7_leaveQueue_54 ?_
  refine r_letM h (fun M11 h => ?_)
  exact r_vret (pc := 57) C R0 h dX7_leaveQueue_57
theorem dX7_comeBack_0 : decode cX7_comeBack 0 = .ok (.aload_n 0, 1) := by decide +kernel
theorem dX7_comeBack_1 : decode cX7_comeBack 1 = .ok (.getfield 28, 3) := by decide +kernel
theorem dX7_comeBack_4 : decode cX7_comeBack 4 = .ok (.ifCond .ne 5, 3) := by decide +kernel
theorem dX7_comeBack_7 : decode cX7_comeBack 7 = .ok (.iconst 0, 1) := by decide +kernel
theorem dX7_comeBack_8 : decode cX7_comeBack 8 = .ok (.ireturn, 1) := by decide +kernel
theorem dX7_comeBack_9 : decode cX7_comeBack 9 = .ok (.aload_n 0, 1) := by decide +kernel
theorem dX7_comeBack_10 : decode cX7_comeBack 10 = .ok (.getfield 21, 3) := by decide +kernel
theorem dX7_comeBack_13 : decode cX7_comeBack 13 = .ok (.iconst 0, 1) := by decide +kernel
theorem dX7_comeBack_14 : decode cX7_comeBack 14 = .ok (.iaload, 1) := by decide +kernel
theorem dX7_comeBack_15 : decode cX7_comeBack 15 = .ok (.istore_n 1, 1) := by decide +kernel
theorem dX7_comeBack_16 : decode cX7_comeBack 16 = .ok (.aload_n 0, 1) := by decide +kernel
theorem dX7_comeBack_17 : decode cX7_comeBack 17 = .ok (.iload_n 1, 1) := by decide +kernel
theorem dX7_comeBack_18 : decode cX7_comeBack 18 = .ok (.invokevirtual 50, 3) := by decide +kernel
theorem dX7_comeBack_21 : decode cX7_comeBack 21 = .ok (.aload_n 0, 1) := by decide +kernel
theorem dX7_comeBack_22 : decode cX7_comeBack 22 = .ok (.getfield 9, 3) := by decide +kernel
theorem dX7_comeBack_25 : decode cX7_comeBack 25 = .ok (.iload_n 1, 1) := by decide +kernel
theorem dX7_comeBack_26 : decode cX7_comeBack 26 = .ok (.iconst 0, 1) := by decide +kernel
theorem dX7_comeBack_27 : decode cX7_comeBack 27 = .ok (.iastore, 1) := by decide +kernel
theorem dX7_comeBack_28 : decode cX7_comeBack 28 = .ok (.iconst 1, 1) := by decide +kernel
theorem dX7_comeBack_29 : decode cX7_comeBack 29 = .ok (.ireturn, 1) := by decide +kernel
def fX7_comeBack (a0 : Nat) (M : xMem) : Option (Int32 × xMem) :=
  if (M.1 a0 5) = 0 then (some ((nI 0), M)) else (xGb (nI 0) (xln (xrf a0 3)) (xLt (M.1 (xrf a0 3) (Int32.toNatClampNeg (nI 0))) fun x2 => xBv (fX7_leaveQueue a0 x2 M) fun M3 => xGb x2 (xln (xrf a0 0)) (xLt (xwI M3 (xrf a0 0) (Int32.toNatClampNeg x2) (nI 0)) fun M5 => some ((nI 1), M5))))
set_option maxRecDepth 100000 in
set_option maxHeartbeats 4000000 in
theorem zX7_comeBack (G : xGX) (a0 : Nat) (h0 : xkd a0 = 7) (M : xMem) (r : Int32) (M' : xMem) (h : fX7_comeBack a0 M = some (r, M')) : xCt G yX7_comeBack cX7_comeBack 2 (some .int) 2 [vr G a0] M (some (.int r), M') := by
  refine xMet (lv := [some (vr G a0), none]) (by decide) (Nat.le_of_ble_eq_true rfl) rfl ?_
  intro X hG hnL C R0
  subst hG
  have C : xCk X cX7_comeBack RX7 2 := C
  have hn1 : 1 < X.2.2.2.2.2.2.2.2.2.2.2.2.2 := by rw [hnL]; decide
  unfold fX7_comeBack at h
  refine r_aload_n (pc := 0) C dX7_comeBack_0 rfl rfl ?_
  refine r_getI (pc := 1) C kX7_28 h0 dX7_comeBack_1 ?_
  refine r_if_ne (pc := 4) (tgt := 9) C dX7_comeBack_4 (by decide) h (fun _ h => ?_) (fun _ h => ?_)
  · refine r_aload_n (pc := 9) C dX7_comeBack_9 rfl rfl ?_
    refine r_getR (pc := 10) C kX7_21 h0 (by decide) dX7_comeBack_10 ?_
    refine r_iconst (pc := 13) (v := (nI 0)) C dX7_comeBack_13 (by decide) ?_
    obtain ⟨g1, h⟩ := xGb_of h
    refine r_iald (pc := 14) C (xtk h0 (by decide) rfl rfl) g1 dX7_comeBack_14 ?_
    refine r_letI h (fun x2 h => ?_)
    refine r_istore_n (pc := 15) (lv' := [_, _]) C dX7_comeBack_15 rfl hn1 rfl ?_
    refine r_aload_n (pc := 16) C dX7_comeBack_16 rfl rfl ?_
    refine r_iload_n (pc := 17) C dX7_comeBack_17 rfl rfl ?_
    refine r_vV1 (pc := 18) C (fun M' e => zX7_leaveQueue X.1 a0 h0 x2 M M' e) h0 (by decide) rfl mX7_leaveQueue lX7_50 (by decide) (Nat.le_of_ble_eq_true rfl) dX7_comeBack_18 h (fun M3 h => ?_)
    refine r_aload_n (pc := 21) C dX7_comeBack_21 rfl rfl ?_
    refine r_getR (pc := 22) C kX7_9 h0 (by decide) dX7_comeBack_22 ?_
    refine r_iload_n (pc := 25) C dX7_comeBack_25 rfl rfl ?_
    refine r_iconst (pc := 26) (v := (nI 0)) C dX7_comeBack_26 (by decide) ?_
    obtain ⟨g4, h⟩ := xGb_of h
    refine r_iast (pc := 27) C (xtk h0 (by decide) rfl rfl) g4 dX7_comeBack_27 ?_
    refine r_letM h (fun M5 h => ?_)
    refine r_iconst (pc := 28) (v := (nI 1)) C dX7_comeBack_28 (by decide) ?_
    exact r_iret (pc := 29) C R0 h dX7_comeBack_29
  · refine r_iconst (pc := 7) (v := (nI 0)) C dX7_comeBack_7 (by decide) ?_
    exact r_iret (pc := 8) C R0 h dX7_comeBack_8
theorem dX7_putOff_0 : decode cX7_putOff 0 = .ok (.aload_n 0, 1) := by decide +kernel
theorem dX7_putOff_1 : decode cX7_putOff 1 = .ok (.iload_n 1, 1) := by decide +kernel
theorem dX7_putOff_2 : decode cX7_putOff 2 = .ok (.invokevirtual 50, 3) := by decide +kernel
theorem dX7_putOff_5 : decode cX7_putOff 5 = .ok (.aload_n 0, 1) := by decide +kernel
theorem dX7_putOff_6 : decode cX7_putOff 6 = .ok (.getfield 9, 3) := by decide +kernel
theorem dX7_putOff_9 : decode cX7_putOff 9 = .ok (.iload_n 1, 1) := by decide +kernel
theorem dX7_putOff_10 : decode cX7_putOff 10 = .ok (.iconst 3, 1) := by decide +kernel
theorem dX7_putOff_11 : decode cX7_putOff 11 = .ok (.iastore, 1) := by decide +kernel
theorem dX7_putOff_12 : decode cX7_putOff 12 = .ok (.aload_n 0, 1) := by decide +kernel
theorem dX7_putOff_13 : decode cX7_putOff 13 = .ok (.getfield 15, 3) := by decide +kernel
theorem dX7_putOff_16 : decode cX7_putOff 16 = .ok (.iload_n 1, 1) := by decide +kernel
theorem dX7_putOff_17 : decode cX7_putOff 17 = .ok (.bipush 6, 2) := by decide +kernel
theorem dX7_putOff_19 : decode cX7_putOff 19 = .ok (.iastore, 1) := by decide +kernel
theorem dX7_putOff_20 : decode cX7_putOff 20 = .ok (.return_, 1) := by decide +kernel
def fX7_putOff (a0 : Nat) (a1 : Int32) (M : xMem) : Option (xMem) :=
  xBv (fX7_leaveQueue a0 a1 M) fun M1 => xGb a1 (xln (xrf a0 0)) (xLt (xwI M1 (xrf a0 0) (Int32.toNatClampNeg a1) (nI 3)) fun M3 => xGb a1 (xln (xrf a0 1)) (xLt (xwI M3 (xrf a0 1) (Int32.toNatClampNeg a1) (nI 6)) fun M5 => some M5))
set_option maxRecDepth 100000 in
set_option maxHeartbeats 4000000 in
theorem zX7_putOff (G : xGX) (a0 : Nat) (h0 : xkd a0 = 7) (a1 : Int32) (M : xMem) (M' : xMem) (h : fX7_putOff a0 a1 M = some M') : xCt G yX7_putOff cX7_putOff 2 none 2 [vr G a0, .int a1] M (none, M') := by
  refine xMet (lv := [some (vr G a0), some (.int a1)]) (by decide) (Nat.le_of_ble_eq_true rfl) rfl ?_
  intro X hG hnL C R0
  subst hG
  have C : xCk X cX7_putOff RX7 2 := C
  unfold fX7_putOff at h
  refine r_aload_n (pc := 0) C dX7_putOff_0 rfl rfl ?_
  refine r_iload_n (pc := 1) C dX7_putOff_1 rfl rfl ?_
  refine r_vV1 (pc := 2) C (fun M' e => zX7_leaveQueue X.1 a0 h0 a1 M M' e) h0 (by decide) rfl mX7_leaveQueue lX7_50 (by decide) (Nat.le_of_ble_eq_true rfl) dX7_putOff_2 h (fun M1 h => ?_)
  refine r_aload_n (pc := 5) C dX7_putOff_5 rfl rfl ?_
  refine r_getR (pc := 6) C kX7_9 h0 (by decide) dX7_putOff_6 ?_
  refine r_iload_n (pc := 9) C dX7_putOff_9 rfl rfl ?_
  refine r_iconst (pc := 10) (v := (nI 3)) C dX7_putOff_10 (by decide) ?_
  obtain ⟨g2, h⟩ := xGb_of h
  refine r_iast (pc := 11) C (xtk h0 (by decide) rfl rfl) g2 dX7_putOff_11 ?_
  refine r_letM h (fun M3 h => ?_)
  refine r_aload_n (pc := 12) C dX7_putOff_12 rfl rfl ?_
  refine r_getR (pc := 13) C kX7_15 h0 (by decide) dX7_putOff_13 ?_
  refine r_iload_n (pc := 16) C dX7_putOff_16 rfl rfl ?_
  refine r_bipush (pc := 17) (v := (nI 6)) C dX7_putOff_17 (by decide) ?_
  obtain ⟨g4, h⟩ := xGb_of h
  refine r_iast (pc := 19) C (xtk h0 (by decide) rfl rfl) g4 dX7_putOff_19 ?_
  refine r_letM h (fun M5 h => ?_)
  exact r_vret (pc := 20) C R0 h dX7_putOff_20
theorem dX7_sendOff_0 : decode cX7_sendOff 0 = .ok (.aload_n 0, 1) := by decide +kernel
theorem dX7_sendOff_1 : decode cX7_sendOff 1 = .ok (.iload_n 1, 1) := by decide +kernel
theorem dX7_sendOff_2 : decode cX7_sendOff 2 = .ok (.invokevirtual 50, 3) := by decide +kernel
theorem dX7_sendOff_5 : decode cX7_sendOff 5 = .ok (.aload_n 0, 1) := by decide +kernel
theorem dX7_sendOff_6 : decode cX7_sendOff 6 = .ok (.getfield 9, 3) := by decide +kernel
theorem dX7_sendOff_9 : decode cX7_sendOff 9 = .ok (.iload_n 1, 1) := by decide +kernel
theorem dX7_sendOff_10 : decode cX7_sendOff 10 = .ok (.iconst 4, 1) := by decide +kernel
theorem dX7_sendOff_11 : decode cX7_sendOff 11 = .ok (.iastore, 1) := by decide +kernel
theorem dX7_sendOff_12 : decode cX7_sendOff 12 = .ok (.aload_n 0, 1) := by decide +kernel
theorem dX7_sendOff_13 : decode cX7_sendOff 13 = .ok (.getfield 15, 3) := by decide +kernel
theorem dX7_sendOff_16 : decode cX7_sendOff 16 = .ok (.iload_n 1, 1) := by decide +kernel
theorem dX7_sendOff_17 : decode cX7_sendOff 17 = .ok (.iconst 0, 1) := by decide +kernel
theorem dX7_sendOff_18 : decode cX7_sendOff 18 = .ok (.iastore, 1) := by decide +kernel
theorem dX7_sendOff_19 : decode cX7_sendOff 19 = .ok (.return_, 1) := by decide +kernel
def fX7_sendOff (a0 : Nat) (a1 : Int32) (M : xMem) : Option (xMem) :=
  xBv (fX7_leaveQueue a0 a1 M) fun M1 => xGb a1 (xln (xrf a0 0)) (xLt (xwI M1 (xrf a0 0) (Int32.toNatClampNeg a1) (nI 4)) fun M3 => xGb a1 (xln (xrf a0 1)) (xLt (xwI M3 (xrf a0 1) (Int32.toNatClampNeg a1) (nI 0)) fun M5 => some M5))
set_option maxRecDepth 100000 in
set_option maxHeartbeats 4000000 in
theorem zX7_sendOff (G : xGX) (a0 : Nat) (h0 : xkd a0 = 7) (a1 : Int32) (M : xMem) (M' : xMem) (h : fX7_sendOff a0 a1 M = some M') : xCt G yX7_sendOff cX7_sendOff 2 none 2 [vr G a0, .int a1] M (none, M') := by
  refine xMet (lv := [some (vr G a0), some (.int a1)]) (by decide) (Nat.le_of_ble_eq_true rfl) rfl ?_
  intro X hG hnL C R0
  subst hG
  have C : xCk X cX7_sendOff RX7 2 := C
  unfold fX7_sendOff at h
  refine r_aload_n (pc := 0) C dX7_sendOff_0 rfl rfl ?_
  refine r_iload_n (pc := 1) C dX7_sendOff_1 rfl rfl ?_
  refine r_vV1 (pc := 2) C (fun M' e => zX7_leaveQueue X.1 a0 h0 a1 M M' e) h0 (by decide) rfl mX7_leaveQueue lX7_50 (by decide) (Nat.le_of_ble_eq_true rfl) dX7_sendOff_2 h (fun M1 h => ?_)
  refine r_aload_n (pc := 5) C dX7_sendOff_5 rfl rfl ?_
  refine r_getR (pc := 6) C kX7_9 h0 (by decide) dX7_sendOff_6 ?_
  refine r_iload_n (pc := 9) C dX7_sendOff_9 rfl rfl ?_
  refine r_iconst (pc := 10) (v := (nI 4)) C dX7_sendOff_10 (by decide) ?_
  obtain ⟨g2, h⟩ := xGb_of h
  refine r_iast (pc := 11) C (xtk h0 (by decide) rfl rfl) g2 dX7_sendOff_11 ?_
  refine r_letM h (fun M3 h => ?_)
  refine r_aload_n (pc := 12) C dX7_sendOff_12 rfl rfl ?_
  refine r_getR (pc := 13) C kX7_15 h0 (by decide) dX7_sendOff_13 ?_
  refine r_iload_n (pc := 16) C dX7_sendOff_16 rfl rfl ?_
  refine r_iconst (pc := 17) (v := (nI 0)) C dX7_sendOff_17 (by decide) ?_
  obtain ⟨g4, h⟩ := xGb_of h
  refine r_iast (pc := 18) C (xtk h0 (by decide) rfl rfl) g4 dX7_sendOff_18 ?_
  refine r_letM h (fun M5 h => ?_)
  exact r_vret (pc := 19) C R0 h dX7_sendOff_19
theorem dX7_passRaid_0 : decode cX7_passRaid 0 = .ok (.iconst 0, 1) := by decide +kernel
theorem dX7_passRaid_1 : decode cX7_passRaid 1 = .ok (.istore_n 1, 1) := by decide +kernel
theorem dX7_passRaid_2 : decode cX7_passRaid 2 = .ok (.iload_n 1, 1) := by decide +kernel
theorem dX7_passRaid_3 : decode cX7_passRaid 3 = .ok (.bipush 10, 2) := by decide +kernel
theorem dX7_passRaid_5 : decode cX7_passRaid 5 = .ok (.if_icmp .ge 52, 3) := by decide +kernel
theorem dX7_passRaid_8 : decode cX7_passRaid 8 = .ok (.aload_n 0, 1) := by decide +kernel
theorem dX7_passRaid_9 : decode cX7_passRaid 9 = .ok (.getfield 9, 3) := by decide +kernel
theorem dX7_passRaid_12 : decode cX7_passRaid 12 = .ok (.iload_n 1, 1) := by decide +kernel
theorem dX7_passRaid_13 : decode cX7_passRaid 13 = .ok (.iaload, 1) := by decide +kernel
theorem dX7_passRaid_14 : decode cX7_passRaid 14 = .ok (.iconst 3, 1) := by decide +kernel
theorem dX7_passRaid_15 : decode cX7_passRaid 15 = .ok (.if_icmp .ne 36, 3) := by decide +kernel
theorem dX7_passRaid_18 : decode cX7_passRaid 18 = .ok (.aload_n 0, 1) := by decide +kernel
theorem dX7_passRaid_19 : decode cX7_passRaid 19 = .ok (.getfield 15, 3) := by decide +kernel
theorem dX7_passRaid_22 : decode cX7_passRaid 22 = .ok (.iload_n 1, 1) := by decide +kernel
theorem dX7_passRaid_23 : decode cX7_passRaid 23 = .ok (.dup2, 1) := by decide +kernel
theorem dX7_passRaid_24 : decode cX7_passRaid 24 = .ok (.iaload, 1) := by decide +kernel
theorem dX7_passRaid_25 : decode cX7_passRaid 25 = .ok (.iconst 1, 1) := by decide +kernel
theorem dX7_passRaid_26 : decode cX7_passRaid 26 = .ok (.isub, 1) := by decide +kernel
theorem dX7_passRaid_27 : decode cX7_passRaid 27 = .ok (.iastore, 1) := by decide +kernel
theorem dX7_passRaid_28 : decode cX7_passRaid 28 = .ok (.aload_n 0, 1) := by decide +kernel
theorem dX7_passRaid_29 : decode cX7_passRaid 29 = .ok (.getfield 15, 3) := by decide +kernel
theorem dX7_passRaid_32 : decode cX7_passRaid 32 = .ok (.iload_n 1, 1) := by decide +kernel
theorem dX7_passRaid_33 : decode cX7_passRaid 33 = .ok (.iaload, 1) := by decide +kernel
theorem dX7_passRaid_34 : decode cX7_passRaid 34 = .ok (.ifCond .gt 17, 3) := by decide +kernel
theorem dX7_passRaid_37 : decode cX7_passRaid 37 = .ok (.aload_n 0, 1) := by decide +kernel
theorem dX7_passRaid_38 : decode cX7_passRaid 38 = .ok (.getfield 15, 3) := by decide +kernel
theorem dX7_passRaid_41 : decode cX7_passRaid 41 = .ok (.iload_n 1, 1) := by decide +kernel
theorem dX7_passRaid_42 : decode cX7_passRaid 42 = .ok (.iconst 0, 1) := by decide +kernel
theorem dX7_passRaid_43 : decode cX7_passRaid 43 = .ok (.iastore, 1) := by decide +kernel
theorem dX7_passRaid_44 : decode cX7_passRaid 44 = .ok (.aload_n 0, 1) := by decide +kernel
theorem dX7_passRaid_45 : decode cX7_passRaid 45 = .ok (.getfield 9, 3) := by decide +kernel
theorem dX7_passRaid_48 : decode cX7_passRaid 48 = .ok (.iload_n 1, 1) := by decide +kernel
theorem dX7_passRaid_49 : decode cX7_passRaid 49 = .ok (.iconst 0, 1) := by decide +kernel
theorem dX7_passRaid_50 : decode cX7_passRaid 50 = .ok (.iastore, 1) := by decide +kernel
theorem dX7_passRaid_51 : decode cX7_passRaid 51 = .ok (.iinc 1 1, 3) := by decide +kernel
theorem dX7_passRaid_54 : decode cX7_passRaid 54 = .ok (.goto (-52), 3) := by decide +kernel
theorem dX7_passRaid_57 : decode cX7_passRaid 57 = .ok (.return_, 1) := by decide +kernel
def fX7_passRaid_l2 (p0 : Nat) (K : Int32 → xMem → Option (xMem)) : Nat → Int32 → xMem → Option (xMem)
  | 0, _, _ => none
  | n + 1, v1, M => if (nI 10) ≤ v1 then (K v1 M) else (xGb v1 (xln (xrf p0 0)) (if (M.1 (xrf p0 0) (Int32.toNatClampNeg v1)) = (nI 3) then (xGb v1 (xln (xrf p0 1)) (xGb v1 (xln (xrf p0 1)) (xLt (xwI M (xrf p0 1) (Int32.toNatClampNeg v1) ((M.1 (xrf p0 1) (Int32.toNatClampNeg v1)) - (nI 1))) fun M5 => xGb v1 (xln (xrf p0 1)) (if 0 < (M5.1 (xrf p0 1) (Int32.toNatClampNeg v1)) then (xLt (v1 + nI 1) fun x7 => fX7_passRaid_l2 p0 K n x7 M5) else (xGb v1 (xln (xrf p0 1)) (xLt (xwI M5 (xrf p0 1) (Int32.toNatClampNeg v1) (nI 0)) fun M9 => xGb v1 (xln (xrf p0 0)) (xLt (xwI M9 (xrf p0 0) (Int32.toNatClampNeg v1) (nI 0)) fun M11 => xLt (v1 + nI 1) fun x12 => fX7_passRaid_l2 p0 K n x12 M11))))))) else (xLt (v1 + nI 1) fun x2 => fX7_passRaid_l2 p0 K n x2 M)))
def fX7_passRaid (a0 : Nat) (M : xMem) : Option (xMem) :=
  fX7_passRaid_l2 a0 (fun (v13 : Int32) (M14 : xMem) => some M14) xFU (nI 0) M
set_option maxRecDepth 100000 in
set_option maxHeartbeats 4000000 in
theorem lX7_passRaid_2 {X : xCX} {M' : xMem} (C : xCk X cX7_passRaid RX7 1) (R0 : xRk X none (none, M')) (hnL : X.2.2.2.2.2.2.2.2.2.2.2.2.2 = 2) (p0 : Nat) (hp0 : xkd p0 = 7) (K : Int32 → xMem → Option (xMem)) (hK : ∀ (v1 : Int32) (M : xMem), K v1 M = some M' → WW X 57 [some (vr X.1 p0), some (.int v1)] [] M) : ∀ (n : Nat) (v1 : Int32) (M : xMem), fX7_passRaid_l2 p0 K n v1 M = some M' → WW X 2 [some (vr X.1 p0), some (.int v1)] [] M := by
  have hn1 : 1 < X.2.2.2.2.2.2.2.2.2.2.2.2.2 := by rw [hnL]; decide
  intro n
  induction n with
  | zero =>
    intro v1 M h
    cases (show (none : Option (xMem)) = some M' from h)
  | succ n ih =>
    intro v1 M h
    rw [fX7_passRaid_l2.eq_2] at h
    refine r_iload_n (pc := 2) C dX7_passRaid_2 rfl rfl ?_
    refine r_bipush (pc := 3) (v := (nI 10)) C dX7_passRaid_3 (by decide) ?_
    refine r_icmp_ge (pc := 5) (tgt := 57) C dX7_passRaid_5 (by decide) h (fun _ h => ?_) (fun _ h => ?_)
    · exact hK v1 M h
    · refine r_aload_n (pc := 8) C dX7_passRaid_8 rfl rfl ?_
      refine r_getR (pc := 9) C kX7_9 hp0 (by decide) dX7_passRaid_9 ?_
      refine r_iload_n (pc := 12) C dX7_passRaid_12 rfl rfl ?_
      obtain ⟨g1, h⟩ := xGb_of h
      refine r_iald (pc := 13) C (xtk hp0 (by decide) rfl rfl) g1 dX7_passRaid_13 ?_
      refine r_iconst (pc := 14) (v := (nI 3)) C dX7_passRaid_14 (by decide) ?_
      refine r_icmp_ne (pc := 15) (tgt := 51) C dX7_passRaid_15 (by decide) h (fun _ h => ?_) (fun _ h => ?_)
      · refine r_iincL (pc := 51) (c := nI 1) C dX7_passRaid_51 rfl (by decide) hn1 h (fun x2 h => ?_)
        refine r_lvE (lv' := [_, _]) rfl ?_
        refine r_goto (pc := 54) (tgt := 2) C dX7_passRaid_54 (by decide) ?_
        exact ih x2 M h
      · refine r_aload_n (pc := 18) C dX7_passRaid_18 rfl rfl ?_
        refine r_getR (pc := 19) C kX7_15 hp0 (by decide) dX7_passRaid_19 ?_
        refine r_iload_n (pc := 22) C dX7_passRaid_22 rfl rfl ?_
        refine r_dup2 (pc := 23) C rfl rfl dX7_passRaid_23 ?_
        obtain ⟨g3, h⟩ := xGb_of h
        refine r_iald (pc := 24) C (xtk hp0 (by decide) rfl rfl) g3 dX7_passRaid_24 ?_
        refine r_iconst (pc := 25) (v := (nI 1)) C dX7_passRaid_25 (by decide) ?_
        refine r_isub (pc := 26) C dX7_passRaid_26 ?_
        obtain ⟨g4, h⟩ := xGb_of h
        refine r_iast (pc := 27) C (xtk hp0 (by decide) rfl rfl) g4 dX7_passRaid_27 ?_
        refine r_letM h (fun M5 h => ?_)
        refine r_aload_n (pc := 28) C dX7_passRaid_28 rfl rfl ?_
        refine r_getR (pc := 29) C kX7_15 hp0 (by decide) dX7_passRaid_29 ?_
        refine r_iload_n (pc := 32) C dX7_passRaid_32 rfl rfl ?_
        obtain ⟨g6, h⟩ := xGb_of h
        refine r_iald (pc := 33) C (xtk hp0 (by decide) rfl rfl) g6 dX7_passRaid_33 ?_
        refine r_if_gt (pc := 34) (tgt := 51) C dX7_passRaid_34 (by decide) h (fun _ h => ?_) (fun _ h => ?_)
        · refine r_iincL (pc := 51) (c := nI 1) C dX7_passRaid_51 rfl (by decide) hn1 h (fun x7 h => ?_)
          refine r_lvE (lv' := [_, _]) rfl ?_
          refine r_goto (pc := 54) (tgt := 2) C dX7_passRaid_54 (by decide) ?_
          exact ih x7 M5 h
        · refine r_aload_n (pc := 37) C dX7_passRaid_37 rfl rfl ?_
          refine r_getR (pc := 38) C kX7_15 hp0 (by decide) dX7_passRaid_38 ?_
          refine r_iload_n (pc := 41) C dX7_passRaid_41 rfl rfl ?_
          refine r_iconst (pc := 42) (v := (nI 0)) C dX7_passRaid_42 (by decide) ?_
          obtain ⟨g8, h⟩ := xGb_of h
          refine r_iast (pc := 43) C (xtk hp0 (by decide) rfl rfl) g8 dX7_passRaid_43 ?_
          refine r_letM h (fun M9 h => ?_)
          refine r_aload_n (pc := 44) C dX7_passRaid_44 rfl rfl ?_
          refine r_getR (pc := 45) C kX7_9 hp0 (by decide) dX7_passRaid_45 ?_
          refine r_iload_n (pc := 48) C dX7_passRaid_48 rfl rfl ?_
          refine r_iconst (pc := 49) (v := (nI 0)) C dX7_passRaid_49 (by decide) ?_
          obtain ⟨g10, h⟩ := xGb_of h
          refine r_iast (pc := 50) C (xtk hp0 (by decide) rfl rfl) g10 dX7_passRaid_50 ?_
          refine r_letM h (fun M11 h => ?_)
          refine r_iincL (pc := 51) (c := nI 1) C dX7_passRaid_51 rfl (by decide) hn1 h (fun x12 h => ?_)
          refine r_lvE (lv' := [_, _]) rfl ?_
          refine r_goto (pc := 54) (tgt := 2) C dX7_passRaid_54 (by decide) ?_
          exact ih x12 M11 h
set_option maxRecDepth 100000 in
set_option maxHeartbeats 4000000 in
theorem zX7_passRaid (G : xGX) (a0 : Nat) (h0 : xkd a0 = 7) (M : xMem) (M' : xMem) (h : fX7_passRaid a0 M = some M') : xCt G yX7_passRaid cX7_passRaid 2 none 1 [vr G a0] M (none, M') := by
  refine xMet (lv := [some (vr G a0), none]) (by decide) (Nat.le_of_ble_eq_true rfl) rfl ?_
  intro X hG hnL C R0
  subst hG
  have C : xCk X cX7_passRaid RX7 1 := C
  have hn1 : 1 < X.2.2.2.2.2.2.2.2.2.2.2.2.2 := by rw [hnL]; decide
  unfold fX7_passRaid at h
  refine r_iconst (pc := 0) (v := (nI 0)) C dX7_passRaid_0 (by decide) ?_
  refine r_istore_n (pc := 1) (lv' := [_, _]) C dX7_passRaid_1 rfl hn1 rfl ?_
  refine lX7_passRaid_2 C R0 hnL a0 h0 _ (fun v13 M14 h => ?_) _ _ _ h
  exact r_vret (pc := 57) C R0 h dX7_passRaid_57
theorem dX7_standUp_0 : decode cX7_standUp 0 = .ok (.aload_n 0, 1) := by decide +kernel
theorem dX7_standUp_1 : decode cX7_standUp 1 = .ok (.getfield 28, 3) := by decide +kernel
theorem dX7_standUp_4 : decode cX7_standUp 4 = .ok (.ifCond .eq 11, 3) := by decide +kernel
theorem dX7_standUp_7 : decode cX7_standUp 7 = .ok (.aload_n 0, 1) := by decide +kernel
theorem dX7_standUp_8 : decode cX7_standUp 8 = .ok (.iconst 0, 1) := by decide +kernel
theorem dX7_standUp_9 : decode cX7_standUp 9 = .ok (.invokevirtual 54, 3) := by decide +kernel
theorem dX7_standUp_12 : decode cX7_standUp 12 = .ok (.ifCond .eq 5, 3) := by decide +kernel
theorem dX7_standUp_15 : decode cX7_standUp 15 = .ok (.iconst 0, 1) := by decide +kernel
theorem dX7_standUp_16 : decode cX7_standUp 16 = .ok (.ireturn, 1) := by decide +kernel
theorem dX7_standUp_17 : decode cX7_standUp 17 = .ok (.iconst 0, 1) := by decide +kernel
theorem dX7_standUp_18 : decode cX7_standUp 18 = .ok (.istore_n 1, 1) := by decide +kernel
theorem dX7_standUp_19 : decode cX7_standUp 19 = .ok (.iload_n 1, 1) := by decide +kernel
theorem dX7_standUp_20 : decode cX7_standUp 20 = .ok (.bipush 10, 2) := by decide +kernel
theorem dX7_standUp_22 : decode cX7_standUp 22 = .ok (.if_icmp .ge 26, 3) := by decide +kernel
theorem dX7_standUp_25 : decode cX7_standUp 25 = .ok (.aload_n 0, 1) := by decide +kernel
theorem dX7_standUp_26 : decode cX7_standUp 26 = .ok (.getfield 9, 3) := by decide +kernel
theorem dX7_standUp_29 : decode cX7_standUp 29 = .ok (.iload_n 1, 1) := by decide +kernel
theorem dX7_standUp_30 : decode cX7_standUp 30 = .ok (.iaload, 1) := by decide +kernel
theorem dX7_standUp_31 : decode cX7_standUp 31 = .ok (.iconst 1, 1) := by decide +kernel
theorem dX7_standUp_32 : decode cX7_standUp 32 = .ok (.if_icmp .ne 10, 3) := by decide +kernel
theorem dX7_standUp_35 : decode cX7_standUp 35 = .ok (.aload_n 0, 1) := by decide +kernel
theorem dX7_standUp_36 : decode cX7_standUp 36 = .ok (.getfield 9, 3) := by decide +kernel
theorem dX7_standUp_39 : decode cX7_standUp 39 = .ok (.iload_n 1, 1) := by decide +kernel
theorem dX7_standUp_40 : decode cX7_standUp 40 = .ok (.iconst 0, 1) := by decide +kernel
theorem dX7_standUp_41 : decode cX7_standUp 41 = .ok (.iastore, 1) := by decide +kernel
theorem dX7_standUp_42 : decode cX7_standUp 42 = .ok (.iinc 1 1, 3) := by decide +kernel
theorem dX7_standUp_45 : decode cX7_standUp 45 = .ok (.goto (-26), 3) := by decide +kernel
theorem dX7_standUp_48 : decode cX7_standUp 48 = .ok (.aload_n 0, 1) := by decide +kernel
theorem dX7_standUp_49 : decode cX7_standUp 49 = .ok (.iconst 0, 1) := by decide +kernel
theorem dX7_standUp_50 : decode cX7_standUp 50 = .ok (.putfield 28, 3) := by decide +kernel
theorem dX7_standUp_53 : decode cX7_standUp 53 = .ok (.iconst 1, 1) := by decide +kernel
theorem dX7_standUp_54 : decode cX7_standUp 54 = .ok (.ireturn, 1) := by decide +kernel
def fX7_standUp_l19 (p0 : Nat) (K : Int32 → xMem → Option (Int32 × xMem)) : Nat → Int32 → xMem → Option (Int32 × xMem)
  | 0, _, _ => none
  | n + 1, v1, M => if (nI 10) ≤ v1 then (K v1 M) else (xGb v1 (xln (xrf p0 0)) (if (M.1 (xrf p0 0) (Int32.toNatClampNeg v1)) = (nI 1) then (xGb v1 (xln (xrf p0 0)) (xLt (xwI M (xrf p0 0) (Int32.toNatClampNeg v1) (nI 0)) fun M6 => xLt (v1 + nI 1) fun x7 => fX7_standUp_l19 p0 K n x7 M6)) else (xLt (v1 + nI 1) fun x4 => fX7_standUp_l19 p0 K n x4 M)))
def fX7_standUp (a0 : Nat) (M : xMem) : Option (Int32 × xMem) :=
  if (M.1 a0 5) = 0 then (some ((nI 0), M)) else (xBn (fX7_maskOf a0 (nI 0) M) fun r1 M2 => if r1 = 0 then (fX7_standUp_l19 a0 (fun (v8 : Int32) (M9 : xMem) => xLt (xwI M9 a0 5 (nI 0)) fun M10 => some ((nI 1), M10)) xFU (nI 0) M2) else (some ((nI 0), M2)))
set_option maxRecDepth 100000 in
set_option maxHeartbeats 4000000 in
theorem lX7_standUp_19 {X : xCX} {r : Int32} {M' : xMem} (C : xCk X cX7_standUp RX7 2) (R0 : xRk X (some .boolean) (some (.int r), M')) (hnL : X.2.2.2.2.2.2.2.2.2.2.2.2.2 = 2) (p0 : Nat) (hp0 : xkd p0 = 7) (K : Int32 → xMem → Option (Int32 × xMem)) (hK : ∀ (v1 : Int32) (M : xMem), K v1 M = some (r, M') → WW X 48 [some (vr X.1 p0), some (.int v1)] [] M) : ∀ (n : Nat) (v1 : Int32) (M : xMem), fX7_standUp_l19 p0 K n v1 M = some (r, M') → WW X 19 [some (vr X.1 p0), some (.int v1)] [] M := by
  have hn1 : 1 < X.2.2.2.2.2.2.2.2.2.2.2.2.2 := by rw [hnL]; decide
  intro n
  induction n with
  | zero =>
    intro v1 M h
    cases (show (none : Option (Int32 × xMem)) = some (r, M') from h)
  | succ n ih =>
    intro v1 M h
    rw [fX7_standUp_l19.eq_2] at h
    refine r_iload_n (pc := 19) C dX7_standUp_19 rfl rfl ?_
    refine r_bipush (pc := 20) (v := (nI 10)) C dX7_standUp_20 (by decide) ?_
    refine r_icmp_ge (pc := 22) (tgt := 48) C dX7_standUp_22 (by decide) h (fun _ h => ?_) (fun _ h => ?_)
    · exact hK v1 M h
    · refine r_aload_n (pc := 25) C dX7_standUp_25 rfl rfl ?_
      refine r_getR (pc := 26) C kX7_9 hp0 (by decide) dX7_standUp_26 ?_
      refine r_iload_n (pc := 29) C dX7_standUp_29 rfl rfl ?_
      obtain ⟨g3, h⟩ := xGb_of h
      refine r_iald (pc := 30) C (xtk hp0 (by decide) rfl rfl) g3 dX7_standUp_30 ?_
      refine r_iconst (pc := 31) (v := (nI 1)) C dX7_standUp_31 (by decide) ?_
      refine r_icmp_ne (pc := 32) (tgt := 42) C dX7_standUp_32 (by decide) h (fun _ h => ?_) (fun _ h => ?_)
      · refine r_iincL (pc := 42) (c := nI 1) C dX7_standUp_42 rfl (by decide) hn1 h (fun x4 h => ?_)
        refine r_lvE (lv' := [_, _]) rfl ?_
        refine r_goto (pc := 45) (tgt := 19) C dX7_standUp_45 (by decide) ?_
        exact ih x4 M h
      · refine r_aload_n (pc := 35) C dX7_standUp_35 rfl rfl ?_
        refine r_getR (pc := 36) C kX7_9 hp0 (by decide) dX7_standUp_36 ?_
        refine r_iload_n (pc := 39) C dX7_standUp_39 rfl rfl ?_
        refine r_iconst (pc := 40) (v := (nI 0)) C dX7_standUp_40 (by decide) ?_
        obtain ⟨g5, h⟩ := xGb_of h
        refine r_iast (pc := 41) C (xtk hp0 (by decide) rfl rfl) g5 dX7_standUp_41 ?_
        refine r_letM h (fun M6 h => ?_)
        refine r_iincL (pc := 42) (c := nI 1) C dX7_standUp_42 rfl (by decide) hn1 h (fun x7 h => ?_)
        refine r_lvE (lv' := [_, _]) rfl ?_
        refine r_goto (pc := 45) (tgt := 19) C dX7_standUp_45 (by decide) ?_
        exact ih x7 M6 h
set_option maxRecDepth 100000 in
set_option maxHeartbeats 4000000 in
theorem zX7_standUp (G : xGX) (a0 : Nat) (h0 : xkd a0 = 7) (M : xMem) (r : Int32) (M' : xMem) (h : fX7_standUp a0 M = some (r, M')) : xCt G yX7_standUp cX7_standUp 2 (some .boolean) 2 [vr G a0] M (some (.int r), M') := by
  refine xMet (lv := [some (vr G a0), none]) (by decide) (Nat.le_of_ble_eq_true rfl) rfl ?_
  intro X hG hnL C R0
  subst hG
  have C : xCk X cX7_standUp RX7 2 := C
  have hn1 : 1 < X.2.2.2.2.2.2.2.2.2.2.2.2.2 := by rw [hnL]; decide
  unfold fX7_standUp at h
  refine r_aload_n (pc := 0) C dX7_standUp_0 rfl rfl ?_
  refine r_getI (pc := 1) C kX7_28 h0 dX7_standUp_1 ?_
  refine r_if_eq (pc := 4) (tgt := 15) C dX7_standUp_4 (by decide) h (fun _ h => ?_) (fun _ h => ?_)
  · refine r_iconst (pc := 15) (v := (nI 0)) C dX7_standUp_15 (by decide) ?_
    exact r_zret (pc := 16) (Or.inl (by decide)) C R0 h dX7_standUp_16
  · refine r_aload_n (pc := 7) C dX7_standUp_7 rfl rfl ?_
    refine r_iconst (pc := 8) (v := (nI 0)) C dX7_standUp_8 (by decide) ?_
    refine r_vI1 (pc := 9) C (fun r M' e => zX7_maskOf X.1 a0 h0 (nI 0) M r M' e) h0 (by decide) rfl mX7_maskOf lX7_54 (by decide) (Nat.le_of_ble_eq_true rfl) dX7_standUp_9 h (fun r1 M2 h => ?_)
    refine r_if_eq (pc := 12) (tgt := 17) C dX7_standUp_12 (by decide) h (fun _ h => ?_) (fun _ h => ?_)
    · refine r_iconst (pc := 17) (v := (nI 0)) C dX7_standUp_17 (by decide) ?_
      refine r_istore_n (pc := 18) (lv' := [_, _]) C dX7_standUp_18 rfl hn1 rfl ?_
      refine lX7_standUp_19 C R0 hnL a0 h0 _ (fun v8 M9 h => ?_) _ _ _ h
      refine r_aload_n (pc := 48) C dX7_standUp_48 rfl rfl ?_
      refine r_iconst (pc := 49) (v := (nI 0)) C dX7_standUp_49 (by decide) ?_
      refine r_putI (pc := 50) C kX7_28 h0 dX7_standUp_50 ?_
      refine r_letM h (fun M10 h => ?_)
      refine r_iconst (pc := 53) (v := (nI 1)) C dX7_standUp_53 (by decide) ?_
      exact r_zret (pc := 54) (Or.inr (by decide)) C R0 h dX7_standUp_54
    · refine r_iconst (pc := 15) (v := (nI 0)) C dX7_standUp_15 (by decide) ?_
      exact r_zret (pc := 16) (Or.inl (by decide)) C R0 h dX7_standUp_16
theorem dX8_begin_0 : decode cX8_begin 0 = .ok (.aload_n 0, 1) := by decide +kernel
theorem dX8_begin_1 : decode cX8_begin 1 = .ok (.getfield 12, 3) := by decide +kernel
theorem dX8_begin_4 : decode cX8_begin 4 = .ok (.iconst 0, 1) := by decide +kernel
theorem dX8_begin_5 : decode cX8_begin 5 = .ok (.aaload, 1) := by decide +kernel
theorem dX8_begin_6 : decode cX8_begin 6 = .ok (.aload_n 1, 1) := by decide +kernel
theorem dX8_begin_7 : decode cX8_begin 7 = .ok (.iconst 0, 1) := by decide +kernel
theorem dX8_begin_8 : decode cX8_begin 8 = .ok (.invokevirtual 44, 3) := by decide +kernel
theorem dX8_begin_11 : decode cX8_begin 11 = .ok (.invokevirtual 50, 3) := by decide +kernel
theorem dX8_begin_14 : decode cX8_begin 14 = .ok (.aload_n 0, 1) := by decide +kernel
theorem dX8_begin_15 : decode cX8_begin 15 = .ok (.getfield 12, 3) := by decide +kernel
theorem dX8_begin_18 : decode cX8_begin 18 = .ok (.iconst 1, 1) := by decide +kernel
theorem dX8_begin_19 : decode cX8_begin 19 = .ok (.aaload, 1) := by decide +kernel
theorem dX8_begin_20 : decode cX8_begin 20 = .ok (.aload_n 1, 1) := by decide +kernel
theorem dX8_begin_21 : decode cX8_begin 21 = .ok (.iconst 1, 1) := by decide +kernel
theorem dX8_begin_22 : decode cX8_begin 22 = .ok (.invokevirtual 44, 3) := by decide +kernel
theorem dX8_begin_25 : decode cX8_begin 25 = .ok (.invokevirtual 50, 3) := by decide +kernel
theorem dX8_begin_28 : decode cX8_begin 28 = .ok (.aload_n 0, 1) := by decide +kernel
theorem dX8_begin_29 : decode cX8_begin 29 = .ok (.iconst 0, 1) := by decide +kernel
theorem dX8_begin_30 : decode cX8_begin 30 = .ok (.putfield 18, 3) := by decide +kernel
theorem dX8_begin_33 : decode cX8_begin 33 = .ok (.aload_n 0, 1) := by decide +kernel
theorem dX8_begin_34 : decode cX8_begin 34 = .ok (.iconst 0, 1) := by decide +kernel
theorem dX8_begin_35 : decode cX8_begin 35 = .ok (.putfield 22, 3) := by decide +kernel
theorem dX8_begin_38 : decode cX8_begin 38 = .ok (.aload_n 0, 1) := by decide +kernel
theorem dX8_begin_39 : decode cX8_begin 39 = .ok (.iconst 0, 1) := by decide +kernel
theorem dX8_begin_40 : decode cX8_begin 40 = .ok (.putfield 25, 3) := by decide +kernel
theorem dX8_begin_43 : decode cX8_begin 43 = .ok (.aload_n 0, 1) := by decide +kernel
theorem dX8_begin_44 : decode cX8_begin 44 = .ok (.iconst 0, 1) := by decide +kernel
theorem dX8_begin_45 : decode cX8_begin 45 = .ok (.putfield 28, 3) := by decide +kernel
theorem dX8_begin_48 : decode cX8_begin 48 = .ok (.return_, 1) := by decide +kernel
def fX8_begin (a0 : Nat) (a1 : Nat) (M : xMem) : Option (xMem) :=
  xGb (nI 0) (xln (xrf a0 0)) (xBn (fX5_sizeOf a1 (nI 0) M) fun r2 M3 => xBv (fX7_begin (xrf (xrf a0 0) (Int32.toNatClampNeg (nI 0))) r2 M3) fun M4 => xGb (nI 1) (xln (xrf a0 0)) (xBn (fX5_sizeOf a1 (nI 1) M4) fun r6 M7 => xBv (fX7_begin (xrf (xrf a0 0) (Int32.toNatClampNeg (nI 1))) r6 M7) fun M8 => xLt (xwI M8 a0 1 (nI 0)) fun M9 => xLt (xwI M9 a0 2 (nI 0)) fun M10 => xLt (xwI M10 a0 3 (nI 0)) fun M11 => xLt (xwI M11 a0 4 (nI 0)) fun M12 => some M12))
set_option maxRecDepth 100000 in
set_option maxHeartbeats 4000000 in
theorem zX8_begin (G : xGX) (a0 : Nat) (h0 : xkd a0 = 8) (a1 : Nat) (h1 : xkd a1 = 5) (M : xMem) (M' : xMem) (h : fX8_begin a0 a1 M = some M') : xCt G yX8_begin cX8_begin 2 none 2 [vr G a0, vr G a1] M (none, M') := by
  refine xMet (lv := [some (vr G a0), some (vr G a1)]) (by decide) (Nat.le_of_ble_eq_true rfl) rfl ?_
  intro X hG hnL C R0
  subst hG
  have C : xCk X cX8_begin RX8 2 := C
  unfold fX8_begin at h
  refine r_aload_n (pc := 0) C dX8_begin_0 rfl rfl ?_
  refine r_getR (pc := 1) C kX8_12 h0 (by decide) dX8_begin_1 ?_
  refine r_iconst (pc := 4) (v := (nI 0)) C dX8_begin_4 (by decide) ?_
  obtain ⟨g1, h⟩ := xGb_of h
  refine r_aaldS (pc := 5) C (xtk h0 (by decide) rfl rfl) g1 dX8_begin_5 ?_
  refine r_aload_n (pc := 6) C dX8_begin_6 rfl rfl ?_
  refine r_iconst (pc := 7) (v := (nI 0)) C dX8_begin_7 (by decide) ?_
  refine r_vI1 (pc := 8) C (fun r M' e => zX5_sizeOf X.1 a1 h1 (nI 0) M r M' e) h1 (by decide) rfl mX5_sizeOf lX8_44 (by decide) (Nat.le_of_ble_eq_true rfl) dX8_begin_8 h (fun r2 M3 h => ?_)
  refine r_vV1 (pc := 11) C (fun M' e => zX7_begin X.1 (xrf (xrf a0 0) (Int32.toNatClampNeg (nI 0))) (xkeS (xtk h0 (by decide) rfl rfl) (xin_lt g1)) r2 M3 M' e) (xkeS (xtk h0 (by decide) rfl rfl) (xin_lt g1)) (by decide) rfl mX7_begin lX8_50 (by decide) (Nat.le_of_ble_eq_true rfl) dX8_begin_11 h (fun M4 h => ?_)
  refine r_aload_n (pc := 14) C dX8_begin_14 rfl rfl ?_
  refine r_getR (pc := 15) C kX8_12 h0 (by decide) dX8_begin_15 ?_
  refine r_iconst (pc := 18) (v := (nI 1)) C dX8_begin_18 (by decide) ?_
  obtain ⟨g5, h⟩ := xGb_of h
  refine r_aaldS (pc := 19) C (xtk h0 (by decide) rfl rfl) g5 dX8_begin_19 ?_
  refine r_aload_n (pc := 20) C dX8_begin_20 rfl rfl ?_
  refine r_iconst (pc := 21) (v := (nI 1)) C dX8_begin_21 (by decide) ?_
  refine r_vI1 (pc := 22) C (fun r M' e => zX5_sizeOf X.1 a1 h1 (nI 1) M4 r M' e) h1 (by decide) rfl mX5_sizeOf lX8_44 (by decide) (Nat.le_of_ble_eq_true rfl) dX8_begin_22 h (fun r6 M7 h => ?_)
  refine r_vV1 (pc := 25) C (fun M' e => zX7_begin X.1 (xrf (xrf a0 0) (Int32.toNatClampNeg (nI 1))) (xkeS (xtk h0 (by decide) rfl rfl) (xin_lt g5)) r6 M7 M' e) (xkeS (xtk h0 (by decide) rfl rfl) (xin_lt g5)) (by decide) rfl mX7_begin lX8_50 (by decide) (Nat.le_of_ble_eq_true rfl) dX8_begin_25 h (fun M8 h => ?_)
  refine r_aload_n (pc := 28) C dX8_begin_28 rfl rfl ?_
  refine r_iconst (pc := 29) (v := (nI 0)) C dX8_begin_29 (by decide) ?_
  refine r_putI (pc := 30) C kX8_18 h0 dX8_begin_30 ?_
  refine r_letM h (fun M9 h => ?_)
  refine r_aload_n (pc := 33) C dX8_begin_33 rfl rfl ?_
  refine r_iconst (pc := 34) (v := (nI 0)) C dX8_begin_34 (by decide) ?_
  refine r_putI (pc := 35) C kX8_22 h0 dX8_begin_35 ?_
  refine r_letM h (fun M10 h => ?_)
  refine r_aload_n (pc := 38) C dX8_begin_38 rfl rfl ?_
  refine r_iconst (pc := 39) (v := (nI 0)) C dX8_begin_39 (by decide) ?_
  refine r_putI (pc := 40) C kX8_25 h0 dX8_begin_40 ?_
  refine r_letM h (fun M11 h => ?_)
  refine r_aload_n (pc := 43) C dX8_begin_43 rfl rfl ?_
  refine r_iconst (pc := 44) (v := (nI 0)) C dX8_begin_44 (by decide) ?_
  refine r_putZ (pc := 45) C kX8_28 h0 (Or.inl (by decide)) dX8_begin_45 ?_
  refine r_letM h (fun M12 h => ?_)
  exact r_vret (pc := 48) C R0 h dX8_begin_48
theorem dX8_copyFrom_0 : decode cX8_copyFrom 0 = .ok (.aload_n 0, 1) := by decide +kernel
theorem dX8_copyFrom_1 : decode cX8_copyFrom 1 = .ok (.getfield 12, 3) := by decide +kernel
theorem dX8_copyFrom_4 : decode cX8_copyFrom 4 = .ok (.iconst 0, 1) := by decide +kernel
theorem dX8_copyFrom_5 : decode cX8_copyFrom 5 = .ok (.aaload, 1) := by decide +kernel
theorem dX8_copyFrom_6 : decode cX8_copyFrom 6 = .ok (.aload_n 1, 1) := by decide +kernel
theorem dX8_copyFrom_7 : decode cX8_copyFrom 7 = .ok (.getfield 12, 3) := by decide +kernel
theorem dX8_copyFrom_10 : decode cX8_copyFrom 10 = .ok (.iconst 0, 1) := by decide +kernel
theorem dX8_copyFrom_11 : decode cX8_copyFrom 11 = .ok (.aaload, 1) := by decide +kernel
theorem dX8_copyFrom_12 : decode cX8_copyFrom 12 = .ok (.invokevirtual 54, 3) := by decide +kernel
theorem dX8_copyFrom_15 : decode cX8_copyFrom 15 = .ok (.aload_n 0, 1) := by decide +kernel
theorem dX8_copyFrom_16 : decode cX8_copyFrom 16 = .ok (.getfield 12, 3) := by decide +kernel
theorem dX8_copyFrom_19 : decode cX8_copyFrom 19 = .ok (.iconst 1, 1) := by decide +kernel
theorem dX8_copyFrom_20 : decode cX8_copyFrom 20 = .ok (.aaload, 1) := by decide +kernel
theorem dX8_copyFrom_21 : decode cX8_copyFrom 21 = .ok (.aload_n 1, 1) := by decide +kernel
theorem dX8_copyFrom_22 : decode cX8_copyFrom 22 = .ok (.getfield 12, 3) := by decide +kernel
theorem dX8_copyFrom_25 : decode cX8_copyFrom 25 = .ok (.iconst 1, 1) := by decide +kernel
theorem dX8_copyFrom_26 : decode cX8_copyFrom 26 = .ok (.aaload, 1) := by decide +kernel
theorem dX8_copyFrom_27 : decode cX8_copyFrom 27 = .ok (.invokevirtual 54, 3) := by decide +kernel
theorem dX8_copyFrom_30 : decode cX8_copyFrom 30 = .ok (.aload_n 0, 1) := by decide +kernel
theorem dX8_copyFrom_31 : decode cX8_copyFrom 31 = .ok (.aload_n 1, 1) := by decide +kernel
theorem dX8_copyFrom_32 : decode cX8_copyFrom 32 = .ok (.getfield 18, 3) := by decide +kernel
theorem dX8_copyFrom_35 : decode cX8_copyFrom 35 = .ok (.putfield 18, 3) := by decide +kernel
theorem dX8_copyFrom_38 : decode cX8_copyFrom 38 = .ok (.aload_n 0, 1) := by decide +kernel
theorem dX8_copyFrom_39 : decode cX8_copyFrom 39 = .ok (.aload_n 1, 1) := by decide +kernel
theorem dX8_copyFrom_40 : decode cX8_copyFrom 40 = .ok (.getfield 22, 3) := by decide +kernel
theorem dX8_copyFrom_43 : decode cX8_copyFrom 43 = .ok (.putfield 22, 3) := by decide +kernel
theorem dX8_copyFrom_46 : decode cX8_copyFrom 46 = .ok (.aload_n 0, 1) := by decide +kernel
theorem dX8_copyFrom_47 : decode cX8_copyFrom 47 = .ok (.aload_n 1, 1) := by decide +kernel
theorem dX8_copyFrom_48 : decode cX8_copyFrom 48 = .ok (.getfield 25, 3) := by decide +kernel
theorem dX8_copyFrom_51 : decode cX8_copyFrom 51 = .ok (.putfield 25, 3) := by decide +kernel
theorem dX8_copyFrom_54 : decode cX8_copyFrom 54 = .ok (.aload_n 0, 1) := by decide +kernel
theorem dX8_copyFrom_55 : decode cX8_copyFrom 55 = .ok (.aload_n 1, 1) := by decide +kernel
theorem dX8_copyFrom_56 : decode cX8_copyFrom 56 = .ok (.getfield 28, 3) := by decide +kernel
theorem dX8_copyFrom_59 : decode cX8_copyFrom 59 = .ok (.putfield 28, 3) := by decide +kernel
theorem dX8_copyFrom_62 : decode cX8_copyFrom 62 = .ok (.return_, 1) := by decide +kernel
def fX8_copyFrom (a0 : Nat) (a1 : Nat) (M : xMem) : Option (xMem) :=
  xGb (nI 0) (xln (xrf a0 0)) (xGb (nI 0) (xln (xrf a1 0)) (xBv (fX7_copyFrom (xrf (xrf a0 0) (Int32.toNatClampNeg (nI 0))) (xrf (xrf a1 0) (Int32.toNatClampNeg (nI 0))) M) fun M3 => xGb (nI 1) (xln (xrf a0 0)) (xGb (nI 1) (xln (xrf a1 0)) (xBv (fX7_copyFrom (xrf (xrf a0 0) (Int32.toNatClampNeg (nI 1))) (xrf (xrf a1 0) (Int32.toNatClampNeg (nI 1))) M3) fun M6 => xLt (xwI M6 a0 1 (M6.1 a1 1)) fun M7 => xLt (xwI M7 a0 2 (M7.1 a1 2)) fun M8 => xLt (xwI M8 a0 3 (M8.1 a1 3)) fun M9 => xGd ((M9.1 a1 4) = 0 ∨ (M9.1 a1 4) = 1) (xLt (xwI M9 a0 4 (M9.1 a1 4)) fun M11 => some M11)))))
set_option maxRecDepth 100000 in
set_option maxHeartbeats 4000000 in
theorem zX8_copyFrom (G : xGX) (a0 : Nat) (h0 : xkd a0 = 8) (a1 : Nat) (h1 : xkd a1 = 8) (M : xMem) (M' : xMem) (h : fX8_copyFrom a0 a1 M = some M') : xCt G yX8_copyFrom cX8_copyFrom 2 none 2 [vr G a0, vr G a1] M (none, M') := by
  refine xMet (lv := [some (vr G a0), some (vr G a1)]) (by decide) (Nat.le_of_ble_eq_true rfl) rfl ?_
  intro X hG hnL C R0
  subst hG
  have C : xCk X cX8_copyFrom RX8 2 := C
  unfold fX8_copyFrom at h
  refine r_aload_n (pc := 0) C dX8_copyFrom_0 rfl rfl ?_
  refine r_getR (pc := 1) C kX8_12 h0 (by decide) dX8_copyFrom_1 ?_
  refine r_iconst (pc := 4) (v := (nI 0)) C dX8_copyFrom_4 (by decide) ?_
  obtain ⟨g1, h⟩ := xGb_of h
  refine r_aaldS (pc := 5) C (xtk h0 (by decide) rfl rfl) g1 dX8_copyFrom_5 ?_
  refine r_aload_n (pc := 6) C dX8_copyFrom_6 rfl rfl ?_
  refine r_getR (pc := 7) C kX8_12 h1 (by decide) dX8_copyFrom_7 ?_
  refine r_iconst (pc := 10) (v := (nI 0)) C dX8_copyFrom_10 (by decide) ?_
  obtain ⟨g2, h⟩ := xGb_of h
  refine r_aaldS (pc := 11) C (xtk h1 (by decide) rfl rfl) g2 dX8_copyFrom_11 ?_
  refine r_vV1 (pc := 12) C (fun M' e => zX7_copyFrom X.1 (xrf (xrf a0 0) (Int32.toNatClampNeg (nI 0))) (xkeS (xtk h0 (by decide) rfl rfl) (xin_lt g1)) (xrf (xrf a1 0) (Int32.toNatClampNeg (nI 0))) (xkeS (xtk h1 (by decide) rfl rfl) (xin_lt g2)) M M' e) (xkeS (xtk h0 (by decide) rfl rfl) (xin_lt g1)) (by decide) rfl mX7_copyFrom lX8_54 (by decide) (Nat.le_of_ble_eq_true rfl) dX8_copyFrom_12 h (fun M3 h => ?_)
  refine r_aload_n (pc := 15) C dX8_copyFrom_15 rfl rfl ?_
  refine r_getR (pc := 16) C kX8_12 h0 (by decide) dX8_copyFrom_16 ?_
  refine r_iconst (pc := 19) (v := (nI 1)) C dX8_copyFrom_19 (by decide) ?_
  obtain ⟨g4, h⟩ := xGb_of h
  refine r_aaldS (pc := 20) C (xtk h0 (by decide) rfl rfl) g4 dX8_copyFrom_20 ?_
  refine r_aload_n (pc := 21) C dX8_copyFrom_21 rfl rfl ?_
  refine r_getR (pc := 22) C kX8_12 h1 (by decide) dX8_copyFrom_22 ?_
  refine r_iconst (pc := 25) (v := (nI 1)) C dX8_copyFrom_25 (by decide) ?_
  obtain ⟨g5, h⟩ := xGb_of h
  refine r_aaldS (pc := 26) C (xtk h1 (by decide) rfl rfl) g5 dX8_copyFrom_26 ?_
  refine r_vV1 (pc := 27) C (fun M' e => zX7_copyFrom X.1 (xrf (xrf a0 0) (Int32.toNatClampNeg (nI 1))) (xkeS (xtk h0 (by decide) rfl rfl) (xin_lt g4)) (xrf (xrf a1 0) (Int32.toNatClampNeg (nI 1))) (xkeS (xtk h1 (by decide) rfl rfl) (xin_lt g5)) M3 M' e) (xkeS (xtk h0 (by decide) rfl rfl) (xin_lt g4)) (by decide) rfl mX7_copyFrom lX8_54 (by decide) (Nat.le_of_ble_eq_true rfl) dX8_copyFrom_27 h (fun M6 h => ?_)
  refine r_aload_n (pc := 30) C dX8_copyFrom_30 rfl rfl ?_
  refine r_aload_n (pc := 31) C dX8_copyFrom_31 rfl rfl ?_
  refine r_getI (pc := 32) C kX8_18 h1 dX8_copyFrom_32 ?_
  refine r_putI (pc := 35) C kX8_18 h0 dX8_copyFrom_35 ?_
  refine r_letM h (fun M7 h => ?_)
  refine r_aload_n (pc := 38) C dX8_copyFrom_38 rfl rfl ?_
  refine r_aload_n (pc := 39) C dX8_copyFrom_39 rfl rfl ?_
  refine r_getI (pc := 40) C kX8_22 h1 dX8_copyFrom_40 ?_
  refine r_putI (pc := 43) C kX8_22 h0 dX8_copyFrom_43 ?_
  refine r_letM h (fun M8 h => ?_)
  refine r_aload_n (pc := 46) C dX8_copyFrom_46 rfl rfl ?_
  refine r_aload_n (pc := 47) C dX8_copyFrom_47 rfl rfl ?_
  refine r_getI (pc := 48) C kX8_25 h1 dX8_copyFrom_48 ?_
  refine r_putI (pc := 51) C kX8_25 h0 dX8_copyFrom_51 ?_
  refine r_letM h (fun M9 h => ?_)
  refine r_aload_n (pc := 54) C dX8_copyFrom_54 rfl rfl ?_
  refine r_aload_n (pc := 55) C dX8_copyFrom_55 rfl rfl ?_
  refine r_getI (pc := 56) C kX8_28 h1 dX8_copyFrom_56 ?_
  obtain ⟨g10, h⟩ := xGd_of h
  refine r_putZ (pc := 59) C kX8_28 h0 g10 dX8_copyFrom_59 ?_
  refine r_letM h (fun M11 h => ?_)
  exact r_vret (pc := 62) C R0 h dX8_copyFrom_62
theorem dX8_home_0 : decode cX8_home 0 = .ok (.aload_n 0, 1) := by decide +kernel
theorem dX8_home_1 : decode cX8_home 1 = .ok (.getfield 12, 3) := by decide +kernel
theorem dX8_home_4 : decode cX8_home 4 = .ok (.aload_n 0, 1) := by decide +kernel
theorem dX8_home_5 : decode cX8_home 5 = .ok (.getfield 18, 3) := by decide +kernel
theorem dX8_home_8 : decode cX8_home 8 = .ok (.aaload, 1) := by decide +kernel
theorem dX8_home_9 : decode cX8_home 9 = .ok (.areturn, 1) := by decide +kernel
def fX8_home (a0 : Nat) (M : xMem) : Option (Nat × xMem) :=
  xGb (M.1 a0 1) (xln (xrf a0 0)) (some ((xrf (xrf a0 0) (Int32.toNatClampNeg (M.1 a0 1))), M))
set_option maxRecDepth 100000 in
set_option maxHeartbeats 4000000 in
theorem zX8_home (G : xGX) (a0 : Nat) (h0 : xkd a0 = 8) (M : xMem) (r : Nat) (M' : xMem) (h : fX8_home a0 M = some (r, M')) : xCt G yX8_home cX8_home 1 (some (.object "RaidMat$Side")) 1 [vr G a0] M (some (vr G r), M') := by
  refine xMet (lv := [some (vr G a0)]) (by decide) (Nat.le_of_ble_eq_true rfl) rfl ?_
  intro X hG hnL C R0
  subst hG
  have C : xCk X cX8_home RX8 1 := C
  unfold fX8_home at h
  refine r_aload_n (pc := 0) C dX8_home_0 rfl rfl ?_
  refine r_getR (pc := 1) C kX8_12 h0 (by decide) dX8_home_1 ?_
  refine r_aload_n (pc := 4) C dX8_home_4 rfl rfl ?_
  refine r_getI (pc := 5) C kX8_18 h0 dX8_home_5 ?_
  obtain ⟨g1, h⟩ := xGb_of h
  refine r_aaldS (pc := 8) C (xtk h0 (by decide) rfl rfl) g1 dX8_home_8 ?_
  exact r_aret (pc := 9) C R0 h dX8_home_9
theorem tX8_home {a0 r : Nat} {M M' : xMem} (h0 : xkd a0 = 8) (e : fX8_home a0 M = some (r, M')) : xkd r = 7 := by
  unfold fX8_home at e
  obtain ⟨g, e⟩ := xGb_of e
  cases e
  exact xkeS (xtk h0 (by decide) rfl rfl) (xin_lt g)
theorem dX8_away_0 : decode cX8_away 0 = .ok (.aload_n 0, 1) := by decide +kernel
theorem dX8_away_1 : decode cX8_away 1 = .ok (.getfield 12, 3) := by decide +kernel
theorem dX8_away_4 : decode cX8_away 4 = .ok (.iconst 1, 1) := by decide +kernel
theorem dX8_away_5 : decode cX8_away 5 = .ok (.aload_n 0, 1) := by decide +kernel
theorem dX8_away_6 : decode cX8_away 6 = .ok (.getfield 18, 3) := by decide +kernel
theorem dX8_away_9 : decode cX8_away 9 = .ok (.isub, 1) := by decide +kernel
theorem dX8_away_10 : decode cX8_away 10 = .ok (.aaload, 1) := by decide +kernel
theorem dX8_away_11 : decode cX8_away 11 = .ok (.areturn, 1) := by decide +kernel
def fX8_away (a0 : Nat) (M : xMem) : Option (Nat × xMem) :=
  xGb ((nI 1) - (M.1 a0 1)) (xln (xrf a0 0)) (some ((xrf (xrf a0 0) (Int32.toNatClampNeg ((nI 1) - (M.1 a0 1)))), M))
set_option maxRecDepth 100000 in
set_option maxHeartbeats 4000000 in
theorem zX8_away (G : xGX) (a0 : Nat) (h0 : xkd a0 = 8) (M : xMem) (r : Nat) (M' : xMem) (h : fX8_away a0 M = some (r, M')) : xCt G yX8_away cX8_away 1 (some (.object "RaidMat$Side")) 1 [vr G a0] M (some (vr G r), M') := by
  refine xMet (lv := [some (vr G a0)]) (by decide) (Nat.le_of_ble_eq_true rfl) rfl ?_
  intro X hG hnL C R0
  subst hG
  have C : xCk X cX8_away RX8 1 := C
  unfold fX8_away at h
  refine r_aload_n (pc := 0) C dX8_away_0 rfl rfl ?_
  refine r_getR (pc := 1) C kX8_12 h0 (by decide) dX8_away_1 ?_
  refine r_iconst (pc := 4) (v := (nI 1)) C dX8_away_4 (by decide) ?_
  refine r_aload_n (pc := 5) C dX8_away_5 rfl rfl ?_
  refine r_getI (pc := 6) C kX8_18 h0 dX8_away_6 ?_
  refine r_isub (pc := 9) C dX8_away_9 ?_
  obtain ⟨g1, h⟩ := xGb_of h
  refine r_aaldS (pc := 10) C (xtk h0 (by decide) rfl rfl) g1 dX8_away_10 ?_
  exact r_aret (pc := 11) C R0 h dX8_away_11
theorem tX8_away {a0 r : Nat} {M M' : xMem} (h0 : xkd a0 = 8) (e : fX8_away a0 M = some (r, M')) : xkd r = 7 := by
  unfold fX8_away at e
  obtain ⟨g, e⟩ := xGb_of e
  cases e
  exact xkeS (xtk h0 (by decide) rfl rfl) (xin_lt g)
theorem dX8_isOver_0 : decode cX8_isOver 0 = .ok (.aload_n 0, 1) := by decide +kernel
theorem dX8_isOver_1 : decode cX8_isOver 1 = .ok (.getfield 22, 3) := by decide +kernel
theorem dX8_isOver_4 : decode cX8_isOver 4 = .ok (.iconst 2, 1) := by decide +kernel
theorem dX8_isOver_5 : decode cX8_isOver 5 = .ok (.if_icmp .lt 7, 3) := by decide +kernel
theorem dX8_isOver_8 : decode cX8_isOver 8 = .ok (.iconst 1, 1) := by decide +kernel
theorem dX8_isOver_9 : decode cX8_isOver 9 = .ok (.goto 4, 3) := by decide +kernel
theorem dX8_isOver_12 : decode cX8_isOver 12 = .ok (.iconst 0, 1) := by decide +kernel
theorem dX8_isOver_13 : decode cX8_isOver 13 = .ok (.ireturn, 1) := by decide +kernel
def fX8_isOver (a0 : Nat) (M : xMem) : Option (Int32 × xMem) :=
  if (M.1 a0 2) < (nI 2) then (some ((nI 0), M)) else (some ((nI 1), M))
set_option maxRecDepth 100000 in
set_option maxHeartbeats 4000000 in
theorem zX8_isOver (G : xGX) (a0 : Nat) (h0 : xkd a0 = 8) (M : xMem) (r : Int32) (M' : xMem) (h : fX8_isOver a0 M = some (r, M')) : xCt G yX8_isOver cX8_isOver 1 (some .boolean) 1 [vr G a0] M (some (.int r), M') := by
  refine xMet (lv := [some (vr G a0)]) (by decide) (Nat.le_of_ble_eq_true rfl) rfl ?_
  intro X hG hnL C R0
  subst hG
  have C : xCk X cX8_isOver RX8 1 := C
  unfold fX8_isOver at h
  refine r_aload_n (pc := 0) C dX8_isOver_0 rfl rfl ?_
  refine r_getI (pc := 1) C kX8_22 h0 dX8_isOver_1 ?_
  refine r_iconst (pc := 4) (v := (nI 2)) C dX8_isOver_4 (by decide) ?_
  refine r_icmp_lt (pc := 5) (tgt := 12) C dX8_isOver_5 (by decide) h (fun _ h => ?_) (fun _ h => ?_)
  · refine r_iconst (pc := 12) (v := (nI 0)) C dX8_isOver_12 (by decide) ?_
    exact r_zret (pc := 13) (Or.inl (by decide)) C R0 h dX8_isOver_13
  · refine r_iconst (pc := 8) (v := (nI 1)) C dX8_isOver_8 (by decide) ?_
    refine r_goto (pc := 9) (tgt := 13) C dX8_isOver_9 (by decide) ?_
    exact r_zret (pc := 13) (Or.inr (by decide)) C R0 h dX8_isOver_13
theorem dX8_isBonusOpen_0 : decode cX8_isBonusOpen 0 = .ok (.aload_n 0, 1) := by decide +kernel
theorem dX8_isBonusOpen_1 : decode cX8_isBonusOpen 1 = .ok (.invokevirtual 58, 3) := by decide +kernel
theorem dX8_isBonusOpen_4 : decode cX8_isBonusOpen 4 = .ok (.iconst 0, 1) := by decide +kernel
theorem dX8_isBonusOpen_5 : decode cX8_isBonusOpen 5 = .ok (.invokevirtual 62, 3) := by decide +kernel
theorem dX8_isBonusOpen_8 : decode cX8_isBonusOpen 8 = .ok (.bipush 6, 2) := by decide +kernel
theorem dX8_isBonusOpen_10 : decode cX8_isBonusOpen 10 = .ok (.if_icmp .lt 7, 3) := by decide +kernel
theorem dX8_isBonusOpen_13 : decode cX8_isBonusOpen 13 = .ok (.iconst 1, 1) := by decide +kernel
theorem dX8_isBonusOpen_14 : decode cX8_isBonusOpen 14 = .ok (.goto 4, 3) := by decide +kernel
theorem dX8_isBonusOpen_17 : decode cX8_isBonusOpen 17 = .ok (.iconst 0, 1) := by decide +kernel
theorem dX8_isBonusOpen_18 : decode cX8_isBonusOpen 18 = .ok (.ireturn, 1) := by decide +kernel
def fX8_isBonusOpen (a0 : Nat) (M : xMem) : Option (Int32 × xMem) :=
  xBn (fX8_away a0 M) fun r1 M2 => xBn (fX7_countOf r1 (nI 0) M2) fun r5 M6 => if r5 < (nI 6) then (some ((nI 0), M6)) else (some ((nI 1), M6))
set_option maxRecDepth 100000 in
set_option maxHeartbeats 4000000 in
theorem zX8_isBonusOpen (G : xGX) (a0 : Nat) (h0 : xkd a0 = 8) (M : xMem) (r : Int32) (M' : xMem) (h : fX8_isBonusOpen a0 M = some (r, M')) : xCt G yX8_isBonusOpen cX8_isBonusOpen 1 (some .boolean) 2 [vr G a0] M (some (.int r), M') := by
  refine xMet (lv := [some (vr G a0)]) (by decide) (Nat.le_of_ble_eq_true rfl) rfl ?_
  intro X hG hnL C R0
  subst hG
  have C : xCk X cX8_isBonusOpen RX8 2 := C
  unfold fX8_isBonusOpen at h
  refine r_aload_n (pc := 0) C dX8_isBonusOpen_0 rfl rfl ?_
  refine r_vR0 (pc := 1) C (fun r M' e => zX8_away X.1 a0 h0 M r M' e) h0 (by decide) rfl mX8_away lX8_58 (by decide) (Nat.le_of_ble_eq_true rfl) dX8_isBonusOpen_1 h (fun r1 M2 e3 h => ?_)
  have k4 := tX8_away h0 e3
  refine r_iconst (pc := 4) (v := (nI 0)) C dX8_isBonusOpen_4 (by decide) ?_
  refine r_vI1 (pc := 5) C (fun r M' e => zX7_countOf X.1 r1 k4 (nI 0) M2 r M' e) k4 (by decide) rfl mX7_countOf lX8_62 (by decide) (Nat.le_of_ble_eq_true rfl) dX8_isBonusOpen_5 h (fun r5 M6 h => ?_)
  refine r_bipush (pc := 8) (v := (nI 6)) C dX8_isBonusOpen_8 (by decide) ?_
  refine r_icmp_lt (pc := 10) (tgt := 17) C dX8_isBonusOpen_10 (by decide) h (fun _ h => ?_) (fun _ h => ?_)
  · refine r_iconst (pc := 17) (v := (nI 0)) C dX8_isBonusOpen_17 (by decide) ?_
    exact r_zret (pc := 18) (Or.inl (by decide)) C R0 h dX8_isBonusOpen_18
  · refine r_iconst (pc := 13) (v := (nI 1)) C dX8_isBonusOpen_13 (by decide) ?_
    refine r_goto (pc := 14) (tgt := 18) C dX8_isBonusOpen_14 (by decide) ?_
    exact r_zret (pc := 18) (Or.inr (by decide)) C R0 h dX8_isBonusOpen_18
theorem dX8_mustScore_0 : decode cX8_mustScore 0 = .ok (.aload_n 0, 1) := by decide +kernel
theorem dX8_mustScore_1 : decode cX8_mustScore 1 = .ok (.invokevirtual 65, 3) := by decide +kernel
theorem dX8_mustScore_4 : decode cX8_mustScore 4 = .ok (.getfield 68, 3) := by decide +kernel
theorem dX8_mustScore_7 : decode cX8_mustScore 7 = .ok (.iconst 2, 1) := by decide +kernel
theorem dX8_mustScore_8 : decode cX8_mustScore 8 = .ok (.if_icmp .ne 7, 3) := by decide +kernel
theorem dX8_mustScore_11 : decode cX8_mustScore 11 = .ok (.iconst 1, 1) := by decide +kernel
theorem dX8_mustScore_12 : decode cX8_mustScore 12 = .ok (.goto 4, 3) := by decide +kernel
theorem dX8_mustScore_15 : decode cX8_mustScore 15 = .ok (.iconst 0, 1) := by decide +kernel
theorem dX8_mustScore_16 : decode cX8_mustScore 16 = .ok (.ireturn, 1) := by decide +kernel
def fX8_mustScore (a0 : Nat) (M : xMem) : Option (Int32 × xMem) :=
  xBn (fX8_home a0 M) fun r1 M2 => if (M2.1 r1 7) = (nI 2) then (some ((nI 1), M2)) else (some ((nI 0), M2))
set_option maxRecDepth 100000 in
set_option maxHeartbeats 4000000 in
theorem zX8_mustScore (G : xGX) (a0 : Nat) (h0 : xkd a0 = 8) (M : xMem) (r : Int32) (M' : xMem) (h : fX8_mustScore a0 M = some (r, M')) : xCt G yX8_mustScore cX8_mustScore 1 (some .boolean) 2 [vr G a0] M (some (.int r), M') := by
  refine xMet (lv := [some (vr G a0)]) (by decide) (Nat.le_of_ble_eq_true rfl) rfl ?_
  intro X hG hnL C R0
  subst hG
  have C : xCk X cX8_mustScore RX8 2 := C
  unfold fX8_mustScore at h
  refine r_aload_n (pc := 0) C dX8_mustScore_0 rfl rfl ?_
  refine r_vR0 (pc := 1) C (fun r M' e => zX8_home X.1 a0 h0 M r M' e) h0 (by decide) rfl mX8_home lX8_65 (by decide) (Nat.le_of_ble_eq_true rfl) dX8_mustScore_1 h (fun r1 M2 e3 h => ?_)
  have k4 := tX8_home h0 e3
  refine r_getI (pc := 4) C kX8_68 k4 dX8_mustScore_4 ?_
  refine r_iconst (pc := 7) (v := (nI 2)) C dX8_mustScore_7 (by decide) ?_
  refine r_icmp_ne (pc := 8) (tgt := 15) C dX8_mustScore_8 (by decide) h (fun _ h => ?_) (fun _ h => ?_)
  · refine r_iconst (pc := 15) (v := (nI 0)) C dX8_mustScore_15 (by decide) ?_
    exact r_zret (pc := 16) (Or.inl (by decide)) C R0 h dX8_mustScore_16
  · refine r_iconst (pc := 11) (v := (nI 1)) C dX8_mustScore_11 (by decide) ?_
    refine r_goto (pc := 12) (tgt := 16) C dX8_mustScore_12 (by decide) ?_
    exact r_zret (pc := 16) (Or.inr (by decide)) C R0 h dX8_mustScore_16
theorem dX8_leadOf_0 : decode cX8_leadOf 0 = .ok (.aload_n 0, 1) := by decide +kernel
theorem dX8_leadOf_1 : decode cX8_leadOf 1 = .ok (.getfield 12, 3) := by decide +kernel
theorem dX8_leadOf_4 : decode cX8_leadOf 4 = .ok (.iload_n 1, 1) := by decide +kernel
theorem dX8_leadOf_5 : decode cX8_leadOf 5 = .ok (.aaload, 1) := by decide +kernel
theorem dX8_leadOf_6 : decode cX8_leadOf 6 = .ok (.getfield 71, 3) := by decide +kernel
theorem dX8_leadOf_9 : decode cX8_leadOf 9 = .ok (.aload_n 0, 1) := by decide +kernel
theorem dX8_leadOf_10 : decode cX8_leadOf 10 = .ok (.getfield 12, 3) := by decide +kernel
theorem dX8_leadOf_13 : decode cX8_leadOf 13 = .ok (.iconst 1, 1) := by decide +kernel
theorem dX8_leadOf_14 : decode cX8_leadOf 14 = .ok (.iload_n 1, 1) := by decide +kernel
theorem dX8_leadOf_15 : decode cX8_leadOf 15 = .ok (.isub, 1) := by decide +kernel
theorem dX8_leadOf_16 : decode cX8_leadOf 16 = .ok (.aaload, 1) := by decide +kernel
theorem dX8_leadOf_17 : decode cX8_leadOf 17 = .ok (.getfield 71, 3) := by decide +kernel
theorem dX8_leadOf_20 : decode cX8_leadOf 20 = .ok (.isub, 1) := by decide +kernel
theorem dX8_leadOf_21 : decode cX8_leadOf 21 = .ok (.ireturn, 1) := by decide +kernel
def fX8_leadOf (a0 : Nat) (a1 : Int32) (M : xMem) : Option (Int32 × xMem) :=
  xGb a1 (xln (xrf a0 0)) (xGb ((nI 1) - a1) (xln (xrf a0 0)) (some (((M.1 (xrf (xrf a0 0) (Int32.toNatClampNeg a1)) 6) - (M.1 (xrf (xrf a0 0) (Int32.toNatClampNeg ((nI 1) - a1))) 6)), M)))
set_option maxRecDepth 100000 in
set_option maxHeartbeats 4000000 in
theorem zX8_leadOf (G : xGX) (a0 : Nat) (h0 : xkd a0 = 8) (a1 : Int32) (M : xMem) (r : Int32) (M' : xMem) (h : fX8_leadOf a0 a1 M = some (r, M')) : xCt G yX8_leadOf cX8_leadOf 2 (some .int) 1 [vr G a0, .int a1] M (some (.int r), M') := by
  refine xMet (lv := [some (vr G a0), some (.int a1)]) (by decide) (Nat.le_of_ble_eq_true rfl) rfl ?_
  intro X hG hnL C R0
  subst hG
  have C : xCk X cX8_leadOf RX8 1 := C
  unfold fX8_leadOf at h
  refine r_aload_n (pc := 0) C dX8_leadOf_0 rfl rfl ?_
  refine r_getR (pc := 1) C kX8_12 h0 (by decide) dX8_leadOf_1 ?_
  refine r_iload_n (pc := 4) C dX8_leadOf_4 rfl rfl ?_
  obtain ⟨g1, h⟩ := xGb_of h
  refine r_aaldS (pc := 5) C (xtk h0 (by decide) rfl rfl) g1 dX8_leadOf_5 ?_
  refine r_getI (pc := 6) C kX8_71 (xkeS (xtk h0 (by decide) rfl rfl) (xin_lt g1)) dX8_leadOf_6 ?_
  refine r_aload_n (pc := 9) C dX8_leadOf_9 rfl rfl ?_
  refine r_getR (pc := 10) C kX8_12 h0 (by decide) dX8_leadOf_10 ?_
  refine r_iconst (pc := 13) (v := (nI 1)) C dX8_leadOf_13 (by decide) ?_
  refine r_iload_n (pc := 14) C dX8_leadOf_14 rfl rfl ?_
  refine r_isub (pc := 15) C dX8_leadOf_15 ?_
  obtain ⟨g2, h⟩ := xGb_of h
  refine r_aaldS (pc := 16) C (xtk h0 (by decide) rfl rfl) g2 dX8_leadOf_16 ?_
  refine r_getI (pc := 17) C kX8_71 (xkeS (xtk h0 (by decide) rfl rfl) (xin_lt g2)) dX8_leadOf_17 ?_
  refine r_isub (pc := 20) C dX8_leadOf_20 ?_
  exact r_iret (pc := 21) C R0 h dX8_leadOf_21
theorem dX8_leastOn_0 : decode cX8_leastOn 0 = .ok (.aload_n 0, 1) := by decide +kernel
theorem dX8_leastOn_1 : decode cX8_leastOn 1 = .ok (.invokevirtual 65, 3) := by decide +kernel
theorem dX8_leastOn_4 : decode cX8_leastOn 4 = .ok (.iconst 0, 1) := by decide +kernel
theorem dX8_leastOn_5 : decode cX8_leastOn 5 = .ok (.invokevirtual 74, 3) := by decide +kernel
theorem dX8_leastOn_8 : decode cX8_leastOn 8 = .ok (.istore_n 1, 1) := by decide +kernel
theorem dX8_leastOn_9 : decode cX8_leastOn 9 = .ok (.iload_n 1, 1) := by decide +kernel
theorem dX8_leastOn_10 : decode cX8_leastOn 10 = .ok (.ifCond .ne 7, 3) := by decide +kernel
theorem dX8_leastOn_13 : decode cX8_leastOn 13 = .ok (.iconst (-1), 1) := by decide +kernel
theorem dX8_leastOn_14 : decode cX8_leastOn 14 = .ok (.goto 7, 3) := by decide +kernel
theorem dX8_leastOn_17 : decode cX8_leastOn 17 = .ok (.iload_n 1, 1) := by decide +kernel
theorem dX8_leastOn_18 : decode cX8_leastOn 18 = .ok (.invokestatic 77, 3) := by decide +kernel
theorem dX8_leastOn_21 : decode cX8_leastOn 21 = .ok (.ireturn, 1) := by decide +kernel
def fX8_leastOn (a0 : Nat) (M : xMem) : Option (Int32 × xMem) :=
  xBn (fX8_home a0 M) fun r1 M2 => xBn (fX7_maskOf r1 (nI 0) M2) fun r5 M6 => if r5 = 0 then (some ((-1), M6)) else (xBn (fJ6_numberOfTrailingZeros_0f7a4 r5 M6) fun r7 M8 => some (r7, M8))
set_option maxRecDepth 100000 in
set_option maxHeartbeats 4000000 in
theorem zX8_leastOn (G : xGX) (a0 : Nat) (h0 : xkd a0 = 8) (M : xMem) (r : Int32) (M' : xMem) (h : fX8_leastOn a0 M = some (r, M')) : xCt G yX8_leastOn cX8_leastOn 2 (some .int) 2 [vr G a0] M (some (.int r), M') := by
  refine xMet (lv := [some (vr G a0), none]) (by decide) (Nat.le_of_ble_eq_true rfl) rfl ?_
  intro X hG hnL C R0
  subst hG
  have C : xCk X cX8_leastOn RX8 2 := C
  have hn1 : 1 < X.2.2.2.2.2.2.2.2.2.2.2.2.2 := by rw [hnL]; decide
  unfold fX8_leastOn at h
  refine r_aload_n (pc := 0) C dX8_leastOn_0 rfl rfl ?_
  refine r_vR0 (pc := 1) C (fun r M' e => zX8_home X.1 a0 h0 M r M' e) h0 (by decide) rfl mX8_home lX8_65 (by decide) (Nat.le_of_ble_eq_true rfl) dX8_leastOn_1 h (fun r1 M2 e3 h => ?_)
  have k4 := tX8_home h0 e3
  refine r_iconst (pc := 4) (v := (nI 0)) C dX8_leastOn_4 (by decide) ?_
  refine r_vI1 (pc := 5) C (fun r M' e => zX7_maskOf X.1 r1 k4 (nI 0) M2 r M' e) k4 (by decide) rfl mX7_maskOf lX8_74 (by decide) (Nat.le_of_ble_eq_true rfl) dX8_leastOn_5 h (fun r5 M6 h => ?_)
  refine r_istore_n (pc := 8) (lv' := [_, _]) C dX8_leastOn_8 rfl hn1 rfl ?_
  refine r_iload_n (pc := 9) C dX8_leastOn_9 rfl rfl ?_
  refine r_if_ne (pc := 10) (tgt := 17) C dX8_leastOn_10 (by decide) h (fun _ h => ?_) (fun _ h => ?_)
  · refine r_iload_n (pc := 17) C dX8_leastOn_17 rfl rfl ?_
    refine r_sI1 (pc := 18) C (fun r M' e => zJ6_numberOfTrailingZeros_0f7a4 X.1 r5 M6 r M' e) mJ6_numberOfTrailingZeros_0f7a4 lX8_77 (by decide) (Nat.le_of_ble_eq_true rfl) dX8_leastOn_18 h (fun r7 M8 h => ?_)
    exact r_iret (pc := 21) C R0 h dX8_leastOn_21
  · refine r_iconst (pc := 13) (v := (-1)) C dX8_leastOn_13 (by decide) ?_
    refine r_goto (pc := 14) (tgt := 21) C dX8_leastOn_14 (by decide) ?_
    exact r_iret (pc := 21) C R0 h dX8_leastOn_21
theorem dX8_canSend_0 : decode cX8_canSend 0 = .ok (.aload_n 0, 1) := by decide +kernel
theorem dX8_canSend_1 : decode cX8_canSend 1 = .ok (.invokevirtual 82, 3) := by decide +kernel
theorem dX8_canSend_4 : decode cX8_canSend 4 = .ok (.ifCond .ne 19, 3) := by decide +kernel
theorem dX8_canSend_7 : decode cX8_canSend 7 = .ok (.aload_n 0, 1) := by decide +kernel
theorem dX8_canSend_8 : decode cX8_canSend 8 = .ok (.invokevirtual 65, 3) := by decide +kernel
theorem dX8_canSend_11 : decode cX8_canSend 11 = .ok (.getfield 86, 3) := by decide +kernel
theorem dX8_canSend_14 : decode cX8_canSend 14 = .ok (.iload_n 1, 1) := by decide +kernel
theorem dX8_canSend_15 : decode cX8_canSend 15 = .ok (.iaload, 1) := by decide +kernel
theorem dX8_canSend_16 : decode cX8_canSend 16 = .ok (.ifCond .ne 7, 3) := by decide +kernel
theorem dX8_canSend_19 : decode cX8_canSend 19 = .ok (.iconst 1, 1) := by decide +kernel
theorem dX8_canSend_20 : decode cX8_canSend 20 = .ok (.goto 4, 3) := by decide +kernel
theorem dX8_canSend_23 : decode cX8_canSend 23 = .ok (.iconst 0, 1) := by decide +kernel
theorem dX8_canSend_24 : decode cX8_canSend 24 = .ok (.ireturn, 1) := by decide +kernel
def fX8_canSend (a0 : Nat) (a1 : Int32) (M : xMem) : Option (Int32 × xMem) :=
  xBn (fX8_isOver a0 M) fun r1 M2 => if r1 = 0 then (xBn (fX8_home a0 M2) fun r3 M4 => xGb a1 (xln (xrf r3 0)) (if (M4.1 (xrf r3 0) (Int32.toNatClampNeg a1)) = 0 then (some ((nI 1), M4)) else (some ((nI 0), M4)))) else (some ((nI 0), M2))
set_option maxRecDepth 100000 in
set_option maxHeartbeats 4000000 in
theorem zX8_canSend (G : xGX) (a0 : Nat) (h0 : xkd a0 = 8) (a1 : Int32) (M : xMem) (r : Int32) (M' : xMem) (h : fX8_canSend a0 a1 M = some (r, M')) : xCt G yX8_canSend cX8_canSend 2 (some .boolean) 2 [vr G a0, .int a1] M (some (.int r), M') := by
  refine xMet (lv := [some (vr G a0), some (.int a1)]) (by decide) (Nat.le_of_ble_eq_true rfl) rfl ?_
  intro X hG hnL C R0
  subst hG
  have C : xCk X cX8_canSend RX8 2 := C
  unfold fX8_canSend at h
  refine r_aload_n (pc := 0) C dX8_canSend_0 rfl rfl ?_
  refine r_vI0 (pc := 1) C (fun r M' e => zX8_isOver X.1 a0 h0 M r M' e) h0 (by decide) rfl mX8_isOver lX8_82 (by decide) (Nat.le_of_ble_eq_true rfl) dX8_canSend_1 h (fun r1 M2 h => ?_)
  refine r_if_ne (pc := 4) (tgt := 23) C dX8_canSend_4 (by decide) h (fun _ h => ?_) (fun _ h => ?_)
  · refine r_iconst (pc := 23) (v := (nI 0)) C dX8_canSend_23 (by decide) ?_
    exact r_zret (pc := 24) (Or.inl (by decide)) C R0 h dX8_canSend_24
  · refine r_aload_n (pc := 7) C dX8_canSend_7 rfl rfl ?_
    refine r_vR0 (pc := 8) C (fun r M' e => zX8_home X.1 a0 h0 M2 r M' e) h0 (by decide) rfl mX8_home lX8_65 (by decide) (Nat.le_of_ble_eq_true rfl) dX8_canSend_8 h (fun r3 M4 e5 h => ?_)
    have k6 := tX8_home h0 e5
    refine r_getR (pc := 11) C kX8_86 k6 (by decide) dX8_canSend_11 ?_
    refine r_iload_n (pc := 14) C dX8_canSend_14 rfl rfl ?_
    obtain ⟨g7, h⟩ := xGb_of h
    refine r_iald (pc := 15) C (xtk k6 (by decide) rfl rfl) g7 dX8_canSend_15 ?_
    refine r_if_ne (pc := 16) (tgt := 23) C dX8_canSend_16 (by decide) h (fun _ h => ?_) (fun _ h => ?_)
    · refine r_iconst (pc := 23) (v := (nI 0)) C dX8_canSend_23 (by decide) ?_
      exact r_zret (pc := 24) (Or.inl (by decide)) C R0 h dX8_canSend_24
    · refine r_iconst (pc := 19) (v := (nI 1)) C dX8_canSend_19 (by decide) ?_
      refine r_goto (pc := 20) (tgt := 24) C dX8_canSend_20 (by decide) ?_
      exact r_zret (pc := 24) (Or.inr (by decide)) C R0 h dX8_canSend_24
theorem dX8_canShow_0 : decode cX8_canShow 0 = .ok (.aload_n 0, 1) := by decide +kernel
theorem dX8_canShow_1 : decode cX8_canShow 1 = .ok (.getfield 12, 3) := by decide +kernel
theorem dX8_canShow_4 : decode cX8_canShow 4 = .ok (.iload_n 1, 1) := by decide +kernel
theorem dX8_canShow_5 : decode cX8_canShow 5 = .ok (.aaload, 1) := by decide +kernel
theorem dX8_canShow_6 : decode cX8_canShow 6 = .ok (.getfield 86, 3) := by decide +kernel
theorem dX8_canShow_9 : decode cX8_canShow 9 = .ok (.iload_n 2, 1) := by decide +kernel
theorem dX8_canShow_10 : decode cX8_canShow 10 = .ok (.iaload, 1) := by decide +kernel
theorem dX8_canShow_11 : decode cX8_canShow 11 = .ok (.istore 4, 2) := by decide +kernel
theorem dX8_canShow_13 : decode cX8_canShow 13 = .ok (.iload 4, 2) := by decide +kernel
theorem dX8_canShow_15 : decode cX8_canShow 15 = .ok (.ifCond .eq 20, 3) := by decide +kernel
theorem dX8_canShow_18 : decode cX8_canShow 18 = .ok (.iload 4, 2) := by decide +kernel
theorem dX8_canShow_20 : decode cX8_canShow 20 = .ok (.iconst 1, 1) := by decide +kernel
theorem dX8_canShow_21 : decode cX8_canShow 21 = .ok (.if_icmp .eq 14, 3) := by decide +kernel
theorem dX8_canShow_24 : decode cX8_canShow 24 = .ok (.iload 4, 2) := by decide +kernel
theorem dX8_canShow_26 : decode cX8_canShow 26 = .ok (.iconst 3, 1) := by decide +kernel
theorem dX8_canShow_27 : decode cX8_canShow 27 = .ok (.if_icmp .ne 12, 3) := by decide +kernel
theorem dX8_canShow_30 : decode cX8_canShow 30 = .ok (.iload_n 3, 1) := by decide +kernel
theorem dX8_canShow_31 : decode cX8_canShow 31 = .ok (.iconst 2, 1) := by decide +kernel
theorem dX8_canShow_32 : decode cX8_canShow 32 = .ok (.if_icmp .ne 7, 3) := by decide +kernel
theorem dX8_canShow_35 : decode cX8_canShow 35 = .ok (.iconst 1, 1) := by decide +kernel
theorem dX8_canShow_36 : decode cX8_canShow 36 = .ok (.goto 4, 3) := by decide +kernel
theorem dX8_canShow_39 : decode cX8_canShow 39 = .ok (.iconst 0, 1) := by decide +kernel
theorem dX8_canShow_40 : decode cX8_canShow 40 = .ok (.istore 5, 2) := by decide +kernel
theorem dX8_canShow_42 : decode cX8_canShow 42 = .ok (.aload_n 0, 1) := by decide +kernel
theorem dX8_canShow_43 : decode cX8_canShow 43 = .ok (.invokevirtual 82, 3) := by decide +kernel
theorem dX8_canShow_46 : decode cX8_canShow 46 = .ok (.ifCond .ne 12, 3) := by decide +kernel
theorem dX8_canShow_49 : decode cX8_canShow 49 = .ok (.iload 5, 2) := by decide +kernel
theorem dX8_canShow_51 : decode cX8_canShow 51 = .ok (.ifCond .eq 7, 3) := by decide +kernel
theorem dX8_canShow_54 : decode cX8_canShow 54 = .ok (.iconst 1, 1) := by decide +kernel
theorem dX8_canShow_55 : decode cX8_canShow 55 = .ok (.goto 4, 3) := by decide +kernel
theorem dX8_canShow_58 : decode cX8_canShow 58 = .ok (.iconst 0, 1) := by decide +kernel
theorem dX8_canShow_59 : decode cX8_canShow 59 = .ok (.ireturn, 1) := by decide +kernel
def fX8_canShow (a0 : Nat) (a1 : Int32) (a2 : Int32) (a3 : Int32) (M : xMem) : Option (Int32 × xMem) :=
  xGb a1 (xln (xrf a0 0)) (xGb a2 (xln (xrf (xrf (xrf a0 0) (Int32.toNatClampNeg a1)) 0)) (xLt (M.1 (xrf (xrf (xrf a0 0) (Int32.toNatClampNeg a1)) 0) (Int32.toNatClampNeg a2)) fun x3 => xLt (fun (s4 : Int32) (M5 : xMem) => (xBn (fX8_isOver a0 M5) fun r6 M7 => if r6 = 0 then (if s4 = 0 then (some ((nI 0), M7)) else (some ((nI 1), M7))) else (some ((nI 0), M7)) : Option (Int32 × xMem))) fun J40 => if x3 = 0 then (J40 (nI 1) M) else (if x3 = (nI 1) then (J40 (nI 1) M) else (if x3 = (nI 3) then (if a3 = (nI 2) then (J40 (nI 1) M) else (J40 (nI 0) M)) else (J40 (nI 0) M)))))
set_option maxRecDepth 100000 in
set_option maxHeartbeats 4000000 in
theorem zX8_canShow (G : xGX) (a0 : Nat) (h0 : xkd a0 = 8) (a1 : Int32) (a2 : Int32) (a3 : Int32) (M : xMem) (r : Int32) (M' : xMem) (h : fX8_canShow a0 a1 a2 a3 M = some (r, M')) : xCt G yX8_canShow cX8_canShow 6 (some .boolean) 2 [vr G a0, .int a1, .int a2, .int a3] M (some (.int r), M') := by
  refine xMet (lv := [some (vr G a0), some (.int a1), some (.int a2), some (.int a3), none, none]) (by decide) (Nat.le_of_ble_eq_true rfl) rfl ?_
  intro X hG hnL C R0
  subst hG
  have C : xCk X cX8_canShow RX8 2 := C
  have hn4 : 4 < X.2.2.2.2.2.2.2.2.2.2.2.2.2 := by rw [hnL]; decide
  have hn5 : 5 < X.2.2.2.2.2.2.2.2.2.2.2.2.2 := by rw [hnL]; decide
  unfold fX8_canShow at h
  refine r_aload_n (pc := 0) C dX8_canShow_0 rfl rfl ?_
  refine r_getR (pc := 1) C kX8_12 h0 (by decide) dX8_canShow_1 ?_
  refine r_iload_n (pc := 4) C dX8_canShow_4 rfl rfl ?_
  obtain ⟨g1, h⟩ := xGb_of h
  refine r_aaldS (pc := 5) C (xtk h0 (by decide) rfl rfl) g1 dX8_canShow_5 ?_
  refine r_getR (pc := 6) C kX8_86 (xkeS (xtk h0 (by decide) rfl rfl) (xin_lt g1)) (by decide) dX8_canShow_6 ?_
  refine r_iload_n (pc := 9) C dX8_canShow_9 rfl rfl ?_
  obtain ⟨g2, h⟩ := xGb_of h
  refine r_iald (pc := 10) C (xtk (xkeS (xtk h0 (by decide) rfl rfl) (xin_lt g1)) (by decide) rfl rfl) g2 dX8_canShow_10 ?_
  refine r_letI h (fun x3 h => ?_)
  refine r_istore (pc := 11) (lv' := [_, _, _, _, _, _]) C dX8_canShow_11 hn4 rfl ?_
  refine r_iload (pc := 13) C dX8_canShow_13 rfl ?_
  refine r_jn (fun J => ∀ (s4 : Int32) (M5 : xMem) , J s4 M5 = some (r, M') → WW X 40 [some (vr X.1 a0), some (.int a1), some (.int a2), some (.int a3), some (.int x3), none] [.int s4] M5) h (fun s4 M5  h => ?_) (fun J40 hJ40 h => ?_)
  · refine r_istore (pc := 40) (lv' := [_, _, _, _, _, _]) C dX8_canShow_40 hn5 rfl ?_
    refine r_aload_n (pc := 42) C dX8_canShow_42 rfl rfl ?_
    refine r_vI0 (pc := 43) C (fun r M' e => zX8_isOver X.1 a0 h0 M5 r M' e) h0 (by decide) rfl mX8_isOver lX8_82 (by decide) (Nat.le_of_ble_eq_true rfl) dX8_canShow_43 h (fun r6 M7 h => ?_)
    refine r_if_ne (pc := 46) (tgt := 58) C dX8_canShow_46 (by decide) h (fun _ h => ?_) (fun _ h => ?_)
    · refine r_iconst (pc := 58) (v := (nI 0)) C dX8_canShow_58 (by decide) ?_
      exact r_zret (pc := 59) (Or.inl (by decide)) C R0 h dX8_canShow_59
    · refine r_iload (pc := 49) C dX8_canShow_49 rfl ?_
      refine r_if_eq (pc := 51) (tgt := 58) C dX8_canShow_51 (by decide) h (fun _ h => ?_) (fun _ h => ?_)
      · refine r_iconst (pc := 58) (v := (nI 0)) C dX8_canShow_58 (by decide) ?_
        exact r_zret (pc := 59) (Or.inl (by decide)) C R0 h dX8_canShow_59
      · refine r_iconst (pc := 54) (v := (nI 1)) C dX8_canShow_54 (by decide) ?_
        refine r_goto (pc := 55) (tgt := 59) C dX8_canShow_55 (by decide) ?_
        exact r_zret (pc := 59) (Or.inr (by decide)) C R0 h dX8_canShow_59
  refine r_if_eq (pc := 15) (tgt := 35) C dX8_canShow_15 (by decide) h (fun _ h => ?_) (fun _ h => ?_)
  · refine r_iconst (pc := 35) (v := (nI 1)) C dX8_canShow_35 (by decide) ?_
    refine r_goto (pc := 36) (tgt := 40) C dX8_canShow_36 (by decide) ?_
    exact hJ40 (nI 1) M  h
  · refine r_iload (pc := 18) C dX8_canShow_18 rfl ?_
    refine r_iconst (pc := 20) (v := (nI 1)) C dX8_canShow_20 (by decide) ?_
    refine r_icmp_eq (pc := 21) (tgt := 35) C dX8_canShow_21 (by decide) h (fun _ h => ?_) (fun _ h => ?_)
    · refine r_iconst (pc := 35) (v := (nI 1)) C dX8_canShow_35 (by decide) ?_
      refine r_goto (pc := 36) (tgt := 40) C dX8_canShow_36 (by decide) ?_
      exact hJ40 (nI 1) M  h
    · refine r_iload (pc := 24) C dX8_canShow_24 rfl ?_
      refine r_iconst (pc := 26) (v := (nI 3)) C dX8_canShow_26 (by decide) ?_
      refine r_icmp_ne (pc := 27) (tgt := 39) C dX8_canShow_27 (by decide) h (fun _ h => ?_) (fun _ h => ?_)
      · refine r_iconst (pc := 39) (v := (nI 0)) C dX8_canShow_39 (by decide) ?_
        exact hJ40 (nI 0) M  h
      · refine r_iload_n (pc := 30) C dX8_canShow_30 rfl rfl ?_
        refine r_iconst (pc := 31) (v := (nI 2)) C dX8_canShow_31 (by decide) ?_
        refine r_icmp_ne (pc := 32) (tgt := 39) C dX8_canShow_32 (by decide) h (fun _ h => ?_) (fun _ h => ?_)
        · refine r_iconst (pc := 39) (v := (nI 0)) C dX8_canShow_39 (by decide) ?_
          exact hJ40 (nI 0) M  h
        · refine r_iconst (pc := 35) (v := (nI 1)) C dX8_canShow_35 (by decide) ?_
          refine r_goto (pc := 36) (tgt := 40) C dX8_canShow_36 (by decide) ?_
          exact hJ40 (nI 1) M  h
theorem dX8_canLeave_0 : decode cX8_canLeave 0 = .ok (.aload_n 0, 1) := by decide +kernel
theorem dX8_canLeave_1 : decode cX8_canLeave 1 = .ok (.getfield 12, 3) := by decide +kernel
theorem dX8_canLeave_4 : decode cX8_canLeave 4 = .ok (.iload_n 1, 1) := by decide +kernel
theorem dX8_canLeave_5 : decode cX8_canLeave 5 = .ok (.aaload, 1) := by decide +kernel
theorem dX8_canLeave_6 : decode cX8_canLeave 6 = .ok (.astore_n 3, 1) := by decide +kernel
theorem dX8_canLeave_7 : decode cX8_canLeave 7 = .ok (.aload_n 0, 1) := by decide +kernel
theorem dX8_canLeave_8 : decode cX8_canLeave 8 = .ok (.invokevirtual 82, 3) := by decide +kernel
theorem dX8_canLeave_11 : decode cX8_canLeave 11 = .ok (.ifCond .ne 24, 3) := by decide +kernel
theorem dX8_canLeave_14 : decode cX8_canLeave 14 = .ok (.aload_n 3, 1) := by decide +kernel
theorem dX8_canLeave_15 : decode cX8_canLeave 15 = .ok (.getfield 90, 3) := by decide +kernel
theorem dX8_canLeave_18 : decode cX8_canLeave 18 = .ok (.iconst 5, 1) := by decide +kernel
theorem dX8_canLeave_19 : decode cX8_canLeave 19 = .ok (.if_icmp .ge 16, 3) := by decide +kernel
theorem dX8_canLeave_22 : decode cX8_canLeave 22 = .ok (.aload_n 3, 1) := by decide +kernel
theorem dX8_canLeave_23 : decode cX8_canLeave 23 = .ok (.getfield 86, 3) := by decide +kernel
theorem dX8_canLeave_26 : decode cX8_canLeave 26 = .ok (.iload_n 2, 1) := by decide +kernel
theorem dX8_canLeave_27 : decode cX8_canLeave 27 = .ok (.iaload, 1) := by decide +kernel
theorem dX8_canLeave_28 : decode cX8_canLeave 28 = .ok (.ifCond .ne 7, 3) := by decide +kernel
theorem dX8_canLeave_31 : decode cX8_canLeave 31 = .ok (.iconst 1, 1) := by decide +kernel
theorem dX8_canLeave_32 : decode cX8_canLeave 32 = .ok (.goto 4, 3) := by decide +kernel
theorem dX8_canLeave_35 : decode cX8_canLeave 35 = .ok (.iconst 0, 1) := by decide +kernel
theorem dX8_canLeave_36 : decode cX8_canLeave 36 = .ok (.ireturn, 1) := by decide +kernel
def fX8_canLeave (a0 : Nat) (a1 : Int32) (a2 : Int32) (M : xMem) : Option (Int32 × xMem) :=
  xGb a1 (xln (xrf a0 0)) (xBn (fX8_isOver a0 M) fun r2 M3 => if r2 = 0 then (if (nI 5) ≤ (M3.1 (xrf (xrf a0 0) (Int32.toNatClampNeg a1)) 8) then (some ((nI 0), M3)) else (xGb a2 (xln (xrf (xrf (xrf a0 0) (Int32.toNatClampNeg a1)) 0)) (if (M3.1 (xrf (xrf (xrf a0 0) (Int32.toNatClampNeg a1)) 0) (Int32.toNatClampNeg a2)) = 0 then (some ((nI 1), M3)) else (some ((nI 0), M3))))) else (some ((nI 0), M3)))
set_option maxRecDepth 100000 in
set_option maxHeartbeats 4000000 in
theorem zX8_canLeave (G : xGX) (a0 : Nat) (h0 : xkd a0 = 8) (a1 : Int32) (a2 : Int32) (M : xMem) (r : Int32) (M' : xMem) (h : fX8_canLeave a0 a1 a2 M = some (r, M')) : xCt G yX8_canLeave cX8_canLeave 4 (some .boolean) 2 [vr G a0, .int a1, .int a2] M (some (.int r), M') := by
  refine xMet (lv := [some (vr G a0), some (.int a1), some (.int a2), none]) (by decide) (Nat.le_of_ble_eq_true rfl) rfl ?_
  intro X hG hnL C R0
  subst hG
  have C : xCk X cX8_canLeave RX8 2 := C
  have hn3 : 3 < X.2.2.2.2.2.2.2.2.2.2.2.2.2 := by rw [hnL]; decide
  unfold fX8_canLeave at h
  refine r_aload_n (pc := 0) C dX8_canLeave_0 rfl rfl ?_
  refine r_getR (pc := 1) C kX8_12 h0 (by decide) dX8_canLeave_1 ?_
  refine r_iload_n (pc := 4) C dX8_canLeave_4 rfl rfl ?_
  obtain ⟨g1, h⟩ := xGb_of h
  refine r_aaldS (pc := 5) C (xtk h0 (by decide) rfl rfl) g1 dX8_canLeave_5 ?_
  refine r_astore_n (pc := 6) (lv' := [_, _, _, _]) C dX8_canLeave_6 rfl hn3 rfl ?_
  refine r_aload_n (pc := 7) C dX8_canLeave_7 rfl rfl ?_
  refine r_vI0 (pc := 8) C (fun r M' e => zX8_isOver X.1 a0 h0 M r M' e) h0 (by decide) rfl mX8_isOver lX8_82 (by decide) (Nat.le_of_ble_eq_true rfl) dX8_canLeave_8 h (fun r2 M3 h => ?_)
  refine r_if_ne (pc := 11) (tgt := 35) C dX8_canLeave_11 (by decide) h (fun _ h => ?_) (fun _ h => ?_)
  · refine r_iconst (pc := 35) (v := (nI 0)) C dX8_canLeave_35 (by decide) ?_
    exact r_zret (pc := 36) (Or.inl (by decide)) C R0 h dX8_canLeave_36
  · refine r_aload_n (pc := 14) C dX8_canLeave_14 rfl rfl ?_
    refine r_getI (pc := 15) C kX8_90 (xkeS (xtk h0 (by decide) rfl rfl) (xin_lt g1)) dX8_canLeave_15 ?_
    refine r_iconst (pc := 18) (v := (nI 5)) C dX8_canLeave_18 (by decide) ?_
    refine r_icmp_ge (pc := 19) (tgt := 35) C dX8_canLeave_19 (by decide) h (fun _ h => ?_) (fun _ h => ?_)
    · refine r_iconst (pc := 35) (v := (nI 0)) C dX8_canLeave_35 (by decide) ?_
      exact r_zret (pc := 36) (Or.inl (by decide)) C R0 h dX8_canLeave_36
    · refine r_aload_n (pc := 22) C dX8_canLeave_22 rfl rfl ?_
      refine r_getR (pc := 23) C kX8_86 (xkeS (xtk h0 (by decide) rfl rfl) (xin_lt g1)) (by decide) dX8_canLeave_23 ?_
      refine r_iload_n (pc := 26) C dX8_canLeave_26 rfl rfl ?_
      obtain ⟨g4, h⟩ := xGb_of h
      refine r_iald (pc := 27) C (xtk (xkeS (xtk h0 (by decide) rfl rfl) (xin_lt g1)) (by decide) rfl rfl) g4 dX8_canLeave_27 ?_
      refine r_if_ne (pc := 28) (tgt := 35) C dX8_canLeave_28 (by decide) h (fun _ h => ?_) (fun _ h => ?_)
      · refine r_iconst (pc := 35) (v := (nI 0)) C dX8_canLeave_35 (by decide) ?_
        exact r_zret (pc := 36) (Or.inl (by decide)) C R0 h dX8_canLeave_36
      · refine r_iconst (pc := 31) (v := (nI 1)) C dX8_canLeave_31 (by decide) ?_
        refine r_goto (pc := 32) (tgt := 36) C dX8_canLeave_32 (by decide) ?_
        exact r_zret (pc := 36) (Or.inr (by decide)) C R0 h dX8_canLeave_36
theorem dX8_canEnter_0 : decode cX8_canEnter 0 = .ok (.aload_n 0, 1) := by decide +kernel
theorem dX8_canEnter_1 : decode cX8_canEnter 1 = .ok (.getfield 12, 3) := by decide +kernel
theorem dX8_canEnter_4 : decode cX8_canEnter 4 = .ok (.iload_n 1, 1) := by decide +kernel
theorem dX8_canEnter_5 : decode cX8_canEnter 5 = .ok (.aaload, 1) := by decide +kernel
theorem dX8_canEnter_6 : decode cX8_canEnter 6 = .ok (.getfield 86, 3) := by decide +kernel
theorem dX8_canEnter_9 : decode cX8_canEnter 9 = .ok (.iload_n 2, 1) := by decide +kernel
theorem dX8_canEnter_10 : decode cX8_canEnter 10 = .ok (.iaload, 1) := by decide +kernel
theorem dX8_canEnter_11 : decode cX8_canEnter 11 = .ok (.iconst 2, 1) := by decide +kernel
theorem dX8_canEnter_12 : decode cX8_canEnter 12 = .ok (.if_icmp .ne 7, 3) := by decide +kernel
theorem dX8_canEnter_15 : decode cX8_canEnter 15 = .ok (.iconst 1, 1) := by decide +kernel
theorem dX8_canEnter_16 : decode cX8_canEnter 16 = .ok (.goto 4, 3) := by decide +kernel
theorem dX8_canEnter_19 : decode cX8_canEnter 19 = .ok (.iconst 0, 1) := by decide +kernel
theorem dX8_canEnter_20 : decode cX8_canEnter 20 = .ok (.ireturn, 1) := by decide +kernel
def fX8_canEnter (a0 : Nat) (a1 : Int32) (a2 : Int32) (M : xMem) : Option (Int32 × xMem) :=
  xGb a1 (xln (xrf a0 0)) (xGb a2 (xln (xrf (xrf (xrf a0 0) (Int32.toNatClampNeg a1)) 0)) (if (M.1 (xrf (xrf (xrf a0 0) (Int32.toNatClampNeg a1)) 0) (Int32.toNatClampNeg a2)) = (nI 2) then (some ((nI 1), M)) else (some ((nI 0), M))))
set_option maxRecDepth 100000 in
set_option maxHeartbeats 4000000 in
theorem zX8_canEnter (G : xGX) (a0 : Nat) (h0 : xkd a0 = 8) (a1 : Int32) (a2 : Int32) (M : xMem) (r : Int32) (M' : xMem) (h : fX8_canEnter a0 a1 a2 M = some (r, M')) : xCt G yX8_canEnter cX8_canEnter 3 (some .boolean) 1 [vr G a0, .int a1, .int a2] M (some (.int r), M') := by
  refine xMet (lv := [some (vr G a0), some (.int a1), some (.int a2)]) (by decide) (Nat.le_of_ble_eq_true rfl) rfl ?_
  intro X hG hnL C R0
  subst hG
  have C : xCk X cX8_canEnter RX8 1 := C
  unfold fX8_canEnter at h
  refine r_aload_n (pc := 0) C dX8_canEnter_0 rfl rfl ?_
  refine r_getR (pc := 1) C kX8_12 h0 (by decide) dX8_canEnter_1 ?_
  refine r_iload_n (pc := 4) C dX8_canEnter_4 rfl rfl ?_
  obtain ⟨g1, h⟩ := xGb_of h
  refine r_aaldS (pc := 5) C (xtk h0 (by decide) rfl rfl) g1 dX8_canEnter_5 ?_
  refine r_getR (pc := 6) C kX8_86 (xkeS (xtk h0 (by decide) rfl rfl) (xin_lt g1)) (by decide) dX8_canEnter_6 ?_
  refine r_iload_n (pc := 9) C dX8_canEnter_9 rfl rfl ?_
  obtain ⟨g2, h⟩ := xGb_of h
  refine r_iald (pc := 10) C (xtk (xkeS (xtk h0 (by decide) rfl rfl) (xin_lt g1)) (by decide) rfl rfl) g2 dX8_canEnter_10 ?_
  refine r_iconst (pc := 11) (v := (nI 2)) C dX8_canEnter_11 (by decide) ?_
  refine r_icmp_ne (pc := 12) (tgt := 19) C dX8_canEnter_12 (by decide) h (fun _ h => ?_) (fun _ h => ?_)
  · refine r_iconst (pc := 19) (v := (nI 0)) C dX8_canEnter_19 (by decide) ?_
    exact r_zret (pc := 20) (Or.inl (by decide)) C R0 h dX8_canEnter_20
  · refine r_iconst (pc := 15) (v := (nI 1)) C dX8_canEnter_15 (by decide) ?_
    refine r_goto (pc := 16) (tgt := 20) C dX8_canEnter_16 (by decide) ?_
    exact r_zret (pc := 20) (Or.inr (by decide)) C R0 h dX8_canEnter_20
theorem dX8_canAsk_0 : decode cX8_canAsk 0 = .ok (.aload_n 0, 1) := by decide +kernel
theorem dX8_canAsk_1 : decode cX8_canAsk 1 = .ok (.invokevirtual 82, 3) := by decide +kernel
theorem dX8_canAsk_4 : decode cX8_canAsk 4 = .ok (.ifCond .ne 26, 3) := by decide +kernel
theorem dX8_canAsk_7 : decode cX8_canAsk 7 = .ok (.aload_n 0, 1) := by decide +kernel
theorem dX8_canAsk_8 : decode cX8_canAsk 8 = .ok (.getfield 28, 3) := by decide +kernel
theorem dX8_canAsk_11 : decode cX8_canAsk 11 = .ok (.ifCond .eq 19, 3) := by decide +kernel
theorem dX8_canAsk_14 : decode cX8_canAsk 14 = .ok (.aload_n 0, 1) := by decide +kernel
theorem dX8_canAsk_15 : decode cX8_canAsk 15 = .ok (.getfield 12, 3) := by decide +kernel
theorem dX8_canAsk_18 : decode cX8_canAsk 18 = .ok (.iload_n 1, 1) := by decide +kernel
theorem dX8_canAsk_19 : decode cX8_canAsk 19 = .ok (.aaload, 1) := by decide +kernel
theorem dX8_canAsk_20 : decode cX8_canAsk 20 = .ok (.getfield 93, 3) := by decide +kernel
theorem dX8_canAsk_23 : decode cX8_canAsk 23 = .ok (.ifCond .ne 7, 3) := by decide +kernel
theorem dX8_canAsk_26 : decode cX8_canAsk 26 = .ok (.iconst 1, 1) := by decide +kernel
theorem dX8_canAsk_27 : decode cX8_canAsk 27 = .ok (.goto 4, 3) := by decide +kernel
theorem dX8_canAsk_30 : decode cX8_canAsk 30 = .ok (.iconst 0, 1) := by decide +kernel
theorem dX8_canAsk_31 : decode cX8_canAsk 31 = .ok (.ireturn, 1) := by decide +kernel
def fX8_canAsk (a0 : Nat) (a1 : Int32) (M : xMem) : Option (Int32 × xMem) :=
  xBn (fX8_isOver a0 M) fun r1 M2 => if r1 = 0 then (if (M2.1 a0 4) = 0 then (some ((nI 0), M2)) else (xGb a1 (xln (xrf a0 0)) (if (M2.1 (xrf (xrf a0 0) (Int32.toNatClampNeg a1)) 9) = 0 then (some ((nI 1), M2)) else (some ((nI 0), M2))))) else (some ((nI 0), M2))
set_option maxRecDepth 100000 in
set_option maxHeartbeats 4000000 in
theorem zX8_canAsk (G : xGX) (a0 : Nat) (h0 : xkd a0 = 8) (a1 : Int32) (M : xMem) (r : Int32) (M' : xMem) (h : fX8_canAsk a0 a1 M = some (r, M')) : xCt G yX8_canAsk cX8_canAsk 2 (some .boolean) 2 [vr G a0, .int a1] M (some (.int r), M') := by
  refine xMet (lv := [some (vr G a0), some (.int a1)]) (by decide) (Nat.le_of_ble_eq_true rfl) rfl ?_
  intro X hG hnL C R0
  subst hG
  have C : xCk X cX8_canAsk RX8 2 := C
  unfold fX8_canAsk at h
  refine r_aload_n (pc := 0) C dX8_canAsk_0 rfl rfl ?_
  refine r_vI0 (pc := 1) C (fun r M' e => zX8_isOver X.1 a0 h0 M r M' e) h0 (by decide) rfl mX8_isOver lX8_82 (by decide) (Nat.le_of_ble_eq_true rfl) dX8_canAsk_1 h (fun r1 M2 h => ?_)
  refine r_if_ne (pc := 4) (tgt := 30) C dX8_canAsk_4 (by decide) h (fun _ h => ?_) (fun _ h => ?_)
  · refine r_iconst (pc := 30) (v := (nI 0)) C dX8_canAsk_30 (by decide) ?_
    exact r_zret (pc := 31) (Or.inl (by decide)) C R0 h dX8_canAsk_31
  · refine r_aload_n (pc := 7) C dX8_canAsk_7 rfl rfl ?_
    refine r_getI (pc := 8) C kX8_28 h0 dX8_canAsk_8 ?_
    refine r_if_eq (pc := 11) (tgt := 30) C dX8_canAsk_11 (by decide) h (fun _ h => ?_) (fun _ h => ?_)
    · refine r_iconst (pc := 30) (v := (nI 0)) C dX8_canAsk_30 (by decide) ?_
      exact r_zret (pc := 31) (Or.inl (by decide)) C R0 h dX8_canAsk_31
    · refine r_aload_n (pc := 14) C dX8_canAsk_14 rfl rfl ?_
      refine r_getR (pc := 15) C kX8_12 h0 (by decide) dX8_canAsk_15 ?_
      refine r_iload_n (pc := 18) C dX8_canAsk_18 rfl rfl ?_
      obtain ⟨g3, h⟩ := xGb_of h
      refine r_aaldS (pc := 19) C (xtk h0 (by decide) rfl rfl) g3 dX8_canAsk_19 ?_
      refine r_getI (pc := 20) C kX8_93 (xkeS (xtk h0 (by decide) rfl rfl) (xin_lt g3)) dX8_canAsk_20 ?_
      refine r_if_ne (pc := 23) (tgt := 30) C dX8_canAsk_23 (by decide) h (fun _ h => ?_) (fun _ h => ?_)
      · refine r_iconst (pc := 30) (v := (nI 0)) C dX8_canAsk_30 (by decide) ?_
        exact r_zret (pc := 31) (Or.inl (by decide)) C R0 h dX8_canAsk_31
      · refine r_iconst (pc := 26) (v := (nI 1)) C dX8_canAsk_26 (by decide) ?_
        refine r_goto (pc := 27) (tgt := 31) C dX8_canAsk_27 (by decide) ?_
        exact r_zret (pc := 31) (Or.inr (by decide)) C R0 h dX8_canAsk_31
theorem dX8_isRaiderLost_0 : decode cX8_isRaiderLost 0 = .ok (.aload_n 1, 1) := by decide +kernel
theorem dX8_isRaiderLost_1 : decode cX8_isRaiderLost 1 = .ok (.getfield 96, 3) := by decide +kernel
theorem dX8_isRaiderLost_4 : decode cX8_isRaiderLost 4 = .ok (.ifCond .ne 14, 3) := by decide +kernel
theorem dX8_isRaiderLost_7 : decode cX8_isRaiderLost 7 = .ok (.aload_n 0, 1) := by decide +kernel
theorem dX8_isRaiderLost_8 : decode cX8_isRaiderLost 8 = .ok (.invokevirtual 101, 3) := by decide +kernel
theorem dX8_isRaiderLost_11 : decode cX8_isRaiderLost 11 = .ok (.ifCond .eq 7, 3) := by decide +kernel
theorem dX8_isRaiderLost_14 : decode cX8_isRaiderLost 14 = .ok (.iconst 1, 1) := by decide +kernel
theorem dX8_isRaiderLost_15 : decode cX8_isRaiderLost 15 = .ok (.goto 4, 3) := by decide +kernel
theorem dX8_isRaiderLost_18 : decode cX8_isRaiderLost 18 = .ok (.iconst 0, 1) := by decide +kernel
theorem dX8_isRaiderLost_19 : decode cX8_isRaiderLost 19 = .ok (.istore_n 2, 1) := by decide +kernel
theorem dX8_isRaiderLost_20 : decode cX8_isRaiderLost 20 = .ok (.iload_n 2, 1) := by decide +kernel
theorem dX8_isRaiderLost_21 : decode cX8_isRaiderLost 21 = .ok (.ifCond .ne 19, 3) := by decide +kernel
theorem dX8_isRaiderLost_24 : decode cX8_isRaiderLost 24 = .ok (.aload_n 1, 1) := by decide +kernel
theorem dX8_isRaiderLost_25 : decode cX8_isRaiderLost 25 = .ok (.getfield 96, 3) := by decide +kernel
theorem dX8_isRaiderLost_28 : decode cX8_isRaiderLost 28 = .ok (.iconst 3, 1) := by decide +kernel
theorem dX8_isRaiderLost_29 : decode cX8_isRaiderLost 29 = .ok (.if_icmp .eq 11, 3) := by decide +kernel
theorem dX8_isRaiderLost_32 : decode cX8_isRaiderLost 32 = .ok (.aload_n 1, 1) := by decide +kernel
theorem dX8_isRaiderLost_33 : decode cX8_isRaiderLost 33 = .ok (.getfield 96, 3) := by decide +kernel
theorem dX8_isRaiderLost_36 : decode cX8_isRaiderLost 36 = .ok (.iconst 4, 1) := by decide +kernel
theorem dX8_isRaiderLost_37 : decode cX8_isRaiderLost 37 = .ok (.if_icmp .ne 7, 3) := by decide +kernel
theorem dX8_isRaiderLost_40 : decode cX8_isRaiderLost 40 = .ok (.iconst 1, 1) := by decide +kernel
theorem dX8_isRaiderLost_41 : decode cX8_isRaiderLost 41 = .ok (.goto 4, 3) := by decide +kernel
theorem dX8_isRaiderLost_44 : decode cX8_isRaiderLost 44 = .ok (.iconst 0, 1) := by decide +kernel
theorem dX8_isRaiderLost_45 : decode cX8_isRaiderLost 45 = .ok (.ireturn, 1) := by decide +kernel
def fX8_isRaiderLost (a0 : Nat) (a1 : Nat) (M : xMem) : Option (Int32 × xMem) :=
  xLt (fun (s1 : Int32) (M2 : xMem) => (if s1 = 0 then (if (M2.1 a1 1) = (nI 3) then (some ((nI 1), M2)) else (if (M2.1 a1 1) = (nI 4) then (some ((nI 1), M2)) else (some ((nI 0), M2)))) else (some ((nI 1), M2)) : Option (Int32 × xMem))) fun J19 => if (M.1 a1 1) = 0 then (xBn (fX8_mustScore a0 M) fun r3 M4 => if r3 = 0 then (J19 (nI 0) M4) else (J19 (nI 1) M4)) else (J19 (nI 0) M)
set_option maxRecDepth 100000 in
set_option maxHeartbeats 4000000 in
theorem zX8_isRaiderLost (G : xGX) (a0 : Nat) (h0 : xkd a0 = 8) (a1 : Nat) (h1 : xkd a1 = 4) (M : xMem) (r : Int32) (M' : xMem) (h : fX8_isRaiderLost a0 a1 M = some (r, M')) : xCt G yX8_isRaiderLost cX8_isRaiderLost 3 (some .boolean) 3 [vr G a0, vr G a1] M (some (.int r), M') := by
  refine xMet (lv := [some (vr G a0), some (vr G a1), none]) (by decide) (Nat.le_of_ble_eq_true rfl) rfl ?_
  intro X hG hnL C R0
  subst hG
  have C : xCk X cX8_isRaiderLost RX8 3 := C
  have hn2 : 2 < X.2.2.2.2.2.2.2.2.2.2.2.2.2 := by rw [hnL]; decide
  unfold fX8_isRaiderLost at h
  refine r_aload_n (pc := 0) C dX8_isRaiderLost_0 rfl rfl ?_
  refine r_getI (pc := 1) C kX8_96 h1 dX8_isRaiderLost_1 ?_
  refine r_jn (fun J => ∀ (s1 : Int32) (M2 : xMem) , J s1 M2 = some (r, M') → WW X 19 [some (vr X.1 a0), some (vr X.1 a1), none] [.int s1] M2) h (fun s1 M2  h => ?_) (fun J19 hJ19 h => ?_)
  · refine r_istore_n (pc := 19) (lv' := [_, _, _]) C dX8_isRaiderLost_19 rfl hn2 rfl ?_
    refine r_iload_n (pc := 20) C dX8_isRaiderLost_20 rfl rfl ?_
    refine r_if_ne (pc := 21) (tgt := 40) C dX8_isRaiderLost_21 (by decide) h (fun _ h => ?_) (fun _ h => ?_)
    · refine r_iconst (pc := 40) (v := (nI 1)) C dX8_isRaiderLost_40 (by decide) ?_
      refine r_goto (pc := 41) (tgt := 45) C dX8_isRaiderLost_41 (by decide) ?_
      exact r_zret (pc := 45) (Or.inr (by decide)) C R0 h dX8_isRaiderLost_45
    · refine r_aload_n (pc := 24) C dX8_isRaiderLost_24 rfl rfl ?_
      refine r_getI (pc := 25) C kX8_96 h1 dX8_isRaiderLost_25 ?_
      refine r_iconst (pc := 28) (v := (nI 3)) C dX8_isRaiderLost_28 (by decide) ?_
      refine r_icmp_eq (pc := 29) (tgt := 40) C dX8_isRaiderLost_29 (by decide) h (fun _ h => ?_) (fun _ h => ?_)
      · refine r_iconst (pc := 40) (v := (nI 1)) C dX8_isRaiderLost_40 (by decide) ?_
        refine r_goto (pc := 41) (tgt := 45) C dX8_isRaiderLost_41 (by decide) ?_
        exact r_zret (pc := 45) (Or.inr (by decide)) C R0 h dX8_isRaiderLost_45
      · refine r_aload_n (pc := 32) C dX8_isRaiderLost_32 rfl rfl ?_
        refine r_getI (pc := 33) C kX8_96 h1 dX8_isRaiderLost_33 ?_
        refine r_iconst (pc := 36) (v := (nI 4)) C dX8_isRaiderLost_36 (by decide) ?_
        refine r_icmp_ne (pc := 37) (tgt := 44) C dX8_isRaiderLost_37 (by decide) h (fun _ h => ?_) (fun _ h => ?_)
        · refine r_iconst (pc := 44) (v := (nI 0)) C dX8_isRaiderLost_44 (by decide) ?_
          exact r_zret (pc := 45) (Or.inl (by decide)) C R0 h dX8_isRaiderLost_45
        · refine r_iconst (pc := 40) (v := (nI 1)) C dX8_isRaiderLost_40 (by decide) ?_
          refine r_goto (pc := 41) (tgt := 45) C dX8_isRaiderLost_41 (by decide) ?_
          exact r_zret (pc := 45) (Or.inr (by decide)) C R0 h dX8_isRaiderLost_45
  refine r_if_ne (pc := 4) (tgt := 18) C dX8_isRaiderLost_4 (by decide) h (fun _ h => ?_) (fun _ h => ?_)
  · refine r_iconst (pc := 18) (v := (nI 0)) C dX8_isRaiderLost_18 (by decide) ?_
    exact hJ19 (nI 0) M  h
  · refine r_aload_n (pc := 7) C dX8_isRaiderLost_7 rfl rfl ?_
    refine r_vI0 (pc := 8) C (fun r M' e => zX8_mustScore X.1 a0 h0 M r M' e) h0 (by decide) rfl mX8_mustScore lX8_101 (by decide) (Nat.le_of_ble_eq_true rfl) dX8_isRaiderLost_8 h (fun r3 M4 h => ?_)
    refine r_if_eq (pc := 11) (tgt := 18) C dX8_isRaiderLost_11 (by decide) h (fun _ h => ?_) (fun _ h => ?_)
    · refine r_iconst (pc := 18) (v := (nI 0)) C dX8_isRaiderLost_18 (by decide) ?_
      exact hJ19 (nI 0) M4  h
    · refine r_iconst (pc := 14) (v := (nI 1)) C dX8_isRaiderLost_14 (by decide) ?_
      refine r_goto (pc := 15) (tgt := 19) C dX8_isRaiderLost_15 (by decide) ?_
      exact hJ19 (nI 1) M4  h
theorem dX8_isSuper_0 : decode cX8_isSuper 0 = .ok (.aload_n 1, 1) := by decide +kernel
theorem dX8_isSuper_1 : decode cX8_isSuper 1 = .ok (.getfield 96, 3) := by decide +kernel
theorem dX8_isSuper_4 : decode cX8_isSuper 4 = .ok (.iconst 3, 1) := by decide +kernel
theorem dX8_isSuper_5 : decode cX8_isSuper 5 = .ok (.if_icmp .ne 19, 3) := by decide +kernel
theorem dX8_isSuper_8 : decode cX8_isSuper 8 = .ok (.aload_n 0, 1) := by decide +kernel
theorem dX8_isSuper_9 : decode cX8_isSuper 9 = .ok (.invokevirtual 58, 3) := by decide +kernel
theorem dX8_isSuper_12 : decode cX8_isSuper 12 = .ok (.iconst 0, 1) := by decide +kernel
theorem dX8_isSuper_13 : decode cX8_isSuper 13 = .ok (.invokevirtual 62, 3) := by decide +kernel
theorem dX8_isSuper_16 : decode cX8_isSuper 16 = .ok (.iconst 3, 1) := by decide +kernel
theorem dX8_isSuper_17 : decode cX8_isSuper 17 = .ok (.if_icmp .gt 7, 3) := by decide +kernel
theorem dX8_isSuper_20 : decode cX8_isSuper 20 = .ok (.iconst 1, 1) := by decide +kernel
theorem dX8_isSuper_21 : decode cX8_isSuper 21 = .ok (.goto 4, 3) := by decide +kernel
theorem dX8_isSuper_24 : decode cX8_isSuper 24 = .ok (.iconst 0, 1) := by decide +kernel
theorem dX8_isSuper_25 : decode cX8_isSuper 25 = .ok (.ireturn, 1) := by decide +kernel
def fX8_isSuper (a0 : Nat) (a1 : Nat) (M : xMem) : Option (Int32 × xMem) :=
  if (M.1 a1 1) = (nI 3) then (xBn (fX8_away a0 M) fun r1 M2 => xBn (fX7_countOf r1 (nI 0) M2) fun r5 M6 => if (nI 3) < r5 then (some ((nI 0), M6)) else (some ((nI 1), M6))) else (some ((nI 0), M))
set_option maxRecDepth 100000 in
set_option maxHeartbeats 4000000 in
theorem zX8_isSuper (G : xGX) (a0 : Nat) (h0 : xkd a0 = 8) (a1 : Nat) (h1 : xkd a1 = 4) (M : xMem) (r : Int32) (M' : xMem) (h : fX8_isSuper a0 a1 M = some (r, M')) : xCt G yX8_isSuper cX8_isSuper 2 (some .boolean) 2 [vr G a0, vr G a1] M (some (.int r), M') := by
  refine xMet (lv := [some (vr G a0), some (vr G a1)]) (by decide) (Nat.le_of_ble_eq_true rfl) rfl ?_
  intro X hG hnL C R0
  subst hG
  have C : xCk X cX8_isSuper RX8 2 := C
  unfold fX8_isSuper at h
  refine r_aload_n (pc := 0) C dX8_isSuper_0 rfl rfl ?_
  refine r_getI (pc := 1) C kX8_96 h1 dX8_isSuper_1 ?_
  refine r_iconst (pc := 4) (v := (nI 3)) C dX8_isSuper_4 (by decide) ?_
  refine r_icmp_ne (pc := 5) (tgt := 24) C dX8_isSuper_5 (by decide) h (fun _ h => ?_) (fun _ h => ?_)
  · refine r_iconst (pc := 24) (v := (nI 0)) C dX8_isSuper_24 (by decide) ?_
    exact r_zret (pc := 25) (Or.inl (by decide)) C R0 h dX8_isSuper_25
  · refine r_aload_n (pc := 8) C dX8_isSuper_8 rfl rfl ?_
    refine r_vR0 (pc := 9) C (fun r M' e => zX8_away X.1 a0 h0 M r M' e) h0 (by decide) rfl mX8_away lX8_58 (by decide) (Nat.le_of_ble_eq_true rfl) dX8_isSuper_9 h (fun r1 M2 e3 h => ?_)
    have k4 := tX8_away h0 e3
    refine r_iconst (pc := 12) (v := (nI 0)) C dX8_isSuper_12 (by decide) ?_
    refine r_vI1 (pc := 13) C (fun r M' e => zX7_countOf X.1 r1 k4 (nI 0) M2 r M' e) k4 (by decide) rfl mX7_countOf lX8_62 (by decide) (Nat.le_of_ble_eq_true rfl) dX8_isSuper_13 h (fun r5 M6 h => ?_)
    refine r_iconst (pc := 16) (v := (nI 3)) C dX8_isSuper_16 (by decide) ?_
    refine r_icmp_gt (pc := 17) (tgt := 24) C dX8_isSuper_17 (by decide) h (fun _ h => ?_) (fun _ h => ?_)
    · refine r_iconst (pc := 24) (v := (nI 0)) C dX8_isSuper_24 (by decide) ?_
      exact r_zret (pc := 25) (Or.inl (by decide)) C R0 h dX8_isSuper_25
    · refine r_iconst (pc := 20) (v := (nI 1)) C dX8_isSuper_20 (by decide) ?_
      refine r_goto (pc := 21) (tgt := 25) C dX8_isSuper_21 (by decide) ?_
      exact r_zret (pc := 25) (Or.inr (by decide)) C R0 h dX8_isSuper_25
theorem dX8_touchOut_0 : decode cX8_touchOut 0 = .ok (.iconst 0, 1) := by decide +kernel
theorem dX8_touchOut_1 : decode cX8_touchOut 1 = .ok (.istore_n 2, 1) := by decide +kernel
theorem dX8_touchOut_2 : decode cX8_touchOut 2 = .ok (.iload_n 2, 1) := by decide +kernel
theorem dX8_touchOut_3 : decode cX8_touchOut 3 = .ok (.aload_n 1, 1) := by decide +kernel
theorem dX8_touchOut_4 : decode cX8_touchOut 4 = .ok (.getfield 134, 3) := by decide +kernel
theorem dX8_touchOut_7 : decode cX8_touchOut 7 = .ok (.if_icmp .ge 31, 3) := by decide +kernel
theorem dX8_touchOut_10 : decode cX8_touchOut 10 = .ok (.iload_n 2, 1) := by decide +kernel
theorem dX8_touchOut_11 : decode cX8_touchOut 11 = .ok (.aload_n 1, 1) := by decide +kernel
theorem dX8_touchOut_12 : decode cX8_touchOut 12 = .ok (.getfield 137, 3) := by decide +kernel
theorem dX8_touchOut_15 : decode cX8_touchOut 15 = .ok (.arraylength, 1) := by decide +kernel
theorem dX8_touchOut_16 : decode cX8_touchOut 16 = .ok (.if_icmp .ge 22, 3) := by decide +kernel
theorem dX8_touchOut_19 : decode cX8_touchOut 19 = .ok (.aload_n 0, 1) := by decide +kernel
theorem dX8_touchOut_20 : decode cX8_touchOut 20 = .ok (.invokevirtual 58, 3) := by decide +kernel
theorem dX8_touchOut_23 : decode cX8_touchOut 23 = .ok (.aload_n 1, 1) := by decide +kernel
theorem dX8_touchOut_24 : decode cX8_touchOut 24 = .ok (.getfield 137, 3) := by decide +kernel
theorem dX8_touchOut_27 : decode cX8_touchOut 27 = .ok (.iload_n 2, 1) := by decide +kernel
theorem dX8_touchOut_28 : decode cX8_touchOut 28 = .ok (.iaload, 1) := by decide +kernel
theorem dX8_touchOut_29 : decode cX8_touchOut 29 = .ok (.invokevirtual 121, 3) := by decide +kernel
theorem dX8_touchOut_32 : decode cX8_touchOut 32 = .ok (.iinc 2 1, 3) := by decide +kernel
theorem dX8_touchOut_35 : decode cX8_touchOut 35 = .ok (.goto (-33), 3) := by decide +kernel
theorem dX8_touchOut_38 : decode cX8_touchOut 38 = .ok (.aload_n 0, 1) := by decide +kernel
theorem dX8_touchOut_39 : decode cX8_touchOut 39 = .ok (.dup, 1) := by decide +kernel
theorem dX8_touchOut_40 : decode cX8_touchOut 40 = .ok (.getfield 32, 3) := by decide +kernel
theorem dX8_touchOut_43 : decode cX8_touchOut 43 = .ok (.aload_n 1, 1) := by decide +kernel
theorem dX8_touchOut_44 : decode cX8_touchOut 44 = .ok (.getfield 134, 3) := by decide +kernel
theorem dX8_touchOut_47 : decode cX8_touchOut 47 = .ok (.iadd, 1) := by decide +kernel
theorem dX8_touchOut_48 : decode cX8_touchOut 48 = .ok (.putfield 32, 3) := by decide +kernel
theorem dX8_touchOut_51 : decode cX8_touchOut 51 = .ok (.iconst 0, 1) := by decide +kernel
theorem dX8_touchOut_52 : decode cX8_touchOut 52 = .ok (.istore_n 2, 1) := by decide +kernel
theorem dX8_touchOut_53 : decode cX8_touchOut 53 = .ok (.iload_n 2, 1) := by decide +kernel
theorem dX8_touchOut_54 : decode cX8_touchOut 54 = .ok (.aload_n 1, 1) := by decide +kernel
theorem dX8_touchOut_55 : decode cX8_touchOut 55 = .ok (.getfield 134, 3) := by decide +kernel
theorem dX8_touchOut_58 : decode cX8_touchOut 58 = .ok (.if_icmp .ge 25, 3) := by decide +kernel
theorem dX8_touchOut_61 : decode cX8_touchOut 61 = .ok (.aload_n 0, 1) := by decide +kernel
theorem dX8_touchOut_62 : decode cX8_touchOut 62 = .ok (.dup, 1) := by decide +kernel
theorem dX8_touchOut_63 : decode cX8_touchOut 63 = .ok (.getfield 38, 3) := by decide +kernel
theorem dX8_touchOut_66 : decode cX8_touchOut 66 = .ok (.aload_n 0, 1) := by decide +kernel
theorem dX8_touchOut_67 : decode cX8_touchOut 67 = .ok (.invokevirtual 65, 3) := by decide +kernel
theorem dX8_touchOut_70 : decode cX8_touchOut 70 = .ok (.invokevirtual 124, 3) := by decide +kernel
theorem dX8_touchOut_73 : decode cX8_touchOut 73 = .ok (.iadd, 1) := by decide +kernel
theorem dX8_touchOut_74 : decode cX8_touchOut 74 = .ok (.putfield 38, 3) := by decide +kernel
theorem dX8_touchOut_77 : decode cX8_touchOut 77 = .ok (.iinc 2 1, 3) := by decide +kernel
theorem dX8_touchOut_80 : decode cX8_touchOut 80 = .ok (.goto (-27), 3) := by decide +kernel
theorem dX8_touchOut_83 : decode cX8_touchOut 83 = .ok (.return_, 1) := by decide +kernel
def fX8_touchOut_l2 (p0 : Nat) (p1 : Nat) (K : Int32 → xMem → Option (xMem)) : Nat → Int32 → xMem → Option (xMem)
  | 0, _, _ => none
  | n + 1, v2, M => if (M.1 p1 4) ≤ v2 then (K v2 M) else (if (nI (xln (xrf p1 5))) ≤ v2 then (K v2 M) else (xBn (fX8_away p0 M) fun r1 M2 => xGb v2 (xln (xrf p1 5)) (xBv (fX7_goOut r1 (M2.1 (xrf p1 5) (Int32.toNatClampNeg v2)) M2) fun M6 => xLt (v2 + nI 1) fun x7 => fX8_touchOut_l2 p0 p1 K n x7 M6)))
def fX8_touchOut_l53 (p0 : Nat) (p1 : Nat) (K : Int32 → xMem → Option (xMem)) : Nat → Int32 → xMem → Option (xMem)
  | 0, _, _ => none
  | n + 1, v2, M => if (M.1 p1 4) ≤ v2 then (K v2 M) else (xBn (fX8_home p0 M) fun r11 M12 => xBn (fX7_comeBack r11 M12) fun r15 M16 => xLt (xwI M16 p0 7 ((M.1 p0 7) + r15)) fun M17 => xLt (v2 + nI 1) fun x18 => fX8_touchOut_l53 p0 p1 K n x18 M17)
def fX8_touchOut (a0 : Nat) (a1 : Nat) (M : xMem) : Option (xMem) :=
  fX8_touchOut_l2 a0 a1 (fun (v8 : Int32) (M9 : xMem) => xLt (xwI M9 a0 5 ((M9.1 a0 5) + (M9.1 a1 4))) fun M10 => fX8_touchOut_l53 a0 a1 (fun (v19 : Int32) (M20 : xMem) => some M20) xFU (nI 0) M10) xFU (nI 0) M
set_option maxRecDepth 100000 in
set_option maxHeartbeats 4000000 in
theorem lX8_touchOut_2 {X : xCX} {M' : xMem} (C : xCk X cX8_touchOut RX8 3) (R0 : xRk X none (none, M')) (hnL : X.2.2.2.2.2.2.2.2.2.2.2.2.2 = 3) (p0 : Nat) (hp0 : xkd p0 = 8) (p1 : Nat) (hp1 : xkd p1 = 4) (K : Int32 → xMem → Option (xMem)) (hK : ∀ (v2 : Int32) (M : xMem), K v2 M = some M' → WW X 38 [some (vr X.1 p0), some (vr X.1 p1), some (.int v2)] [] M) : ∀ (n : Nat) (v2 : Int32) (M : xMem), fX8_touchOut_l2 p0 p1 K n v2 M = some M' → WW X 2 [some (vr X.1 p0), some (vr X.1 p1), some (.int v2)] [] M := by
  have hn2 : 2 < X.2.2.2.2.2.2.2.2.2.2.2.2.2 := by rw [hnL]; decide
  intro n
  induction n with
  | zero =>
    intro v2 M h
    cases (show (none : Option (xMem)) = some M' from h)
  | succ n ih =>
    intro v2 M h
    rw [fX8_touchOut_l2.eq_2] at h
    refine r_iload_n (pc := 2) C dX8_touchOut_2 rfl rfl ?_
    refine r_aload_n (pc := 3) C dX8_touchOut_3 rfl rfl ?_
    refine r_getI (pc := 4) C kX8_134 hp1 dX8_touchOut_4 ?_
    refine r_icmp_ge (pc := 7) (tgt := 38) C dX8_touchOut_7 (by decide) h (fun _ h => ?_) (fun _ h => ?_)
    · exact hK v2 M h
    · refine r_iload_n (pc := 10) C dX8_touchOut_10 rfl rfl ?_
      refine r_aload_n (pc := 11) C dX8_touchOut_11 rfl rfl ?_
      refine r_getR (pc := 12) C kX8_137 hp1 (by decide) dX8_touchOut_12 ?_
      refine r_alen (pc := 15) C (xkar (xtk hp1 (by decide) rfl rfl) (by decide)) dX8_touchOut_15 ?_
      refine r_icmp_ge (pc := 16) (tgt := 38) C dX8_touchOut_16 (by decide) h (fun _ h => ?_) (fun _ h => ?_)
      · exact hK v2 M h
      · refine r_aload_n (pc := 19) C dX8_touchOut_19 rfl rfl ?_
        refine r_vR0 (pc := 20) C (fun r M' e => zX8_away X.1 p0 hp0 M r M' e) hp0 (by decide) rfl mX8_away lX8_58 (by decide) (Nat.le_of_ble_eq_true rfl) dX8_touchOut_20 h (fun r1 M2 e3 h => ?_)
        have k4 := tX8_away hp0 e3
        refine r_aload_n (pc := 23) C dX8_touchOut_23 rfl rfl ?_
        refine r_getR (pc := 24) C kX8_137 hp1 (by decide) dX8_touchOut_24 ?_
        refine r_iload_n (pc := 27) C dX8_touchOut_27 rfl rfl ?_
        obtain ⟨g5, h⟩ := xGb_of h
        refine r_iald (pc := 28) C (xtk hp1 (by decide) rfl rfl) g5 dX8_touchOut_28 ?_
        refine r_vV1 (pc := 29) C (fun M' e => zX7_goOut X.1 r1 k4 (M2.1 (xrf p1 5) (Int32.toNatClampNeg v2)) M2 M' e) k4 (by decide) rfl mX7_goOut lX8_121 (by decide) (Nat.le_of_ble_eq_true rfl) dX8_touchOut_29 h (fun M6 h => ?_)
        refine r_iincL (pc := 32) (c := nI 1) C dX8_touchOut_32 rfl (by decide) hn2 h (fun x7 h => ?_)
        refine r_lvE (lv' := [_, _, _]) rfl ?_
        refine r_goto (pc := 35) (tgt := 2) C dX8_touchOut_35 (by decide) ?_
        exact ih x7 M6 h
set_option maxRecDepth 100000 in
set_option maxHeartbeats 4000000 in
theorem lX8_touchOut_53 {X : xCX} {M' : xMem} (C : xCk X cX8_touchOut RX8 3) (R0 : xRk X none (none, M')) (hnL : X.2.2.2.2.2.2.2.2.2.2.2.2.2 = 3) (p0 : Nat) (hp0 : xkd p0 = 8) (p1 : Nat) (hp1 : xkd p1 = 4) (K : Int32 → xMem → Option (xMem)) (hK : ∀ (v2 : Int32) (M : xMem), K v2 M = some M' → WW X 83 [some (vr X.1 p0), some (vr X.1 p1), some (.int v2)] [] M) : ∀ (n : Nat) (v2 : Int32) (M : xMem), fX8_touchOut_l53 p0 p1 K n v2 M = some M' → WW X 53 [some (vr X.1 p0), some (vr X.1 p1), some (.int v2)] [] M := by
  have hn2 : 2 < X.2.2.2.2.2.2.2.2.2.2.2.2.2 := by rw [hnL]; decide
  intro n
  induction n with
  | zero =>
    intro v2 M h
    cases (show (none : Option (xMem)) = some M' from h)
  | succ n ih =>
    intro v2 M h
    rw [fX8_touchOut_l53.eq_2] at h
    refine r_iload_n (pc := 53) C dX8_touchOut_53 rfl rfl ?_
    refine r_aload_n (pc := 54) C dX8_touchOut_54 rfl rfl ?_
    refine r_getI (pc := 55) C kX8_134 hp1 dX8_touchOut_55 ?_
    refine r_icmp_ge (pc := 58) (tgt := 83) C dX8_touchOut_58 (by decide) h (fun _ h => ?_) (fun _ h => ?_)
    · exact hK v2 M h
    · refine r_aload_n (pc := 61) C dX8_touchOut_61 rfl rfl ?_
      refine r_dup (pc := 62) C rfl dX8_touchOut_62 ?_
      refine r_getI (pc := 63) C kX8_38 hp0 dX8_touchOut_63 ?_
      refine r_aload_n (pc := 66) C dX8_touchOut_66 rfl rfl ?_
      refine r_vR0 (pc := 67) C (fun r M' e => zX8_home X.1 p0 hp0 M r M' e) hp0 (by decide) rfl mX8_home lX8_65 (by decide) (Nat.le_of_ble_eq_true rfl) dX8_touchOut_67 h (fun r11 M12 e13 h => ?_)
      have k14 := tX8_home hp0 e13
      refine r_vI0 (pc := 70) C (fun r M' e => zX7_comeBack X.1 r11 k14 M12 r M' e) k14 (by decide) rfl mX7_comeBack lX8_124 (by decide) (Nat.le_of_ble_eq_true rfl) dX8_touchOut_70 h (fun r15 M16 h => ?_)
      refine r_iadd (pc := 73) C dX8_touchOut_73 ?_
      refine r_putI (pc := 74) C kX8_38 hp0 dX8_touchOut_74 ?_
      refine r_letM h (fun M17 h => ?_)
      refine r_iincL (pc := 77) (c := nI 1) C dX8_touchOut_77 rfl (by decide) hn2 h (fun x18 h => ?_)
      refine r_lvE (lv' := [_, _, _]) rfl ?_
      refine r_goto (pc := 80) (tgt := 53) C dX8_touchOut_80 (by decide) ?_
      exact ih x18 M17 h
set_option maxRecDepth 100000 in
set_option maxHeartbeats 4000000 in
theorem zX8_touchOut (G : xGX) (a0 : Nat) (h0 : xkd a0 = 8) (a1 : Nat) (h1 : xkd a1 = 4) (M : xMem) (M' : xMem) (h : fX8_touchOut a0 a1 M = some M') : xCt G yX8_touchOut cX8_touchOut 3 none 3 [vr G a0, vr G a1] M (none, M') := by
  refine xMet (lv := [some (vr G a0), some (vr G a1), none]) (by decide) (Nat.le_of_ble_eq_true rfl) rfl ?_
  intro X hG hnL C R0
  subst hG
  have C : xCk X cX8_touchOut RX8 3 := C
  have hn2 : 2 < X.2.2.2.2.2.2.2.2.2.2.2.2.2 := by rw [hnL]; decide
  unfold fX8_touchOut at h
  refine r_iconst (pc := 0) (v := (nI 0)) C dX8_touchOut_0 (by decide) ?_
  refine r_istore_n (pc := 1) (lv' := [_, _, _]) C dX8_touchOut_1 rfl hn2 rfl ?_
  refine lX8_touchOut_2 C R0 hnL a0 h0 a1 h1 _ (fun v8 M9 h => ?_) _ _ _ h
  refine r_aload_n (pc := 38) C dX8_touchOut_38 rfl rfl ?_
  refine r_dup (pc := 39) C rfl dX8_touchOut_39 ?_
  refine r_getI (pc := 40) C kX8_32 h0 dX8_touchOut_40 ?_
  refine r_aload_n (pc := 43) C dX8_touchOut_43 rfl rfl ?_
  refine r_getI (pc := 44) C kX8_134 h1 dX8_touchOut_44 ?_
  refine r_iadd (pc := 47) C dX8_touchOut_47 ?_
  refine r_putI (pc := 48) C kX8_32 h0 dX8_touchOut_48 ?_
  refine r_letM h (fun M10 h => ?_)
  refine r_iconst (pc := 51) (v := (nI 0)) C dX8_touchOut_51 (by decide) ?_
  refine r_istore_n (pc := 52) (lv' := [_, _, _]) C dX8_touchOut_52 rfl hn2 rfl ?_
  refine lX8_touchOut_53 C R0 hnL a0 h0 a1 h1 _ (fun v19 M20 h => ?_) _ _ _ h
  exact r_vret (pc := 83) C R0 h dX8_touchOut_83
theorem dX8_settleAllOuts_0 : decode cX8_settleAllOuts 0 = .ok (.aload_n 0, 1) := by decide +kernel
theorem dX8_settleAllOuts_1 : decode cX8_settleAllOuts 1 = .ok (.iconst 0, 1) := by decide +kernel
theorem dX8_settleAllOuts_2 : decode cX8_settleAllOuts 2 = .ok (.putfield 41, 3) := by decide +kernel
theorem dX8_settleAllOuts_5 : decode cX8_settleAllOuts 5 = .ok (.aload_n 0, 1) := by decide +kernel
theorem dX8_settleAllOuts_6 : decode cX8_settleAllOuts 6 = .ok (.invokevirtual 58, 3) := by decide +kernel
theorem dX8_settleAllOuts_9 : decode cX8_settleAllOuts 9 = .ok (.invokevirtual 140, 3) := by decide +kernel
theorem dX8_settleAllOuts_12 : decode cX8_settleAllOuts 12 = .ok (.ifCond .eq 30, 3) := by decide +kernel
theorem dX8_settleAllOuts_15 : decode cX8_settleAllOuts 15 = .ok (.aload_n 0, 1) := by decide +kernel
theorem dX8_settleAllOuts_16 : decode cX8_settleAllOuts 16 = .ok (.dup, 1) := by decide +kernel
theorem dX8_settleAllOuts_17 : decode cX8_settleAllOuts 17 = .ok (.getfield 32, 3) := by decide +kernel
theorem dX8_settleAllOuts_20 : decode cX8_settleAllOuts 20 = .ok (.iconst 2, 1) := by decide +kernel
theorem dX8_settleAllOuts_21 : decode cX8_settleAllOuts 21 = .ok (.iadd, 1) := by decide +kernel
theorem dX8_settleAllOuts_22 : decode cX8_settleAllOuts 22 = .ok (.putfield 32, 3) := by decide +kernel
theorem dX8_settleAllOuts_25 : decode cX8_settleAllOuts 25 = .ok (.aload_n 0, 1) := by decide +kernel
theorem dX8_settleAllOuts_26 : decode cX8_settleAllOuts 26 = .ok (.dup, 1) := by decide +kernel
theorem dX8_settleAllOuts_27 : decode cX8_settleAllOuts 27 = .ok (.getfield 41, 3) := by decide +kernel
theorem dX8_settleAllOuts_30 : decode cX8_settleAllOuts 30 = .ok (.iconst 1, 1) := by decide +kernel
theorem dX8_settleAllOuts_31 : decode cX8_settleAllOuts 31 = .ok (.iconst 1, 1) := by decide +kernel
theorem dX8_settleAllOuts_32 : decode cX8_settleAllOuts 32 = .ok (.aload_n 0, 1) := by decide +kernel
theorem dX8_settleAllOuts_33 : decode cX8_settleAllOuts 33 = .ok (.getfield 18, 3) := by decide +kernel
theorem dX8_settleAllOuts_36 : decode cX8_settleAllOuts 36 = .ok (.isub, 1) := by decide +kernel
theorem dX8_settleAllOuts_37 : decode cX8_settleAllOuts 37 = .ok (.ishl, 1) := by decide +kernel
theorem dX8_settleAllOuts_38 : decode cX8_settleAllOuts 38 = .ok (.ior, 1) := by decide +kernel
theorem dX8_settleAllOuts_39 : decode cX8_settleAllOuts 39 = .ok (.putfield 41, 3) := by decide +kernel
theorem dX8_settleAllOuts_42 : decode cX8_settleAllOuts 42 = .ok (.aload_n 0, 1) := by decide +kernel
theorem dX8_settleAllOuts_43 : decode cX8_settleAllOuts 43 = .ok (.invokevirtual 65, 3) := by decide +kernel
theorem dX8_settleAllOuts_46 : decode cX8_settleAllOuts 46 = .ok (.invokevirtual 140, 3) := by decide +kernel
theorem dX8_settleAllOuts_49 : decode cX8_settleAllOuts 49 = .ok (.ifCond .eq 28, 3) := by decide +kernel
theorem dX8_settleAllOuts_52 : decode cX8_settleAllOuts 52 = .ok (.aload_n 0, 1) := by decide +kernel
theorem dX8_settleAllOuts_53 : decode cX8_settleAllOuts 53 = .ok (.dup, 1) := by decide +kernel
theorem dX8_settleAllOuts_54 : decode cX8_settleAllOuts 54 = .ok (.getfield 35, 3) := by decide +kernel
theorem dX8_settleAllOuts_57 : decode cX8_settleAllOuts 57 = .ok (.iconst 2, 1) := by decide +kernel
theorem dX8_settleAllOuts_58 : decode cX8_settleAllOuts 58 = .ok (.iadd, 1) := by decide +kernel
theorem dX8_settleAllOuts_59 : decode cX8_settleAllOuts 59 = .ok (.putfield 35, 3) := by decide +kernel
theorem dX8_settleAllOuts_62 : decode cX8_settleAllOuts 62 = .ok (.aload_n 0, 1) := by decide +kernel
theorem dX8_settleAllOuts_63 : decode cX8_settleAllOuts 63 = .ok (.dup, 1) := by decide +kernel
theorem dX8_settleAllOuts_64 : decode cX8_settleAllOuts 64 = .ok (.getfield 41, 3) := by decide +kernel
theorem dX8_settleAllOuts_67 : decode cX8_settleAllOuts 67 = .ok (.iconst 1, 1) := by decide +kernel
theorem dX8_settleAllOuts_68 : decode cX8_settleAllOuts 68 = .ok (.aload_n 0, 1) := by decide +kernel
theorem dX8_settleAllOuts_69 : decode cX8_settleAllOuts 69 = .ok (.getfield 18, 3) := by decide +kernel
theorem dX8_settleAllOuts_72 : decode cX8_settleAllOuts 72 = .ok (.ishl, 1) := by decide +kernel
theorem dX8_settleAllOuts_73 : decode cX8_settleAllOuts 73 = .ok (.ior, 1) := by decide +kernel
theorem dX8_settleAllOuts_74 : decode cX8_settleAllOuts 74 = .ok (.putfield 41, 3) := by decide +kernel
theorem dX8_settleAllOuts_77 : decode cX8_settleAllOuts 77 = .ok (.return_, 1) := by decide +kernel
def fX8_settleAllOuts (a0 : Nat) (M : xMem) : Option (xMem) :=
  xLt (xwI M a0 8 (nI 0)) fun M1 => xBn (fX8_away a0 M1) fun r2 M3 => xBn (fX7_standUp r2 M3) fun r6 M7 => xLt (fun  (M8 : xMem) => (xBn (fX8_home a0 M8) fun r9 M10 => xBn (fX7_standUp r9 M10) fun r13 M14 => if r13 = 0 then (some M14) else (xLt (xwI M14 a0 6 ((M14.1 a0 6) + (nI 2))) fun M15 => xLt (xwI M15 a0 8 ((M15.1 a0 8) ||| ((nI 1) <<< ((M15.1 a0 1) &&& 31)))) fun M16 => some M16) : Option (xMem))) fun J42 => if r6 = 0 then (J42  M7) else (xLt (xwI M7 a0 5 ((M7.1 a0 5) + (nI 2))) fun M17 => xLt (xwI M17 a0 8 ((M17.1 a0 8) ||| ((nI 1) <<< (((nI 1) - (M17.1 a0 1)) &&& 31)))) fun M18 => J42  M18)
set_option maxRecDepth 100000 in
set_option maxHeartbeats 4000000 in
theorem zX8_settleAllOuts (G : xGX) (a0 : Nat) (h0 : xkd a0 = 8) (M : xMem) (M' : xMem) (h : fX8_settleAllOuts a0 M = some M') : xCt G yX8_settleAllOuts cX8_settleAllOuts 1 none 3 [vr G a0] M (none, M') := by
  refine xMet (lv := [some (vr G a0)]) (by decide) (Nat.le_of_ble_eq_true rfl) rfl ?_
  intro X hG hnL C R0
  subst hG
  have C : xCk X cX8_settleAllOuts RX8 3 := C
  unfold fX8_settleAllOuts at h
  refine r_aload_n (pc := 0) C dX8_settleAllOuts_0 rfl rfl ?_
  refine r_iconst (pc := 1) (v := (nI 0)) C dX8_settleAllOuts_1 (by decide) ?_
  refine r_putI (pc := 2) C kX8_41 h0 dX8_settleAllOuts_2 ?_
  refine r_letM h (fun M1 h => ?_)
  refine r_aload_n (pc := 5) C dX8_settleAllOuts_5 rfl rfl ?_
  refine r_vR0 (pc := 6) C (fun r M' e => zX8_away X.1 a0 h0 M1 r M' e) h0 (by decide) rfl mX8_away lX8_58 (by decide) (Nat.le_of_ble_eq_true rfl) dX8_settleAllOuts_6 h (fun r2 M3 e4 h => ?_)
  have k5 := tX8_away h0 e4
  refine r_vI0 (pc := 9) C (fun r M' e => zX7_standUp X.1 r2 k5 M3 r M' e) k5 (by decide) rfl mX7_standUp lX8_140 (by decide) (Nat.le_of_ble_eq_true rfl) dX8_settleAllOuts_9 h (fun r6 M7 h => ?_)
  refine r_jn (fun J => ∀  (M8 : xMem) , J  M8 = some M' → WW X 42 [some (vr X.1 a0)] [] M8) h (fun  M8  h => ?_) (fun J42 hJ42 h => ?_)
  · refine r_aload_n (pc := 42) C dX8_settleAllOuts_42 rfl rfl ?_
    refine r_vR0 (pc := 43) C (fun r M' e => zX8_home X.1 a0 h0 M8 r M' e) h0 (by decide) rfl mX8_home lX8_65 (by decide) (Nat.le_of_ble_eq_true rfl) dX8_settleAllOuts_43 h (fun r9 M10 e11 h => ?_)
    have k12 := tX8_home h0 e11
    refine r_vI0 (pc := 46) C (fun r M' e => zX7_standUp X.1 r9 k12 M10 r M' e) k12 (by decide) rfl mX7_standUp lX8_140 (by decide) (Nat.le_of_ble_eq_true rfl) dX8_settleAllOuts_46 h (fun r13 M14 h => ?_)
    refine r_if_eq (pc := 49) (tgt := 77) C dX8_settleAllOuts_49 (by decide) h (fun _ h => ?_) (fun _ h => ?_)
    · exact r_vret (pc := 77) C R0 h dX8_settleAllOuts_77
    · refine r_aload_n (pc := 52) C dX8_settleAllOuts_52 rfl rfl ?_
      refine r_dup (pc := 53) C rfl dX8_settleAllOuts_53 ?_
      refine r_getI (pc := 54) C kX8_35 h0 dX8_settleAllOuts_54 ?_
      refine r_iconst (pc := 57) (v := (nI 2)) C dX8_settleAllOuts_57 (by decide) ?_
      refine r_iadd (pc := 58) C dX8_settleAllOuts_58 ?_
      refine r_putI (pc := 59) C kX8_35 h0 dX8_settleAllOuts_59 ?_
      refine r_letM h (fun M15 h => ?_)
      refine r_aload_n (pc := 62) C dX8_settleAllOuts_62 rfl rfl ?_
      refine r_dup (pc := 63) C rfl dX8_settleAllOuts_63 ?_
      refine r_getI (pc := 64) C kX8_41 h0 dX8_settleAllOuts_64 ?_
      refine r_iconst (pc := 67) (v := (nI 1)) C dX8_settleAllOuts_67 (by decide) ?_
      refine r_aload_n (pc := 68) C dX8_settleAllOuts_68 rfl rfl ?_
      refine r_getI (pc := 69) C kX8_18 h0 dX8_settleAllOuts_69 ?_
      refine r_ishl (pc := 72) C dX8_settleAllOuts_72 ?_
      refine r_ior (pc := 73) C dX8_settleAllOuts_73 ?_
      refine r_putI (pc := 74) C kX8_41 h0 dX8_settleAllOuts_74 ?_
      refine r_letM h (fun M16 h => ?_)
      exact r_vret (pc := 77) C R0 h dX8_settleAllOuts_77
  refine r_if_eq (pc := 12) (tgt := 42) C dX8_settleAllOuts_12 (by decide) h (fun _ h => ?_) (fun _ h => ?_)
  · exact hJ42  M7  h
  · refine r_aload_n (pc := 15) C dX8_settleAllOuts_15 rfl rfl ?_
    refine r_dup (pc := 16) C rfl dX8_settleAllOuts_16 ?_
    refine r_getI (pc := 17) C kX8_32 h0 dX8_settleAllOuts_17 ?_
    refine r_iconst (pc := 20) (v := (nI 2)) C dX8_settleAllOuts_20 (by decide) ?_
    refine r_iadd (pc := 21) C dX8_settleAllOuts_21 ?_
    refine r_putI (pc := 22) C kX8_32 h0 dX8_settleAllOuts_22 ?_
    refine r_letM h (fun M17 h => ?_)
    refine r_aload_n (pc := 25) C dX8_settleAllOuts_25 rfl rfl ?_
    refine r_dup (pc := 26) C rfl dX8_settleAllOuts_26 ?_
    refine r_getI (pc := 27) C kX8_41 h0 dX8_settleAllOuts_27 ?_
    refine r_iconst (pc := 30) (v := (nI 1)) C dX8_settleAllOuts_30 (by decide) ?_
    refine r_iconst (pc := 31) (v := (nI 1)) C dX8_settleAllOuts_31 (by decide) ?_
    refine r_aload_n (pc := 32) C dX8_settleAllOuts_32 rfl rfl ?_
    refine r_getI (pc := 33) C kX8_18 h0 dX8_settleAllOuts_33 ?_
    refine r_isub (pc := 36) C dX8_settleAllOuts_36 ?_
    refine r_ishl (pc := 37) C dX8_settleAllOuts_37 ?_
    refine r_ior (pc := 38) C dX8_settleAllOuts_38 ?_
    refine r_putI (pc := 39) C kX8_41 h0 dX8_settleAllOuts_39 ?_
    refine r_letM h (fun M18 h => ?_)
    exact hJ42  M18  h
theorem dX8_play_0 : decode cX8_play 0 = .ok (.aload_n 0, 1) := by decide +kernel
theorem dX8_play_1 : decode cX8_play 1 = .ok (.invokevirtual 65, 3) := by decide +kernel
theorem dX8_play_4 : decode cX8_play 4 = .ok (.astore_n 2, 1) := by decide +kernel
theorem dX8_play_5 : decode cX8_play 5 = .ok (.aload_n 0, 1) := by decide +kernel
theorem dX8_play_6 : decode cX8_play 6 = .ok (.invokevirtual 58, 3) := by decide +kernel
theorem dX8_play_9 : decode cX8_play 9 = .ok (.astore_n 3, 1) := by decide +kernel
theorem dX8_play_10 : decode cX8_play 10 = .ok (.aload_n 0, 1) := by decide +kernel
theorem dX8_play_11 : decode cX8_play 11 = .ok (.aload_n 1, 1) := by decide +kernel
theorem dX8_play_12 : decode cX8_play 12 = .ok (.invokevirtual 104, 3) := by decide +kernel
theorem dX8_play_15 : decode cX8_play 15 = .ok (.istore 4, 2) := by decide +kernel
theorem dX8_play_17 : decode cX8_play 17 = .ok (.aload_n 0, 1) := by decide +kernel
theorem dX8_play_18 : decode cX8_play 18 = .ok (.aload_n 1, 1) := by decide +kernel
theorem dX8_play_19 : decode cX8_play 19 = .ok (.getfield 108, 3) := by decide +kernel
theorem dX8_play_22 : decode cX8_play 22 = .ok (.aload_n 1, 1) := by decide +kernel
theorem dX8_play_23 : decode cX8_play 23 = .ok (.getfield 96, 3) := by decide +kernel
theorem dX8_play_26 : decode cX8_play 26 = .ok (.iconst 2, 1) := by decide +kernel
theorem dX8_play_27 : decode cX8_play 27 = .ok (.if_icmp .ne 7, 3) := by decide +kernel
theorem dX8_play_30 : decode cX8_play 30 = .ok (.iconst 1, 1) := by decide +kernel
theorem dX8_play_31 : decode cX8_play 31 = .ok (.goto 4, 3) := by decide +kernel
theorem dX8_play_34 : decode cX8_play 34 = .ok (.iconst 0, 1) := by decide +kernel
theorem dX8_play_35 : decode cX8_play 35 = .ok (.iadd, 1) := by decide +kernel
theorem dX8_play_36 : decode cX8_play 36 = .ok (.putfield 32, 3) := by decide +kernel
theorem dX8_play_39 : decode cX8_play 39 = .ok (.aload_n 0, 1) := by decide +kernel
theorem dX8_play_40 : decode cX8_play 40 = .ok (.iconst 0, 1) := by decide +kernel
theorem dX8_play_41 : decode cX8_play 41 = .ok (.putfield 35, 3) := by decide +kernel
theorem dX8_play_44 : decode cX8_play 44 = .ok (.aload_n 0, 1) := by decide +kernel
theorem dX8_play_45 : decode cX8_play 45 = .ok (.iconst 0, 1) := by decide +kernel
theorem dX8_play_46 : decode cX8_play 46 = .ok (.putfield 38, 3) := by decide +kernel
theorem dX8_play_49 : decode cX8_play 49 = .ok (.aload_n 1, 1) := by decide +kernel
theorem dX8_play_50 : decode cX8_play 50 = .ok (.getfield 96, 3) := by decide +kernel
theorem dX8_play_53 : decode cX8_play 53 = .ok (.iconst 1, 1) := by decide +kernel
theorem dX8_play_54 : decode cX8_play 54 = .ok (.if_icmp .ne 8, 3) := by decide +kernel
theorem dX8_play_57 : decode cX8_play 57 = .ok (.aload_n 0, 1) := by decide +kernel
theorem dX8_play_58 : decode cX8_play 58 = .ok (.aload_n 1, 1) := by decide +kernel
theorem dX8_play_59 : decode cX8_play 59 = .ok (.invokevirtual 111, 3) := by decide +kernel
theorem dX8_play_62 : decode cX8_play 62 = .ok (.iload 4, 2) := by decide +kernel
theorem dX8_play_64 : decode cX8_play 64 = .ok (.ifCond .eq 36, 3) := by decide +kernel
theorem dX8_play_67 : decode cX8_play 67 = .ok (.aload_n 0, 1) := by decide +kernel
theorem dX8_play_68 : decode cX8_play 68 = .ok (.aload_n 0, 1) := by decide +kernel
theorem dX8_play_69 : decode cX8_play 69 = .ok (.aload_n 1, 1) := by decide +kernel
theorem dX8_play_70 : decode cX8_play 70 = .ok (.invokevirtual 115, 3) := by decide +kernel
theorem dX8_play_73 : decode cX8_play 73 = .ok (.ifCond .eq 7, 3) := by decide +kernel
theorem dX8_play_76 : decode cX8_play 76 = .ok (.iconst 2, 1) := by decide +kernel
theorem dX8_play_77 : decode cX8_play 77 = .ok (.goto 4, 3) := by decide +kernel
theorem dX8_play_80 : decode cX8_play 80 = .ok (.iconst 1, 1) := by decide +kernel
theorem dX8_play_81 : decode cX8_play 81 = .ok (.putfield 35, 3) := by decide +kernel
theorem dX8_play_84 : decode cX8_play 84 = .ok (.aload_n 2, 1) := by decide +kernel
theorem dX8_play_85 : decode cX8_play 85 = .ok (.aload_n 1, 1) := by decide +kernel
theorem dX8_play_86 : decode cX8_play 86 = .ok (.getfield 118, 3) := by decide +kernel
theorem dX8_play_89 : decode cX8_play 89 = .ok (.invokevirtual 121, 3) := by decide +kernel
theorem dX8_play_92 : decode cX8_play 92 = .ok (.aload_n 0, 1) := by decide +kernel
theorem dX8_play_93 : decode cX8_play 93 = .ok (.aload_n 3, 1) := by decide +kernel
theorem dX8_play_94 : decode cX8_play 94 = .ok (.invokevirtual 124, 3) := by decide +kernel
theorem dX8_play_97 : decode cX8_play 97 = .ok (.putfield 38, 3) := by decide +kernel
theorem dX8_play_100 : decode cX8_play 100 = .ok (.aload_n 2, 1) := by decide +kernel
theorem dX8_play_101 : decode cX8_play 101 = .ok (.aload_n 1, 1) := by decide +kernel
theorem dX8_play_102 : decode cX8_play 102 = .ok (.getfield 96, 3) := by decide +kernel
theorem dX8_play_105 : decode cX8_play 105 = .ok (.ifCond .ne 17, 3) := by decide +kernel
theorem dX8_play_108 : decode cX8_play 108 = .ok (.iload 4, 2) := by decide +kernel
theorem dX8_play_110 : decode cX8_play 110 = .ok (.ifCond .ne 12, 3) := by decide +kernel
theorem dX8_play_113 : decode cX8_play 113 = .ok (.aload_n 2, 1) := by decide +kernel
theorem dX8_play_114 : decode cX8_play 114 = .ok (.getfield 68, 3) := by decide +kernel
theorem dX8_play_117 : decode cX8_play 117 = .ok (.iconst 1, 1) := by decide +kernel
theorem dX8_play_118 : decode cX8_play 118 = .ok (.iadd, 1) := by decide +kernel
theorem dX8_play_119 : decode cX8_play 119 = .ok (.goto 4, 3) := by decide +kernel
theorem dX8_play_122 : decode cX8_play 122 = .ok (.iconst 0, 1) := by decide +kernel
theorem dX8_play_123 : decode cX8_play 123 = .ok (.putfield 68, 3) := by decide +kernel
theorem dX8_play_126 : decode cX8_play 126 = .ok (.aload_n 2, 1) := by decide +kernel
theorem dX8_play_127 : decode cX8_play 127 = .ok (.invokevirtual 128, 3) := by decide +kernel
theorem dX8_play_130 : decode cX8_play 130 = .ok (.aload_n 3, 1) := by decide +kernel
theorem dX8_play_131 : decode cX8_play 131 = .ok (.invokevirtual 128, 3) := by decide +kernel
theorem dX8_play_134 : decode cX8_play 134 = .ok (.aload_n 0, 1) := by decide +kernel
theorem dX8_play_135 : decode cX8_play 135 = .ok (.invokevirtual 131, 3) := by decide +kernel
theorem dX8_play_138 : decode cX8_play 138 = .ok (.aload_n 2, 1) := by decide +kernel
theorem dX8_play_139 : decode cX8_play 139 = .ok (.dup, 1) := by decide +kernel
theorem dX8_play_140 : decode cX8_play 140 = .ok (.getfield 71, 3) := by decide +kernel
theorem dX8_play_143 : decode cX8_play 143 = .ok (.aload_n 0, 1) := by decide +kernel
theorem dX8_play_144 : decode cX8_play 144 = .ok (.getfield 32, 3) := by decide +kernel
theorem dX8_play_147 : decode cX8_play 147 = .ok (.iadd, 1) := by decide +kernel
theorem dX8_play_148 : decode cX8_play 148 = .ok (.putfield 71, 3) := by decide +kernel
theorem dX8_play_151 : decode cX8_play 151 = .ok (.aload_n 3, 1) := by decide +kernel
theorem dX8_play_152 : decode cX8_play 152 = .ok (.dup, 1) := by decide +kernel
theorem dX8_play_153 : decode cX8_play 153 = .ok (.getfield 71, 3) := by decide +kernel
theorem dX8_play_156 : decode cX8_play 156 = .ok (.aload_n 0, 1) := by decide +kernel
theorem dX8_play_157 : decode cX8_play 157 = .ok (.getfield 35, 3) := by decide +kernel
theorem dX8_play_160 : decode cX8_play 160 = .ok (.iadd, 1) := by decide +kernel
theorem dX8_play_161 : decode cX8_play 161 = .ok (.putfield 71, 3) := by decide +kernel
theorem dX8_play_164 : decode cX8_play 164 = .ok (.aload_n 0, 1) := by decide +kernel
theorem dX8_play_165 : decode cX8_play 165 = .ok (.iconst 1, 1) := by decide +kernel
theorem dX8_play_166 : decode cX8_play 166 = .ok (.aload_n 0, 1) := by decide +kernel
theorem dX8_play_167 : decode cX8_play 167 = .ok (.getfield 18, 3) := by decide +kernel
theorem dX8_play_170 : decode cX8_play 170 = .ok (.isub, 1) := by decide +kernel
theorem dX8_play_171 : decode cX8_play 171 = .ok (.putfield 18, 3) := by decide +kernel
theorem dX8_play_174 : decode cX8_play 174 = .ok (.aload_n 0, 1) := by decide +kernel
theorem dX8_play_175 : decode cX8_play 175 = .ok (.iconst 1, 1) := by decide +kernel
theorem dX8_play_176 : decode cX8_play 176 = .ok (.putfield 28, 3) := by decide +kernel
theorem dX8_play_179 : decode cX8_play 179 = .ok (.return_, 1) := by decide +kernel
def fX8_play (a0 : Nat) (a1 : Nat) (M : xMem) : Option (xMem) :=
  xBn (fX8_home a0 M) fun r1 M2 => xBn (fX8_away a0 M2) fun r5 M6 => xBn (fX8_isRaiderLost a0 a1 M6) fun r9 M10 => xLt (fun (s11 : Int32) (M12 : xMem) => (xLt (xwI M12 a0 5 ((M10.1 a1 3) + s11)) fun M13 => xLt (xwI M13 a0 6 (nI 0)) fun M14 => xLt (xwI M14 a0 7 (nI 0)) fun M15 => xLt (fun  (M16 : xMem) => (xLt (fun  (M17 : xMem) => (xLt (fun (s18 : Int32) (M19 : xMem) => (xLt (xwI M19 r1 7 s18) fun M20 => xBv (fX7_passRaid r1 M20) fun M21 => xBv (fX7_passRaid r5 M21) fun M22 => xBv (fX8_settleAllOuts a0 M22) fun M23 => xLt (xwI M23 r1 6 ((M23.1 r1 6) + (M23.1 a0 5))) fun M24 => xLt (xwI M24 r5 6 ((M24.1 r5 6) + (M24.1 a0 6))) fun M25 => xLt (xwI M25 a0 1 ((nI 1) - (M25.1 a0 1))) fun M26 => xLt (xwI M26 a0 4 (nI 1)) fun M27 => some M27 : Option (xMem))) fun J123 => xLt (fun  (M28 : xMem) => (J123 (nI 0) M28 : Option (xMem))) fun J122 => if (M17.1 a1 1) = 0 then (if r9 = 0 then (J123 ((M17.1 r1 7) + (nI 1)) M17) else (J122  M17)) else (J122  M17) : Option (xMem))) fun J100 => if r9 = 0 then (J100  M16) else (xBn (fX8_isSuper a0 a1 M16) fun r29 M30 => xLt (fun (s31 : Int32) (M32 : xMem) => (xLt (xwI M32 a0 6 s31) fun M33 => xBv (fX7_goOut r1 (M33.1 a1 0) M33) fun M34 => xBn (fX7_comeBack r5 M34) fun r35 M36 => xLt (xwI M36 a0 7 r35) fun M37 => J100  M37 : Option (xMem))) fun J81 => if r29 = 0 then (J81 (nI 1) M30) else (J81 (nI 2) M30)) : Option (xMem))) fun J62 => if (M15.1 a1 1) = (nI 1) then (xBv (fX8_touchOut a0 a1 M15) fun M38 => J62  M38) else (J62  M15) : Option (xMem))) fun J35 => if (M10.1 a1 1) = (nI 2) then (J35 (nI 1) M10) else (J35 (nI 0) M10)
set_option maxRecDepth 100000 in
set_option maxHeartbeats 4000000 in
theorem zX8_play (G : xGX) (a0 : Nat) (h0 : xkd a0 = 8) (a1 : Nat) (h1 : xkd a1 = 4) (M : xMem) (M' : xMem) (h : fX8_play a0 a1 M = some M') : xCt G yX8_play cX8_play 5 none 4 [vr G a0, vr G a1] M (none, M') := by
  refine xMet (lv := [some (vr G a0), some (vr G a1), none, none, none]) (by decide) (Nat.le_of_ble_eq_true rfl) rfl ?_
  intro X hG hnL C R0
  subst hG
  have C : xCk X cX8_play RX8 4 := C
  have hn2 : 2 < X.2.2.2.2.2.2.2.2.2.2.2.2.2 := by rw [hnL]; decide
  have hn3 : 3 < X.2.2.2.2.2.2.2.2.2.2.2.2.2 := by rw [hnL]; decide
  have hn4 : 4 < X.2.2.2.2.2.2.2.2.2.2.2.2.2 := by rw [hnL]; decide
  unfold fX8_play at h
  refine r_aload_n (pc := 0) C dX8_play_0 rfl rfl ?_
  refine r_vR0 (pc := 1) C (fun r M' e => zX8_home X.1 a0 h0 M r M' e) h0 (by decide) rfl mX8_home lX8_65 (by decide) (Nat.le_of_ble_eq_true rfl) dX8_play_1 h (fun r1 M2 e3 h => ?_)
  have k4 := tX8_home h0 e3
  refine r_astore_n (pc := 4) (lv' := [_, _, _, _, _]) C dX8_play_4 rfl hn2 rfl ?_
  refine r_aload_n (pc := 5) C dX8_play_5 rfl rfl ?_
  refine r_vR0 (pc := 6) C (fun r M' e => zX8_away X.1 a0 h0 M2 r M' e) h0 (by decide) rfl mX8_away lX8_58 (by decide) (Nat.le_of_ble_eq_true rfl) dX8_play_6 h (fun r5 M6 e7 h => ?_)
  have k8 := tX8_away h0 e7
  refine r_astore_n (pc := 9) (lv' := [_, _, _, _, _]) C dX8_play_9 rfl hn3 rfl ?_
  refine r_aload_n (pc := 10) C dX8_play_10 rfl rfl ?_
  refine r_aload_n (pc := 11) C dX8_play_11 rfl rfl ?_
  refine r_vI1 (pc := 12) C (fun r M' e => zX8_isRaiderLost X.1 a0 h0 a1 h1 M6 r M' e) h0 (by decide) rfl mX8_isRaiderLost lX8_104 (by decide) (Nat.le_of_ble_eq_true rfl) dX8_play_12 h (fun r9 M10 h => ?_)
  refine r_istore (pc := 15) (lv' := [_, _, _, _, _]) C dX8_play_15 hn4 rfl ?_
  refine r_aload_n (pc := 17) C dX8_play_17 rfl rfl ?_
  refine r_aload_n (pc := 18) C dX8_play_18 rfl rfl ?_
  refine r_getI (pc := 19) C kX8_108 h1 dX8_play_19 ?_
  refine r_aload_n (pc := 22) C dX8_play_22 rfl rfl ?_
  refine r_getI (pc := 23) C kX8_96 h1 dX8_play_23 ?_
  refine r_iconst (pc := 26) (v := (nI 2)) C dX8_play_26 (by decide) ?_
  refine r_jn (fun J => ∀ (s11 : Int32) (M12 : xMem) , J s11 M12 = some M' → WW X 35 [some (vr X.1 a0), some (vr X.1 a1), some (vr X.1 r1), some (vr X.1 r5), some (.int r9)] [.int s11, .int (M10.1 a1 3), vr X.1 a0] M12) h (fun s11 M12  h => ?_) (fun J35 hJ35 h => ?_)
  · refine r_iadd (pc := 35) C dX8_play_35 ?_
    refine r_putI (pc := 36) C kX8_32 h0 dX8_play_36 ?_
    refine r_letM h (fun M13 h => ?_)
    refine r_aload_n (pc := 39) C dX8_play_39 rfl rfl ?_
    refine r_iconst (pc := 40) (v := (nI 0)) C dX8_play_40 (by decide) ?_
    refine r_putI (pc := 41) C kX8_35 h0 dX8_play_41 ?_
    refine r_letM h (fun M14 h => ?_)
    refine r_aload_n (pc := 44) C dX8_play_44 rfl rfl ?_
    refine r_iconst (pc := 45) (v := (nI 0)) C dX8_play_45 (by decide) ?_
    refine r_putI (pc := 46) C kX8_38 h0 dX8_play_46 ?_
    refine r_letM h (fun M15 h => ?_)
    refine r_aload_n (pc := 49) C dX8_play_49 rfl rfl ?_
    refine r_getI (pc := 50) C kX8_96 h1 dX8_play_50 ?_
    refine r_iconst (pc := 53) (v := (nI 1)) C dX8_play_53 (by decide) ?_
    refine r_jn (fun J => ∀  (M16 : xMem) , J  M16 = some M' → WW X 62 [some (vr X.1 a0), some (vr X.1 a1), some (vr X.1 r1), some (vr X.1 r5), some (.int r9)] [] M16) h (fun  M16  h => ?_) (fun J62 hJ62 h => ?_)
    · refine r_iload (pc := 62) C dX8_play_62 rfl ?_
      refine r_jn (fun J => ∀  (M17 : xMem) , J  M17 = some M' → WW X 100 [some (vr X.1 a0), some (vr X.1 a1), some (vr X.1 r1), some (vr X.1 r5), some (.int r9)] [] M17) h (fun  M17  h => ?_) (fun J100 hJ100 h => ?_)
      · refine r_aload_n (pc := 100) C dX8_play_100 rfl rfl ?_
        refine r_aload_n (pc := 101) C dX8_play_101 rfl rfl ?_
        refine r_getI (pc := 102) C kX8_96 h1 dX8_play_102 ?_
        refine r_jn (fun J => ∀ (s18 : Int32) (M19 : xMem) , J s18 M19 = some M' → WW X 123 [some (vr X.1 a0), some (vr X.1 a1), some (vr X.1 r1), some (vr X.1 r5), some (.int r9)] [.int s18, vr X.1 r1] M19) h (fun s18 M19  h => ?_) (fun J123 hJ123 h => ?_)
        · refine r_putI (pc := 123) C kX8_68 k4 dX8_play_123 ?_
          refine r_letM h (fun M20 h => ?_)
          refine r_aload_n (pc := 126) C dX8_play_126 rfl rfl ?_
          refine r_vV0 (pc := 127) C (fun M' e => zX7_passRaid X.1 r1 k4 M20 M' e) k4 (by decide) rfl mX7_passRaid lX8_128 (by decide) (Nat.le_of_ble_eq_true rfl) dX8_play_127 h (fun M21 h => ?_)
          refine r_aload_n (pc := 130) C dX8_play_130 rfl rfl ?_
          refine r_vV0 (pc := 131) C (fun M' e => zX7_passRaid X.1 r5 k8 M21 M' e) k8 (by decide) rfl mX7_passRaid lX8_128 (by decide) (Nat.le_of_ble_eq_true rfl) dX8_play_131 h (fun M22 h => ?_)
          refine r_aload_n (pc := 134) C dX8_play_134 rfl rfl ?_
          refine r_vV0 (pc := 135) C (fun M' e => zX8_settleAllOuts X.1 a0 h0 M22 M' e) h0 (by decide) rfl mX8_settleAllOuts lX8_131 (by decide) (Nat.le_of_ble_eq_true rfl) dX8_play_135 h (fun M23 h => ?_)
          refine r_aload_n (pc := 138) C dX8_play_138 rfl rfl ?_
          refine r_dup (pc := 139) C rfl dX8_play_139 ?_
          refine r_getI (pc := 140) C kX8_71 k4 dX8_play_140 ?_
          refine r_aload_n (pc := 143) C dX8_play_143 rfl rfl ?_
          refine r_getI (pc := 144) C kX8_32 h0 dX8_play_144 ?_
          refine r_iadd (pc := 147) C dX8_play_147 ?_
          refine r_putI (pc := 148) C kX8_71 k4 dX8_play_148 ?_
          refine r_letM h (fun M24 h => ?_)
          refine r_aload_n (pc := 151) C dX8_play_151 rfl rfl ?_
          refine r_dup (pc := 152) C rfl dX8_play_152 ?_
          refine r_getI (pc := 153) C kX8_71 k8 dX8_play_153 ?_
          refine r_aload_n (pc := 156) C dX8_play_156 rfl rfl ?_
          refine r_getI (pc := 157) C kX8_35 h0 dX8_play_157 ?_
          refine r_iadd (pc := 160) C dX8_play_160 ?_
          refine r_putI (pc := 161) C kX8_71 k8 dX8_play_161 ?_
          refine r_letM h (fun M25 h => ?_)
          refine r_aload_n (pc := 164) C dX8_play_164 rfl rfl ?_
          refine r_iconst (pc := 165) (v := (nI 1)) C dX8_play_165 (by decide) ?_
          refine r_aload_n (pc := 166) C dX8_play_166 rfl rfl ?_
          refine r_getI (pc := 167) C kX8_18 h0 dX8_play_167 ?_
          refine r_isub (pc := 170) C dX8_play_170 ?_
          refine r_putI (pc := 171) C kX8_18 h0 dX8_play_171 ?_
          refine r_letM h (fun M26 h => ?_)
          refine r_aload_n (pc := 174) C dX8_play_174 rfl rfl ?_
          refine r_iconst (pc := 175) (v := (nI 1)) C dX8_play_175 (by decide) ?_
          refine r_putZ (pc := 176) C kX8_28 h0 (Or.inr (by decide)) dX8_play_176 ?_
          refine r_letM h (fun M27 h => ?_)
          exact r_vret (pc := 179) C R0 h dX8_play_179
        refine r_jn (fun J => ∀  (M28 : xMem) , J  M28 = some M' → WW X 122 [some (vr X.1 a0), some (vr X.1 a1), some (vr X.1 r1), some (vr X.1 r5), some (.int r9)] [vr X.1 r1] M28) h (fun  M28  h => ?_) (fun J122 hJ122 h => ?_)
        · refine r_iconst (pc := 122) (v := (nI 0)) C dX8_play_122 (by decide) ?_
          exact hJ123 (nI 0) M28  h
        refine r_if_ne (pc := 105) (tgt := 122) C dX8_play_105 (by decide) h (fun _ h => ?_) (fun _ h => ?_)
        · exact hJ122  M17  h
        · refine r_iload (pc := 108) C dX8_play_108 rfl ?_
          refine r_if_ne (pc := 110) (tgt := 122) C dX8_play_110 (by decide) h (fun _ h => ?_) (fun _ h => ?_)
          · exact hJ122  M17  h
          · refine r_aload_n (pc := 113) C dX8_play_113 rfl rfl ?_
            refine r_getI (pc := 114) C kX8_68 k4 dX8_play_114 ?_
            refine r_iconst (pc := 117) (v := (nI 1)) C dX8_play_117 (by decide) ?_
            refine r_iadd (pc := 118) C dX8_play_118 ?_
            refine r_goto (pc := 119) (tgt := 123) C dX8_play_119 (by decide) ?_
            exact hJ123 ((M17.1 r1 7) + (nI 1)) M17  h
      refine r_if_eq (pc := 64) (tgt := 100) C dX8_play_64 (by decide) h (fun _ h => ?_) (fun _ h => ?_)
      · exact hJ100  M16  h
      · refine r_aload_n (pc := 67) C dX8_play_67 rfl rfl ?_
        refine r_aload_n (pc := 68) C dX8_play_68 rfl rfl ?_
        refine r_aload_n (pc := 69) C dX8_play_69 rfl rfl ?_
        refine r_vI1 (pc := 70) C (fun r M' e => zX8_isSuper X.1 a0 h0 a1 h1 M16 r M' e) h0 (by decide) rfl mX8_isSuper lX8_115 (by decide) (Nat.le_of_ble_eq_true rfl) dX8_play_70 h (fun r29 M30 h => ?_)
        refine r_jn (fun J => ∀ (s31 : Int32) (M32 : xMem) , J s31 M32 = some M' → WW X 81 [some (vr X.1 a0), some (vr X.1 a1), some (vr X.1 r1), some (vr X.1 r5), some (.int r9)] [.int s31, vr X.1 a0] M32) h (fun s31 M32  h => ?_) (fun J81 hJ81 h => ?_)
        · refine r_putI (pc := 81) C kX8_35 h0 dX8_play_81 ?_
          refine r_letM h (fun M33 h => ?_)
          refine r_aload_n (pc := 84) C dX8_play_84 rfl rfl ?_
          refine r_aload_n (pc := 85) C dX8_play_85 rfl rfl ?_
          refine r_getI (pc := 86) C kX8_118 h1 dX8_play_86 ?_
          refine r_vV1 (pc := 89) C (fun M' e => zX7_goOut X.1 r1 k4 (M33.1 a1 0) M33 M' e) k4 (by decide) rfl mX7_goOut lX8_121 (by decide) (Nat.le_of_ble_eq_true rfl) dX8_play_89 h (fun M34 h => ?_)
          refine r_aload_n (pc := 92) C dX8_play_92 rfl rfl ?_
          refine r_aload_n (pc := 93) C dX8_play_93 rfl rfl ?_
          refine r_vI0 (pc := 94) C (fun r M' e => zX7_comeBack X.1 r5 k8 M34 r M' e) k8 (by decide) rfl mX7_comeBack lX8_124 (by decide) (Nat.le_of_ble_eq_true rfl) dX8_play_94 h (fun r35 M36 h => ?_)
          refine r_putI (pc := 97) C kX8_38 h0 dX8_play_97 ?_
          refine r_letM h (fun M37 h => ?_)
          exact hJ100  M37  h
        refine r_if_eq (pc := 73) (tgt := 80) C dX8_play_73 (by decide) h (fun _ h => ?_) (fun _ h => ?_)
        · refine r_iconst (pc := 80) (v := (nI 1)) C dX8_play_80 (by decide) ?_
          exact hJ81 (nI 1) M30  h
        · refine r_iconst (pc := 76) (v := (nI 2)) C dX8_play_76 (by decide) ?_
          refine r_goto (pc := 77) (tgt := 81) C dX8_play_77 (by decide) ?_
          exact hJ81 (nI 2) M30  h
    refine r_icmp_ne (pc := 54) (tgt := 62) C dX8_play_54 (by decide) h (fun _ h => ?_) (fun _ h => ?_)
    · exact hJ62  M15  h
    · refine r_aload_n (pc := 57) C dX8_play_57 rfl rfl ?_
      refine r_aload_n (pc := 58) C dX8_play_58 rfl rfl ?_
      refine r_vV1 (pc := 59) C (fun M' e => zX8_touchOut X.1 a0 h0 a1 h1 M15 M' e) h0 (by decide) rfl mX8_touchOut lX8_111 (by decide) (Nat.le_of_ble_eq_true rfl) dX8_play_59 h (fun M38 h => ?_)
      exact hJ62  M38  h
  refine r_icmp_ne (pc := 27) (tgt := 34) C dX8_play_27 (by decide) h (fun _ h => ?_) (fun _ h => ?_)
  · refine r_iconst (pc := 34) (v := (nI 0)) C dX8_play_34 (by decide) ?_
    exact hJ35 (nI 0) M10  h
  · refine r_iconst (pc := 30) (v := (nI 1)) C dX8_play_30 (by decide) ?_
    refine r_goto (pc := 31) (tgt := 35) C dX8_play_31 (by decide) ?_
    exact hJ35 (nI 1) M10  h
theorem dX8_noteOther_0 : decode cX8_noteOther 0 = .ok (.aload_n 0, 1) := by decide +kernel
theorem dX8_noteOther_1 : decode cX8_noteOther 1 = .ok (.dup, 1) := by decide +kernel
theorem dX8_noteOther_2 : decode cX8_noteOther 2 = .ok (.getfield 25, 3) := by decide +kernel
theorem dX8_noteOther_5 : decode cX8_noteOther 5 = .ok (.iconst 1, 1) := by decide +kernel
theorem dX8_noteOther_6 : decode cX8_noteOther 6 = .ok (.iadd, 1) := by decide +kernel
theorem dX8_noteOther_7 : decode cX8_noteOther 7 = .ok (.putfield 25, 3) := by decide +kernel
theorem dX8_noteOther_10 : decode cX8_noteOther 10 = .ok (.aload_n 0, 1) := by decide +kernel
theorem dX8_noteOther_11 : decode cX8_noteOther 11 = .ok (.iconst 0, 1) := by decide +kernel
theorem dX8_noteOther_12 : decode cX8_noteOther 12 = .ok (.putfield 28, 3) := by decide +kernel
theorem dX8_noteOther_15 : decode cX8_noteOther 15 = .ok (.return_, 1) := by decide +kernel
def fX8_noteOther (a0 : Nat) (M : xMem) : Option (xMem) :=
  xLt (xwI M a0 3 ((M.1 a0 3) + (nI 1))) fun M1 => xLt (xwI M1 a0 4 (nI 0)) fun M2 => some M2
set_option maxRecDepth 100000 in
set_option maxHeartbeats 4000000 in
theorem zX8_noteOther (G : xGX) (a0 : Nat) (h0 : xkd a0 = 8) (M : xMem) (M' : xMem) (h : fX8_noteOther a0 M = some M') : xCt G yX8_noteOther cX8_noteOther 1 none 1 [vr G a0] M (none, M') := by
  refine xMet (lv := [some (vr G a0)]) (by decide) (Nat.le_of_ble_eq_true rfl) rfl ?_
  intro X hG hnL C R0
  subst hG
  have C : xCk X cX8_noteOther RX8 1 := C
  unfold fX8_noteOther at h
  refine r_aload_n (pc := 0) C dX8_noteOther_0 rfl rfl ?_
  refine r_dup (pc := 1) C rfl dX8_noteOther_1 ?_
  refine r_getI (pc := 2) C kX8_25 h0 dX8_noteOther_2 ?_
  refine r_iconst (pc := 5) (v := (nI 1)) C dX8_noteOther_5 (by decide) ?_
  refine r_iadd (pc := 6) C dX8_noteOther_6 ?_
  refine r_putI (pc := 7) C kX8_25 h0 dX8_noteOther_7 ?_
  refine r_letM h (fun M1 h => ?_)
  refine r_aload_n (pc := 10) C dX8_noteOther_10 rfl rfl ?_
  refine r_iconst (pc := 11) (v := (nI 0)) C dX8_noteOther_11 (by decide) ?_
  refine r_putZ (pc := 12) C kX8_28 h0 (Or.inl (by decide)) dX8_noteOther_12 ?_
  refine r_letM h (fun M2 h => ?_)
  exact r_vret (pc := 15) C R0 h dX8_noteOther_15
theorem dX8_showCard_0 : decode cX8_showCard 0 = .ok (.aload_n 0, 1) := by decide +kernel
theorem dX8_showCard_1 : decode cX8_showCard 1 = .ok (.getfield 12, 3) := by decide +kernel
theorem dX8_showCard_4 : decode cX8_showCard 4 = .ok (.iload_n 1, 1) := by decide +kernel
theorem dX8_showCard_5 : decode cX8_showCard 5 = .ok (.aaload, 1) := by decide +kernel
theorem dX8_showCard_6 : decode cX8_showCard 6 = .ok (.astore 4, 2) := by decide +kernel
theorem dX8_showCard_8 : decode cX8_showCard 8 = .ok (.aload_n 0, 1) := by decide +kernel
theorem dX8_showCard_9 : decode cX8_showCard 9 = .ok (.invokevirtual 143, 3) := by decide +kernel
theorem dX8_showCard_12 : decode cX8_showCard 12 = .ok (.iload_n 3, 1) := by decide +kernel
theorem dX8_showCard_13 : decode cX8_showCard 13 = .ok (.ifCond .ne 14, 3) := by decide +kernel
theorem dX8_showCard_16 : decode cX8_showCard 16 = .ok (.aload 4, 2) := by decide +kernel
theorem dX8_showCard_18 : decode cX8_showCard 18 = .ok (.getfield 146, 3) := by decide +kernel
theorem dX8_showCard_21 : decode cX8_showCard 21 = .ok (.iload_n 2, 1) := by decide +kernel
theorem dX8_showCard_22 : decode cX8_showCard 22 = .ok (.dup2, 1) := by decide +kernel
theorem dX8_showCard_23 : decode cX8_showCard 23 = .ok (.iaload, 1) := by decide +kernel
theorem dX8_showCard_24 : decode cX8_showCard 24 = .ok (.iconst 1, 1) := by decide +kernel
theorem dX8_showCard_25 : decode cX8_showCard 25 = .ok (.iadd, 1) := by decide +kernel
theorem dX8_showCard_26 : decode cX8_showCard 26 = .ok (.iastore, 1) := by decide +kernel
theorem dX8_showCard_27 : decode cX8_showCard 27 = .ok (.iload_n 3, 1) := by decide +kernel
theorem dX8_showCard_28 : decode cX8_showCard 28 = .ok (.iconst 2, 1) := by decide +kernel
theorem dX8_showCard_29 : decode cX8_showCard 29 = .ok (.if_icmp .ne 12, 3) := by decide +kernel
theorem dX8_showCard_32 : decode cX8_showCard 32 = .ok (.aload 4, 2) := by decide +kernel
theorem dX8_showCard_34 : decode cX8_showCard 34 = .ok (.iload_n 2, 1) := by decide +kernel
theorem dX8_showCard_35 : decode cX8_showCard 35 = .ok (.invokevirtual 149, 3) := by decide +kernel
theorem dX8_showCard_38 : decode cX8_showCard 38 = .ok (.goto 26, 3) := by decide +kernel
theorem dX8_showCard_41 : decode cX8_showCard 41 = .ok (.iload_n 3, 1) := by decide +kernel
theorem dX8_showCard_42 : decode cX8_showCard 42 = .ok (.iconst 1, 1) := by decide +kernel
theorem dX8_showCard_43 : decode cX8_showCard 43 = .ok (.if_icmp .eq 15, 3) := by decide +kernel
theorem dX8_showCard_46 : decode cX8_showCard 46 = .ok (.aload 4, 2) := by decide +kernel
theorem dX8_showCard_48 : decode cX8_showCard 48 = .ok (.getfield 146, 3) := by decide +kernel
theorem dX8_showCard_51 : decode cX8_showCard 51 = .ok (.iload_n 2, 1) := by decide +kernel
theorem dX8_showCard_52 : decode cX8_showCard 52 = .ok (.iaload, 1) := by decide +kernel
theorem dX8_showCard_53 : decode cX8_showCard 53 = .ok (.iconst 2, 1) := by decide +kernel
theorem dX8_showCard_54 : decode cX8_showCard 54 = .ok (.irem, 1) := by decide +kernel
theorem dX8_showCard_55 : decode cX8_showCard 55 = .ok (.ifCond .ne 9, 3) := by decide +kernel
theorem dX8_showCard_58 : decode cX8_showCard 58 = .ok (.aload 4, 2) := by decide +kernel
theorem dX8_showCard_60 : decode cX8_showCard 60 = .ok (.iload_n 2, 1) := by decide +kernel
theorem dX8_showCard_61 : decode cX8_showCard 61 = .ok (.invokevirtual 152, 3) := by decide +kernel
theorem dX8_showCard_64 : decode cX8_showCard 64 = .ok (.aload 4, 2) := by decide +kernel
theorem dX8_showCard_66 : decode cX8_showCard 66 = .ok (.invokevirtual 140, 3) := by decide +kernel
theorem dX8_showCard_69 : decode cX8_showCard 69 = .ok (.ifCond .ne 5, 3) := by decide +kernel
theorem dX8_showCard_72 : decode cX8_showCard 72 = .ok (.iconst 0, 1) := by decide +kernel
theorem dX8_showCard_73 : decode cX8_showCard 73 = .ok (.ireturn, 1) := by decide +kernel
theorem dX8_showCard_74 : decode cX8_showCard 74 = .ok (.aload_n 0, 1) := by decide +kernel
theorem dX8_showCard_75 : decode cX8_showCard 75 = .ok (.getfield 12, 3) := by decide +kernel
theorem dX8_showCard_78 : decode cX8_showCard 78 = .ok (.iconst 1, 1) := by decide +kernel
theorem dX8_showCard_79 : decode cX8_showCard 79 = .ok (.iload_n 1, 1) := by decide +kernel
theorem dX8_showCard_80 : decode cX8_showCard 80 = .ok (.isub, 1) := by decide +kernel
theorem dX8_showCard_81 : decode cX8_showCard 81 = .ok (.aaload, 1) := by decide +kernel
theorem dX8_showCard_82 : decode cX8_showCard 82 = .ok (.dup, 1) := by decide +kernel
theorem dX8_showCard_83 : decode cX8_showCard 83 = .ok (.getfield 71, 3) := by decide +kernel
theorem dX8_showCard_86 : decode cX8_showCard 86 = .ok (.iconst 2, 1) := by decide +kernel
theorem dX8_showCard_87 : decode cX8_showCard 87 = .ok (.iadd, 1) := by decide +kernel
theorem dX8_showCard_88 : decode cX8_showCard 88 = .ok (.putfield 71, 3) := by decide +kernel
theorem dX8_showCard_91 : decode cX8_showCard 91 = .ok (.iconst 1, 1) := by decide +kernel
theorem dX8_showCard_92 : decode cX8_showCard 92 = .ok (.ireturn, 1) := by decide +kernel
def fX8_showCard (a0 : Nat) (a1 : Int32) (a2 : Int32) (a3 : Int32) (M : xMem) : Option (Int32 × xMem) :=
  xGb a1 (xln (xrf a0 0)) (xBv (fX8_noteOther a0 M) fun M2 => xLt (fun  (M3 : xMem) => (xLt (fun  (M4 : xMem) => (xBn (fX7_standUp (xrf (xrf a0 0) (Int32.toNatClampNeg a1)) M4) fun r5 M6 => if r5 = 0 then (some ((nI 0), M6)) else (xGb ((nI 1) - a1) (xln (xrf a0 0)) (xLt (xwI M6 (xrf (xrf a0 0) (Int32.toNatClampNeg ((nI 1) - a1))) 6 ((M6.1 (xrf (xrf a0 0) (Int32.toNatClampNeg ((nI 1) - a1))) 6) + (nI 2))) fun M8 => some ((nI 1), M8))) : Option (Int32 × xMem))) fun J64 => if a3 = (nI 2) then (xBv (fX7_sendOff (xrf (xrf a0 0) (Int32.toNatClampNeg a1)) a2 M3) fun M12 => J64  M12) else (xLt (fun  (M9 : xMem) => (xBv (fX7_putOff (xrf (xrf a0 0) (Int32.toNatClampNeg a1)) a2 M9) fun M10 => J64  M10 : Option (Int32 × xMem))) fun J58 => if a3 = (nI 1) then (J58  M3) else (xGb a2 (xln (xrf (xrf (xrf a0 0) (Int32.toNatClampNeg a1)) 2)) (if ((M3.1 (xrf (xrf (xrf a0 0) (Int32.toNatClampNeg a1)) 2) (Int32.toNatClampNeg a2)) - (M3.1 (xrf (xrf (xrf a0 0) (Int32.toNatClampNeg a1)) 2) (Int32.toNatClampNeg a2)) / (nI 2) * (nI 2)) = 0 then (J58  M3) else (J64  M3)))) : Option (Int32 × xMem))) fun J27 => if a3 = 0 then (xGb a2 (xln (xrf (xrf (xrf a0 0) (Int32.toNatClampNeg a1)) 2)) (xGb a2 (xln (xrf (xrf (xrf a0 0) (Int32.toNatClampNeg a1)) 2)) (xLt (xwI M2 (xrf (xrf (xrf a0 0) (Int32.toNatClampNeg a1)) 2) (Int32.toNatClampNeg a2) ((M2.1 (xrf (xrf (xrf a0 0) (Int32.toNatClampNeg a1)) 2) (Int32.toNatClampNeg a2)) + (nI 1))) fun M15 => J27  M15))) else (J27  M2))
set_option maxRecDepth 100000 in
set_option maxHeartbeats 4000000 in
theorem zX8_showCard (G : xGX) (a0 : Nat) (h0 : xkd a0 = 8) (a1 : Int32) (a2 : Int32) (a3 : Int32) (M : xMem) (r : Int32) (M' : xMem) (h : fX8_showCard a0 a1 a2 a3 M = some (r, M')) : xCt G yX8_showCard cX8_showCard 5 (some .boolean) 3 [vr G a0, .int a1, .int a2, .int a3] M (some (.int r), M') := by
  refine xMet (lv := [some (vr G a0), some (.int a1), some (.int a2), some (.int a3), none]) (by decide) (Nat.le_of_ble_eq_true rfl) rfl ?_
  intro X hG hnL C R0
  subst hG
  have C : xCk X cX8_showCard RX8 3 := C
  have hn4 : 4 < X.2.2.2.2.2.2.2.2.2.2.2.2.2 := by rw [hnL]; decide
  unfold fX8_showCard at h
  refine r_aload_n (pc := 0) C dX8_showCard_0 rfl rfl ?_
  refine r_getR (pc := 1) C kX8_12 h0 (by decide) dX8_showCard_1 ?_
  refine r_iload_n (pc := 4) C dX8_showCard_4 rfl rfl ?_
  obtain ⟨g1, h⟩ := xGb_of h
  refine r_aaldS (pc := 5) C (xtk h0 (by decide) rfl rfl) g1 dX8_showCard_5 ?_
  refine r_astore (pc := 6) (lv' := [_, _, _, _, _]) C dX8_showCard_6 hn4 rfl ?_
  refine r_aload_n (pc := 8) C dX8_showCard_8 rfl rfl ?_
  refine r_vV0 (pc := 9) C (fun M' e => zX8_noteOther X.1 a0 h0 M M' e) h0 (by decide) rfl mX8_noteOther lX8_143 (by decide) (Nat.le_of_ble_eq_true rfl) dX8_showCard_9 h (fun M2 h => ?_)
  refine r_iload_n (pc := 12) C dX8_showCard_12 rfl rfl ?_
  refine r_jn (fun J => ∀  (M3 : xMem) , J  M3 = some (r, M') → WW X 27 [some (vr X.1 a0), some (.int a1), some (.int a2), some (.int a3), some (vr X.1 (xrf (xrf a0 0) (Int32.toNatClampNeg a1)))] [] M3) h (fun  M3  h => ?_) (fun J27 hJ27 h => ?_)
  · refine r_iload_n (pc := 27) C dX8_showCard_27 rfl rfl ?_
    refine r_iconst (pc := 28) (v := (nI 2)) C dX8_showCard_28 (by decide) ?_
    refine r_jn (fun J => ∀  (M4 : xMem) , J  M4 = some (r, M') → WW X 64 [some (vr X.1 a0), some (.int a1), some (.int a2), some (.int a3), some (vr X.1 (xrf (xrf a0 0) (Int32.toNatClampNeg a1)))] [] M4) h (fun  M4  h => ?_) (fun J64 hJ64 h => ?_)
    · refine r_aload (pc := 64) C dX8_showCard_64 rfl ?_
      refine r_vI0 (pc := 66) C (fun r M' e => zX7_standUp X.1 (xrf (xrf a0 0) (Int32.toNatClampNeg a1)) (xkeS (xtk h0 (by decide) rfl rfl) (xin_lt g1)) M4 r M' e) (xkeS (xtk h0 (by decide) rfl rfl) (xin_lt g1)) (by decide) rfl mX7_standUp lX8_140 (by decide) (Nat.le_of_ble_eq_true rfl) dX8_showCard_66 h (fun r5 M6 h => ?_)
      refine r_if_ne (pc := 69) (tgt := 74) C dX8_showCard_69 (by decide) h (fun _ h => ?_) (fun _ h => ?_)
      · refine r_aload_n (pc := 74) C dX8_showCard_74 rfl rfl ?_
        refine r_getR (pc := 75) C kX8_12 h0 (by decide) dX8_showCard_75 ?_
        refine r_iconst (pc := 78) (v := (nI 1)) C dX8_showCard_78 (by decide) ?_
        refine r_iload_n (pc := 79) C dX8_showCard_79 rfl rfl ?_
        refine r_isub (pc := 80) C dX8_showCard_80 ?_
        obtain ⟨g7, h⟩ := xGb_of h
        refine r_aaldS (pc := 81) C (xtk h0 (by decide) rfl rfl) g7 dX8_showCard_81 ?_
        refine r_dup (pc := 82) C rfl dX8_showCard_82 ?_
        refine r_getI (pc := 83) C kX8_71 (xkeS (xtk h0 (by decide) rfl rfl) (xin_lt g7)) dX8_showCard_83 ?_
        refine r_iconst (pc := 86) (v := (nI 2)) C dX8_showCard_86 (by decide) ?_
        refine r_iadd (pc := 87) C dX8_showCard_87 ?_
        refine r_putI (pc := 88) C kX8_71 (xkeS (xtk h0 (by decide) rfl rfl) (xin_lt g7)) dX8_showCard_88 ?_
        refine r_letM h (fun M8 h => ?_)
        refine r_iconst (pc := 91) (v := (nI 1)) C dX8_showCard_91 (by decide) ?_
        exact r_zret (pc := 92) (Or.inr (by decide)) C R0 h dX8_showCard_92
      · refine r_iconst (pc := 72) (v := (nI 0)) C dX8_showCard_72 (by decide) ?_
        exact r_zret (pc := 73) (Or.inl (by decide)) C R0 h dX8_showCard_73
    refine r_icmp_ne (pc := 29) (tgt := 41) C dX8_showCard_29 (by decide) h (fun _ h => ?_) (fun _ h => ?_)
    · refine r_iload_n (pc := 41) C dX8_showCard_41 rfl rfl ?_
      refine r_iconst (pc := 42) (v := (nI 1)) C dX8_showCard_42 (by decide) ?_
      refine r_jn (fun J => ∀  (M9 : xMem) , J  M9 = some (r, M') → WW X 58 [some (vr X.1 a0), some (.int a1), some (.int a2), some (.int a3), some (vr X.1 (xrf (xrf a0 0) (Int32.toNatClampNeg a1)))] [] M9) h (fun  M9  h => ?_) (fun J58 hJ58 h => ?_)
      · refine r_aload (pc := 58) C dX8_showCard_58 rfl ?_
        refine r_iload_n (pc := 60) C dX8_showCard_60 rfl rfl ?_
        refine r_vV1 (pc := 61) C (fun M' e => zX7_putOff X.1 (xrf (xrf a0 0) (Int32.toNatClampNeg a1)) (xkeS (xtk h0 (by decide) rfl rfl) (xin_lt g1)) a2 M9 M' e) (xkeS (xtk h0 (by decide) rfl rfl) (xin_lt g1)) (by decide) rfl mX7_putOff lX8_152 (by decide) (Nat.le_of_ble_eq_true rfl) dX8_showCard_61 h (fun M10 h => ?_)
        exact hJ64  M10  h
      refine r_icmp_eq (pc := 43) (tgt := 58) C dX8_showCard_43 (by decide) h (fun _ h => ?_) (fun _ h => ?_)
      · exact hJ58  M3  h
      · refine r_aload (pc := 46) C dX8_showCard_46 rfl ?_
        refine r_getR (pc := 48) C kX8_146 (xkeS (xtk h0 (by decide) rfl rfl) (xin_lt g1)) (by decide) dX8_showCard_48 ?_
        refine r_iload_n (pc := 51) C dX8_showCard_51 rfl rfl ?_
        obtain ⟨g11, h⟩ := xGb_of h
        refine r_iald (pc := 52) C (xtk (xkeS (xtk h0 (by decide) rfl rfl) (xin_lt g1)) (by decide) rfl rfl) g11 dX8_showCard_52 ?_
        refine r_iconst (pc := 53) (v := (nI 2)) C dX8_showCard_53 (by decide) ?_
        refine r_irem (pc := 54) C (by decide) dX8_showCard_54 ?_
        refine r_if_ne (pc := 55) (tgt := 64) C dX8_showCard_55 (by decide) h (fun _ h => ?_) (fun _ h => ?_)
        · exact hJ64  M3  h
        · exact hJ58  M3  h
    · refine r_aload (pc := 32) C dX8_showCard_32 rfl ?_
      refine r_iload_n (pc := 34) C dX8_showCard_34 rfl rfl ?_
      refine r_vV1 (pc := 35) C (fun M' e => zX7_sendOff X.1 (xrf (xrf a0 0) (Int32.toNatClampNeg a1)) (xkeS (xtk h0 (by decide) rfl rfl) (xin_lt g1)) a2 M3 M' e) (xkeS (xtk h0 (by decide) rfl rfl) (xin_lt g1)) (by decide) rfl mX7_sendOff lX8_149 (by decide) (Nat.le_of_ble_eq_true rfl) dX8_showCard_35 h (fun M12 h => ?_)
      refine r_goto (pc := 38) (tgt := 64) C dX8_showCard_38 (by decide) ?_
      exact hJ64  M12  h
  refine r_if_ne (pc := 13) (tgt := 27) C dX8_showCard_13 (by decide) h (fun _ h => ?_) (fun _ h => ?_)
  · exact hJ27  M2  h
  · refine r_aload (pc := 16) C dX8_showCard_16 rfl ?_
    refine r_getR (pc := 18) C kX8_146 (xkeS (xtk h0 (by decide) rfl rfl) (xin_lt g1)) (by decide) dX8_showCard_18 ?_
    refine r_iload_n (pc := 21) C dX8_showCard_21 rfl rfl ?_
    refine r_dup2 (pc := 22) C rfl rfl dX8_showCard_22 ?_
    obtain ⟨g13, h⟩ := xGb_of h
    refine r_iald (pc := 23) C (xtk (xkeS (xtk h0 (by decide) rfl rfl) (xin_lt g1)) (by decide) rfl rfl) g13 dX8_showCard_23 ?_
    refine r_iconst (pc := 24) (v := (nI 1)) C dX8_showCard_24 (by decide) ?_
    refine r_iadd (pc := 25) C dX8_showCard_25 ?_
    obtain ⟨g14, h⟩ := xGb_of h
    refine r_iast (pc := 26) C (xtk (xkeS (xtk h0 (by decide) rfl rfl) (xin_lt g1)) (by decide) rfl rfl) g14 dX8_showCard_26 ?_
    refine r_letM h (fun M15 h => ?_)
    exact hJ27  M15  h
theorem dX8_exchange_0 : decode cX8_exchange 0 = .ok (.aload_n 0, 1) := by decide +kernel
theorem dX8_exchange_1 : decode cX8_exchange 1 = .ok (.getfield 12, 3) := by decide +kernel
theorem dX8_exchange_4 : decode cX8_exchange 4 = .ok (.iload_n 1, 1) := by decide +kernel
theorem dX8_exchange_5 : decode cX8_exchange 5 = .ok (.aaload, 1) := by decide +kernel
theorem dX8_exchange_6 : decode cX8_exchange 6 = .ok (.astore 4, 2) := by decide +kernel
theorem dX8_exchange_8 : decode cX8_exchange 8 = .ok (.aload_n 0, 1) := by decide +kernel
theorem dX8_exchange_9 : decode cX8_exchange 9 = .ok (.invokevirtual 143, 3) := by decide +kernel
theorem dX8_exchange_12 : decode cX8_exchange 12 = .ok (.aload 4, 2) := by decide +kernel
theorem dX8_exchange_14 : decode cX8_exchange 14 = .ok (.getfield 86, 3) := by decide +kernel
theorem dX8_exchange_17 : decode cX8_exchange 17 = .ok (.iload_n 2, 1) := by decide +kernel
theorem dX8_exchange_18 : decode cX8_exchange 18 = .ok (.iconst 2, 1) := by decide +kernel
theorem dX8_exchange_19 : decode cX8_exchange 19 = .ok (.iastore, 1) := by decide +kernel
theorem dX8_exchange_20 : decode cX8_exchange 20 = .ok (.aload 4, 2) := by decide +kernel
theorem dX8_exchange_22 : decode cX8_exchange 22 = .ok (.getfield 86, 3) := by decide +kernel
theorem dX8_exchange_25 : decode cX8_exchange 25 = .ok (.iload_n 3, 1) := by decide +kernel
theorem dX8_exchange_26 : decode cX8_exchange 26 = .ok (.iconst 0, 1) := by decide +kernel
theorem dX8_exchange_27 : decode cX8_exchange 27 = .ok (.iastore, 1) := by decide +kernel
theorem dX8_exchange_28 : decode cX8_exchange 28 = .ok (.aload 4, 2) := by decide +kernel
theorem dX8_exchange_30 : decode cX8_exchange 30 = .ok (.dup, 1) := by decide +kernel
theorem dX8_exchange_31 : decode cX8_exchange 31 = .ok (.getfield 90, 3) := by decide +kernel
theorem dX8_exchange_34 : decode cX8_exchange 34 = .ok (.iconst 1, 1) := by decide +kernel
theorem dX8_exchange_35 : decode cX8_exchange 35 = .ok (.iadd, 1) := by decide +kernel
theorem dX8_exchange_36 : decode cX8_exchange 36 = .ok (.putfield 90, 3) := by decide +kernel
theorem dX8_exchange_39 : decode cX8_exchange 39 = .ok (.return_, 1) := by decide +kernel
def fX8_exchange (a0 : Nat) (a1 : Int32) (a2 : Int32) (a3 : Int32) (M : xMem) : Option (xMem) :=
  xGb a1 (xln (xrf a0 0)) (xBv (fX8_noteOther a0 M) fun M2 => xGb a2 (xln (xrf (xrf (xrf a0 0) (Int32.toNatClampNeg a1)) 0)) (xLt (xwI M2 (xrf (xrf (xrf a0 0) (Int32.toNatClampNeg a1)) 0) (Int32.toNatClampNeg a2) (nI 2)) fun M4 => xGb a3 (xln (xrf (xrf (xrf a0 0) (Int32.toNatClampNeg a1)) 0)) (xLt (xwI M4 (xrf (xrf (xrf a0 0) (Int32.toNatClampNeg a1)) 0) (Int32.toNatClampNeg a3) (nI 0)) fun M6 => xLt (xwI M6 (xrf (xrf a0 0) (Int32.toNatClampNeg a1)) 8 ((M6.1 (xrf (xrf a0 0) (Int32.toNatClampNeg a1)) 8) + (nI 1))) fun M7 => some M7)))
set_option maxRecDepth 100000 in
set_option maxHeartbeats 4000000 in
theorem zX8_exchange (G : xGX) (a0 : Nat) (h0 : xkd a0 = 8) (a1 : Int32) (a2 : Int32) (a3 : Int32) (M : xMem) (M' : xMem) (h : fX8_exchange a0 a1 a2 a3 M = some M') : xCt G yX8_exchange cX8_exchange 5 none 2 [vr G a0, .int a1, .int a2, .int a3] M (none, M') := by
  refine xMet (lv := [some (vr G a0), some (.int a1), some (.int a2), some (.int a3), none]) (by decide) (Nat.le_of_ble_eq_true rfl) rfl ?_
  intro X hG hnL C R0
  subst hG
  have C : xCk X cX8_exchange RX8 2 := C
  have hn4 : 4 < X.2.2.2.2.2.2.2.2.2.2.2.2.2 := by rw [hnL]; decide
  unfold fX8_exchange at h
  refine r_aload_n (pc := 0) C dX8_exchange_0 rfl rfl ?_
  refine r_getR (pc := 1) C kX8_12 h0 (by decide) dX8_exchange_1 ?_
  refine r_iload_n (pc := 4) C dX8_exchange_4 rfl rfl ?_
  obtain ⟨g1, h⟩ := xGb_of h
  refine r_aaldS (pc := 5) C (xtk h0 (by decide) rfl rfl) g1 dX8_exchange_5 ?_
  refine r_astore (pc := 6) (lv' := [_, _, _, _, _]) C dX8_exchange_6 hn4 rfl ?_
  refine r_aload_n (pc := 8) C dX8_exchange_8 rfl rfl ?_
  refine r_vV0 (pc := 9) C (fun M' e => zX8_noteOther X.1 a0 h0 M M' e) h0 (by decide) rfl mX8_noteOther lX8_143 (by decide) (Nat.le_of_ble_eq_true rfl) dX8_exchange_9 h (fun M2 h => ?_)
  refine r_aload (pc := 12) C dX8_exchange_12 rfl ?_
  refine r_getR (pc := 14) C kX8_86 (xkeS (xtk h0 (by decide) rfl rfl) (xin_lt g1)) (by decide) dX8_exchange_14 ?_
  refine r_iload_n (pc := 17) C dX8_exchange_17 rfl rfl ?_
  refine r_iconst (pc := 18) (v := (nI 2)) C dX8_exchange_18 (by decide) ?_
  obtain ⟨g3, h⟩ := xGb_of h
  refine r_iast (pc := 19) C (xtk (xkeS (xtk h0 (by decide) rfl rfl) (xin_lt g1)) (by decide) rfl rfl) g3 dX8_exchange_19 ?_
  refine r_letM h (fun M4 h => ?_)
  refine r_aload (pc := 20) C dX8_exchange_20 rfl ?_
  refine r_getR (pc := 22) C kX8_86 (xkeS (xtk h0 (by decide) rfl rfl) (xin_lt g1)) (by decide) dX8_exchange_22 ?_
  refine r_iload_n (pc := 25) C dX8_exchange_25 rfl rfl ?_
  refine r_iconst (pc := 26) (v := (nI 0)) C dX8_exchange_26 (by decide) ?_
  obtain ⟨g5, h⟩ := xGb_of h
  refine r_iast (pc := 27) C (xtk (xkeS (xtk h0 (by decide) rfl rfl) (xin_lt g1)) (by decide) rfl rfl) g5 dX8_exchange_27 ?_
  refine r_letM h (fun M6 h => ?_)
  refine r_aload (pc := 28) C dX8_exchange_28 rfl ?_
  refine r_dup (pc := 30) C rfl dX8_exchange_30 ?_
  refine r_getI (pc := 31) C kX8_90 (xkeS (xtk h0 (by decide) rfl rfl) (xin_lt g1)) dX8_exchange_31 ?_
  refine r_iconst (pc := 34) (v := (nI 1)) C dX8_exchange_34 (by decide) ?_
  refine r_iadd (pc := 35) C dX8_exchange_35 ?_
  refine r_putI (pc := 36) C kX8_90 (xkeS (xtk h0 (by decide) rfl rfl) (xin_lt g1)) dX8_exchange_36 ?_
  refine r_letM h (fun M7 h => ?_)
  exact r_vret (pc := 39) C R0 h dX8_exchange_39
