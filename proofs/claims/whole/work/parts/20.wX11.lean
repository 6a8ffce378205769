theorem dX11_in_0 : decode cX11_in 0 = .ok (.lload_n 0, 1) := by decide +kernel
theorem dX11_in_1 : decode cX11_in 1 = .ok (.lload_n 2, 1) := by decide +kernel
theorem dX11_in_2 : decode cX11_in 2 = .ok (.lcmp, 1) := by decide +kernel
theorem dX11_in_3 : decode cX11_in 3 = .ok (.ifCond .lt 14, 3) := by decide +kernel
theorem dX11_in_6 : decode cX11_in 6 = .ok (.lload_n 0, 1) := by decide +kernel
theorem dX11_in_7 : decode cX11_in 7 = .ok (.lload 4, 2) := by decide +kernel
theorem dX11_in_9 : decode cX11_in 9 = .ok (.lcmp, 1) := by decide +kernel
theorem dX11_in_10 : decode cX11_in 10 = .ok (.ifCond .gt 7, 3) := by decide +kernel
theorem dX11_in_13 : decode cX11_in 13 = .ok (.iconst 1, 1) := by decide +kernel
theorem dX11_in_14 : decode cX11_in 14 = .ok (.goto 4, 3) := by decide +kernel
theorem dX11_in_17 : decode cX11_in 17 = .ok (.iconst 0, 1) := by decide +kernel
theorem dX11_in_18 : decode cX11_in 18 = .ok (.ireturn, 1) := by decide +kernel
def fX11_in (a0 : Int64) (a2 : Int64) (a4 : Int64) (M : xMem) : Option (Int32 × xMem) :=
  if (lg_cmp a0 a2) < 0 then (some ((nI 0), M)) else (if 0 < (lg_cmp a0 a4) then (some ((nI 0), M)) else (some ((nI 1), M)))
set_option maxRecDepth 100000 in
set_option maxHeartbeats 4000000 in
theorem zX11_in (G : xGX) (a0 : Int64) (a2 : Int64) (a4 : Int64) (M : xMem) (r : Int32) (M' : xMem) (h : fX11_in a0 a2 a4 M = some (r, M')) : xCt G yX11_in cX11_in 6 (some .boolean) 1 [.long a0, .long a2, .long a4] M (some (.int r), M') := by
  refine xMet (lv := [some (.long a0), none, some (.long a2), none, some (.long a4), none]) (by decide) (Nat.le_of_ble_eq_true rfl) rfl ?_
  intro X hG hnL C R0
  subst hG
  have C : xCk X cX11_in RX11 1 := C
  unfold fX11_in at h
  refine r_lload_n (pc := 0) C dX11_in_0 rfl rfl ?_
  refine r_lload_n (pc := 1) C dX11_in_1 rfl rfl ?_
  refine r_lcmp (pc := 2) C dX11_in_2 ?_
  refine r_if_lt (pc := 3) (tgt := 17) C dX11_in_3 (by decide) h (fun _ h => ?_) (fun _ h => ?_)
  · refine r_iconst (pc := 17) (v := (nI 0)) C dX11_in_17 (by decide) ?_
    exact r_zret (pc := 18) (Or.inl (by decide)) C R0 h dX11_in_18
  · refine r_lload_n (pc := 6) C dX11_in_6 rfl rfl ?_
    refine r_lload (pc := 7) C dX11_in_7 rfl ?_
    refine r_lcmp (pc := 9) C dX11_in_9 ?_
    refine r_if_gt (pc := 10) (tgt := 17) C dX11_in_10 (by decide) h (fun _ h => ?_) (fun _ h => ?_)
    · refine r_iconst (pc := 17) (v := (nI 0)) C dX11_in_17 (by decide) ?_
      exact r_zret (pc := 18) (Or.inl (by decide)) C R0 h dX11_in_18
    · refine r_iconst (pc := 13) (v := (nI 1)) C dX11_in_13 (by decide) ?_
      refine r_goto (pc := 14) (tgt := 18) C dX11_in_14 (by decide) ?_
      exact r_zret (pc := 18) (Or.inr (by decide)) C R0 h dX11_in_18
theorem dX11_has_0 : decode cX11_has 0 = .ok (.iload_n 0, 1) := by decide +kernel
theorem dX11_has_1 : decode cX11_has 1 = .ok (.iload_n 1, 1) := by decide +kernel
theorem dX11_has_2 : decode cX11_has 2 = .ok (.ishr, 1) := by decide +kernel
theorem dX11_has_3 : decode cX11_has 3 = .ok (.iconst 1, 1) := by decide +kernel
theorem dX11_has_4 : decode cX11_has 4 = .ok (.iand, 1) := by decide +kernel
theorem dX11_has_5 : decode cX11_has 5 = .ok (.iconst 1, 1) := by decide +kernel
theorem dX11_has_6 : decode cX11_has 6 = .ok (.if_icmp .ne 7, 3) := by decide +kernel
theorem dX11_has_9 : decode cX11_has 9 = .ok (.iconst 1, 1) := by decide +kernel
theorem dX11_has_10 : decode cX11_has 10 = .ok (.goto 4, 3) := by decide +kernel
theorem dX11_has_13 : decode cX11_has 13 = .ok (.iconst 0, 1) := by decide +kernel
theorem dX11_has_14 : decode cX11_has 14 = .ok (.ireturn, 1) := by decide +kernel
def fX11_has (a0 : Int32) (a1 : Int32) (M : xMem) : Option (Int32 × xMem) :=
  if ((a0 >>> (a1 &&& 31)) &&& (nI 1)) = (nI 1) then (some ((nI 1), M)) else (some ((nI 0), M))
set_option maxRecDepth 100000 in
set_option maxHeartbeats 4000000 in
theorem zX11_has (G : xGX) (a0 : Int32) (a1 : Int32) (M : xMem) (r : Int32) (M' : xMem) (h : fX11_has a0 a1 M = some (r, M')) : xCt G yX11_has cX11_has 2 (some .boolean) 1 [.int a0, .int a1] M (some (.int r), M') := by
  refine xMet (lv := [some (.int a0), some (.int a1)]) (by decide) (Nat.le_of_ble_eq_true rfl) rfl ?_
  intro X hG hnL C R0
  subst hG
  have C : xCk X cX11_has RX11 1 := C
  unfold fX11_has at h
  refine r_iload_n (pc := 0) C dX11_has_0 rfl rfl ?_
  refine r_iload_n (pc := 1) C dX11_has_1 rfl rfl ?_
  refine r_ishr (pc := 2) C dX11_has_2 ?_
  refine r_iconst (pc := 3) (v := (nI 1)) C dX11_has_3 (by decide) ?_
  refine r_iand (pc := 4) C dX11_has_4 ?_
  refine r_iconst (pc := 5) (v := (nI 1)) C dX11_has_5 (by decide) ?_
  refine r_icmp_ne (pc := 6) (tgt := 13) C dX11_has_6 (by decide) h (fun _ h => ?_) (fun _ h => ?_)
  · refine r_iconst (pc := 13) (v := (nI 0)) C dX11_has_13 (by decide) ?_
    exact r_zret (pc := 14) (Or.inl (by decide)) C R0 h dX11_has_14
  · refine r_iconst (pc := 9) (v := (nI 1)) C dX11_has_9 (by decide) ?_
    refine r_goto (pc := 10) (tgt := 14) C dX11_has_10 (by decide) ?_
    exact r_zret (pc := 14) (Or.inr (by decide)) C R0 h dX11_has_14
theorem dX11_bits_0 : decode cX11_bits 0 = .ok (.iconst 0, 1) := by decide +kernel
theorem dX11_bits_1 : decode cX11_bits 1 = .ok (.istore_n 1, 1) := by decide +kernel
theorem dX11_bits_2 : decode cX11_bits 2 = .ok (.iload_n 0, 1) := by decide +kernel
theorem dX11_bits_3 : decode cX11_bits 3 = .ok (.istore_n 2, 1) := by decide +kernel
theorem dX11_bits_4 : decode cX11_bits 4 = .ok (.iload_n 2, 1) := by decide +kernel
theorem dX11_bits_5 : decode cX11_bits 5 = .ok (.ifCond .eq 15, 3) := by decide +kernel
theorem dX11_bits_8 : decode cX11_bits 8 = .ok (.iinc 1 1, 3) := by decide +kernel
theorem dX11_bits_11 : decode cX11_bits 11 = .ok (.iload_n 2, 1) := by decide +kernel
theorem dX11_bits_12 : decode cX11_bits 12 = .ok (.iload_n 2, 1) := by decide +kernel
theorem dX11_bits_13 : decode cX11_bits 13 = .ok (.iconst 1, 1) := by decide +kernel
theorem dX11_bits_14 : decode cX11_bits 14 = .ok (.isub, 1) := by decide +kernel
theorem dX11_bits_15 : decode cX11_bits 15 = .ok (.iand, 1) := by decide +kernel
theorem dX11_bits_16 : decode cX11_bits 16 = .ok (.istore_n 2, 1) := by decide +kernel
theorem dX11_bits_17 : decode cX11_bits 17 = .ok (.goto (-13), 3) := by decide +kernel
theorem dX11_bits_20 : decode cX11_bits 20 = .ok (.iload_n 1, 1) := by decide +kernel
theorem dX11_bits_21 : decode cX11_bits 21 = .ok (.ireturn, 1) := by decide +kernel
def fX11_bits_l4 (p0 : Int32) (K : Int32 → Int32 → xMem → Option (Int32 × xMem)) : Nat → Int32 → Int32 → xMem → Option (Int32 × xMem)
  | 0, _, _, _ => none
  | n + 1, v1, v2, M => if v2 = 0 then (K v1 v2 M) else (xLt (v1 + nI 1) fun x1 => xLt (v2 &&& (v2 - (nI 1))) fun x2 => fX11_bits_l4 p0 K n x1 x2 M)
def fX11_bits (a0 : Int32) (M : xMem) : Option (Int32 × xMem) :=
  fX11_bits_l4 a0 (fun (v3 : Int32) (v4 : Int32) (M5 : xMem) => some (v3, M5)) xFU (nI 0) a0 M
set_option maxRecDepth 100000 in
set_option maxHeartbeats 4000000 in
theorem lX11_bits_4 {X : xCX} {r : Int32} {M' : xMem} (C : xCk X cX11_bits RX11 1) (R0 : xRk X (some .int) (some (.int r), M')) (hnL : X.2.2.2.2.2.2.2.2.2.2.2.2.2 = 3) (p0 : Int32) (K : Int32 → Int32 → xMem → Option (Int32 × xMem)) (hK : ∀ (v1 : Int32) (v2 : Int32) (M : xMem), K v1 v2 M = some (r, M') → WW X 20 [some (.int p0), some (.int v1), some (.int v2)] [] M) : ∀ (n : Nat) (v1 : Int32) (v2 : Int32) (M : xMem), fX11_bits_l4 p0 K n v1 v2 M = some (r, M') → WW X 4 [some (.int p0), some (.int v1), some (.int v2)] [] M := by
  have hn1 : 1 < X.2.2.2.2.2.2.2.2.2.2.2.2.2 := by rw [hnL]; decide
  have hn2 : 2 < X.2.2.2.2.2.2.2.2.2.2.2.2.2 := by rw [hnL]; decide
  intro n
  induction n with
  | zero =>
    intro v1 v2 M h
    cases (show (none : Option (Int32 × xMem)) = some (r, M') from h)
  | succ n ih =>
    intro v1 v2 M h
    rw [fX11_bits_l4.eq_2] at h
    refine r_iload_n (pc := 4) C dX11_bits_4 rfl rfl ?_
    refine r_if_eq (pc := 5) (tgt := 20) C dX11_bits_5 (by decide) h (fun _ h => ?_) (fun _ h => ?_)
    · exact hK v1 v2 M h
    · refine r_iincL (pc := 8) (c := nI 1) C dX11_bits_8 rfl (by decide) hn1 h (fun x1 h => ?_)
      refine r_lvE (lv' := [_, _, _]) rfl ?_
      refine r_iload_n (pc := 11) C dX11_bits_11 rfl rfl ?_
      refine r_iload_n (pc := 12) C dX11_bits_12 rfl rfl ?_
      refine r_iconst (pc := 13) (v := (nI 1)) C dX11_bits_13 (by decide) ?_
      refine r_isub (pc := 14) C dX11_bits_14 ?_
      refine r_iand (pc := 15) C dX11_bits_15 ?_
      refine r_letI h (fun x2 h => ?_)
      refine r_istore_n (pc := 16) (lv' := [_, _, _]) C dX11_bits_16 rfl hn2 rfl ?_
      refine r_goto (pc := 17) (tgt := 4) C dX11_bits_17 (by decide) ?_
      exact ih x1 x2 M h
set_option maxRecDepth 100000 in
set_option maxHeartbeats 4000000 in
theorem zX11_bits (G : xGX) (a0 : Int32) (M : xMem) (r : Int32) (M' : xMem) (h : fX11_bits a0 M = some (r, M')) : xCt G yX11_bits cX11_bits 3 (some .int) 1 [.int a0] M (some (.int r), M') := by
  refine xMet (lv := [some (.int a0), none, none]) (by decide) (Nat.le_of_ble_eq_true rfl) rfl ?_
  intro X hG hnL C R0
  subst hG
  have C : xCk X cX11_bits RX11 1 := C
  have hn1 : 1 < X.2.2.2.2.2.2.2.2.2.2.2.2.2 := by rw [hnL]; decide
  have hn2 : 2 < X.2.2.2.2.2.2.2.2.2.2.2.2.2 := by rw [hnL]; decide
  unfold fX11_bits at h
  refine r_iconst (pc := 0) (v := (nI 0)) C dX11_bits_0 (by decide) ?_
  refine r_istore_n (pc := 1) (lv' := [_, _, _]) C dX11_bits_1 rfl hn1 rfl ?_
  refine r_iload_n (pc := 2) C dX11_bits_2 rfl rfl ?_
  refine r_istore_n (pc := 3) (lv' := [_, _, _]) C dX11_bits_3 rfl hn2 rfl ?_
  refine lX11_bits_4 C R0 hnL a0 _ (fun v3 v4 M5 h => ?_) _ _ _ _ h
  refine r_iload_n (pc := 20) C dX11_bits_20 rfl rfl ?_
  exact r_iret (pc := 21) C R0 h dX11_bits_21
theorem dX11_get_0 : decode cX11_get 0 = .ok (.aload_n 0, 1) := by decide +kernel
theorem dX11_get_1 : decode cX11_get 1 = .ok (.getfield 16, 3) := by decide +kernel
theorem dX11_get_4 : decode cX11_get 4 = .ok (.iload_n 1, 1) := by decide +kernel
theorem dX11_get_5 : decode cX11_get 5 = .ok (.laload, 1) := by decide +kernel
theorem dX11_get_6 : decode cX11_get 6 = .ok (.l2i, 1) := by decide +kernel
theorem dX11_get_7 : decode cX11_get 7 = .ok (.ireturn, 1) := by decide +kernel
def fX11_get (a0 : Nat) (a1 : Int32) (M : xMem) : Option (Int32 × xMem) :=
  xGb a1 (xln (xnw M)) (some ((Int64.toInt32 (M.2.1 (xnw M) (Int32.toNatClampNeg a1))), M))
set_option maxRecDepth 100000 in
set_option maxHeartbeats 4000000 in
theorem zX11_get (G : xGX) (a0 : Nat) (h0 : xkd a0 = 11) (a1 : Int32) (M : xMem) (r : Int32) (M' : xMem) (h : fX11_get a0 a1 M = some (r, M')) : xCt G yX11_get cX11_get 2 (some .int) 1 [vr G a0, .int a1] M (some (.int r), M') := by
  refine xMet (lv := [some (vr G a0), some (.int a1)]) (by decide) (Nat.le_of_ble_eq_true rfl) rfl ?_
  intro X hG hnL C R0
  subst hG
  have C : xCk X cX11_get RX11 1 := C
  unfold fX11_get at h
  refine r_aload_n (pc := 0) C dX11_get_0 rfl rfl ?_
  refine r_getW (pc := 1) C kX11_16 h0 dX11_get_1 ?_
  refine r_iload_n (pc := 4) C dX11_get_4 rfl rfl ?_
  obtain ⟨g1, h⟩ := xGb_of h
  refine r_lald (pc := 5) C (xknw M) g1 dX11_get_5 ?_
  refine r_l2i (pc := 6) C dX11_get_6 ?_
  exact r_iret (pc := 7) C R0 h dX11_get_7
theorem dX11_isThere_0 : decode cX11_isThere 0 = .ok (.aload_n 0, 1) := by decide +kernel
theorem dX11_isThere_1 : decode cX11_isThere 1 = .ok (.getfield 9, 3) := by decide +kernel
theorem dX11_isThere_4 : decode cX11_isThere 4 = .ok (.iconst 0, 1) := by decide +kernel
theorem dX11_isThere_5 : decode cX11_isThere 5 = .ok (.laload, 1) := by decide +kernel
theorem dX11_isThere_6 : decode cX11_isThere 6 = .ok (.lconst 1, 1) := by decide +kernel
theorem dX11_isThere_7 : decode cX11_isThere 7 = .ok (.lcmp, 1) := by decide +kernel
theorem dX11_isThere_8 : decode cX11_isThere 8 = .ok (.ifCond .ne 7, 3) := by decide +kernel
theorem dX11_isThere_11 : decode cX11_isThere 11 = .ok (.iconst 1, 1) := by decide +kernel
theorem dX11_isThere_12 : decode cX11_isThere 12 = .ok (.goto 4, 3) := by decide +kernel
theorem dX11_isThere_15 : decode cX11_isThere 15 = .ok (.iconst 0, 1) := by decide +kernel
theorem dX11_isThere_16 : decode cX11_isThere 16 = .ok (.ireturn, 1) := by decide +kernel
def fX11_isThere (a0 : Nat) (M : xMem) : Option (Int32 × xMem) :=
  xGb (nI 0) (xln (xrf a0 1)) (if (lg_cmp (M.2.1 (xrf a0 1) (Int32.toNatClampNeg (nI 0))) (lN 1)) = 0 then (some ((nI 1), M)) else (some ((nI 0), M)))
set_option maxRecDepth 100000 in
set_option maxHeartbeats 4000000 in
theorem zX11_isThere (G : xGX) (a0 : Nat) (h0 : xkd a0 = 11) (M : xMem) (r : Int32) (M' : xMem) (h : fX11_isThere a0 M = some (r, M')) : xCt G yX11_isThere cX11_isThere 1 (some .boolean) 1 [vr G a0] M (some (.int r), M') := by
  refine xMet (lv := [some (vr G a0)]) (by decide) (Nat.le_of_ble_eq_true rfl) rfl ?_
  intro X hG hnL C R0
  subst hG
  have C : xCk X cX11_isThere RX11 1 := C
  unfold fX11_isThere at h
  refine r_aload_n (pc := 0) C dX11_isThere_0 rfl rfl ?_
  refine r_getR (pc := 1) C kX11_9 h0 (by decide) dX11_isThere_1 ?_
  refine r_iconst (pc := 4) (v := (nI 0)) C dX11_isThere_4 (by decide) ?_
  obtain ⟨g1, h⟩ := xGb_of h
  refine r_lald (pc := 5) C (xtk h0 (by decide) rfl rfl) g1 dX11_isThere_5 ?_
  refine r_lconst (pc := 6) (v := lN 1) C dX11_isThere_6 rfl ?_
  refine r_lcmp (pc := 7) C dX11_isThere_7 ?_
  refine r_if_ne (pc := 8) (tgt := 15) C dX11_isThere_8 (by decide) h (fun _ h => ?_) (fun _ h => ?_)
  · refine r_iconst (pc := 15) (v := (nI 0)) C dX11_isThere_15 (by decide) ?_
    exact r_zret (pc := 16) (Or.inl (by decide)) C R0 h dX11_isThere_16
  · refine r_iconst (pc := 11) (v := (nI 1)) C dX11_isThere_11 (by decide) ?_
    refine r_goto (pc := 12) (tgt := 16) C dX11_isThere_12 (by decide) ?_
    exact r_zret (pc := 16) (Or.inr (by decide)) C R0 h dX11_isThere_16
theorem dX11_many_0 : decode cX11_many 0 = .ok (.aload_n 0, 1) := by decide +kernel
theorem dX11_many_1 : decode cX11_many 1 = .ok (.iconst 1, 1) := by decide +kernel
theorem dX11_many_2 : decode cX11_many 2 = .ok (.iload_n 1, 1) := by decide +kernel
theorem dX11_many_3 : decode cX11_many 3 = .ok (.iadd, 1) := by decide +kernel
theorem dX11_many_4 : decode cX11_many 4 = .ok (.invokevirtual 43, 3) := by decide +kernel
theorem dX11_many_7 : decode cX11_many 7 = .ok (.ireturn, 1) := by decide +kernel
def fX11_many (a0 : Nat) (a1 : Int32) (M : xMem) : Option (Int32 × xMem) :=
  xBn (fX11_get a0 ((nI 1) + a1) M) fun r1 M2 => some (r1, M2)
set_option maxRecDepth 100000 in
set_option maxHeartbeats 4000000 in
theorem zX11_many (G : xGX) (a0 : Nat) (h0 : xkd a0 = 11) (a1 : Int32) (M : xMem) (r : Int32) (M' : xMem) (h : fX11_many a0 a1 M = some (r, M')) : xCt G yX11_many cX11_many 2 (some .int) 2 [vr G a0, .int a1] M (some (.int r), M') := by
  refine xMet (lv := [some (vr G a0), some (.int a1)]) (by decide) (Nat.le_of_ble_eq_true rfl) rfl ?_
  intro X hG hnL C R0
  subst hG
  have C : xCk X cX11_many RX11 2 := C
  unfold fX11_many at h
  refine r_aload_n (pc := 0) C dX11_many_0 rfl rfl ?_
  refine r_iconst (pc := 1) (v := (nI 1)) C dX11_many_1 (by decide) ?_
  refine r_iload_n (pc := 2) C dX11_many_2 rfl rfl ?_
  refine r_iadd (pc := 3) C dX11_many_3 ?_
  refine r_vI1 (pc := 4) C (fun r M' e => zX11_get X.1 a0 h0 ((nI 1) + a1) M r M' e) h0 (by decide) rfl mX11_get lX11_43 (by decide) (Nat.le_of_ble_eq_true rfl) dX11_many_4 h (fun r1 M2 h => ?_)
  exact r_iret (pc := 7) C R0 h dX11_many_7
theorem dX11_isTeam_0 : decode cX11_isTeam 0 = .ok (.aload_n 0, 1) := by decide +kernel
theorem dX11_isTeam_1 : decode cX11_isTeam 1 = .ok (.invokevirtual 47, 3) := by decide +kernel
theorem dX11_isTeam_4 : decode cX11_isTeam 4 = .ok (.ifCond .eq 17, 3) := by decide +kernel
theorem dX11_isTeam_7 : decode cX11_isTeam 7 = .ok (.iload_n 1, 1) := by decide +kernel
theorem dX11_isTeam_8 : decode cX11_isTeam 8 = .ok (.i2l, 1) := by decide +kernel
theorem dX11_isTeam_9 : decode cX11_isTeam 9 = .ok (.lconst 0, 1) := by decide +kernel
theorem dX11_isTeam_10 : decode cX11_isTeam 10 = .ok (.lconst 1, 1) := by decide +kernel
theorem dX11_isTeam_11 : decode cX11_isTeam 11 = .ok (.invokestatic 51, 3) := by decide +kernel
theorem dX11_isTeam_14 : decode cX11_isTeam 14 = .ok (.ifCond .eq 7, 3) := by decide +kernel
theorem dX11_isTeam_17 : decode cX11_isTeam 17 = .ok (.iconst 1, 1) := by decide +kernel
theorem dX11_isTeam_18 : decode cX11_isTeam 18 = .ok (.goto 4, 3) := by decide +kernel
theorem dX11_isTeam_21 : decode cX11_isTeam 21 = .ok (.iconst 0, 1) := by decide +kernel
theorem dX11_isTeam_22 : decode cX11_isTeam 22 = .ok (.ireturn, 1) := by decide +kernel
def fX11_isTeam (a0 : Nat) (a1 : Int32) (M : xMem) : Option (Int32 × xMem) :=
  xBn (fX11_isThere a0 M) fun r1 M2 => if r1 = 0 then (some ((nI 0), M2)) else (xBn (fX11_in (Int32.toInt64 a1) (lN 0) (lN 1) M2) fun r3 M4 => if r3 = 0 then (some ((nI 0), M4)) else (some ((nI 1), M4)))
set_option maxRecDepth 100000 in
set_option maxHeartbeats 4000000 in
theorem zX11_isTeam (G : xGX) (a0 : Nat) (h0 : xkd a0 = 11) (a1 : Int32) (M : xMem) (r : Int32) (M' : xMem) (h : fX11_isTeam a0 a1 M = some (r, M')) : xCt G yX11_isTeam cX11_isTeam 2 (some .boolean) 2 [vr G a0, .int a1] M (some (.int r), M') := by
  refine xMet (lv := [some (vr G a0), some (.int a1)]) (by decide) (Nat.le_of_ble_eq_true rfl) rfl ?_
  intro X hG hnL C R0
  subst hG
  have C : xCk X cX11_isTeam RX11 2 := C
  unfold fX11_isTeam at h
  refine r_aload_n (pc := 0) C dX11_isTeam_0 rfl rfl ?_
  refine r_vI0 (pc := 1) C (fun r M' e => zX11_isThere X.1 a0 h0 M r M' e) h0 (by decide) rfl mX11_isThere lX11_47 (by decide) (Nat.le_of_ble_eq_true rfl) dX11_isTeam_1 h (fun r1 M2 h => ?_)
  refine r_if_eq (pc := 4) (tgt := 21) C dX11_isTeam_4 (by decide) h (fun _ h => ?_) (fun _ h => ?_)
  · refine r_iconst (pc := 21) (v := (nI 0)) C dX11_isTeam_21 (by decide) ?_
    exact r_zret (pc := 22) (Or.inl (by decide)) C R0 h dX11_isTeam_22
  · refine r_iload_n (pc := 7) C dX11_isTeam_7 rfl rfl ?_
    refine r_i2l (pc := 8) C dX11_isTeam_8 ?_
    refine r_lconst (pc := 9) (v := lN 0) C dX11_isTeam_9 rfl ?_
    refine r_lconst (pc := 10) (v := lN 1) C dX11_isTeam_10 rfl ?_
    refine r_sI3 (pc := 11) C (fun r M' e => zX11_in X.1 (Int32.toInt64 a1) (lN 0) (lN 1) M2 r M' e) mX11_in lX11_51 (by decide) (Nat.le_of_ble_eq_true rfl) dX11_isTeam_11 h (fun r3 M4 h => ?_)
    refine r_if_eq (pc := 14) (tgt := 21) C dX11_isTeam_14 (by decide) h (fun _ h => ?_) (fun _ h => ?_)
    · refine r_iconst (pc := 21) (v := (nI 0)) C dX11_isTeam_21 (by decide) ?_
      exact r_zret (pc := 22) (Or.inl (by decide)) C R0 h dX11_isTeam_22
    · refine r_iconst (pc := 17) (v := (nI 1)) C dX11_isTeam_17 (by decide) ?_
      refine r_goto (pc := 18) (tgt := 22) C dX11_isTeam_18 (by decide) ?_
      exact r_zret (pc := 22) (Or.inr (by decide)) C R0 h dX11_isTeam_22
theorem dX11_isOne_0 : decode cX11_isOne 0 = .ok (.aload_n 0, 1) := by decide +kernel
theorem dX11_isOne_1 : decode cX11_isOne 1 = .ok (.iload_n 1, 1) := by decide +kernel
theorem dX11_isOne_2 : decode cX11_isOne 2 = .ok (.invokevirtual 55, 3) := by decide +kernel
theorem dX11_isOne_5 : decode cX11_isOne 5 = .ok (.ifCond .eq 24, 3) := by decide +kernel
theorem dX11_isOne_8 : decode cX11_isOne 8 = .ok (.iload_n 2, 1) := by decide +kernel
theorem dX11_isOne_9 : decode cX11_isOne 9 = .ok (.i2l, 1) := by decide +kernel
theorem dX11_isOne_10 : decode cX11_isOne 10 = .ok (.lconst 0, 1) := by decide +kernel
theorem dX11_isOne_11 : decode cX11_isOne 11 = .ok (.aload_n 0, 1) := by decide +kernel
theorem dX11_isOne_12 : decode cX11_isOne 12 = .ok (.iload_n 1, 1) := by decide +kernel
theorem dX11_isOne_13 : decode cX11_isOne 13 = .ok (.invokevirtual 59, 3) := by decide +kernel
theorem dX11_isOne_16 : decode cX11_isOne 16 = .ok (.iconst 1, 1) := by decide +kernel
theorem dX11_isOne_17 : decode cX11_isOne 17 = .ok (.isub, 1) := by decide +kernel
theorem dX11_isOne_18 : decode cX11_isOne 18 = .ok (.i2l, 1) := by decide +kernel
theorem dX11_isOne_19 : decode cX11_isOne 19 = .ok (.invokestatic 51, 3) := by decide +kernel
theorem dX11_isOne_22 : decode cX11_isOne 22 = .ok (.ifCond .eq 7, 3) := by decide +kernel
theorem dX11_isOne_25 : decode cX11_isOne 25 = .ok (.iconst 1, 1) := by decide +kernel
theorem dX11_isOne_26 : decode cX11_isOne 26 = .ok (.goto 4, 3) := by decide +kernel
theorem dX11_isOne_29 : decode cX11_isOne 29 = .ok (.iconst 0, 1) := by decide +kernel
theorem dX11_isOne_30 : decode cX11_isOne 30 = .ok (.ireturn, 1) := by decide +kernel
def fX11_isOne (a0 : Nat) (a1 : Int32) (a2 : Int32) (M : xMem) : Option (Int32 × xMem) :=
  xBn (fX11_isTeam a0 a1 M) fun r1 M2 => if r1 = 0 then (some ((nI 0), M2)) else (xBn (fX11_many a0 a1 M2) fun r3 M4 => xBn (fX11_in (Int32.toInt64 a2) (lN 0) (Int32.toInt64 (r3 - (nI 1))) M4) fun r5 M6 => if r5 = 0 then (some ((nI 0), M6)) else (some ((nI 1), M6)))
set_option maxRecDepth 100000 in
set_option maxHeartbeats 4000000 in
theorem zX11_isOne (G : xGX) (a0 : Nat) (h0 : xkd a0 = 11) (a1 : Int32) (a2 : Int32) (M : xMem) (r : Int32) (M' : xMem) (h : fX11_isOne a0 a1 a2 M = some (r, M')) : xCt G yX11_isOne cX11_isOne 3 (some .boolean) 3 [vr G a0, .int a1, .int a2] M (some (.int r), M') := by
  refine xMet (lv := [some (vr G a0), some (.int a1), some (.int a2)]) (by decide) (Nat.le_of_ble_eq_true rfl) rfl ?_
  intro X hG hnL C R0
  subst hG
  have C : xCk X cX11_isOne RX11 3 := C
  unfold fX11_isOne at h
  refine r_aload_n (pc := 0) C dX11_isOne_0 rfl rfl ?_
  refine r_iload_n (pc := 1) C dX11_isOne_1 rfl rfl ?_
  refine r_vI1 (pc := 2) C (fun r M' e => zX11_isTeam X.1 a0 h0 a1 M r M' e) h0 (by decide) rfl mX11_isTeam lX11_55 (by decide) (Nat.le_of_ble_eq_true rfl) dX11_isOne_2 h (fun r1 M2 h => ?_)
  refine r_if_eq (pc := 5) (tgt := 29) C dX11_isOne_5 (by decide) h (fun _ h => ?_) (fun _ h => ?_)
  · refine r_iconst (pc := 29) (v := (nI 0)) C dX11_isOne_29 (by decide) ?_
    exact r_zret (pc := 30) (Or.inl (by decide)) C R0 h dX11_isOne_30
  · refine r_iload_n (pc := 8) C dX11_isOne_8 rfl rfl ?_
    refine r_i2l (pc := 9) C dX11_isOne_9 ?_
    refine r_lconst (pc := 10) (v := lN 0) C dX11_isOne_10 rfl ?_
    refine r_aload_n (pc := 11) C dX11_isOne_11 rfl rfl ?_
    refine r_iload_n (pc := 12) C dX11_isOne_12 rfl rfl ?_
    refine r_vI1 (pc := 13) C (fun r M' e => zX11_many X.1 a0 h0 a1 M2 r M' e) h0 (by decide) rfl mX11_many lX11_59 (by decide) (Nat.le_of_ble_eq_true rfl) dX11_isOne_13 h (fun r3 M4 h => ?_)
    refine r_iconst (pc := 16) (v := (nI 1)) C dX11_isOne_16 (by decide) ?_
    refine r_isub (pc := 17) C dX11_isOne_17 ?_
    refine r_i2l (pc := 18) C dX11_isOne_18 ?_
    refine r_sI3 (pc := 19) C (fun r M' e => zX11_in X.1 (Int32.toInt64 a2) (lN 0) (Int32.toInt64 (r3 - (nI 1))) M4 r M' e) mX11_in lX11_51 (by decide) (Nat.le_of_ble_eq_true rfl) dX11_isOne_19 h (fun r5 M6 h => ?_)
    refine r_if_eq (pc := 22) (tgt := 29) C dX11_isOne_22 (by decide) h (fun _ h => ?_) (fun _ h => ?_)
    · refine r_iconst (pc := 29) (v := (nI 0)) C dX11_isOne_29 (by decide) ?_
      exact r_zret (pc := 30) (Or.inl (by decide)) C R0 h dX11_isOne_30
    · refine r_iconst (pc := 25) (v := (nI 1)) C dX11_isOne_25 (by decide) ?_
      refine r_goto (pc := 26) (tgt := 30) C dX11_isOne_26 (by decide) ?_
      exact r_zret (pc := 30) (Or.inr (by decide)) C R0 h dX11_isOne_30
theorem dX11_isOf_0 : decode cX11_isOf 0 = .ok (.aload_n 0, 1) := by decide +kernel
theorem dX11_isOf_1 : decode cX11_isOf 1 = .ok (.bipush 48, 2) := by decide +kernel
theorem dX11_isOf_3 : decode cX11_isOf 3 = .ok (.bipush 10, 2) := by decide +kernel
theorem dX11_isOf_5 : decode cX11_isOf 5 = .ok (.iload_n 1, 1) := by decide +kernel
theorem dX11_isOf_6 : decode cX11_isOf 6 = .ok (.imul, 1) := by decide +kernel
theorem dX11_isOf_7 : decode cX11_isOf 7 = .ok (.iadd, 1) := by decide +kernel
theorem dX11_isOf_8 : decode cX11_isOf 8 = .ok (.iload_n 2, 1) := by decide +kernel
theorem dX11_isOf_9 : decode cX11_isOf 9 = .ok (.iadd, 1) := by decide +kernel
theorem dX11_isOf_10 : decode cX11_isOf 10 = .ok (.invokevirtual 43, 3) := by decide +kernel
theorem dX11_isOf_13 : decode cX11_isOf 13 = .ok (.ireturn, 1) := by decide +kernel
def fX11_isOf (a0 : Nat) (a1 : Int32) (a2 : Int32) (M : xMem) : Option (Int32 × xMem) :=
  xBn (fX11_get a0 (((nI 48) + ((nI 10) * a1)) + a2) M) fun r1 M2 => some (r1, M2)
set_option maxRecDepth 100000 in
set_option maxHeartbeats 4000000 in
theorem zX11_isOf (G : xGX) (a0 : Nat) (h0 : xkd a0 = 11) (a1 : Int32) (a2 : Int32) (M : xMem) (r : Int32) (M' : xMem) (h : fX11_isOf a0 a1 a2 M = some (r, M')) : xCt G yX11_isOf cX11_isOf 3 (some .int) 2 [vr G a0, .int a1, .int a2] M (some (.int r), M') := by
  refine xMet (lv := [some (vr G a0), some (.int a1), some (.int a2)]) (by decide) (Nat.le_of_ble_eq_true rfl) rfl ?_
  intro X hG hnL C R0
  subst hG
  have C : xCk X cX11_isOf RX11 2 := C
  unfold fX11_isOf at h
  refine r_aload_n (pc := 0) C dX11_isOf_0 rfl rfl ?_
  refine r_bipush (pc := 1) (v := (nI 48)) C dX11_isOf_1 (by decide) ?_
  refine r_bipush (pc := 3) (v := (nI 10)) C dX11_isOf_3 (by decide) ?_
  refine r_iload_n (pc := 5) C dX11_isOf_5 rfl rfl ?_
  refine r_imul (pc := 6) C dX11_isOf_6 ?_
  refine r_iadd (pc := 7) C dX11_isOf_7 ?_
  refine r_iload_n (pc := 8) C dX11_isOf_8 rfl rfl ?_
  refine r_iadd (pc := 9) C dX11_isOf_9 ?_
  refine r_vI1 (pc := 10) C (fun r M' e => zX11_get X.1 a0 h0 (((nI 48) + ((nI 10) * a1)) + a2) M r M' e) h0 (by decide) rfl mX11_get lX11_43 (by decide) (Nat.le_of_ble_eq_true rfl) dX11_isOf_10 h (fun r1 M2 h => ?_)
  exact r_iret (pc := 13) C R0 h dX11_isOf_13
theorem dX11_thoseOf_0 : decode cX11_thoseOf 0 = .ok (.iconst 0, 1) := by decide +kernel
theorem dX11_thoseOf_1 : decode cX11_thoseOf 1 = .ok (.istore_n 3, 1) := by decide +kernel
theorem dX11_thoseOf_2 : decode cX11_thoseOf 2 = .ok (.iconst 0, 1) := by decide +kernel
theorem dX11_thoseOf_3 : decode cX11_thoseOf 3 = .ok (.istore 4, 2) := by decide +kernel
theorem dX11_thoseOf_5 : decode cX11_thoseOf 5 = .ok (.iload 4, 2) := by decide +kernel
theorem dX11_thoseOf_7 : decode cX11_thoseOf 7 = .ok (.aload_n 0, 1) := by decide +kernel
theorem dX11_thoseOf_8 : decode cX11_thoseOf 8 = .ok (.iload_n 1, 1) := by decide +kernel
theorem dX11_thoseOf_9 : decode cX11_thoseOf 9 = .ok (.invokevirtual 59, 3) := by decide +kernel
theorem dX11_thoseOf_12 : decode cX11_thoseOf 12 = .ok (.if_icmp .ge 31, 3) := by decide +kernel
theorem dX11_thoseOf_15 : decode cX11_thoseOf 15 = .ok (.iload_n 3, 1) := by decide +kernel
theorem dX11_thoseOf_16 : decode cX11_thoseOf 16 = .ok (.aload_n 0, 1) := by decide +kernel
theorem dX11_thoseOf_17 : decode cX11_thoseOf 17 = .ok (.iload_n 1, 1) := by decide +kernel
theorem dX11_thoseOf_18 : decode cX11_thoseOf 18 = .ok (.iload 4, 2) := by decide +kernel
theorem dX11_thoseOf_20 : decode cX11_thoseOf 20 = .ok (.invokevirtual 62, 3) := by decide +kernel
theorem dX11_thoseOf_23 : decode cX11_thoseOf 23 = .ok (.iload_n 2, 1) := by decide +kernel
theorem dX11_thoseOf_24 : decode cX11_thoseOf 24 = .ok (.if_icmp .ne 10, 3) := by decide +kernel
theorem dX11_thoseOf_27 : decode cX11_thoseOf 27 = .ok (.iconst 1, 1) := by decide +kernel
theorem dX11_thoseOf_28 : decode cX11_thoseOf 28 = .ok (.iload 4, 2) := by decide +kernel
theorem dX11_thoseOf_30 : decode cX11_thoseOf 30 = .ok (.ishl, 1) := by decide +kernel
theorem dX11_thoseOf_31 : decode cX11_thoseOf 31 = .ok (.goto 4, 3) := by decide +kernel
theorem dX11_thoseOf_34 : decode cX11_thoseOf 34 = .ok (.iconst 0, 1) := by decide +kernel
theorem dX11_thoseOf_35 : decode cX11_thoseOf 35 = .ok (.ior, 1) := by decide +kernel
theorem dX11_thoseOf_36 : decode cX11_thoseOf 36 = .ok (.istore_n 3, 1) := by decide +kernel
theorem dX11_thoseOf_37 : decode cX11_thoseOf 37 = .ok (.iinc 4 1, 3) := by decide +kernel
theorem dX11_thoseOf_40 : decode cX11_thoseOf 40 = .ok (.goto (-35), 3) := by decide +kernel
theorem dX11_thoseOf_43 : decode cX11_thoseOf 43 = .ok (.iload_n 3, 1) := by decide +kernel
theorem dX11_thoseOf_44 : decode cX11_thoseOf 44 = .ok (.ireturn, 1) := by decide +kernel
def fX11_thoseOf_l5 (p0 : Nat) (p1 : Int32) (p2 : Int32) (K : Int32 → Int32 → xMem → Option (Int32 × xMem)) : Nat → Int32 → Int32 → xMem → Option (Int32 × xMem)
  | 0, _, _, _ => none
  | n + 1, v3, v4, M => xBn (fX11_many p0 p1 M) fun r1 M2 => if r1 ≤ v4 then (K v3 v4 M2) else (xBn (fX11_isOf p0 p1 v4 M2) fun r3 M4 => xLt (fun (s5 : Int32) (M6 : xMem) => (xLt (v3 ||| s5) fun x7 => xLt (v4 + nI 1) fun x8 => fX11_thoseOf_l5 p0 p1 p2 K n x7 x8 M6 : Option (Int32 × xMem))) fun J35 => if r3 = p2 then (J35 ((nI 1) <<< (v4 &&& 31)) M4) else (J35 (nI 0) M4))
def fX11_thoseOf (a0 : Nat) (a1 : Int32) (a2 : Int32) (M : xMem) : Option (Int32 × xMem) :=
  fX11_thoseOf_l5 a0 a1 a2 (fun (v9 : Int32) (v10 : Int32) (M11 : xMem) => some (v9, M11)) xFU (nI 0) (nI 0) M
set_option maxRecDepth 100000 in
set_option maxHeartbeats 4000000 in
theorem lX11_thoseOf_5 {X : xCX} {r : Int32} {M' : xMem} (C : xCk X cX11_thoseOf RX11 3) (R0 : xRk X (some .int) (some (.int r), M')) (hnL : X.2.2.2.2.2.2.2.2.2.2.2.2.2 = 5) (p0 : Nat) (hp0 : xkd p0 = 11) (p1 : Int32) (p2 : Int32) (K : Int32 → Int32 → xMem → Option (Int32 × xMem)) (hK : ∀ (v3 : Int32) (v4 : Int32) (M : xMem), K v3 v4 M = some (r, M') → WW X 43 [some (vr X.1 p0), some (.int p1), some (.int p2), some (.int v3), some (.int v4)] [] M) : ∀ (n : Nat) (v3 : Int32) (v4 : Int32) (M : xMem), fX11_thoseOf_l5 p0 p1 p2 K n v3 v4 M = some (r, M') → WW X 5 [some (vr X.1 p0), some (.int p1), some (.int p2), some (.int v3), some (.int v4)] [] M := by
  have hn3 : 3 < X.2.2.2.2.2.2.2.2.2.2.2.2.2 := by rw [hnL]; decide
  have hn4 : 4 < X.2.2.2.2.2.2.2.2.2.2.2.2.2 := by rw [hnL]; decide
  intro n
  induction n with
  | zero =>
    intro v3 v4 M h
    cases (show (none : Option (Int32 × xMem)) = some (r, M') from h)
  | succ n ih =>
    intro v3 v4 M h
    rw [fX11_thoseOf_l5.eq_2] at h
    refine r_iload (pc := 5) C dX11_thoseOf_5 rfl ?_
    refine r_aload_n (pc := 7) C dX11_thoseOf_7 rfl rfl ?_
    refine r_iload_n (pc := 8) C dX11_thoseOf_8 rfl rfl ?_
    refine r_vI1 (pc := 9) C (fun r M' e => zX11_many X.1 p0 hp0 p1 M r M' e) hp0 (by decide) rfl mX11_many lX11_59 (by decide) (Nat.le_of_ble_eq_true rfl) dX11_thoseOf_9 h (fun r1 M2 h => ?_)
    refine r_icmp_ge (pc := 12) (tgt := 43) C dX11_thoseOf_12 (by decide) h (fun _ h => ?_) (fun _ h => ?_)
    · exact hK v3 v4 M2 h
    · refine r_iload_n (pc := 15) C dX11_thoseOf_15 rfl rfl ?_
      refine r_aload_n (pc := 16) C dX11_thoseOf_16 rfl rfl ?_
      refine r_iload_n (pc := 17) C dX11_thoseOf_17 rfl rfl ?_
      refine r_iload (pc := 18) C dX11_thoseOf_18 rfl ?_
      refine r_vI2 (pc := 20) C (fun r M' e => zX11_isOf X.1 p0 hp0 p1 v4 M2 r M' e) hp0 (by decide) rfl mX11_isOf lX11_62 (by decide) (Nat.le_of_ble_eq_true rfl) dX11_thoseOf_20 h (fun r3 M4 h => ?_)
      refine r_iload_n (pc := 23) C dX11_thoseOf_23 rfl rfl ?_
      refine r_jn (fun J => ∀ (s5 : Int32) (M6 : xMem) , J s5 M6 = some (r, M') → WW X 35 [some (vr X.1 p0), some (.int p1), some (.int p2), some (.int v3), some (.int v4)] [.int s5, .int v3] M6) h (fun s5 M6  h => ?_) (fun J35 hJ35 h => ?_)
      · refine r_ior (pc := 35) C dX11_thoseOf_35 ?_
        refine r_letI h (fun x7 h => ?_)
        refine r_istore_n (pc := 36) (lv' := [_, _, _, _, _]) C dX11_thoseOf_36 rfl hn3 rfl ?_
        refine r_iincL (pc := 37) (c := nI 1) C dX11_thoseOf_37 rfl (by decide) hn4 h (fun x8 h => ?_)
        refine r_lvE (lv' := [_, _, _, _, _]) rfl ?_
        refine r_goto (pc := 40) (tgt := 5) C dX11_thoseOf_40 (by decide) ?_
        exact ih x7 x8 M6 h
      refine r_icmp_ne (pc := 24) (tgt := 34) C dX11_thoseOf_24 (by decide) h (fun _ h => ?_) (fun _ h => ?_)
      · refine r_iconst (pc := 34) (v := (nI 0)) C dX11_thoseOf_34 (by decide) ?_
        exact hJ35 (nI 0) M4  h
      · refine r_iconst (pc := 27) (v := (nI 1)) C dX11_thoseOf_27 (by decide) ?_
        refine r_iload (pc := 28) C dX11_thoseOf_28 rfl ?_
        refine r_ishl (pc := 30) C dX11_thoseOf_30 ?_
        refine r_goto (pc := 31) (tgt := 35) C dX11_thoseOf_31 (by decide) ?_
        exact hJ35 ((nI 1) <<< (v4 &&& 31)) M4  h
set_option maxRecDepth 100000 in
set_option maxHeartbeats 4000000 in
theorem zX11_thoseOf (G : xGX) (a0 : Nat) (h0 : xkd a0 = 11) (a1 : Int32) (a2 : Int32) (M : xMem) (r : Int32) (M' : xMem) (h : fX11_thoseOf a0 a1 a2 M = some (r, M')) : xCt G yX11_thoseOf cX11_thoseOf 5 (some .int) 3 [vr G a0, .int a1, .int a2] M (some (.int r), M') := by
  refine xMet (lv := [some (vr G a0), some (.int a1), some (.int a2), none, none]) (by decide) (Nat.le_of_ble_eq_true rfl) rfl ?_
  intro X hG hnL C R0
  subst hG
  have C : xCk X cX11_thoseOf RX11 3 := C
  have hn3 : 3 < X.2.2.2.2.2.2.2.2.2.2.2.2.2 := by rw [hnL]; decide
  have hn4 : 4 < X.2.2.2.2.2.2.2.2.2.2.2.2.2 := by rw [hnL]; decide
  unfold fX11_thoseOf at h
  refine r_iconst (pc := 0) (v := (nI 0)) C dX11_thoseOf_0 (by decide) ?_
  refine r_istore_n (pc := 1) (lv' := [_, _, _, _, _]) C dX11_thoseOf_1 rfl hn3 rfl ?_
  refine r_iconst (pc := 2) (v := (nI 0)) C dX11_thoseOf_2 (by decide) ?_
  refine r_istore (pc := 3) (lv' := [_, _, _, _, _]) C dX11_thoseOf_3 hn4 rfl ?_
  refine lX11_thoseOf_5 C R0 hnL a0 h0 a1 a2 _ (fun v9 v10 M11 h => ?_) _ _ _ _ h
  refine r_iload_n (pc := 43) C dX11_thoseOf_43 rfl rfl ?_
  exact r_iret (pc := 44) C R0 h dX11_thoseOf_44
theorem dX11_scoreOf_0 : decode cX11_scoreOf 0 = .ok (.iconst 0, 1) := by decide +kernel
theorem dX11_scoreOf_1 : decode cX11_scoreOf 1 = .ok (.istore_n 2, 1) := by decide +kernel
theorem dX11_scoreOf_2 : decode cX11_scoreOf 2 = .ok (.iconst 0, 1) := by decide +kernel
theorem dX11_scoreOf_3 : decode cX11_scoreOf 3 = .ok (.istore_n 3, 1) := by decide +kernel
theorem dX11_scoreOf_4 : decode cX11_scoreOf 4 = .ok (.iload_n 3, 1) := by decide +kernel
theorem dX11_scoreOf_5 : decode cX11_scoreOf 5 = .ok (.bipush 6, 2) := by decide +kernel
theorem dX11_scoreOf_7 : decode cX11_scoreOf 7 = .ok (.if_icmp .ge 25, 3) := by decide +kernel
theorem dX11_scoreOf_10 : decode cX11_scoreOf 10 = .ok (.iload_n 2, 1) := by decide +kernel
theorem dX11_scoreOf_11 : decode cX11_scoreOf 11 = .ok (.aload_n 0, 1) := by decide +kernel
theorem dX11_scoreOf_12 : decode cX11_scoreOf 12 = .ok (.bipush 36, 2) := by decide +kernel
theorem dX11_scoreOf_14 : decode cX11_scoreOf 14 = .ok (.bipush 6, 2) := by decide +kernel
theorem dX11_scoreOf_16 : decode cX11_scoreOf 16 = .ok (.iload_n 1, 1) := by decide +kernel
theorem dX11_scoreOf_17 : decode cX11_scoreOf 17 = .ok (.imul, 1) := by decide +kernel
theorem dX11_scoreOf_18 : decode cX11_scoreOf 18 = .ok (.iadd, 1) := by decide +kernel
theorem dX11_scoreOf_19 : decode cX11_scoreOf 19 = .ok (.iload_n 3, 1) := by decide +kernel
theorem dX11_scoreOf_20 : decode cX11_scoreOf 20 = .ok (.iadd, 1) := by decide +kernel
theorem dX11_scoreOf_21 : decode cX11_scoreOf 21 = .ok (.invokevirtual 43, 3) := by decide +kernel
theorem dX11_scoreOf_24 : decode cX11_scoreOf 24 = .ok (.iadd, 1) := by decide +kernel
theorem dX11_scoreOf_25 : decode cX11_scoreOf 25 = .ok (.istore_n 2, 1) := by decide +kernel
theorem dX11_scoreOf_26 : decode cX11_scoreOf 26 = .ok (.iinc 3 1, 3) := by decide +kernel
theorem dX11_scoreOf_29 : decode cX11_scoreOf 29 = .ok (.goto (-25), 3) := by decide +kernel
theorem dX11_scoreOf_32 : decode cX11_scoreOf 32 = .ok (.iload_n 2, 1) := by decide +kernel
theorem dX11_scoreOf_33 : decode cX11_scoreOf 33 = .ok (.ireturn, 1) := by decide +kernel
def fX11_scoreOf_l4 (p0 : Nat) (p1 : Int32) (K : Int32 → Int32 → xMem → Option (Int32 × xMem)) : Nat → Int32 → Int32 → xMem → Option (Int32 × xMem)
  | 0, _, _, _ => none
  | n + 1, v2, v3, M => if (nI 6) ≤ v3 then (K v2 v3 M) else (xBn (fX11_get p0 (((nI 36) + ((nI 6) * p1)) + v3) M) fun r1 M2 => xLt (v2 + r1) fun x3 => xLt (v3 + nI 1) fun x4 => fX11_scoreOf_l4 p0 p1 K n x3 x4 M2)
def fX11_scoreOf (a0 : Nat) (a1 : Int32) (M : xMem) : Option (Int32 × xMem) :=
  fX11_scoreOf_l4 a0 a1 (fun (v5 : Int32) (v6 : Int32) (M7 : xMem) => some (v5, M7)) xFU (nI 0) (nI 0) M
set_option maxRecDepth 100000 in
set_option maxHeartbeats 4000000 in
theorem lX11_scoreOf_4 {X : xCX} {r : Int32} {M' : xMem} (C : xCk X cX11_scoreOf RX11 2) (R0 : xRk X (some .int) (some (.int r), M')) (hnL : X.2.2.2.2.2.2.2.2.2.2.2.2.2 = 4) (p0 : Nat) (hp0 : xkd p0 = 11) (p1 : Int32) (K : Int32 → Int32 → xMem → Option (Int32 × xMem)) (hK : ∀ (v2 : Int32) (v3 : Int32) (M : xMem), K v2 v3 M = some (r, M') → WW X 32 [some (vr X.1 p0), some (.int p1), some (.int v2), some (.int v3)] [] M) : ∀ (n : Nat) (v2 : Int32) (v3 : Int32) (M : xMem), fX11_scoreOf_l4 p0 p1 K n v2 v3 M = some (r, M') → WW X 4 [some (vr X.1 p0), some (.int p1), some (.int v2), some (.int v3)] [] M := by
  have hn2 : 2 < X.2.2.2.2.2.2.2.2.2.2.2.2.2 := by rw [hnL]; decide
  have hn3 : 3 < X.2.2.2.2.2.2.2.2.2.2.2.2.2 := by rw [hnL]; decide
  intro n
  induction n with
  | zero =>
    intro v2 v3 M h
    cases (show (none : Option (Int32 × xMem)) = some (r, M') from h)
  | succ n ih =>
    intro v2 v3 M h
    rw [fX11_scoreOf_l4.eq_2] at h
    refine r_iload_n (pc := 4) C dX11_scoreOf_4 rfl rfl ?_
    refine r_bipush (pc := 5) (v := (nI 6)) C dX11_scoreOf_5 (by decide) ?_
    refine r_icmp_ge (pc := 7) (tgt := 32) C dX11_scoreOf_7 (by decide) h (fun _ h => ?_) (fun _ h => ?_)
    · exact hK v2 v3 M h
    · refine r_iload_n (pc := 10) C dX11_scoreOf_10 rfl rfl ?_
      refine r_aload_n (pc := 11) C dX11_scoreOf_11 rfl rfl ?_
      refine r_bipush (pc := 12) (v := (nI 36)) C dX11_scoreOf_12 (by decide) ?_
      refine r_bipush (pc := 14) (v := (nI 6)) C dX11_scoreOf_14 (by decide) ?_
      refine r_iload_n (pc := 16) C dX11_scoreOf_16 rfl rfl ?_
      refine r_imul (pc := 17) C dX11_scoreOf_17 ?_
      refine r_iadd (pc := 18) C dX11_scoreOf_18 ?_
      refine r_iload_n (pc := 19) C dX11_scoreOf_19 rfl rfl ?_
      refine r_iadd (pc := 20) C dX11_scoreOf_20 ?_
      refine r_vI1 (pc := 21) C (fun r M' e => zX11_get X.1 p0 hp0 (((nI 36) + ((nI 6) * p1)) + v3) M r M' e) hp0 (by decide) rfl mX11_get lX11_43 (by decide) (Nat.le_of_ble_eq_true rfl) dX11_scoreOf_21 h (fun r1 M2 h => ?_)
      refine r_iadd (pc := 24) C dX11_scoreOf_24 ?_
      refine r_letI h (fun x3 h => ?_)
      refine r_istore_n (pc := 25) (lv' := [_, _, _, _]) C dX11_scoreOf_25 rfl hn2 rfl ?_
      refine r_iincL (pc := 26) (c := nI 1) C dX11_scoreOf_26 rfl (by decide) hn3 h (fun x4 h => ?_)
      refine r_lvE (lv' := [_, _, _, _]) rfl ?_
      refine r_goto (pc := 29) (tgt := 4) C dX11_scoreOf_29 (by decide) ?_
      exact ih x3 x4 M2 h
set_option maxRecDepth 100000 in
set_option maxHeartbeats 4000000 in
theorem zX11_scoreOf (G : xGX) (a0 : Nat) (h0 : xkd a0 = 11) (a1 : Int32) (M : xMem) (r : Int32) (M' : xMem) (h : fX11_scoreOf a0 a1 M = some (r, M')) : xCt G yX11_scoreOf cX11_scoreOf 4 (some .int) 2 [vr G a0, .int a1] M (some (.int r), M') := by
  refine xMet (lv := [some (vr G a0), some (.int a1), none, none]) (by decide) (Nat.le_of_ble_eq_true rfl) rfl ?_
  intro X hG hnL C R0
  subst hG
  have C : xCk X cX11_scoreOf RX11 2 := C
  have hn2 : 2 < X.2.2.2.2.2.2.2.2.2.2.2.2.2 := by rw [hnL]; decide
  have hn3 : 3 < X.2.2.2.2.2.2.2.2.2.2.2.2.2 := by rw [hnL]; decide
  unfold fX11_scoreOf at h
  refine r_iconst (pc := 0) (v := (nI 0)) C dX11_scoreOf_0 (by decide) ?_
  refine r_istore_n (pc := 1) (lv' := [_, _, _, _]) C dX11_scoreOf_1 rfl hn2 rfl ?_
  refine r_iconst (pc := 2) (v := (nI 0)) C dX11_scoreOf_2 (by decide) ?_
  refine r_istore_n (pc := 3) (lv' := [_, _, _, _]) C dX11_scoreOf_3 rfl hn3 rfl ?_
  refine lX11_scoreOf_4 C R0 hnL a0 h0 a1 _ (fun v5 v6 M7 h => ?_) _ _ _ _ h
  refine r_iload_n (pc := 32) C dX11_scoreOf_32 rfl rfl ?_
  exact r_iret (pc := 33) C R0 h dX11_scoreOf_33
theorem dX11_rec_0 : decode cX11_rec 0 = .ok (.aload_n 0, 1) := by decide +kernel
theorem dX11_rec_1 : decode cX11_rec 1 = .ok (.sipush 235, 3) := by decide +kernel
theorem dX11_rec_4 : decode cX11_rec 4 = .ok (.bipush 15, 2) := by decide +kernel
theorem dX11_rec_6 : decode cX11_rec 6 = .ok (.iload_n 1, 1) := by decide +kernel
theorem dX11_rec_7 : decode cX11_rec 7 = .ok (.imul, 1) := by decide +kernel
theorem dX11_rec_8 : decode cX11_rec 8 = .ok (.iadd, 1) := by decide +kernel
theorem dX11_rec_9 : decode cX11_rec 9 = .ok (.iload_n 2, 1) := by decide +kernel
theorem dX11_rec_10 : decode cX11_rec 10 = .ok (.iadd, 1) := by decide +kernel
theorem dX11_rec_11 : decode cX11_rec 11 = .ok (.invokevirtual 43, 3) := by decide +kernel
theorem dX11_rec_14 : decode cX11_rec 14 = .ok (.ireturn, 1) := by decide +kernel
def fX11_rec (a0 : Nat) (a1 : Int32) (a2 : Int32) (M : xMem) : Option (Int32 × xMem) :=
  xBn (fX11_get a0 (((nI 235) + ((nI 15) * a1)) + a2) M) fun r1 M2 => some (r1, M2)
set_option maxRecDepth 100000 in
set_option maxHeartbeats 4000000 in
theorem zX11_rec (G : xGX) (a0 : Nat) (h0 : xkd a0 = 11) (a1 : Int32) (a2 : Int32) (M : xMem) (r : Int32) (M' : xMem) (h : fX11_rec a0 a1 a2 M = some (r, M')) : xCt G yX11_rec cX11_rec 3 (some .int) 2 [vr G a0, .int a1, .int a2] M (some (.int r), M') := by
  refine xMet (lv := [some (vr G a0), some (.int a1), some (.int a2)]) (by decide) (Nat.le_of_ble_eq_true rfl) rfl ?_
  intro X hG hnL C R0
  subst hG
  have C : xCk X cX11_rec RX11 2 := C
  unfold fX11_rec at h
  refine r_aload_n (pc := 0) C dX11_rec_0 rfl rfl ?_
  refine r_sipush (pc := 1) (v := (nI 235)) C dX11_rec_1 (by decide) ?_
  refine r_bipush (pc := 4) (v := (nI 15)) C dX11_rec_4 (by decide) ?_
  refine r_iload_n (pc := 6) C dX11_rec_6 rfl rfl ?_
  refine r_imul (pc := 7) C dX11_rec_7 ?_
  refine r_iadd (pc := 8) C dX11_rec_8 ?_
  refine r_iload_n (pc := 9) C dX11_rec_9 rfl rfl ?_
  refine r_iadd (pc := 10) C dX11_rec_10 ?_
  refine r_vI1 (pc := 11) C (fun r M' e => zX11_get X.1 a0 h0 (((nI 235) + ((nI 15) * a1)) + a2) M r M' e) h0 (by decide) rfl mX11_get lX11_43 (by decide) (Nat.le_of_ble_eq_true rfl) dX11_rec_11 h (fun r1 M2 h => ?_)
  exact r_iret (pc := 14) C R0 h dX11_rec_14
theorem dX11_isOver_0 : decode cX11_isOver 0 = .ok (.aload_n 0, 1) := by decide +kernel
theorem dX11_isOver_1 : decode cX11_isOver 1 = .ok (.getfield 16, 3) := by decide +kernel
theorem dX11_isOver_4 : decode cX11_isOver 4 = .ok (.bipush 27, 2) := by decide +kernel
theorem dX11_isOver_6 : decode cX11_isOver 6 = .ok (.laload, 1) := by decide +kernel
theorem dX11_isOver_7 : decode cX11_isOver 7 = .ok (.ldc2_w 66, 3) := by decide +kernel
theorem dX11_isOver_10 : decode cX11_isOver 10 = .ok (.lcmp, 1) := by decide +kernel
theorem dX11_isOver_11 : decode cX11_isOver 11 = .ok (.ifCond .ne 7, 3) := by decide +kernel
theorem dX11_isOver_14 : decode cX11_isOver 14 = .ok (.iconst 1, 1) := by decide +kernel
theorem dX11_isOver_15 : decode cX11_isOver 15 = .ok (.goto 4, 3) := by decide +kernel
theorem dX11_isOver_18 : decode cX11_isOver 18 = .ok (.iconst 0, 1) := by decide +kernel
theorem dX11_isOver_19 : decode cX11_isOver 19 = .ok (.ireturn, 1) := by decide +kernel
def fX11_isOver (a0 : Nat) (M : xMem) : Option (Int32 × xMem) :=
  xGb (nI 27) (xln (xnw M)) (if (lg_cmp (M.2.1 (xnw M) (Int32.toNatClampNeg (nI 27))) (lN 2)) = 0 then (some ((nI 1), M)) else (some ((nI 0), M)))
set_option maxRecDepth 100000 in
set_option maxHeartbeats 4000000 in
theorem zX11_isOver (G : xGX) (a0 : Nat) (h0 : xkd a0 = 11) (M : xMem) (r : Int32) (M' : xMem) (h : fX11_isOver a0 M = some (r, M')) : xCt G yX11_isOver cX11_isOver 1 (some .boolean) 1 [vr G a0] M (some (.int r), M') := by
  refine xMet (lv := [some (vr G a0)]) (by decide) (Nat.le_of_ble_eq_true rfl) rfl ?_
  intro X hG hnL C R0
  subst hG
  have C : xCk X cX11_isOver RX11 1 := C
  unfold fX11_isOver at h
  refine r_aload_n (pc := 0) C dX11_isOver_0 rfl rfl ?_
  refine r_getW (pc := 1) C kX11_16 h0 dX11_isOver_1 ?_
  refine r_bipush (pc := 4) (v := (nI 27)) C dX11_isOver_4 (by decide) ?_
  obtain ⟨g1, h⟩ := xGb_of h
  refine r_lald (pc := 6) C (xknw M) g1 dX11_isOver_6 ?_
  refine r_ldc2 (pc := 7) C nX11_66 dX11_isOver_7 ?_
  refine r_lcmp (pc := 10) C dX11_isOver_10 ?_
  refine r_if_ne (pc := 11) (tgt := 18) C dX11_isOver_11 (by decide) h (fun _ h => ?_) (fun _ h => ?_)
  · refine r_iconst (pc := 18) (v := (nI 0)) C dX11_isOver_18 (by decide) ?_
    exact r_zret (pc := 19) (Or.inl (by decide)) C R0 h dX11_isOver_19
  · refine r_iconst (pc := 14) (v := (nI 1)) C dX11_isOver_14 (by decide) ?_
    refine r_goto (pc := 15) (tgt := 19) C dX11_isOver_15 (by decide) ?_
    exact r_zret (pc := 19) (Or.inr (by decide)) C R0 h dX11_isOver_19
theorem dX11_goesOut_0 : decode cX11_goesOut 0 = .ok (.aload_n 0, 1) := by decide +kernel
theorem dX11_goesOut_1 : decode cX11_goesOut 1 = .ok (.getfield 16, 3) := by decide +kernel
theorem dX11_goesOut_4 : decode cX11_goesOut 4 = .ok (.bipush 48, 2) := by decide +kernel
theorem dX11_goesOut_6 : decode cX11_goesOut 6 = .ok (.bipush 10, 2) := by decide +kernel
theorem dX11_goesOut_8 : decode cX11_goesOut 8 = .ok (.iload_n 1, 1) := by decide +kernel
theorem dX11_goesOut_9 : decode cX11_goesOut 9 = .ok (.imul, 1) := by decide +kernel
theorem dX11_goesOut_10 : decode cX11_goesOut 10 = .ok (.iadd, 1) := by decide +kernel
theorem dX11_goesOut_11 : decode cX11_goesOut 11 = .ok (.iload_n 2, 1) := by decide +kernel
theorem dX11_goesOut_12 : decode cX11_goesOut 12 = .ok (.iadd, 1) := by decide +kernel
theorem dX11_goesOut_13 : decode cX11_goesOut 13 = .ok (.lconst 1, 1) := by decide +kernel
theorem dX11_goesOut_14 : decode cX11_goesOut 14 = .ok (.lastore, 1) := by decide +kernel
theorem dX11_goesOut_15 : decode cX11_goesOut 15 = .ok (.aload_n 0, 1) := by decide +kernel
theorem dX11_goesOut_16 : decode cX11_goesOut 16 = .ok (.getfield 16, 3) := by decide +kernel
theorem dX11_goesOut_19 : decode cX11_goesOut 19 = .ok (.bipush 110, 2) := by decide +kernel
theorem dX11_goesOut_21 : decode cX11_goesOut 21 = .ok (.bipush 10, 2) := by decide +kernel
theorem dX11_goesOut_23 : decode cX11_goesOut 23 = .ok (.iload_n 1, 1) := by decide +kernel
theorem dX11_goesOut_24 : decode cX11_goesOut 24 = .ok (.imul, 1) := by decide +kernel
theorem dX11_goesOut_25 : decode cX11_goesOut 25 = .ok (.iadd, 1) := by decide +kernel
theorem dX11_goesOut_26 : decode cX11_goesOut 26 = .ok (.aload_n 0, 1) := by decide +kernel
theorem dX11_goesOut_27 : decode cX11_goesOut 27 = .ok (.bipush 108, 2) := by decide +kernel
theorem dX11_goesOut_29 : decode cX11_goesOut 29 = .ok (.iload_n 1, 1) := by decide +kernel
theorem dX11_goesOut_30 : decode cX11_goesOut 30 = .ok (.iadd, 1) := by decide +kernel
theorem dX11_goesOut_31 : decode cX11_goesOut 31 = .ok (.invokevirtual 43, 3) := by decide +kernel
theorem dX11_goesOut_34 : decode cX11_goesOut 34 = .ok (.iadd, 1) := by decide +kernel
theorem dX11_goesOut_35 : decode cX11_goesOut 35 = .ok (.iload_n 2, 1) := by decide +kernel
theorem dX11_goesOut_36 : decode cX11_goesOut 36 = .ok (.i2l, 1) := by decide +kernel
theorem dX11_goesOut_37 : decode cX11_goesOut 37 = .ok (.lastore, 1) := by decide +kernel
theorem dX11_goesOut_38 : decode cX11_goesOut 38 = .ok (.aload_n 0, 1) := by decide +kernel
theorem dX11_goesOut_39 : decode cX11_goesOut 39 = .ok (.getfield 16, 3) := by decide +kernel
theorem dX11_goesOut_42 : decode cX11_goesOut 42 = .ok (.bipush 108, 2) := by decide +kernel
theorem dX11_goesOut_44 : decode cX11_goesOut 44 = .ok (.iload_n 1, 1) := by decide +kernel
theorem dX11_goesOut_45 : decode cX11_goesOut 45 = .ok (.iadd, 1) := by decide +kernel
theorem dX11_goesOut_46 : decode cX11_goesOut 46 = .ok (.dup2, 1) := by decide +kernel
theorem dX11_goesOut_47 : decode cX11_goesOut 47 = .ok (.laload, 1) := by decide +kernel
theorem dX11_goesOut_48 : decode cX11_goesOut 48 = .ok (.lconst 1, 1) := by decide +kernel
theorem dX11_goesOut_49 : decode cX11_goesOut 49 = .ok (.ladd, 1) := by decide +kernel
theorem dX11_goesOut_50 : decode cX11_goesOut 50 = .ok (.lastore, 1) := by decide +kernel
theorem dX11_goesOut_51 : decode cX11_goesOut 51 = .ok (.return_, 1) := by decide +kernel
def fX11_goesOut (a0 : Nat) (a1 : Int32) (a2 : Int32) (M : xMem) : Option (xMem) :=
  xGb (((nI 48) + ((nI 10) * a1)) + a2) (xln (xnw M)) (xLt (xwL M (xnw M) (Int32.toNatClampNeg (((nI 48) + ((nI 10) * a1)) + a2)) (lN 1)) fun M2 => xBn (fX11_get a0 ((nI 108) + a1) M2) fun r3 M4 => xGb (((nI 110) + ((nI 10) * a1)) + r3) (xln (xnw M2)) (xLt (xwL M4 (xnw M2) (Int32.toNatClampNeg (((nI 110) + ((nI 10) * a1)) + r3)) (Int32.toInt64 a2)) fun M6 => xGb ((nI 108) + a1) (xln (xnw M6)) (xGb ((nI 108) + a1) (xln (xnw M6)) (xLt (xwL M6 (xnw M6) (Int32.toNatClampNeg ((nI 108) + a1)) ((M6.2.1 (xnw M6) (Int32.toNatClampNeg ((nI 108) + a1))) + (lN 1))) fun M9 => some M9))))
set_option maxRecDepth 100000 in
set_option maxHeartbeats 4000000 in
theorem zX11_goesOut (G : xGX) (a0 : Nat) (h0 : xkd a0 = 11) (a1 : Int32) (a2 : Int32) (M : xMem) (M' : xMem) (h : fX11_goesOut a0 a1 a2 M = some M') : xCt G yX11_goesOut cX11_goesOut 3 none 2 [vr G a0, .int a1, .int a2] M (none, M') := by
  refine xMet (lv := [some (vr G a0), some (.int a1), some (.int a2)]) (by decide) (Nat.le_of_ble_eq_true rfl) rfl ?_
  intro X hG hnL C R0
  subst hG
  have C : xCk X cX11_goesOut RX11 2 := C
  unfold fX11_goesOut at h
  refine r_aload_n (pc := 0) C dX11_goesOut_0 rfl rfl ?_
  refine r_getW (pc := 1) C kX11_16 h0 dX11_goesOut_1 ?_
  refine r_bipush (pc := 4) (v := (nI 48)) C dX11_goesOut_4 (by decide) ?_
  refine r_bipush (pc := 6) (v := (nI 10)) C dX11_goesOut_6 (by decide) ?_
  refine r_iload_n (pc := 8) C dX11_goesOut_8 rfl rfl ?_
  refine r_imul (pc := 9) C dX11_goesOut_9 ?_
  refine r_iadd (pc := 10) C dX11_goesOut_10 ?_
  refine r_iload_n (pc := 11) C dX11_goesOut_11 rfl rfl ?_
  refine r_iadd (pc := 12) C dX11_goesOut_12 ?_
  refine r_lconst (pc := 13) (v := lN 1) C dX11_goesOut_13 rfl ?_
  obtain ⟨g1, h⟩ := xGb_of h
  refine r_last (pc := 14) C (xknw M) g1 dX11_goesOut_14 ?_
  refine r_letM h (fun M2 h => ?_)
  refine r_aload_n (pc := 15) C dX11_goesOut_15 rfl rfl ?_
  refine r_getW (pc := 16) C kX11_16 h0 dX11_goesOut_16 ?_
  refine r_bipush (pc := 19) (v := (nI 110)) C dX11_goesOut_19 (by decide) ?_
  refine r_bipush (pc := 21) (v := (nI 10)) C dX11_goesOut_21 (by decide) ?_
  refine r_iload_n (pc := 23) C dX11_goesOut_23 rfl rfl ?_
  refine r_imul (pc := 24) C dX11_goesOut_24 ?_
  refine r_iadd (pc := 25) C dX11_goesOut_25 ?_
  refine r_aload_n (pc := 26) C dX11_goesOut_26 rfl rfl ?_
  refine r_bipush (pc := 27) (v := (nI 108)) C dX11_goesOut_27 (by decide) ?_
  refine r_iload_n (pc := 29) C dX11_goesOut_29 rfl rfl ?_
  refine r_iadd (pc := 30) C dX11_goesOut_30 ?_
  refine r_vI1 (pc := 31) C (fun r M' e => zX11_get X.1 a0 h0 ((nI 108) + a1) M2 r M' e) h0 (by decide) rfl mX11_get lX11_43 (by decide) (Nat.le_of_ble_eq_true rfl) dX11_goesOut_31 h (fun r3 M4 h => ?_)
  refine r_iadd (pc := 34) C dX11_goesOut_34 ?_
  refine r_iload_n (pc := 35) C dX11_goesOut_35 rfl rfl ?_
  refine r_i2l (pc := 36) C dX11_goesOut_36 ?_
  obtain ⟨g5, h⟩ := xGb_of h
  refine r_last (pc := 37) C (xknw M2) g5 dX11_goesOut_37 ?_
  refine r_letM h (fun M6 h => ?_)
  refine r_aload_n (pc := 38) C dX11_goesOut_38 rfl rfl ?_
  refine r_getW (pc := 39) C kX11_16 h0 dX11_goesOut_39 ?_
  refine r_bipush (pc := 42) (v := (nI 108)) C dX11_goesOut_42 (by decide) ?_
  refine r_iload_n (pc := 44) C dX11_goesOut_44 rfl rfl ?_
  refine r_iadd (pc := 45) C dX11_goesOut_45 ?_
  refine r_dup2 (pc := 46) C rfl rfl dX11_goesOut_46 ?_
  obtain ⟨g7, h⟩ := xGb_of h
  refine r_lald (pc := 47) C (xknw M6) g7 dX11_goesOut_47 ?_
  refine r_lconst (pc := 48) (v := lN 1) C dX11_goesOut_48 rfl ?_
  refine r_ladd (pc := 49) C dX11_goesOut_49 ?_
  obtain ⟨g8, h⟩ := xGb_of h
  refine r_last (pc := 50) C (xknw M6) g8 dX11_goesOut_50 ?_
  refine r_letM h (fun M9 h => ?_)
  exact r_vret (pc := 51) C R0 h dX11_goesOut_51
theorem dX11_leavesOuts_0 : decode cX11_leavesOuts 0 = .ok (.iconst 0, 1) := by decide +kernel
theorem dX11_leavesOuts_1 : decode cX11_leavesOuts 1 = .ok (.istore_n 3, 1) := by decide +kernel
theorem dX11_leavesOuts_2 : decode cX11_leavesOuts 2 = .ok (.aload_n 0, 1) := by decide +kernel
theorem dX11_leavesOuts_3 : decode cX11_leavesOuts 3 = .ok (.bipush 108, 2) := by decide +kernel
theorem dX11_leavesOuts_5 : decode cX11_leavesOuts 5 = .ok (.iload_n 1, 1) := by decide +kernel
theorem dX11_leavesOuts_6 : decode cX11_leavesOuts 6 = .ok (.iadd, 1) := by decide +kernel
theorem dX11_leavesOuts_7 : decode cX11_leavesOuts 7 = .ok (.invokevirtual 43, 3) := by decide +kernel
theorem dX11_leavesOuts_10 : decode cX11_leavesOuts 10 = .ok (.istore 4, 2) := by decide +kernel
theorem dX11_leavesOuts_12 : decode cX11_leavesOuts 12 = .ok (.iconst 0, 1) := by decide +kernel
theorem dX11_leavesOuts_13 : decode cX11_leavesOuts 13 = .ok (.istore 5, 2) := by decide +kernel
theorem dX11_leavesOuts_15 : decode cX11_leavesOuts 15 = .ok (.iload 5, 2) := by decide +kernel
theorem dX11_leavesOuts_17 : decode cX11_leavesOuts 17 = .ok (.iload 4, 2) := by decide +kernel
theorem dX11_leavesOuts_19 : decode cX11_leavesOuts 19 = .ok (.if_icmp .ge 54, 3) := by decide +kernel
theorem dX11_leavesOuts_22 : decode cX11_leavesOuts 22 = .ok (.aload_n 0, 1) := by decide +kernel
theorem dX11_leavesOuts_23 : decode cX11_leavesOuts 23 = .ok (.bipush 110, 2) := by decide +kernel
theorem dX11_leavesOuts_25 : decode cX11_leavesOuts 25 = .ok (.bipush 10, 2) := by decide +kernel
theorem dX11_leavesOuts_27 : decode cX11_leavesOuts 27 = .ok (.iload_n 1, 1) := by decide +kernel
theorem dX11_leavesOuts_28 : decode cX11_leavesOuts 28 = .ok (.imul, 1) := by decide +kernel
theorem dX11_leavesOuts_29 : decode cX11_leavesOuts 29 = .ok (.iadd, 1) := by decide +kernel
theorem dX11_leavesOuts_30 : decode cX11_leavesOuts 30 = .ok (.iload 5, 2) := by decide +kernel
theorem dX11_leavesOuts_32 : decode cX11_leavesOuts 32 = .ok (.iadd, 1) := by decide +kernel
theorem dX11_leavesOuts_33 : decode cX11_leavesOuts 33 = .ok (.invokevirtual 43, 3) := by decide +kernel
theorem dX11_leavesOuts_36 : decode cX11_leavesOuts 36 = .ok (.istore 6, 2) := by decide +kernel
theorem dX11_leavesOuts_38 : decode cX11_leavesOuts 38 = .ok (.iload 6, 2) := by decide +kernel
theorem dX11_leavesOuts_40 : decode cX11_leavesOuts 40 = .ok (.iload_n 2, 1) := by decide +kernel
theorem dX11_leavesOuts_41 : decode cX11_leavesOuts 41 = .ok (.if_icmp .ne 6, 3) := by decide +kernel
theorem dX11_leavesOuts_44 : decode cX11_leavesOuts 44 = .ok (.goto 23, 3) := by decide +kernel
theorem dX11_leavesOuts_47 : decode cX11_leavesOuts 47 = .ok (.aload_n 0, 1) := by decide +kernel
theorem dX11_leavesOuts_48 : decode cX11_leavesOuts 48 = .ok (.getfield 16, 3) := by decide +kernel
theorem dX11_leavesOuts_51 : decode cX11_leavesOuts 51 = .ok (.bipush 110, 2) := by decide +kernel
theorem dX11_leavesOuts_53 : decode cX11_leavesOuts 53 = .ok (.bipush 10, 2) := by decide +kernel
theorem dX11_leavesOuts_55 : decode cX11_leavesOuts 55 = .ok (.iload_n 1, 1) := by decide +kernel
theorem dX11_leavesOuts_56 : decode cX11_leavesOuts 56 = .ok (.imul, 1) := by decide +kernel
theorem dX11_leavesOuts_57 : decode cX11_leavesOuts 57 = .ok (.iadd, 1) := by decide +kernel
theorem dX11_leavesOuts_58 : decode cX11_leavesOuts 58 = .ok (.iload_n 3, 1) := by decide +kernel
theorem dX11_leavesOuts_59 : decode cX11_leavesOuts 59 = .ok (.iadd, 1) := by decide +kernel
theorem dX11_leavesOuts_60 : decode cX11_leavesOuts 60 = .ok (.iload 6, 2) := by decide +kernel
theorem dX11_leavesOuts_62 : decode cX11_leavesOuts 62 = .ok (.i2l, 1) := by decide +kernel
theorem dX11_leavesOuts_63 : decode cX11_leavesOuts 63 = .ok (.lastore, 1) := by decide +kernel
theorem dX11_leavesOuts_64 : decode cX11_leavesOuts 64 = .ok (.iinc 3 1, 3) := by decide +kernel
theorem dX11_leavesOuts_67 : decode cX11_leavesOuts 67 = .ok (.iinc 5 1, 3) := by decide +kernel
theorem dX11_leavesOuts_70 : decode cX11_leavesOuts 70 = .ok (.goto (-55), 3) := by decide +kernel
theorem dX11_leavesOuts_73 : decode cX11_leavesOuts 73 = .ok (.aload_n 0, 1) := by decide +kernel
theorem dX11_leavesOuts_74 : decode cX11_leavesOuts 74 = .ok (.getfield 16, 3) := by decide +kernel
theorem dX11_leavesOuts_77 : decode cX11_leavesOuts 77 = .ok (.bipush 108, 2) := by decide +kernel
theorem dX11_leavesOuts_79 : decode cX11_leavesOuts 79 = .ok (.iload_n 1, 1) := by decide +kernel
theorem dX11_leavesOuts_80 : decode cX11_leavesOuts 80 = .ok (.iadd, 1) := by decide +kernel
theorem dX11_leavesOuts_81 : decode cX11_leavesOuts 81 = .ok (.iload_n 3, 1) := by decide +kernel
theorem dX11_leavesOuts_82 : decode cX11_leavesOuts 82 = .ok (.i2l, 1) := by decide +kernel
theorem dX11_leavesOuts_83 : decode cX11_leavesOuts 83 = .ok (.lastore, 1) := by decide +kernel
theorem dX11_leavesOuts_84 : decode cX11_leavesOuts 84 = .ok (.return_, 1) := by decide +kernel
def fX11_leavesOuts_l15 (p0 : Nat) (p1 : Int32) (p2 : Int32) (p4 : Int32) (K : Int32 → Int32 → xMem → Option (xMem)) : Nat → Int32 → Int32 → xMem → Option (xMem)
  | 0, _, _, _ => none
  | n + 1, v3, v5, M => if p4 ≤ v5 then (K v3 v5 M) else (xBn (fX11_get p0 (((nI 110) + ((nI 10) * p1)) + v5) M) fun r3 M4 => if r3 = p2 then (xLt (v5 + nI 1) fun x9 => fX11_leavesOuts_l15 p0 p1 p2 p4 K n v3 x9 M4) else (xGb (((nI 110) + ((nI 10) * p1)) + v3) (xln (xnw M4)) (xLt (xwL M4 (xnw M4) (Int32.toNatClampNeg (((nI 110) + ((nI 10) * p1)) + v3)) (Int32.toInt64 r3)) fun M6 => xLt (v3 + nI 1) fun x7 => xLt (v5 + nI 1) fun x8 => fX11_leavesOuts_l15 p0 p1 p2 p4 K n x7 x8 M6)))
def fX11_leavesOuts (a0 : Nat) (a1 : Int32) (a2 : Int32) (M : xMem) : Option (xMem) :=
  xBn (fX11_get a0 ((nI 108) + a1) M) fun r1 M2 => fX11_leavesOuts_l15 a0 a1 a2 r1 (fun (v10 : Int32) (v11 : Int32) (M12 : xMem) => xGb ((nI 108) + a1) (xln (xnw M12)) (xLt (xwL M12 (xnw M12) (Int32.toNatClampNeg ((nI 108) + a1)) (Int32.toInt64 v10)) fun M14 => some M14)) xFU (nI 0) (nI 0) M2
set_option maxRecDepth 100000 in
set_option maxHeartbeats 4000000 in
theorem lX11_leavesOuts_15 {X : xCX} {M' : xMem} (C : xCk X cX11_leavesOuts RX11 2) (R0 : xRk X none (none, M')) (hnL : X.2.2.2.2.2.2.2.2.2.2.2.2.2 = 7) (p0 : Nat) (hp0 : xkd p0 = 11) (p1 : Int32) (p2 : Int32) (p4 : Int32) (K : Int32 → Int32 → xMem → Option (xMem)) (hK : ∀ (v3 : Int32) (v5 : Int32) (M : xMem), K v3 v5 M = some M' → WW X 73 [some (vr X.1 p0), some (.int p1), some (.int p2), some (.int v3), some (.int p4), some (.int v5), none] [] M) : ∀ (n : Nat) (v3 : Int32) (v5 : Int32) (M : xMem), fX11_leavesOuts_l15 p0 p1 p2 p4 K n v3 v5 M = some M' → WW X 15 [some (vr X.1 p0), some (.int p1), some (.int p2), some (.int v3), some (.int p4), some (.int v5), none] [] M := by
  have hn3 : 3 < X.2.2.2.2.2.2.2.2.2.2.2.2.2 := by rw [hnL]; decide
  have hn4 : 4 < X.2.2.2.2.2.2.2.2.2.2.2.2.2 := by rw [hnL]; decide
  have hn5 : 5 < X.2.2.2.2.2.2.2.2.2.2.2.2.2 := by rw [hnL]; decide
  have hn6 : 6 < X.2.2.2.2.2.2.2.2.2.2.2.2.2 := by rw [hnL]; decide
  intro n
  induction n with
  | zero =>
    intro v3 v5 M h
    cases (show (none : Option (xMem)) = some M' from h)
  | succ n ih =>
    intro v3 v5 M h
    rw [fX11_leavesOuts_l15.eq_2] at h
    refine r_iload (pc := 15) C dX11_leavesOuts_15 rfl ?_
    refine r_iload (pc := 17) C dX11_leavesOuts_17 rfl ?_
    refine r_icmp_ge (pc := 19) (tgt := 73) C dX11_leavesOuts_19 (by decide) h (fun _ h => ?_) (fun _ h => ?_)
    · exact hK v3 v5 M h
    · refine r_aload_n (pc := 22) C dX11_leavesOuts_22 rfl rfl ?_
      refine r_bipush (pc := 23) (v := (nI 110)) C dX11_leavesOuts_23 (by decide) ?_
      refine r_bipush (pc := 25) (v := (nI 10)) C dX11_leavesOuts_25 (by decide) ?_
      refine r_iload_n (pc := 27) C dX11_leavesOuts_27 rfl rfl ?_
      refine r_imul (pc := 28) C dX11_leavesOuts_28 ?_
      refine r_iadd (pc := 29) C dX11_leavesOuts_29 ?_
      refine r_iload (pc := 30) C dX11_leavesOuts_30 rfl ?_
      refine r_iadd (pc := 32) C dX11_leavesOuts_32 ?_
      refine r_vI1 (pc := 33) C (fun r M' e => zX11_get X.1 p0 hp0 (((nI 110) + ((nI 10) * p1)) + v5) M r M' e) hp0 (by decide) rfl mX11_get lX11_43 (by decide) (Nat.le_of_ble_eq_true rfl) dX11_leavesOuts_33 h (fun r3 M4 h => ?_)
      refine r_istore (pc := 36) (lv' := [_, _, _, _, _, _, _]) C dX11_leavesOuts_36 hn6 rfl ?_
      refine r_iload (pc := 38) C dX11_leavesOuts_38 rfl ?_
      refine r_iload_n (pc := 40) C dX11_leavesOuts_40 rfl rfl ?_
      refine r_icmp_ne (pc := 41) (tgt := 47) C dX11_leavesOuts_41 (by decide) h (fun _ h => ?_) (fun _ h => ?_)
      · refine r_aload_n (pc := 47) C dX11_leavesOuts_47 rfl rfl ?_
        refine r_getW (pc := 48) C kX11_16 hp0 dX11_leavesOuts_48 ?_
        refine r_bipush (pc := 51) (v := (nI 110)) C dX11_leavesOuts_51 (by decide) ?_
        refine r_bipush (pc := 53) (v := (nI 10)) C dX11_leavesOuts_53 (by decide) ?_
        refine r_iload_n (pc := 55) C dX11_leavesOuts_55 rfl rfl ?_
        refine r_imul (pc := 56) C dX11_leavesOuts_56 ?_
        refine r_iadd (pc := 57) C dX11_leavesOuts_57 ?_
        refine r_iload_n (pc := 58) C dX11_leavesOuts_58 rfl rfl ?_
        refine r_iadd (pc := 59) C dX11_leavesOuts_59 ?_
        refine r_iload (pc := 60) C dX11_leavesOuts_60 rfl ?_
        refine r_i2l (pc := 62) C dX11_leavesOuts_62 ?_
        obtain ⟨g5, h⟩ := xGb_of h
        refine r_last (pc := 63) C (xknw M4) g5 dX11_leavesOuts_63 ?_
        refine r_letM h (fun M6 h => ?_)
        refine r_iincL (pc := 64) (c := nI 1) C dX11_leavesOuts_64 rfl (by decide) hn3 h (fun x7 h => ?_)
        refine r_lvE (lv' := [_, _, _, _, _, _, _]) rfl ?_
        refine r_iincL (pc := 67) (c := nI 1) C dX11_leavesOuts_67 rfl (by decide) hn5 h (fun x8 h => ?_)
        refine r_lvE (lv' := [_, _, _, _, _, _, _]) rfl ?_
        refine r_goto (pc := 70) (tgt := 15) C dX11_leavesOuts_70 (by decide) ?_
        exact r_lv (xle_at (xle_some rfl (xle_some rfl (xle_some rfl (xle_some rfl (xle_some rfl (xle_some rfl (xle_none xle_nil)))))))) (ih x7 x8 M6 h)
      · refine r_goto (pc := 44) (tgt := 67) C dX11_leavesOuts_44 (by decide) ?_
        refine r_iincL (pc := 67) (c := nI 1) C dX11_leavesOuts_67 rfl (by decide) hn5 h (fun x9 h => ?_)
        refine r_lvE (lv' := [_, _, _, _, _, _, _]) rfl ?_
        refine r_goto (pc := 70) (tgt := 15) C dX11_leavesOuts_70 (by decide) ?_
        exact r_lv (xle_at (xle_some rfl (xle_some rfl (xle_some rfl (xle_some rfl (xle_some rfl (xle_some rfl (xle_none xle_nil)))))))) (ih v3 x9 M4 h)
set_option maxRecDepth 100000 in
set_option maxHeartbeats 4000000 in
theorem zX11_leavesOuts (G : xGX) (a0 : Nat) (h0 : xkd a0 = 11) (a1 : Int32) (a2 : Int32) (M : xMem) (M' : xMem) (h : fX11_leavesOuts a0 a1 a2 M = some M') : xCt G yX11_leavesOuts cX11_leavesOuts 7 none 2 [vr G a0, .int a1, .int a2] M (none, M') := by
  refine xMet (lv := [some (vr G a0), some (.int a1), some (.int a2), none, none, none, none]) (by decide) (Nat.le_of_ble_eq_true rfl) rfl ?_
  intro X hG hnL C R0
  subst hG
  have C : xCk X cX11_leavesOuts RX11 2 := C
  have hn3 : 3 < X.2.2.2.2.2.2.2.2.2.2.2.2.2 := by rw [hnL]; decide
  have hn4 : 4 < X.2.2.2.2.2.2.2.2.2.2.2.2.2 := by rw [hnL]; decide
  have hn5 : 5 < X.2.2.2.2.2.2.2.2.2.2.2.2.2 := by rw [hnL]; decide
  have hn6 : 6 < X.2.2.2.2.2.2.2.2.2.2.2.2.2 := by rw [hnL]; decide
  unfold fX11_leavesOuts at h
  refine r_iconst (pc := 0) (v := (nI 0)) C dX11_leavesOuts_0 (by decide) ?_
  refine r_istore_n (pc := 1) (lv' := [_, _, _, _, _, _, _]) C dX11_leavesOuts_1 rfl hn3 rfl ?_
  refine r_aload_n (pc := 2) C dX11_leavesOuts_2 rfl rfl ?_
  refine r_bipush (pc := 3) (v := (nI 108)) C dX11_leavesOuts_3 (by decide) ?_
  refine r_iload_n (pc := 5) C dX11_leavesOuts_5 rfl rfl ?_
  refine r_iadd (pc := 6) C dX11_leavesOuts_6 ?_
  refine r_vI1 (pc := 7) C (fun r M' e => zX11_get X.1 a0 h0 ((nI 108) + a1) M r M' e) h0 (by decide) rfl mX11_get lX11_43 (by decide) (Nat.le_of_ble_eq_true rfl) dX11_leavesOuts_7 h (fun r1 M2 h => ?_)
  refine r_istore (pc := 10) (lv' := [_, _, _, _, _, _, _]) C dX11_leavesOuts_10 hn4 rfl ?_
  refine r_iconst (pc := 12) (v := (nI 0)) C dX11_leavesOuts_12 (by decide) ?_
  refine r_istore (pc := 13) (lv' := [_, _, _, _, _, _, _]) C dX11_leavesOuts_13 hn5 rfl ?_
  refine lX11_leavesOuts_15 C R0 hnL a0 h0 a1 a2 r1 _ (fun v10 v11 M12 h => ?_) _ _ _ _ h
  refine r_aload_n (pc := 73) C dX11_leavesOuts_73 rfl rfl ?_
  refine r_getW (pc := 74) C kX11_16 h0 dX11_leavesOuts_74 ?_
  refine r_bipush (pc := 77) (v := (nI 108)) C dX11_leavesOuts_77 (by decide) ?_
  refine r_iload_n (pc := 79) C dX11_leavesOuts_79 rfl rfl ?_
  refine r_iadd (pc := 80) C dX11_leavesOuts_80 ?_
  refine r_iload_n (pc := 81) C dX11_leavesOuts_81 rfl rfl ?_
  refine r_i2l (pc := 82) C dX11_leavesOuts_82 ?_
  obtain ⟨g13, h⟩ := xGb_of h
  refine r_last (pc := 83) C (xknw M12) g13 dX11_leavesOuts_83 ?_
  refine r_letM h (fun M14 h => ?_)
  exact r_vret (pc := 84) C R0 h dX11_leavesOuts_84
theorem dX11_back_0 : decode cX11_back 0 = .ok (.aload_n 0, 1) := by decide +kernel
theorem dX11_back_1 : decode cX11_back 1 = .ok (.getfield 16, 3) := by decide +kernel
theorem dX11_back_4 : decode cX11_back 4 = .ok (.bipush 108, 2) := by decide +kernel
theorem dX11_back_6 : decode cX11_back 6 = .ok (.iload_n 1, 1) := by decide +kernel
theorem dX11_back_7 : decode cX11_back 7 = .ok (.iadd, 1) := by decide +kernel
theorem dX11_back_8 : decode cX11_back 8 = .ok (.laload, 1) := by decide +kernel
theorem dX11_back_9 : decode cX11_back 9 = .ok (.lconst 0, 1) := by decide +kernel
theorem dX11_back_10 : decode cX11_back 10 = .ok (.lcmp, 1) := by decide +kernel
theorem dX11_back_11 : decode cX11_back 11 = .ok (.ifCond .ne 5, 3) := by decide +kernel
theorem dX11_back_14 : decode cX11_back 14 = .ok (.iconst 0, 1) := by decide +kernel
theorem dX11_back_15 : decode cX11_back 15 = .ok (.ireturn, 1) := by decide +kernel
theorem dX11_back_16 : decode cX11_back 16 = .ok (.aload_n 0, 1) := by decide +kernel
theorem dX11_back_17 : decode cX11_back 17 = .ok (.bipush 110, 2) := by decide +kernel
theorem dX11_back_19 : decode cX11_back 19 = .ok (.bipush 10, 2) := by decide +kernel
theorem dX11_back_21 : decode cX11_back 21 = .ok (.iload_n 1, 1) := by decide +kernel
theorem dX11_back_22 : decode cX11_back 22 = .ok (.imul, 1) := by decide +kernel
theorem dX11_back_23 : decode cX11_back 23 = .ok (.iadd, 1) := by decide +kernel
theorem dX11_back_24 : decode cX11_back 24 = .ok (.invokevirtual 43, 3) := by decide +kernel
theorem dX11_back_27 : decode cX11_back 27 = .ok (.istore_n 2, 1) := by decide +kernel
theorem dX11_back_28 : decode cX11_back 28 = .ok (.aload_n 0, 1) := by decide +kernel
theorem dX11_back_29 : decode cX11_back 29 = .ok (.iload_n 1, 1) := by decide +kernel
theorem dX11_back_30 : decode cX11_back 30 = .ok (.iload_n 2, 1) := by decide +kernel
theorem dX11_back_31 : decode cX11_back 31 = .ok (.invokevirtual 68, 3) := by decide +kernel
theorem dX11_back_34 : decode cX11_back 34 = .ok (.aload_n 0, 1) := by decide +kernel
theorem dX11_back_35 : decode cX11_back 35 = .ok (.getfield 16, 3) := by decide +kernel
theorem dX11_back_38 : decode cX11_back 38 = .ok (.bipush 48, 2) := by decide +kernel
theorem dX11_back_40 : decode cX11_back 40 = .ok (.bipush 10, 2) := by decide +kernel
theorem dX11_back_42 : decode cX11_back 42 = .ok (.iload_n 1, 1) := by decide +kernel
theorem dX11_back_43 : decode cX11_back 43 = .ok (.imul, 1) := by decide +kernel
theorem dX11_back_44 : decode cX11_back 44 = .ok (.iadd, 1) := by decide +kernel
theorem dX11_back_45 : decode cX11_back 45 = .ok (.iload_n 2, 1) := by decide +kernel
theorem dX11_back_46 : decode cX11_back 46 = .ok (.iadd, 1) := by decide +kernel
theorem dX11_back_47 : decode cX11_back 47 = .ok (.lconst 0, 1) := by decide +kernel
theorem dX11_back_48 : decode cX11_back 48 = .ok (.lastore, 1) := by decide +kernel
theorem dX11_back_49 : decode cX11_back 49 = .ok (.iconst 1, 1) := by decide +kernel
theorem dX11_back_50 : decode cX11_back 50 = .ok (.ireturn, 1) := by decide +kernel
def fX11_back (a0 : Nat) (a1 : Int32) (M : xMem) : Option (Int32 × xMem) :=
  xGb ((nI 108) + a1) (xln (xnw M)) (if (lg_cmp (M.2.1 (xnw M) (Int32.toNatClampNeg ((nI 108) + a1))) (lN 0)) = 0 then (some ((nI 0), M)) else (xBn (fX11_get a0 ((nI 110) + ((nI 10) * a1)) M) fun r2 M3 => xBv (fX11_leavesOuts a0 a1 r2 M3) fun M4 => xGb (((nI 48) + ((nI 10) * a1)) + r2) (xln (xnw M4)) (xLt (xwL M4 (xnw M4) (Int32.toNatClampNeg (((nI 48) + ((nI 10) * a1)) + r2)) (lN 0)) fun M6 => some ((nI 1), M6))))
set_option maxRecDepth 100000 in
set_option maxHeartbeats 4000000 in
theorem zX11_back (G : xGX) (a0 : Nat) (h0 : xkd a0 = 11) (a1 : Int32) (M : xMem) (r : Int32) (M' : xMem) (h : fX11_back a0 a1 M = some (r, M')) : xCt G yX11_back cX11_back 3 (some .int) 3 [vr G a0, .int a1] M (some (.int r), M') := by
  refine xMet (lv := [some (vr G a0), some (.int a1), none]) (by decide) (Nat.le_of_ble_eq_true rfl) rfl ?_
  intro X hG hnL C R0
  subst hG
  have C : xCk X cX11_back RX11 3 := C
  have hn2 : 2 < X.2.2.2.2.2.2.2.2.2.2.2.2.2 := by rw [hnL]; decide
  unfold fX11_back at h
  refine r_aload_n (pc := 0) C dX11_back_0 rfl rfl ?_
  refine r_getW (pc := 1) C kX11_16 h0 dX11_back_1 ?_
  refine r_bipush (pc := 4) (v := (nI 108)) C dX11_back_4 (by decide) ?_
  refine r_iload_n (pc := 6) C dX11_back_6 rfl rfl ?_
  refine r_iadd (pc := 7) C dX11_back_7 ?_
  obtain ⟨g1, h⟩ := xGb_of h
  refine r_lald (pc := 8) C (xknw M) g1 dX11_back_8 ?_
  refine r_lconst (pc := 9) (v := lN 0) C dX11_back_9 rfl ?_
  refine r_lcmp (pc := 10) C dX11_back_10 ?_
  refine r_if_ne (pc := 11) (tgt := 16) C dX11_back_11 (by decide) h (fun _ h => ?_) (fun _ h => ?_)
  · refine r_aload_n (pc := 16) C dX11_back_16 rfl rfl ?_
    refine r_bipush (pc := 17) (v := (nI 110)) C dX11_back_17 (by decide) ?_
    refine r_bipush (pc := 19) (v := (nI 10)) C dX11_back_19 (by decide) ?_
    refine r_iload_n (pc := 21) C dX11_back_21 rfl rfl ?_
    refine r_imul (pc := 22) C dX11_back_22 ?_
    refine r_iadd (pc := 23) C dX11_back_23 ?_
    refine r_vI1 (pc := 24) C (fun r M' e => zX11_get X.1 a0 h0 ((nI 110) + ((nI 10) * a1)) M r M' e) h0 (by decide) rfl mX11_get lX11_43 (by decide) (Nat.le_of_ble_eq_true rfl) dX11_back_24 h (fun r2 M3 h => ?_)
    refine r_istore_n (pc := 27) (lv' := [_, _, _]) C dX11_back_27 rfl hn2 rfl ?_
    refine r_aload_n (pc := 28) C dX11_back_28 rfl rfl ?_
    refine r_iload_n (pc := 29) C dX11_back_29 rfl rfl ?_
    refine r_iload_n (pc := 30) C dX11_back_30 rfl rfl ?_
    refine r_vV2 (pc := 31) C (fun M' e => zX11_leavesOuts X.1 a0 h0 a1 r2 M3 M' e) h0 (by decide) rfl mX11_leavesOuts lX11_68 (by decide) (Nat.le_of_ble_eq_true rfl) dX11_back_31 h (fun M4 h => ?_)
    refine r_aload_n (pc := 34) C dX11_back_34 rfl rfl ?_
    refine r_getW (pc := 35) C kX11_16 h0 dX11_back_35 ?_
    refine r_bipush (pc := 38) (v := (nI 48)) C dX11_back_38 (by decide) ?_
    refine r_bipush (pc := 40) (v := (nI 10)) C dX11_back_40 (by decide) ?_
    refine r_iload_n (pc := 42) C dX11_back_42 rfl rfl ?_
    refine r_imul (pc := 43) C dX11_back_43 ?_
    refine r_iadd (pc := 44) C dX11_back_44 ?_
    refine r_iload_n (pc := 45) C dX11_back_45 rfl rfl ?_
    refine r_iadd (pc := 46) C dX11_back_46 ?_
    refine r_lconst (pc := 47) (v := lN 0) C dX11_back_47 rfl ?_
    obtain ⟨g5, h⟩ := xGb_of h
    refine r_last (pc := 48) C (xknw M4) g5 dX11_back_48 ?_
    refine r_letM h (fun M6 h => ?_)
    refine r_iconst (pc := 49) (v := (nI 1)) C dX11_back_49 (by decide) ?_
    exact r_iret (pc := 50) C R0 h dX11_back_50
  · refine r_iconst (pc := 14) (v := (nI 0)) C dX11_back_14 (by decide) ?_
    exact r_iret (pc := 15) C R0 h dX11_back_15
theorem dX11_scores_0 : decode cX11_scores 0 = .ok (.aload_n 0, 1) := by decide +kernel
theorem dX11_scores_1 : decode cX11_scores 1 = .ok (.getfield 16, 3) := by decide +kernel
theorem dX11_scores_4 : decode cX11_scores 4 = .ok (.bipush 36, 2) := by decide +kernel
theorem dX11_scores_6 : decode cX11_scores 6 = .ok (.bipush 6, 2) := by decide +kernel
theorem dX11_scores_8 : decode cX11_scores 8 = .ok (.iload_n 1, 1) := by decide +kernel
theorem dX11_scores_9 : decode cX11_scores 9 = .ok (.imul, 1) := by decide +kernel
theorem dX11_scores_10 : decode cX11_scores 10 = .ok (.iadd, 1) := by decide +kernel
theorem dX11_scores_11 : decode cX11_scores 11 = .ok (.iload_n 2, 1) := by decide +kernel
theorem dX11_scores_12 : decode cX11_scores 12 = .ok (.iadd, 1) := by decide +kernel
theorem dX11_scores_13 : decode cX11_scores 13 = .ok (.dup2, 1) := by decide +kernel
theorem dX11_scores_14 : decode cX11_scores 14 = .ok (.laload, 1) := by decide +kernel
theorem dX11_scores_15 : decode cX11_scores 15 = .ok (.iload_n 3, 1) := by decide +kernel
theorem dX11_scores_16 : decode cX11_scores 16 = .ok (.i2l, 1) := by decide +kernel
theorem dX11_scores_17 : decode cX11_scores 17 = .ok (.ladd, 1) := by decide +kernel
theorem dX11_scores_18 : decode cX11_scores 18 = .ok (.lastore, 1) := by decide +kernel
theorem dX11_scores_19 : decode cX11_scores 19 = .ok (.return_, 1) := by decide +kernel
def fX11_scores (a0 : Nat) (a1 : Int32) (a2 : Int32) (a3 : Int32) (M : xMem) : Option (xMem) :=
  xGb (((nI 36) + ((nI 6) * a1)) + a2) (xln (xnw M)) (xGb (((nI 36) + ((nI 6) * a1)) + a2) (xln (xnw M)) (xLt (xwL M (xnw M) (Int32.toNatClampNeg (((nI 36) + ((nI 6) * a1)) + a2)) ((M.2.1 (xnw M) (Int32.toNatClampNeg (((nI 36) + ((nI 6) * a1)) + a2))) + (Int32.toInt64 a3))) fun M3 => some M3))
set_option maxRecDepth 100000 in
set_option maxHeartbeats 4000000 in
theorem zX11_scores (G : xGX) (a0 : Nat) (h0 : xkd a0 = 11) (a1 : Int32) (a2 : Int32) (a3 : Int32) (M : xMem) (M' : xMem) (h : fX11_scores a0 a1 a2 a3 M = some M') : xCt G yX11_scores cX11_scores 4 none 1 [vr G a0, .int a1, .int a2, .int a3] M (none, M') := by
  refine xMet (lv := [some (vr G a0), some (.int a1), some (.int a2), some (.int a3)]) (by decide) (Nat.le_of_ble_eq_true rfl) rfl ?_
  intro X hG hnL C R0
  subst hG
  have C : xCk X cX11_scores RX11 1 := C
  unfold fX11_scores at h
  refine r_aload_n (pc := 0) C dX11_scores_0 rfl rfl ?_
  refine r_getW (pc := 1) C kX11_16 h0 dX11_scores_1 ?_
  refine r_bipush (pc := 4) (v := (nI 36)) C dX11_scores_4 (by decide) ?_
  refine r_bipush (pc := 6) (v := (nI 6)) C dX11_scores_6 (by decide) ?_
  refine r_iload_n (pc := 8) C dX11_scores_8 rfl rfl ?_
  refine r_imul (pc := 9) C dX11_scores_9 ?_
  refine r_iadd (pc := 10) C dX11_scores_10 ?_
  refine r_iload_n (pc := 11) C dX11_scores_11 rfl rfl ?_
  refine r_iadd (pc := 12) C dX11_scores_12 ?_
  refine r_dup2 (pc := 13) C rfl rfl dX11_scores_13 ?_
  obtain ⟨g1, h⟩ := xGb_of h
  refine r_lald (pc := 14) C (xknw M) g1 dX11_scores_14 ?_
  refine r_iload_n (pc := 15) C dX11_scores_15 rfl rfl ?_
  refine r_i2l (pc := 16) C dX11_scores_16 ?_
  refine r_ladd (pc := 17) C dX11_scores_17 ?_
  obtain ⟨g2, h⟩ := xGb_of h
  refine r_last (pc := 18) C (xknw M) g2 dX11_scores_18 ?_
  refine r_letM h (fun M3 h => ?_)
  exact r_vret (pc := 19) C R0 h dX11_scores_19
theorem dX11_allOutOf_0 : decode cX11_allOutOf 0 = .ok (.aload_n 0, 1) := by decide +kernel
theorem dX11_allOutOf_1 : decode cX11_allOutOf 1 = .ok (.iload_n 1, 1) := by decide +kernel
theorem dX11_allOutOf_2 : decode cX11_allOutOf 2 = .ok (.iconst 0, 1) := by decide +kernel
theorem dX11_allOutOf_3 : decode cX11_allOutOf 3 = .ok (.invokevirtual 72, 3) := by decide +kernel
theorem dX11_allOutOf_6 : decode cX11_allOutOf 6 = .ok (.ifCond .ne 17, 3) := by decide +kernel
theorem dX11_allOutOf_9 : decode cX11_allOutOf 9 = .ok (.aload_n 0, 1) := by decide +kernel
theorem dX11_allOutOf_10 : decode cX11_allOutOf 10 = .ok (.getfield 16, 3) := by decide +kernel
theorem dX11_allOutOf_13 : decode cX11_allOutOf 13 = .ok (.bipush 108, 2) := by decide +kernel
theorem dX11_allOutOf_15 : decode cX11_allOutOf 15 = .ok (.iload_n 1, 1) := by decide +kernel
theorem dX11_allOutOf_16 : decode cX11_allOutOf 16 = .ok (.iadd, 1) := by decide +kernel
theorem dX11_allOutOf_17 : decode cX11_allOutOf 17 = .ok (.laload, 1) := by decide +kernel
theorem dX11_allOutOf_18 : decode cX11_allOutOf 18 = .ok (.lconst 0, 1) := by decide +kernel
theorem dX11_allOutOf_19 : decode cX11_allOutOf 19 = .ok (.lcmp, 1) := by decide +kernel
theorem dX11_allOutOf_20 : decode cX11_allOutOf 20 = .ok (.ifCond .ne 5, 3) := by decide +kernel
theorem dX11_allOutOf_23 : decode cX11_allOutOf 23 = .ok (.iconst 0, 1) := by decide +kernel
theorem dX11_allOutOf_24 : decode cX11_allOutOf 24 = .ok (.ireturn, 1) := by decide +kernel
theorem dX11_allOutOf_25 : decode cX11_allOutOf 25 = .ok (.iconst 0, 1) := by decide +kernel
theorem dX11_allOutOf_26 : decode cX11_allOutOf 26 = .ok (.istore_n 2, 1) := by decide +kernel
theorem dX11_allOutOf_27 : decode cX11_allOutOf 27 = .ok (.aload_n 0, 1) := by decide +kernel
theorem dX11_allOutOf_28 : decode cX11_allOutOf 28 = .ok (.getfield 16, 3) := by decide +kernel
theorem dX11_allOutOf_31 : decode cX11_allOutOf 31 = .ok (.bipush 108, 2) := by decide +kernel
theorem dX11_allOutOf_33 : decode cX11_allOutOf 33 = .ok (.iload_n 1, 1) := by decide +kernel
theorem dX11_allOutOf_34 : decode cX11_allOutOf 34 = .ok (.iadd, 1) := by decide +kernel
theorem dX11_allOutOf_35 : decode cX11_allOutOf 35 = .ok (.laload, 1) := by decide +kernel
theorem dX11_allOutOf_36 : decode cX11_allOutOf 36 = .ok (.lconst 0, 1) := by decide +kernel
theorem dX11_allOutOf_37 : decode cX11_allOutOf 37 = .ok (.lcmp, 1) := by decide +kernel
theorem dX11_allOutOf_38 : decode cX11_allOutOf 38 = .ok (.ifCond .le 14, 3) := by decide +kernel
theorem dX11_allOutOf_41 : decode cX11_allOutOf 41 = .ok (.iload_n 2, 1) := by decide +kernel
theorem dX11_allOutOf_42 : decode cX11_allOutOf 42 = .ok (.aload_n 0, 1) := by decide +kernel
theorem dX11_allOutOf_43 : decode cX11_allOutOf 43 = .ok (.iload_n 1, 1) := by decide +kernel
theorem dX11_allOutOf_44 : decode cX11_allOutOf 44 = .ok (.invokevirtual 75, 3) := by decide +kernel
theorem dX11_allOutOf_47 : decode cX11_allOutOf 47 = .ok (.iadd, 1) := by decide +kernel
theorem dX11_allOutOf_48 : decode cX11_allOutOf 48 = .ok (.istore_n 2, 1) := by decide +kernel
theorem dX11_allOutOf_49 : decode cX11_allOutOf 49 = .ok (.goto (-22), 3) := by decide +kernel
theorem dX11_allOutOf_52 : decode cX11_allOutOf 52 = .ok (.aload_n 0, 1) := by decide +kernel
theorem dX11_allOutOf_53 : decode cX11_allOutOf 53 = .ok (.iconst 1, 1) := by decide +kernel
theorem dX11_allOutOf_54 : decode cX11_allOutOf 54 = .ok (.iload_n 1, 1) := by decide +kernel
theorem dX11_allOutOf_55 : decode cX11_allOutOf 55 = .ok (.isub, 1) := by decide +kernel
theorem dX11_allOutOf_56 : decode cX11_allOutOf 56 = .ok (.iconst 4, 1) := by decide +kernel
theorem dX11_allOutOf_57 : decode cX11_allOutOf 57 = .ok (.iconst 2, 1) := by decide +kernel
theorem dX11_allOutOf_58 : decode cX11_allOutOf 58 = .ok (.invokevirtual 78, 3) := by decide +kernel
theorem dX11_allOutOf_61 : decode cX11_allOutOf 61 = .ok (.iconst 1, 1) := by decide +kernel
theorem dX11_allOutOf_62 : decode cX11_allOutOf 62 = .ok (.ireturn, 1) := by decide +kernel
def fX11_allOutOf_l27 (p0 : Nat) (p1 : Int32) (K : Int32 → xMem → Option (Int32 × xMem)) : Nat → Int32 → xMem → Option (Int32 × xMem)
  | 0, _, _ => none
  | n + 1, v2, M => xGb ((nI 108) + p1) (xln (xnw M)) (if (lg_cmp (M.2.1 (xnw M) (Int32.toNatClampNeg ((nI 108) + p1))) (lN 0)) ≤ 0 then (K v2 M) else (xBn (fX11_back p0 p1 M) fun r5 M6 => xLt (v2 + r5) fun x7 => fX11_allOutOf_l27 p0 p1 K n x7 M6))
def fX11_allOutOf (a0 : Nat) (a1 : Int32) (M : xMem) : Option (Int32 × xMem) :=
  xBn (fX11_thoseOf a0 a1 (nI 0) M) fun r1 M2 => if r1 = 0 then (xGb ((nI 108) + a1) (xln (xnw M2)) (if (lg_cmp (M2.2.1 (xnw M2) (Int32.toNatClampNeg ((nI 108) + a1))) (lN 0)) = 0 then (some ((nI 0), M2)) else (fX11_allOutOf_l27 a0 a1 (fun (v8 : Int32) (M9 : xMem) => xBv (fX11_scores a0 ((nI 1) - a1) (nI 4) (nI 2) M9) fun M10 => some ((nI 1), M10)) xFU (nI 0) M2))) else (some ((nI 0), M2))
set_option maxRecDepth 100000 in
set_option maxHeartbeats 4000000 in
theorem lX11_allOutOf_27 {X : xCX} {r : Int32} {M' : xMem} (C : xCk X cX11_allOutOf RX11 4) (R0 : xRk X (some .boolean) (some (.int r), M')) (hnL : X.2.2.2.2.2.2.2.2.2.2.2.2.2 = 3) (p0 : Nat) (hp0 : xkd p0 = 11) (p1 : Int32) (K : Int32 → xMem → Option (Int32 × xMem)) (hK : ∀ (v2 : Int32) (M : xMem), K v2 M = some (r, M') → WW X 52 [some (vr X.1 p0), some (.int p1), some (.int v2)] [] M) : ∀ (n : Nat) (v2 : Int32) (M : xMem), fX11_allOutOf_l27 p0 p1 K n v2 M = some (r, M') → WW X 27 [some (vr X.1 p0), some (.int p1), some (.int v2)] [] M := by
  have hn2 : 2 < X.2.2.2.2.2.2.2.2.2.2.2.2.2 := by rw [hnL]; decide
  intro n
  induction n with
  | zero =>
    intro v2 M h
    cases (show (none : Option (Int32 × xMem)) = some (r, M') from h)
  | succ n ih =>
    intro v2 M h
    rw [fX11_allOutOf_l27.eq_2] at h
    refine r_aload_n (pc := 27) C dX11_allOutOf_27 rfl rfl ?_
    refine r_getW (pc := 28) C kX11_16 hp0 dX11_allOutOf_28 ?_
    refine r_bipush (pc := 31) (v := (nI 108)) C dX11_allOutOf_31 (by decide) ?_
    refine r_iload_n (pc := 33) C dX11_allOutOf_33 rfl rfl ?_
    refine r_iadd (pc := 34) C dX11_allOutOf_34 ?_
    obtain ⟨g4, h⟩ := xGb_of h
    refine r_lald (pc := 35) C (xknw M) g4 dX11_allOutOf_35 ?_
    refine r_lconst (pc := 36) (v := lN 0) C dX11_allOutOf_36 rfl ?_
    refine r_lcmp (pc := 37) C dX11_allOutOf_37 ?_
    refine r_if_le (pc := 38) (tgt := 52) C dX11_allOutOf_38 (by decide) h (fun _ h => ?_) (fun _ h => ?_)
    · exact hK v2 M h
    · refine r_iload_n (pc := 41) C dX11_allOutOf_41 rfl rfl ?_
      refine r_aload_n (pc := 42) C dX11_allOutOf_42 rfl rfl ?_
      refine r_iload_n (pc := 43) C dX11_allOutOf_43 rfl rfl ?_
      refine r_vI1 (pc := 44) C (fun r M' e => zX11_back X.1 p0 hp0 p1 M r M' e) hp0 (by decide) rfl mX11_back lX11_75 (by decide) (Nat.le_of_ble_eq_true rfl) dX11_allOutOf_44 h (fun r5 M6 h => ?_)
      refine r_iadd (pc := 47) C dX11_allOutOf_47 ?_
      refine r_letI h (fun x7 h => ?_)
      refine r_istore_n (pc := 48) (lv' := [_, _, _]) C dX11_allOutOf_48 rfl hn2 rfl ?_
      refine r_goto (pc := 49) (tgt := 27) C dX11_allOutOf_49 (by decide) ?_
      exact ih x7 M6 h
set_option maxRecDepth 100000 in
set_option maxHeartbeats 4000000 in
theorem zX11_allOutOf (G : xGX) (a0 : Nat) (h0 : xkd a0 = 11) (a1 : Int32) (M : xMem) (r : Int32) (M' : xMem) (h : fX11_allOutOf a0 a1 M = some (r, M')) : xCt G yX11_allOutOf cX11_allOutOf 3 (some .boolean) 4 [vr G a0, .int a1] M (some (.int r), M') := by
  refine xMet (lv := [some (vr G a0), some (.int a1), none]) (by decide) (Nat.le_of_ble_eq_true rfl) rfl ?_
  intro X hG hnL C R0
  subst hG
  have C : xCk X cX11_allOutOf RX11 4 := C
  have hn2 : 2 < X.2.2.2.2.2.2.2.2.2.2.2.2.2 := by rw [hnL]; decide
  unfold fX11_allOutOf at h
  refine r_aload_n (pc := 0) C dX11_allOutOf_0 rfl rfl ?_
  refine r_iload_n (pc := 1) C dX11_allOutOf_1 rfl rfl ?_
  refine r_iconst (pc := 2) (v := (nI 0)) C dX11_allOutOf_2 (by decide) ?_
  refine r_vI2 (pc := 3) C (fun r M' e => zX11_thoseOf X.1 a0 h0 a1 (nI 0) M r M' e) h0 (by decide) rfl mX11_thoseOf lX11_72 (by decide) (Nat.le_of_ble_eq_true rfl) dX11_allOutOf_3 h (fun r1 M2 h => ?_)
  refine r_if_ne (pc := 6) (tgt := 23) C dX11_allOutOf_6 (by decide) h (fun _ h => ?_) (fun _ h => ?_)
  · refine r_iconst (pc := 23) (v := (nI 0)) C dX11_allOutOf_23 (by decide) ?_
    exact r_zret (pc := 24) (Or.inl (by decide)) C R0 h dX11_allOutOf_24
  · refine r_aload_n (pc := 9) C dX11_allOutOf_9 rfl rfl ?_
    refine r_getW (pc := 10) C kX11_16 h0 dX11_allOutOf_10 ?_
    refine r_bipush (pc := 13) (v := (nI 108)) C dX11_allOutOf_13 (by decide) ?_
    refine r_iload_n (pc := 15) C dX11_allOutOf_15 rfl rfl ?_
    refine r_iadd (pc := 16) C dX11_allOutOf_16 ?_
    obtain ⟨g3, h⟩ := xGb_of h
    refine r_lald (pc := 17) C (xknw M2) g3 dX11_allOutOf_17 ?_
    refine r_lconst (pc := 18) (v := lN 0) C dX11_allOutOf_18 rfl ?_
    refine r_lcmp (pc := 19) C dX11_allOutOf_19 ?_
    refine r_if_ne (pc := 20) (tgt := 25) C dX11_allOutOf_20 (by decide) h (fun _ h => ?_) (fun _ h => ?_)
    · refine r_iconst (pc := 25) (v := (nI 0)) C dX11_allOutOf_25 (by decide) ?_
      refine r_istore_n (pc := 26) (lv' := [_, _, _]) C dX11_allOutOf_26 rfl hn2 rfl ?_
      refine lX11_allOutOf_27 C R0 hnL a0 h0 a1 _ (fun v8 M9 h => ?_) _ _ _ h
      refine r_aload_n (pc := 52) C dX11_allOutOf_52 rfl rfl ?_
      refine r_iconst (pc := 53) (v := (nI 1)) C dX11_allOutOf_53 (by decide) ?_
      refine r_iload_n (pc := 54) C dX11_allOutOf_54 rfl rfl ?_
      refine r_isub (pc := 55) C dX11_allOutOf_55 ?_
      refine r_iconst (pc := 56) (v := (nI 4)) C dX11_allOutOf_56 (by decide) ?_
      refine r_iconst (pc := 57) (v := (nI 2)) C dX11_allOutOf_57 (by decide) ?_
      refine r_vV3 (pc := 58) C (fun M' e => zX11_scores X.1 a0 h0 ((nI 1) - a1) (nI 4) (nI 2) M9 M' e) h0 (by decide) rfl mX11_scores lX11_78 (by decide) (Nat.le_of_ble_eq_true rfl) dX11_allOutOf_58 h (fun M10 h => ?_)
      refine r_iconst (pc := 61) (v := (nI 1)) C dX11_allOutOf_61 (by decide) ?_
      exact r_zret (pc := 62) (Or.inr (by decide)) C R0 h dX11_allOutOf_62
    · refine r_iconst (pc := 23) (v := (nI 0)) C dX11_allOutOf_23 (by decide) ?_
      exact r_zret (pc := 24) (Or.inl (by decide)) C R0 h dX11_allOutOf_24
theorem dX11_waits_0 : decode cX11_waits 0 = .ok (.iconst 0, 1) := by decide +kernel
theorem dX11_waits_1 : decode cX11_waits 1 = .ok (.istore_n 1, 1) := by decide +kernel
theorem dX11_waits_2 : decode cX11_waits 2 = .ok (.iload_n 1, 1) := by decide +kernel
theorem dX11_waits_3 : decode cX11_waits 3 = .ok (.iconst 2, 1) := by decide +kernel
theorem dX11_waits_4 : decode cX11_waits 4 = .ok (.if_icmp .ge 85, 3) := by decide +kernel
theorem dX11_waits_7 : decode cX11_waits 7 = .ok (.iconst 0, 1) := by decide +kernel
theorem dX11_waits_8 : decode cX11_waits 8 = .ok (.istore_n 2, 1) := by decide +kernel
theorem dX11_waits_9 : decode cX11_waits 9 = .ok (.iload_n 2, 1) := by decide +kernel
theorem dX11_waits_10 : decode cX11_waits 10 = .ok (.aload_n 0, 1) := by decide +kernel
theorem dX11_waits_11 : decode cX11_waits 11 = .ok (.iload_n 1, 1) := by decide +kernel
theorem dX11_waits_12 : decode cX11_waits 12 = .ok (.invokevirtual 59, 3) := by decide +kernel
theorem dX11_waits_15 : decode cX11_waits 15 = .ok (.if_icmp .ge 68, 3) := by decide +kernel
theorem dX11_waits_18 : decode cX11_waits 18 = .ok (.bipush 68, 2) := by decide +kernel
theorem dX11_waits_20 : decode cX11_waits 20 = .ok (.bipush 10, 2) := by decide +kernel
theorem dX11_waits_22 : decode cX11_waits 22 = .ok (.iload_n 1, 1) := by decide +kernel
theorem dX11_waits_23 : decode cX11_waits 23 = .ok (.imul, 1) := by decide +kernel
theorem dX11_waits_24 : decode cX11_waits 24 = .ok (.iadd, 1) := by decide +kernel
theorem dX11_waits_25 : decode cX11_waits 25 = .ok (.iload_n 2, 1) := by decide +kernel
theorem dX11_waits_26 : decode cX11_waits 26 = .ok (.iadd, 1) := by decide +kernel
theorem dX11_waits_27 : decode cX11_waits 27 = .ok (.istore_n 3, 1) := by decide +kernel
theorem dX11_waits_28 : decode cX11_waits 28 = .ok (.aload_n 0, 1) := by decide +kernel
theorem dX11_waits_29 : decode cX11_waits 29 = .ok (.iload_n 1, 1) := by decide +kernel
theorem dX11_waits_30 : decode cX11_waits 30 = .ok (.iload_n 2, 1) := by decide +kernel
theorem dX11_waits_31 : decode cX11_waits 31 = .ok (.invokevirtual 62, 3) := by decide +kernel
theorem dX11_waits_34 : decode cX11_waits 34 = .ok (.iconst 3, 1) := by decide +kernel
theorem dX11_waits_35 : decode cX11_waits 35 = .ok (.if_icmp .eq 6, 3) := by decide +kernel
theorem dX11_waits_38 : decode cX11_waits 38 = .ok (.goto 39, 3) := by decide +kernel
theorem dX11_waits_41 : decode cX11_waits 41 = .ok (.aload_n 0, 1) := by decide +kernel
theorem dX11_waits_42 : decode cX11_waits 42 = .ok (.getfield 16, 3) := by decide +kernel
theorem dX11_waits_45 : decode cX11_waits 45 = .ok (.iload_n 3, 1) := by decide +kernel
theorem dX11_waits_46 : decode cX11_waits 46 = .ok (.dup2, 1) := by decide +kernel
theorem dX11_waits_47 : decode cX11_waits 47 = .ok (.laload, 1) := by decide +kernel
theorem dX11_waits_48 : decode cX11_waits 48 = .ok (.lconst 1, 1) := by decide +kernel
theorem dX11_waits_49 : decode cX11_waits 49 = .ok (.lsub, 1) := by decide +kernel
theorem dX11_waits_50 : decode cX11_waits 50 = .ok (.lastore, 1) := by decide +kernel
theorem dX11_waits_51 : decode cX11_waits 51 = .ok (.aload_n 0, 1) := by decide +kernel
theorem dX11_waits_52 : decode cX11_waits 52 = .ok (.getfield 16, 3) := by decide +kernel
theorem dX11_waits_55 : decode cX11_waits 55 = .ok (.iload_n 3, 1) := by decide +kernel
theorem dX11_waits_56 : decode cX11_waits 56 = .ok (.laload, 1) := by decide +kernel
theorem dX11_waits_57 : decode cX11_waits 57 = .ok (.lconst 0, 1) := by decide +kernel
theorem dX11_waits_58 : decode cX11_waits 58 = .ok (.lcmp, 1) := by decide +kernel
theorem dX11_waits_59 : decode cX11_waits 59 = .ok (.ifCond .ne 18, 3) := by decide +kernel
theorem dX11_waits_62 : decode cX11_waits 62 = .ok (.aload_n 0, 1) := by decide +kernel
theorem dX11_waits_63 : decode cX11_waits 63 = .ok (.getfield 16, 3) := by decide +kernel
theorem dX11_waits_66 : decode cX11_waits 66 = .ok (.bipush 48, 2) := by decide +kernel
theorem dX11_waits_68 : decode cX11_waits 68 = .ok (.bipush 10, 2) := by decide +kernel
theorem dX11_waits_70 : decode cX11_waits 70 = .ok (.iload_n 1, 1) := by decide +kernel
theorem dX11_waits_71 : decode cX11_waits 71 = .ok (.imul, 1) := by decide +kernel
theorem dX11_waits_72 : decode cX11_waits 72 = .ok (.iadd, 1) := by decide +kernel
theorem dX11_waits_73 : decode cX11_waits 73 = .ok (.iload_n 2, 1) := by decide +kernel
theorem dX11_waits_74 : decode cX11_waits 74 = .ok (.iadd, 1) := by decide +kernel
theorem dX11_waits_75 : decode cX11_waits 75 = .ok (.lconst 0, 1) := by decide +kernel
theorem dX11_waits_76 : decode cX11_waits 76 = .ok (.lastore, 1) := by decide +kernel
theorem dX11_waits_77 : decode cX11_waits 77 = .ok (.iinc 2 1, 3) := by decide +kernel
theorem dX11_waits_80 : decode cX11_waits 80 = .ok (.goto (-71), 3) := by decide +kernel
theorem dX11_waits_83 : decode cX11_waits 83 = .ok (.iinc 1 1, 3) := by decide +kernel
theorem dX11_waits_86 : decode cX11_waits 86 = .ok (.goto (-84), 3) := by decide +kernel
theorem dX11_waits_89 : decode cX11_waits 89 = .ok (.return_, 1) := by decide +kernel
def fX11_waits_l9 (p0 : Nat) (p1 : Int32) (K : Int32 → xMem → Option (xMem)) : Nat → Int32 → xMem → Option (xMem)
  | 0, _, _ => none
  | n + 1, v2, M => xBn (fX11_many p0 p1 M) fun r1 M2 => if r1 ≤ v2 then (K v2 M2) else (xLt (((nI 68) + ((nI 10) * p1)) + v2) fun x3 => xBn (fX11_isOf p0 p1 v2 M2) fun r4 M5 => if r4 = (nI 3) then (xGb x3 (xln (xnw M5)) (xGb x3 (xln (xnw M5)) (xLt (xwL M5 (xnw M5) (Int32.toNatClampNeg x3) ((M5.2.1 (xnw M5) (Int32.toNatClampNeg x3)) - (lN 1))) fun M8 => xGb x3 (xln (xnw M8)) (if (lg_cmp (M8.2.1 (xnw M8) (Int32.toNatClampNeg x3)) (lN 0)) = 0 then (xGb (((nI 48) + ((nI 10) * p1)) + v2) (xln (xnw M8)) (xLt (xwL M8 (xnw M8) (Int32.toNatClampNeg (((nI 48) + ((nI 10) * p1)) + v2)) (lN 0)) fun M12 => xLt (v2 + nI 1) fun x13 => fX11_waits_l9 p0 p1 K n x13 M12)) else (xLt (v2 + nI 1) fun x10 => fX11_waits_l9 p0 p1 K n x10 M8))))) else (xLt (v2 + nI 1) fun x14 => fX11_waits_l9 p0 p1 K n x14 M5))
def fX11_waits_l2 (p0 : Nat) (K : Int32 → xMem → Option (xMem)) : Nat → Int32 → xMem → Option (xMem)
  | 0, _, _ => none
  | n + 1, v1, M => if (nI 2) ≤ v1 then (K v1 M) else (fX11_waits_l9 p0 v1 (fun (v15 : Int32) (M16 : xMem) => xLt (v1 + nI 1) fun x17 => fX11_waits_l2 p0 K n x17 M16) xFU (nI 0) M)
def fX11_waits (a0 : Nat) (M : xMem) : Option (xMem) :=
  fX11_waits_l2 a0 (fun (v18 : Int32) (M19 : xMem) => some M19) xFU (nI 0) M
set_option maxRecDepth 100000 in
set_option maxHeartbeats 4000000 in
theorem lX11_waits_9 {X : xCX} {M' : xMem} (C : xCk X cX11_waits RX11 3) (R0 : xRk X none (none, M')) (hnL : X.2.2.2.2.2.2.2.2.2.2.2.2.2 = 4) (p0 : Nat) (hp0 : xkd p0 = 11) (p1 : Int32) (K : Int32 → xMem → Option (xMem)) (hK : ∀ (v2 : Int32) (M : xMem), K v2 M = some M' → WW X 83 [some (vr X.1 p0), some (.int p1), some (.int v2), none] [] M) : ∀ (n : Nat) (v2 : Int32) (M : xMem), fX11_waits_l9 p0 p1 K n v2 M = some M' → WW X 9 [some (vr X.1 p0), some (.int p1), some (.int v2), none] [] M := by
  have hn1 : 1 < X.2.2.2.2.2.2.2.2.2.2.2.2.2 := by rw [hnL]; decide
  have hn2 : 2 < X.2.2.2.2.2.2.2.2.2.2.2.2.2 := by rw [hnL]; decide
  have hn3 : 3 < X.2.2.2.2.2.2.2.2.2.2.2.2.2 := by rw [hnL]; decide
  intro n
  induction n with
  | zero =>
    intro v2 M h
    cases (show (none : Option (xMem)) = some M' from h)
  | succ n ih =>
    intro v2 M h
    rw [fX11_waits_l9.eq_2] at h
    refine r_iload_n (pc := 9) C dX11_waits_9 rfl rfl ?_
    refine r_aload_n (pc := 10) C dX11_waits_10 rfl rfl ?_
    refine r_iload_n (pc := 11) C dX11_waits_11 rfl rfl ?_
    refine r_vI1 (pc := 12) C (fun r M' e => zX11_many X.1 p0 hp0 p1 M r M' e) hp0 (by decide) rfl mX11_many lX11_59 (by decide) (Nat.le_of_ble_eq_true rfl) dX11_waits_12 h (fun r1 M2 h => ?_)
    refine r_icmp_ge (pc := 15) (tgt := 83) C dX11_waits_15 (by decide) h (fun _ h => ?_) (fun _ h => ?_)
    · exact hK v2 M2 h
    · refine r_bipush (pc := 18) (v := (nI 68)) C dX11_waits_18 (by decide) ?_
      refine r_bipush (pc := 20) (v := (nI 10)) C dX11_waits_20 (by decide) ?_
      refine r_iload_n (pc := 22) C dX11_waits_22 rfl rfl ?_
      refine r_imul (pc := 23) C dX11_waits_23 ?_
      refine r_iadd (pc := 24) C dX11_waits_24 ?_
      refine r_iload_n (pc := 25) C dX11_waits_25 rfl rfl ?_
      refine r_iadd (pc := 26) C dX11_waits_26 ?_
      refine r_letI h (fun x3 h => ?_)
      refine r_istore_n (pc := 27) (lv' := [_, _, _, _]) C dX11_waits_27 rfl hn3 rfl ?_
      refine r_aload_n (pc := 28) C dX11_waits_28 rfl rfl ?_
      refine r_iload_n (pc := 29) C dX11_waits_29 rfl rfl ?_
      refine r_iload_n (pc := 30) C dX11_waits_30 rfl rfl ?_
      refine r_vI2 (pc := 31) C (fun r M' e => zX11_isOf X.1 p0 hp0 p1 v2 M2 r M' e) hp0 (by decide) rfl mX11_isOf lX11_62 (by decide) (Nat.le_of_ble_eq_true rfl) dX11_waits_31 h (fun r4 M5 h => ?_)
      refine r_iconst (pc := 34) (v := (nI 3)) C dX11_waits_34 (by decide) ?_
      refine r_icmp_eq (pc := 35) (tgt := 41) C dX11_waits_35 (by decide) h (fun _ h => ?_) (fun _ h => ?_)
      · refine r_aload_n (pc := 41) C dX11_waits_41 rfl rfl ?_
        refine r_getW (pc := 42) C kX11_16 hp0 dX11_waits_42 ?_
        refine r_iload_n (pc := 45) C dX11_waits_45 rfl rfl ?_
        refine r_dup2 (pc := 46) C rfl rfl dX11_waits_46 ?_
        obtain ⟨g6, h⟩ := xGb_of h
        refine r_lald (pc := 47) C (xknw M5) g6 dX11_waits_47 ?_
        refine r_lconst (pc := 48) (v := lN 1) C dX11_waits_48 rfl ?_
        refine r_lsub (pc := 49) C dX11_waits_49 ?_
        obtain ⟨g7, h⟩ := xGb_of h
        refine r_last (pc := 50) C (xknw M5) g7 dX11_waits_50 ?_
        refine r_letM h (fun M8 h => ?_)
        refine r_aload_n (pc := 51) C dX11_waits_51 rfl rfl ?_
        refine r_getW (pc := 52) C kX11_16 hp0 dX11_waits_52 ?_
        refine r_iload_n (pc := 55) C dX11_waits_55 rfl rfl ?_
        obtain ⟨g9, h⟩ := xGb_of h
        refine r_lald (pc := 56) C (xknw M8) g9 dX11_waits_56 ?_
        refine r_lconst (pc := 57) (v := lN 0) C dX11_waits_57 rfl ?_
        refine r_lcmp (pc := 58) C dX11_waits_58 ?_
        refine r_if_ne (pc := 59) (tgt := 77) C dX11_waits_59 (by decide) h (fun _ h => ?_) (fun _ h => ?_)
        · refine r_iincL (pc := 77) (c := nI 1) C dX11_waits_77 rfl (by decide) hn2 h (fun x10 h => ?_)
          refine r_lvE (lv' := [_, _, _, _]) rfl ?_
          refine r_goto (pc := 80) (tgt := 9) C dX11_waits_80 (by decide) ?_
          exact r_lv (xle_at (xle_some rfl (xle_some rfl (xle_some rfl (xle_none xle_nil))))) (ih x10 M8 h)
        · refine r_aload_n (pc := 62) C dX11_waits_62 rfl rfl ?_
          refine r_getW (pc := 63) C kX11_16 hp0 dX11_waits_63 ?_
          refine r_bipush (pc := 66) (v := (nI 48)) C dX11_waits_66 (by decide) ?_
          refine r_bipush (pc := 68) (v := (nI 10)) C dX11_waits_68 (by decide) ?_
          refine r_iload_n (pc := 70) C dX11_waits_70 rfl rfl ?_
          refine r_imul (pc := 71) C dX11_waits_71 ?_
          refine r_iadd (pc := 72) C dX11_waits_72 ?_
          refine r_iload_n (pc := 73) C dX11_waits_73 rfl rfl ?_
          refine r_iadd (pc := 74) C dX11_waits_74 ?_
          refine r_lconst (pc := 75) (v := lN 0) C dX11_waits_75 rfl ?_
          obtain ⟨g11, h⟩ := xGb_of h
          refine r_last (pc := 76) C (xknw M8) g11 dX11_waits_76 ?_
          refine r_letM h (fun M12 h => ?_)
          refine r_iincL (pc := 77) (c := nI 1) C dX11_waits_77 rfl (by decide) hn2 h (fun x13 h => ?_)
          refine r_lvE (lv' := [_, _, _, _]) rfl ?_
          refine r_goto (pc := 80) (tgt := 9) C dX11_waits_80 (by decide) ?_
          exact r_lv (xle_at (xle_some rfl (xle_some rfl (xle_some rfl (xle_none xle_nil))))) (ih x13 M12 h)
      · refine r_goto (pc := 38) (tgt := 77) C dX11_waits_38 (by decide) ?_
        refine r_iincL (pc := 77) (c := nI 1) C dX11_waits_77 rfl (by decide) hn2 h (fun x14 h => ?_)
        refine r_lvE (lv' := [_, _, _, _]) rfl ?_
        refine r_goto (pc := 80) (tgt := 9) C dX11_waits_80 (by decide) ?_
        exact r_lv (xle_at (xle_some rfl (xle_some rfl (xle_some rfl (xle_none xle_nil))))) (ih x14 M5 h)
set_option maxRecDepth 100000 in
set_option maxHeartbeats 4000000 in
theorem lX11_waits_2 {X : xCX} {M' : xMem} (C : xCk X cX11_waits RX11 3) (R0 : xRk X none (none, M')) (hnL : X.2.2.2.2.2.2.2.2.2.2.2.2.2 = 4) (p0 : Nat) (hp0 : xkd p0 = 11) (K : Int32 → xMem → Option (xMem)) (hK : ∀ (v1 : Int32) (M : xMem), K v1 M = some M' → WW X 89 [some (vr X.1 p0), some (.int v1), none, none] [] M) : ∀ (n : Nat) (v1 : Int32) (M : xMem), fX11_waits_l2 p0 K n v1 M = some M' → WW X 2 [some (vr X.1 p0), some (.int v1), none, none] [] M := by
  have hn1 : 1 < X.2.2.2.2.2.2.2.2.2.2.2.2.2 := by rw [hnL]; decide
  have hn2 : 2 < X.2.2.2.2.2.2.2.2.2.2.2.2.2 := by rw [hnL]; decide
  have hn3 : 3 < X.2.2.2.2.2.2.2.2.2.2.2.2.2 := by rw [hnL]; decide
  intro n
  induction n with
  | zero =>
    intro v1 M h
    cases (show (none : Option (xMem)) = some M' from h)
  | succ n ih =>
    intro v1 M h
    rw [fX11_waits_l2.eq_2] at h
    refine r_iload_n (pc := 2) C dX11_waits_2 rfl rfl ?_
    refine r_iconst (pc := 3) (v := (nI 2)) C dX11_waits_3 (by decide) ?_
    refine r_icmp_ge (pc := 4) (tgt := 89) C dX11_waits_4 (by decide) h (fun _ h => ?_) (fun _ h => ?_)
    · exact hK v1 M h
    · refine r_iconst (pc := 7) (v := (nI 0)) C dX11_waits_7 (by decide) ?_
      refine r_istore_n (pc := 8) (lv' := [_, _, _, _]) C dX11_waits_8 rfl hn2 rfl ?_
      refine lX11_waits_9 C R0 hnL p0 hp0 v1 _ (fun v15 M16 h => ?_) _ _ _ h
      refine r_iincL (pc := 83) (c := nI 1) C dX11_waits_83 rfl (by decide) hn1 h (fun x17 h => ?_)
      refine r_lvE (lv' := [_, _, _, _]) rfl ?_
      refine r_goto (pc := 86) (tgt := 2) C dX11_waits_86 (by decide) ?_
      exact r_lv (xle_at (xle_some rfl (xle_some rfl (xle_none (xle_none xle_nil))))) (ih x17 M16 h)
set_option maxRecDepth 100000 in
set_option maxHeartbeats 4000000 in
theorem zX11_waits (G : xGX) (a0 : Nat) (h0 : xkd a0 = 11) (M : xMem) (M' : xMem) (h : fX11_waits a0 M = some M') : xCt G yX11_waits cX11_waits 4 none 3 [vr G a0] M (none, M') := by
  refine xMet (lv := [some (vr G a0), none, none, none]) (by decide) (Nat.le_of_ble_eq_true rfl) rfl ?_
  intro X hG hnL C R0
  subst hG
  have C : xCk X cX11_waits RX11 3 := C
  have hn1 : 1 < X.2.2.2.2.2.2.2.2.2.2.2.2.2 := by rw [hnL]; decide
  have hn2 : 2 < X.2.2.2.2.2.2.2.2.2.2.2.2.2 := by rw [hnL]; decide
  have hn3 : 3 < X.2.2.2.2.2.2.2.2.2.2.2.2.2 := by rw [hnL]; decide
  unfold fX11_waits at h
  refine r_iconst (pc := 0) (v := (nI 0)) C dX11_waits_0 (by decide) ?_
  refine r_istore_n (pc := 1) (lv' := [_, _, _, _]) C dX11_waits_1 rfl hn1 rfl ?_
  refine lX11_waits_2 C R0 hnL a0 h0 _ (fun v18 M19 h => ?_) _ _ _ h
  exact r_vret (pc := 89) C R0 h dX11_waits_89
theorem dX11_setOf_0 : decode cX11_setOf 0 = .ok (.iconst 0, 1) := by decide +kernel
theorem dX11_setOf_1 : decode cX11_setOf 1 = .ok (.istore_n 1, 1) := by decide +kernel
theorem dX11_setOf_2 : decode cX11_setOf 2 = .ok (.iconst 0, 1) := by decide +kernel
theorem dX11_setOf_3 : decode cX11_setOf 3 = .ok (.istore_n 2, 1) := by decide +kernel
theorem dX11_setOf_4 : decode cX11_setOf 4 = .ok (.iload_n 2, 1) := by decide +kernel
theorem dX11_setOf_5 : decode cX11_setOf 5 = .ok (.aload_n 0, 1) := by decide +kernel
theorem dX11_setOf_6 : decode cX11_setOf 6 = .ok (.getfield 82, 3) := by decide +kernel
theorem dX11_setOf_9 : decode cX11_setOf 9 = .ok (.if_icmp .ge 20, 3) := by decide +kernel
theorem dX11_setOf_12 : decode cX11_setOf 12 = .ok (.iload_n 1, 1) := by decide +kernel
theorem dX11_setOf_13 : decode cX11_setOf 13 = .ok (.iconst 1, 1) := by decide +kernel
theorem dX11_setOf_14 : decode cX11_setOf 14 = .ok (.aload_n 0, 1) := by decide +kernel
theorem dX11_setOf_15 : decode cX11_setOf 15 = .ok (.getfield 19, 3) := by decide +kernel
theorem dX11_setOf_18 : decode cX11_setOf 18 = .ok (.iload_n 2, 1) := by decide +kernel
theorem dX11_setOf_19 : decode cX11_setOf 19 = .ok (.iaload, 1) := by decide +kernel
theorem dX11_setOf_20 : decode cX11_setOf 20 = .ok (.ishl, 1) := by decide +kernel
theorem dX11_setOf_21 : decode cX11_setOf 21 = .ok (.ior, 1) := by decide +kernel
theorem dX11_setOf_22 : decode cX11_setOf 22 = .ok (.istore_n 1, 1) := by decide +kernel
theorem dX11_setOf_23 : decode cX11_setOf 23 = .ok (.iinc 2 1, 3) := by decide +kernel
theorem dX11_setOf_26 : decode cX11_setOf 26 = .ok (.goto (-22), 3) := by decide +kernel
theorem dX11_setOf_29 : decode cX11_setOf 29 = .ok (.iload_n 1, 1) := by decide +kernel
theorem dX11_setOf_30 : decode cX11_setOf 30 = .ok (.ireturn, 1) := by decide +kernel
def fX11_setOf_l4 (p0 : Nat) (K : Int32 → Int32 → xMem → Option (Int32 × xMem)) : Nat → Int32 → Int32 → xMem → Option (Int32 × xMem)
  | 0, _, _, _ => none
  | n + 1, v1, v2, M => if (M.1 p0 8) ≤ v2 then (K v1 v2 M) else (xGb v2 (xln (xrf p0 7)) (xLt (v1 ||| ((nI 1) <<< ((M.1 (xrf p0 7) (Int32.toNatClampNeg v2)) &&& 31))) fun x2 => xLt (v2 + nI 1) fun x3 => fX11_setOf_l4 p0 K n x2 x3 M))
def fX11_setOf (a0 : Nat) (M : xMem) : Option (Int32 × xMem) :=
  fX11_setOf_l4 a0 (fun (v4 : Int32) (v5 : Int32) (M6 : xMem) => some (v4, M6)) xFU (nI 0) (nI 0) M
set_option maxRecDepth 100000 in
set_option maxHeartbeats 4000000 in
theorem lX11_setOf_4 {X : xCX} {r : Int32} {M' : xMem} (C : xCk X cX11_setOf RX11 1) (R0 : xRk X (some .int) (some (.int r), M')) (hnL : X.2.2.2.2.2.2.2.2.2.2.2.2.2 = 3) (p0 : Nat) (hp0 : xkd p0 = 11) (K : Int32 → Int32 → xMem → Option (Int32 × xMem)) (hK : ∀ (v1 : Int32) (v2 : Int32) (M : xMem), K v1 v2 M = some (r, M') → WW X 29 [some (vr X.1 p0), some (.int v1), some (.int v2)] [] M) : ∀ (n : Nat) (v1 : Int32) (v2 : Int32) (M : xMem), fX11_setOf_l4 p0 K n v1 v2 M = some (r, M') → WW X 4 [some (vr X.1 p0), some (.int v1), some (.int v2)] [] M := by
  have hn1 : 1 < X.2.2.2.2.2.2.2.2.2.2.2.2.2 := by rw [hnL]; decide
  have hn2 : 2 < X.2.2.2.2.2.2.2.2.2.2.2.2.2 := by rw [hnL]; decide
  intro n
  induction n with
  | zero =>
    intro v1 v2 M h
    cases (show (none : Option (Int32 × xMem)) = some (r, M') from h)
  | succ n ih =>
    intro v1 v2 M h
    rw [fX11_setOf_l4.eq_2] at h
    refine r_iload_n (pc := 4) C dX11_setOf_4 rfl rfl ?_
    refine r_aload_n (pc := 5) C dX11_setOf_5 rfl rfl ?_
    refine r_getI (pc := 6) C kX11_82 hp0 dX11_setOf_6 ?_
    refine r_icmp_ge (pc := 9) (tgt := 29) C dX11_setOf_9 (by decide) h (fun _ h => ?_) (fun _ h => ?_)
    · exact hK v1 v2 M h
    · refine r_iload_n (pc := 12) C dX11_setOf_12 rfl rfl ?_
      refine r_iconst (pc := 13) (v := (nI 1)) C dX11_setOf_13 (by decide) ?_
      refine r_aload_n (pc := 14) C dX11_setOf_14 rfl rfl ?_
      refine r_getR (pc := 15) C kX11_19 hp0 (by decide) dX11_setOf_15 ?_
      refine r_iload_n (pc := 18) C dX11_setOf_18 rfl rfl ?_
      obtain ⟨g1, h⟩ := xGb_of h
      refine r_iald (pc := 19) C (xtk hp0 (by decide) rfl rfl) g1 dX11_setOf_19 ?_
      refine r_ishl (pc := 20) C dX11_setOf_20 ?_
      refine r_ior (pc := 21) C dX11_setOf_21 ?_
      refine r_letI h (fun x2 h => ?_)
      refine r_istore_n (pc := 22) (lv' := [_, _, _]) C dX11_setOf_22 rfl hn1 rfl ?_
      refine r_iincL (pc := 23) (c := nI 1) C dX11_setOf_23 rfl (by decide) hn2 h (fun x3 h => ?_)
      refine r_lvE (lv' := [_, _, _]) rfl ?_
      refine r_goto (pc := 26) (tgt := 4) C dX11_setOf_26 (by decide) ?_
      exact ih x2 x3 M h
set_option maxRecDepth 100000 in
set_option maxHeartbeats 4000000 in
theorem zX11_setOf (G : xGX) (a0 : Nat) (h0 : xkd a0 = 11) (M : xMem) (r : Int32) (M' : xMem) (h : fX11_setOf a0 M = some (r, M')) : xCt G yX11_setOf cX11_setOf 3 (some .int) 1 [vr G a0] M (some (.int r), M') := by
  refine xMet (lv := [some (vr G a0), none, none]) (by decide) (Nat.le_of_ble_eq_true rfl) rfl ?_
  intro X hG hnL C R0
  subst hG
  have C : xCk X cX11_setOf RX11 1 := C
  have hn1 : 1 < X.2.2.2.2.2.2.2.2.2.2.2.2.2 := by rw [hnL]; decide
  have hn2 : 2 < X.2.2.2.2.2.2.2.2.2.2.2.2.2 := by rw [hnL]; decide
  unfold fX11_setOf at h
  refine r_iconst (pc := 0) (v := (nI 0)) C dX11_setOf_0 (by decide) ?_
  refine r_istore_n (pc := 1) (lv' := [_, _, _]) C dX11_setOf_1 rfl hn1 rfl ?_
  refine r_iconst (pc := 2) (v := (nI 0)) C dX11_setOf_2 (by decide) ?_
  refine r_istore_n (pc := 3) (lv' := [_, _, _]) C dX11_setOf_3 rfl hn2 rfl ?_
  refine lX11_setOf_4 C R0 hnL a0 h0 _ (fun v4 v5 M6 h => ?_) _ _ _ _ h
  refine r_iload_n (pc := 29) C dX11_setOf_29 rfl rfl ?_
  exact r_iret (pc := 30) C R0 h dX11_setOf_30
theorem dX11_orderOf_0 : decode cX11_orderOf 0 = .ok (.lconst 0, 1) := by decide +kernel
theorem dX11_orderOf_1 : decode cX11_orderOf 1 = .ok (.lstore_n 1, 1) := by decide +kernel
theorem dX11_orderOf_2 : decode cX11_orderOf 2 = .ok (.iconst 0, 1) := by decide +kernel
theorem dX11_orderOf_3 : decode cX11_orderOf 3 = .ok (.istore_n 3, 1) := by decide +kernel
theorem dX11_orderOf_4 : decode cX11_orderOf 4 = .ok (.iload_n 3, 1) := by decide +kernel
theorem dX11_orderOf_5 : decode cX11_orderOf 5 = .ok (.aload_n 0, 1) := by decide +kernel
theorem dX11_orderOf_6 : decode cX11_orderOf 6 = .ok (.getfield 82, 3) := by decide +kernel
theorem dX11_orderOf_9 : decode cX11_orderOf 9 = .ok (.if_icmp .ge 25, 3) := by decide +kernel
theorem dX11_orderOf_12 : decode cX11_orderOf 12 = .ok (.lload_n 1, 1) := by decide +kernel
theorem dX11_orderOf_13 : decode cX11_orderOf 13 = .ok (.ldc2_w 85, 3) := by decide +kernel
theorem dX11_orderOf_16 : decode cX11_orderOf 16 = .ok (.lmul, 1) := by decide +kernel
theorem dX11_orderOf_17 : decode cX11_orderOf 17 = .ok (.aload_n 0, 1) := by decide +kernel
theorem dX11_orderOf_18 : decode cX11_orderOf 18 = .ok (.getfield 19, 3) := by decide +kernel
theorem dX11_orderOf_21 : decode cX11_orderOf 21 = .ok (.iload_n 3, 1) := by decide +kernel
theorem dX11_orderOf_22 : decode cX11_orderOf 22 = .ok (.iaload, 1) := by decide +kernel
theorem dX11_orderOf_23 : decode cX11_orderOf 23 = .ok (.i2l, 1) := by decide +kernel
theorem dX11_orderOf_24 : decode cX11_orderOf 24 = .ok (.ladd, 1) := by decide +kernel
theorem dX11_orderOf_25 : decode cX11_orderOf 25 = .ok (.lconst 1, 1) := by decide +kernel
theorem dX11_orderOf_26 : decode cX11_orderOf 26 = .ok (.ladd, 1) := by decide +kernel
theorem dX11_orderOf_27 : decode cX11_orderOf 27 = .ok (.lstore_n 1, 1) := by decide +kernel
theorem dX11_orderOf_28 : decode cX11_orderOf 28 = .ok (.iinc 3 1, 3) := by decide +kernel
theorem dX11_orderOf_31 : decode cX11_orderOf 31 = .ok (.goto (-27), 3) := by decide +kernel
theorem dX11_orderOf_34 : decode cX11_orderOf 34 = .ok (.lload_n 1, 1) := by decide +kernel
theorem dX11_orderOf_35 : decode cX11_orderOf 35 = .ok (.lreturn, 1) := by decide +kernel
def fX11_orderOf_l4 (p0 : Nat) (K : Int64 → Int32 → xMem → Option (Int64 × xMem)) : Nat → Int64 → Int32 → xMem → Option (Int64 × xMem)
  | 0, _, _, _ => none
  | n + 1, v1, v3, M => if (M.1 p0 8) ≤ v3 then (K v1 v3 M) else (xGb v3 (xln (xrf p0 7)) (xLt (((v1 * (lN 11)) + (Int32.toInt64 (M.1 (xrf p0 7) (Int32.toNatClampNeg v3)))) + (lN 1)) fun x2 => xLt (v3 + nI 1) fun x3 => fX11_orderOf_l4 p0 K n x2 x3 M))
def fX11_orderOf (a0 : Nat) (M : xMem) : Option (Int64 × xMem) :=
  fX11_orderOf_l4 a0 (fun (v4 : Int64) (v5 : Int32) (M6 : xMem) => some (v4, M6)) xFU (lN 0) (nI 0) M
set_option maxRecDepth 100000 in
set_option maxHeartbeats 4000000 in
theorem lX11_orderOf_4 {X : xCX} {r : Int64} {M' : xMem} (C : xCk X cX11_orderOf RX11 1) (R0 : xRk X (some .long) (some (.long r), M')) (hnL : X.2.2.2.2.2.2.2.2.2.2.2.2.2 = 4) (p0 : Nat) (hp0 : xkd p0 = 11) (K : Int64 → Int32 → xMem → Option (Int64 × xMem)) (hK : ∀ (v1 : Int64) (v3 : Int32) (M : xMem), K v1 v3 M = some (r, M') → WW X 34 [some (vr X.1 p0), some (.long v1), none, some (.int v3)] [] M) : ∀ (n : Nat) (v1 : Int64) (v3 : Int32) (M : xMem), fX11_orderOf_l4 p0 K n v1 v3 M = some (r, M') → WW X 4 [some (vr X.1 p0), some (.long v1), none, some (.int v3)] [] M := by
  have hn1 : 1 + 1 < X.2.2.2.2.2.2.2.2.2.2.2.2.2 := by rw [hnL]; decide
  have hn3 : 3 < X.2.2.2.2.2.2.2.2.2.2.2.2.2 := by rw [hnL]; decide
  intro n
  induction n with
  | zero =>
    intro v1 v3 M h
    cases (show (none : Option (Int64 × xMem)) = some (r, M') from h)
  | succ n ih =>
    intro v1 v3 M h
    rw [fX11_orderOf_l4.eq_2] at h
    refine r_iload_n (pc := 4) C dX11_orderOf_4 rfl rfl ?_
    refine r_aload_n (pc := 5) C dX11_orderOf_5 rfl rfl ?_
    refine r_getI (pc := 6) C kX11_82 hp0 dX11_orderOf_6 ?_
    refine r_icmp_ge (pc := 9) (tgt := 34) C dX11_orderOf_9 (by decide) h (fun _ h => ?_) (fun _ h => ?_)
    · exact hK v1 v3 M h
    · refine r_lload_n (pc := 12) C dX11_orderOf_12 rfl rfl ?_
      refine r_ldc2 (pc := 13) C nX11_85 dX11_orderOf_13 ?_
      refine r_lmul (pc := 16) C dX11_orderOf_16 ?_
      refine r_aload_n (pc := 17) C dX11_orderOf_17 rfl rfl ?_
      refine r_getR (pc := 18) C kX11_19 hp0 (by decide) dX11_orderOf_18 ?_
      refine r_iload_n (pc := 21) C dX11_orderOf_21 rfl rfl ?_
      obtain ⟨g1, h⟩ := xGb_of h
      refine r_iald (pc := 22) C (xtk hp0 (by decide) rfl rfl) g1 dX11_orderOf_22 ?_
      refine r_i2l (pc := 23) C dX11_orderOf_23 ?_
      refine r_ladd (pc := 24) C dX11_orderOf_24 ?_
      refine r_lconst (pc := 25) (v := lN 1) C dX11_orderOf_25 rfl ?_
      refine r_ladd (pc := 26) C dX11_orderOf_26 ?_
      refine r_letL h (fun x2 h => ?_)
      refine r_lstore_n (pc := 27) (lv' := [_, _, _, _]) C dX11_orderOf_27 rfl hn1 rfl ?_
      refine r_iincL (pc := 28) (c := nI 1) C dX11_orderOf_28 rfl (by decide) hn3 h (fun x3 h => ?_)
      refine r_lvE (lv' := [_, _, _, _]) rfl ?_
      refine r_goto (pc := 31) (tgt := 4) C dX11_orderOf_31 (by decide) ?_
      exact ih x2 x3 M h
set_option maxRecDepth 100000 in
set_option maxHeartbeats 4000000 in
theorem zX11_orderOf (G : xGX) (a0 : Nat) (h0 : xkd a0 = 11) (M : xMem) (r : Int64) (M' : xMem) (h : fX11_orderOf a0 M = some (r, M')) : xCt G yX11_orderOf cX11_orderOf 4 (some .long) 1 [vr G a0] M (some (.long r), M') := by
  refine xMet (lv := [some (vr G a0), none, none, none]) (by decide) (Nat.le_of_ble_eq_true rfl) rfl ?_
  intro X hG hnL C R0
  subst hG
  have C : xCk X cX11_orderOf RX11 1 := C
  have hn1 : 1 + 1 < X.2.2.2.2.2.2.2.2.2.2.2.2.2 := by rw [hnL]; decide
  have hn3 : 3 < X.2.2.2.2.2.2.2.2.2.2.2.2.2 := by rw [hnL]; decide
  unfold fX11_orderOf at h
  refine r_lconst (pc := 0) (v := lN 0) C dX11_orderOf_0 rfl ?_
  refine r_lstore_n (pc := 1) (lv' := [_, _, _, _]) C dX11_orderOf_1 rfl hn1 rfl ?_
  refine r_iconst (pc := 2) (v := (nI 0)) C dX11_orderOf_2 (by decide) ?_
  refine r_istore_n (pc := 3) (lv' := [_, _, _, _]) C dX11_orderOf_3 rfl hn3 rfl ?_
  refine lX11_orderOf_4 C R0 hnL a0 h0 _ (fun v4 v5 M6 h => ?_) _ _ _ _ h
  refine r_lload_n (pc := 34) C dX11_orderOf_34 rfl rfl ?_
  exact r_lret (pc := 35) C R0 h dX11_orderOf_35
theorem dX11_raids_0 : decode cX11_raids 0 = .ok (.iconst 0, 1) := by decide +kernel
theorem dX11_raids_1 : decode cX11_raids 1 = .ok (.istore_n 1, 1) := by decide +kernel
theorem dX11_raids_2 : decode cX11_raids 2 = .ok (.iload_n 1, 1) := by decide +kernel
theorem dX11_raids_3 : decode cX11_raids 3 = .ok (.bipush 105, 2) := by decide +kernel
theorem dX11_raids_5 : decode cX11_raids 5 = .ok (.if_icmp .ge 28, 3) := by decide +kernel
theorem dX11_raids_8 : decode cX11_raids 8 = .ok (.aload_n 0, 1) := by decide +kernel
theorem dX11_raids_9 : decode cX11_raids 9 = .ok (.getfield 16, 3) := by decide +kernel
theorem dX11_raids_12 : decode cX11_raids 12 = .ok (.sipush 130, 3) := by decide +kernel
theorem dX11_raids_15 : decode cX11_raids 15 = .ok (.iload_n 1, 1) := by decide +kernel
theorem dX11_raids_16 : decode cX11_raids 16 = .ok (.iadd, 1) := by decide +kernel
theorem dX11_raids_17 : decode cX11_raids 17 = .ok (.aload_n 0, 1) := by decide +kernel
theorem dX11_raids_18 : decode cX11_raids 18 = .ok (.getfield 16, 3) := by decide +kernel
theorem dX11_raids_21 : decode cX11_raids 21 = .ok (.bipush 25, 2) := by decide +kernel
theorem dX11_raids_23 : decode cX11_raids 23 = .ok (.iload_n 1, 1) := by decide +kernel
theorem dX11_raids_24 : decode cX11_raids 24 = .ok (.iadd, 1) := by decide +kernel
theorem dX11_raids_25 : decode cX11_raids 25 = .ok (.laload, 1) := by decide +kernel
theorem dX11_raids_26 : decode cX11_raids 26 = .ok (.lastore, 1) := by decide +kernel
theorem dX11_raids_27 : decode cX11_raids 27 = .ok (.iinc 1 1, 3) := by decide +kernel
theorem dX11_raids_30 : decode cX11_raids 30 = .ok (.goto (-28), 3) := by decide +kernel
theorem dX11_raids_33 : decode cX11_raids 33 = .ok (.aload_n 0, 1) := by decide +kernel
theorem dX11_raids_34 : decode cX11_raids 34 = .ok (.bipush 28, 2) := by decide +kernel
theorem dX11_raids_36 : decode cX11_raids 36 = .ok (.invokevirtual 43, 3) := by decide +kernel
theorem dX11_raids_39 : decode cX11_raids 39 = .ok (.istore_n 1, 1) := by decide +kernel
theorem dX11_raids_40 : decode cX11_raids 40 = .ok (.iconst 1, 1) := by decide +kernel
theorem dX11_raids_41 : decode cX11_raids 41 = .ok (.iload_n 1, 1) := by decide +kernel
theorem dX11_raids_42 : decode cX11_raids 42 = .ok (.isub, 1) := by decide +kernel
theorem dX11_raids_43 : decode cX11_raids 43 = .ok (.istore_n 2, 1) := by decide +kernel
theorem dX11_raids_44 : decode cX11_raids 44 = .ok (.aload_n 0, 1) := by decide +kernel
theorem dX11_raids_45 : decode cX11_raids 45 = .ok (.iload_n 2, 1) := by decide +kernel
theorem dX11_raids_46 : decode cX11_raids 46 = .ok (.iconst 0, 1) := by decide +kernel
theorem dX11_raids_47 : decode cX11_raids 47 = .ok (.invokevirtual 72, 3) := by decide +kernel
theorem dX11_raids_50 : decode cX11_raids 50 = .ok (.invokestatic 87, 3) := by decide +kernel
theorem dX11_raids_53 : decode cX11_raids 53 = .ok (.istore_n 3, 1) := by decide +kernel
theorem dX11_raids_54 : decode cX11_raids 54 = .ok (.sipush 235, 3) := by decide +kernel
theorem dX11_raids_57 : decode cX11_raids 57 = .ok (.bipush 15, 2) := by decide +kernel
theorem dX11_raids_59 : decode cX11_raids 59 = .ok (.aload_n 0, 1) := by decide +kernel
theorem dX11_raids_60 : decode cX11_raids 60 = .ok (.bipush 25, 2) := by decide +kernel
theorem dX11_raids_62 : decode cX11_raids 62 = .ok (.invokevirtual 43, 3) := by decide +kernel
theorem dX11_raids_65 : decode cX11_raids 65 = .ok (.imul, 1) := by decide +kernel
theorem dX11_raids_66 : decode cX11_raids 66 = .ok (.iadd, 1) := by decide +kernel
theorem dX11_raids_67 : decode cX11_raids 67 = .ok (.istore 4, 2) := by decide +kernel
theorem dX11_raids_69 : decode cX11_raids 69 = .ok (.aload_n 0, 1) := by decide +kernel
theorem dX11_raids_70 : decode cX11_raids 70 = .ok (.getfield 16, 3) := by decide +kernel
theorem dX11_raids_73 : decode cX11_raids 73 = .ok (.bipush 30, 2) := by decide +kernel
theorem dX11_raids_75 : decode cX11_raids 75 = .ok (.iload_n 1, 1) := by decide +kernel
theorem dX11_raids_76 : decode cX11_raids 76 = .ok (.iadd, 1) := by decide +kernel
theorem dX11_raids_77 : decode cX11_raids 77 = .ok (.laload, 1) := by decide +kernel
theorem dX11_raids_78 : decode cX11_raids 78 = .ok (.ldc2_w 66, 3) := by decide +kernel
theorem dX11_raids_81 : decode cX11_raids 81 = .ok (.lcmp, 1) := by decide +kernel
theorem dX11_raids_82 : decode cX11_raids 82 = .ok (.ifCond .ne 7, 3) := by decide +kernel
theorem dX11_raids_85 : decode cX11_raids 85 = .ok (.iconst 1, 1) := by decide +kernel
theorem dX11_raids_86 : decode cX11_raids 86 = .ok (.goto 4, 3) := by decide +kernel
theorem dX11_raids_89 : decode cX11_raids 89 = .ok (.iconst 0, 1) := by decide +kernel
theorem dX11_raids_90 : decode cX11_raids 90 = .ok (.istore 5, 2) := by decide +kernel
theorem dX11_raids_92 : decode cX11_raids 92 = .ok (.aload_n 0, 1) := by decide +kernel
theorem dX11_raids_93 : decode cX11_raids 93 = .ok (.iload_n 1, 1) := by decide +kernel
theorem dX11_raids_94 : decode cX11_raids 94 = .ok (.invokevirtual 90, 3) := by decide +kernel
theorem dX11_raids_97 : decode cX11_raids 97 = .ok (.istore 6, 2) := by decide +kernel
theorem dX11_raids_99 : decode cX11_raids 99 = .ok (.aload_n 0, 1) := by decide +kernel
theorem dX11_raids_100 : decode cX11_raids 100 = .ok (.iload_n 2, 1) := by decide +kernel
theorem dX11_raids_101 : decode cX11_raids 101 = .ok (.invokevirtual 90, 3) := by decide +kernel
theorem dX11_raids_104 : decode cX11_raids 104 = .ok (.istore 7, 2) := by decide +kernel
theorem dX11_raids_106 : decode cX11_raids 106 = .ok (.aload_n 0, 1) := by decide +kernel
theorem dX11_raids_107 : decode cX11_raids 107 = .ok (.getfield 93, 3) := by decide +kernel
theorem dX11_raids_110 : decode cX11_raids 110 = .ok (.iconst 3, 1) := by decide +kernel
theorem dX11_raids_111 : decode cX11_raids 111 = .ok (.if_icmp .eq 23, 3) := by decide +kernel
theorem dX11_raids_114 : decode cX11_raids 114 = .ok (.aload_n 0, 1) := by decide +kernel
theorem dX11_raids_115 : decode cX11_raids 115 = .ok (.getfield 93, 3) := by decide +kernel
theorem dX11_raids_118 : decode cX11_raids 118 = .ok (.iconst 4, 1) := by decide +kernel
theorem dX11_raids_119 : decode cX11_raids 119 = .ok (.if_icmp .eq 15, 3) := by decide +kernel
theorem dX11_raids_122 : decode cX11_raids 122 = .ok (.aload_n 0, 1) := by decide +kernel
theorem dX11_raids_123 : decode cX11_raids 123 = .ok (.getfield 93, 3) := by decide +kernel
theorem dX11_raids_126 : decode cX11_raids 126 = .ok (.ifCond .ne 12, 3) := by decide +kernel
theorem dX11_raids_129 : decode cX11_raids 129 = .ok (.iload 5, 2) := by decide +kernel
theorem dX11_raids_131 : decode cX11_raids 131 = .ok (.ifCond .eq 7, 3) := by decide +kernel
theorem dX11_raids_134 : decode cX11_raids 134 = .ok (.iconst 1, 1) := by decide +kernel
theorem dX11_raids_135 : decode cX11_raids 135 = .ok (.goto 4, 3) := by decide +kernel
theorem dX11_raids_138 : decode cX11_raids 138 = .ok (.iconst 0, 1) := by decide +kernel
theorem dX11_raids_139 : decode cX11_raids 139 = .ok (.istore 8, 2) := by decide +kernel
theorem dX11_raids_141 : decode cX11_raids 141 = .ok (.aload_n 0, 1) := by decide +kernel
theorem dX11_raids_142 : decode cX11_raids 142 = .ok (.getfield 16, 3) := by decide +kernel
theorem dX11_raids_145 : decode cX11_raids 145 = .ok (.iload 4, 2) := by decide +kernel
theorem dX11_raids_147 : decode cX11_raids 147 = .ok (.iconst 0, 1) := by decide +kernel
theorem dX11_raids_148 : decode cX11_raids 148 = .ok (.iadd, 1) := by decide +kernel
theorem dX11_raids_149 : decode cX11_raids 149 = .ok (.iload_n 1, 1) := by decide +kernel
theorem dX11_raids_150 : decode cX11_raids 150 = .ok (.i2l, 1) := by decide +kernel
theorem dX11_raids_151 : decode cX11_raids 151 = .ok (.lastore, 1) := by decide +kernel
theorem dX11_raids_152 : decode cX11_raids 152 = .ok (.aload_n 0, 1) := by decide +kernel
theorem dX11_raids_153 : decode cX11_raids 153 = .ok (.getfield 16, 3) := by decide +kernel
theorem dX11_raids_156 : decode cX11_raids 156 = .ok (.iload 4, 2) := by decide +kernel
theorem dX11_raids_158 : decode cX11_raids 158 = .ok (.iconst 1, 1) := by decide +kernel
theorem dX11_raids_159 : decode cX11_raids 159 = .ok (.iadd, 1) := by decide +kernel
theorem dX11_raids_160 : decode cX11_raids 160 = .ok (.aload_n 0, 1) := by decide +kernel
theorem dX11_raids_161 : decode cX11_raids 161 = .ok (.getfield 96, 3) := by decide +kernel
theorem dX11_raids_164 : decode cX11_raids 164 = .ok (.i2l, 1) := by decide +kernel
theorem dX11_raids_165 : decode cX11_raids 165 = .ok (.lastore, 1) := by decide +kernel
theorem dX11_raids_166 : decode cX11_raids 166 = .ok (.aload_n 0, 1) := by decide +kernel
theorem dX11_raids_167 : decode cX11_raids 167 = .ok (.getfield 16, 3) := by decide +kernel
theorem dX11_raids_170 : decode cX11_raids 170 = .ok (.iload 4, 2) := by decide +kernel
theorem dX11_raids_172 : decode cX11_raids 172 = .ok (.iconst 2, 1) := by decide +kernel
theorem dX11_raids_173 : decode cX11_raids 173 = .ok (.iadd, 1) := by decide +kernel
theorem dX11_raids_174 : decode cX11_raids 174 = .ok (.aload_n 0, 1) := by decide +kernel
theorem dX11_raids_175 : decode cX11_raids 175 = .ok (.getfield 93, 3) := by decide +kernel
theorem dX11_raids_178 : decode cX11_raids 178 = .ok (.i2l, 1) := by decide +kernel
theorem dX11_raids_179 : decode cX11_raids 179 = .ok (.lastore, 1) := by decide +kernel
theorem dX11_raids_180 : decode cX11_raids 180 = .ok (.aload_n 0, 1) := by decide +kernel
theorem dX11_raids_181 : decode cX11_raids 181 = .ok (.getfield 16, 3) := by decide +kernel
theorem dX11_raids_184 : decode cX11_raids 184 = .ok (.iload 4, 2) := by decide +kernel
theorem dX11_raids_186 : decode cX11_raids 186 = .ok (.iconst 5, 1) := by decide +kernel
theorem dX11_raids_187 : decode cX11_raids 187 = .ok (.iadd, 1) := by decide +kernel
theorem dX11_raids_188 : decode cX11_raids 188 = .ok (.aload_n 0, 1) := by decide +kernel
theorem dX11_raids_189 : decode cX11_raids 189 = .ok (.getfield 93, 3) := by decide +kernel
theorem dX11_raids_192 : decode cX11_raids 192 = .ok (.iconst 3, 1) := by decide +kernel
theorem dX11_raids_193 : decode cX11_raids 193 = .ok (.if_icmp .ne 11, 3) := by decide +kernel
theorem dX11_raids_196 : decode cX11_raids 196 = .ok (.aload_n 0, 1) := by decide +kernel
theorem dX11_raids_197 : decode cX11_raids 197 = .ok (.getfield 99, 3) := by decide +kernel
theorem dX11_raids_200 : decode cX11_raids 200 = .ok (.i2l, 1) := by decide +kernel
theorem dX11_raids_201 : decode cX11_raids 201 = .ok (.goto 22, 3) := by decide +kernel
theorem dX11_raids_204 : decode cX11_raids 204 = .ok (.aload_n 0, 1) := by decide +kernel
theorem dX11_raids_205 : decode cX11_raids 205 = .ok (.getfield 93, 3) := by decide +kernel
theorem dX11_raids_208 : decode cX11_raids 208 = .ok (.iconst 1, 1) := by decide +kernel
theorem dX11_raids_209 : decode cX11_raids 209 = .ok (.if_icmp .ne 11, 3) := by decide +kernel
theorem dX11_raids_212 : decode cX11_raids 212 = .ok (.aload_n 0, 1) := by decide +kernel
theorem dX11_raids_213 : decode cX11_raids 213 = .ok (.invokevirtual 102, 3) := by decide +kernel
theorem dX11_raids_216 : decode cX11_raids 216 = .ok (.i2l, 1) := by decide +kernel
theorem dX11_raids_217 : decode cX11_raids 217 = .ok (.goto 6, 3) := by decide +kernel
theorem dX11_raids_220 : decode cX11_raids 220 = .ok (.ldc2_w 106, 3) := by decide +kernel
theorem dX11_raids_223 : decode cX11_raids 223 = .ok (.lastore, 1) := by decide +kernel
theorem dX11_raids_224 : decode cX11_raids 224 = .ok (.aload_n 0, 1) := by decide +kernel
theorem dX11_raids_225 : decode cX11_raids 225 = .ok (.getfield 16, 3) := by decide +kernel
theorem dX11_raids_228 : decode cX11_raids 228 = .ok (.iload 4, 2) := by decide +kernel
theorem dX11_raids_230 : decode cX11_raids 230 = .ok (.bipush 6, 2) := by decide +kernel
theorem dX11_raids_232 : decode cX11_raids 232 = .ok (.iadd, 1) := by decide +kernel
theorem dX11_raids_233 : decode cX11_raids 233 = .ok (.aload_n 0, 1) := by decide +kernel
theorem dX11_raids_234 : decode cX11_raids 234 = .ok (.getfield 108, 3) := by decide +kernel
theorem dX11_raids_237 : decode cX11_raids 237 = .ok (.ifCond .eq 7, 3) := by decide +kernel
theorem dX11_raids_240 : decode cX11_raids 240 = .ok (.lconst 1, 1) := by decide +kernel
theorem dX11_raids_241 : decode cX11_raids 241 = .ok (.goto 4, 3) := by decide +kernel
theorem dX11_raids_244 : decode cX11_raids 244 = .ok (.lconst 0, 1) := by decide +kernel
theorem dX11_raids_245 : decode cX11_raids 245 = .ok (.lastore, 1) := by decide +kernel
theorem dX11_raids_246 : decode cX11_raids 246 = .ok (.aload_n 0, 1) := by decide +kernel
theorem dX11_raids_247 : decode cX11_raids 247 = .ok (.getfield 16, 3) := by decide +kernel
theorem dX11_raids_250 : decode cX11_raids 250 = .ok (.iload 4, 2) := by decide +kernel
theorem dX11_raids_252 : decode cX11_raids 252 = .ok (.bipush 7, 2) := by decide +kernel
theorem dX11_raids_254 : decode cX11_raids 254 = .ok (.iadd, 1) := by decide +kernel
theorem dX11_raids_255 : decode cX11_raids 255 = .ok (.iload 5, 2) := by decide +kernel
theorem dX11_raids_257 : decode cX11_raids 257 = .ok (.ifCond .eq 7, 3) := by decide +kernel
theorem dX11_raids_260 : decode cX11_raids 260 = .ok (.lconst 1, 1) := by decide +kernel
theorem dX11_raids_261 : decode cX11_raids 261 = .ok (.goto 4, 3) := by decide +kernel
theorem dX11_raids_264 : decode cX11_raids 264 = .ok (.lconst 0, 1) := by decide +kernel
theorem dX11_raids_265 : decode cX11_raids 265 = .ok (.lastore, 1) := by decide +kernel
theorem dX11_raids_266 : decode cX11_raids 266 = .ok (.aload_n 0, 1) := by decide +kernel
theorem dX11_raids_267 : decode cX11_raids 267 = .ok (.getfield 16, 3) := by decide +kernel
theorem dX11_raids_270 : decode cX11_raids 270 = .ok (.iload 4, 2) := by decide +kernel
theorem dX11_raids_272 : decode cX11_raids 272 = .ok (.bipush 10, 2) := by decide +kernel
theorem dX11_raids_274 : decode cX11_raids 274 = .ok (.iadd, 1) := by decide +kernel
theorem dX11_raids_275 : decode cX11_raids 275 = .ok (.iload_n 1, 1) := by decide +kernel
theorem dX11_raids_276 : decode cX11_raids 276 = .ok (.iadd, 1) := by decide +kernel
theorem dX11_raids_277 : decode cX11_raids 277 = .ok (.aload_n 0, 1) := by decide +kernel
theorem dX11_raids_278 : decode cX11_raids 278 = .ok (.iload_n 1, 1) := by decide +kernel
theorem dX11_raids_279 : decode cX11_raids 279 = .ok (.iconst 0, 1) := by decide +kernel
theorem dX11_raids_280 : decode cX11_raids 280 = .ok (.invokevirtual 72, 3) := by decide +kernel
theorem dX11_raids_283 : decode cX11_raids 283 = .ok (.i2l, 1) := by decide +kernel
theorem dX11_raids_284 : decode cX11_raids 284 = .ok (.lastore, 1) := by decide +kernel
theorem dX11_raids_285 : decode cX11_raids 285 = .ok (.aload_n 0, 1) := by decide +kernel
theorem dX11_raids_286 : decode cX11_raids 286 = .ok (.getfield 16, 3) := by decide +kernel
theorem dX11_raids_289 : decode cX11_raids 289 = .ok (.iload 4, 2) := by decide +kernel
theorem dX11_raids_291 : decode cX11_raids 291 = .ok (.bipush 10, 2) := by decide +kernel
theorem dX11_raids_293 : decode cX11_raids 293 = .ok (.iadd, 1) := by decide +kernel
theorem dX11_raids_294 : decode cX11_raids 294 = .ok (.iload_n 2, 1) := by decide +kernel
theorem dX11_raids_295 : decode cX11_raids 295 = .ok (.iadd, 1) := by decide +kernel
theorem dX11_raids_296 : decode cX11_raids 296 = .ok (.aload_n 0, 1) := by decide +kernel
theorem dX11_raids_297 : decode cX11_raids 297 = .ok (.iload_n 2, 1) := by decide +kernel
theorem dX11_raids_298 : decode cX11_raids 298 = .ok (.iconst 0, 1) := by decide +kernel
theorem dX11_raids_299 : decode cX11_raids 299 = .ok (.invokevirtual 72, 3) := by decide +kernel
theorem dX11_raids_302 : decode cX11_raids 302 = .ok (.i2l, 1) := by decide +kernel
theorem dX11_raids_303 : decode cX11_raids 303 = .ok (.lastore, 1) := by decide +kernel
theorem dX11_raids_304 : decode cX11_raids 304 = .ok (.aload_n 0, 1) := by decide +kernel
theorem dX11_raids_305 : decode cX11_raids 305 = .ok (.getfield 16, 3) := by decide +kernel
theorem dX11_raids_308 : decode cX11_raids 308 = .ok (.iload 4, 2) := by decide +kernel
theorem dX11_raids_310 : decode cX11_raids 310 = .ok (.bipush 12, 2) := by decide +kernel
theorem dX11_raids_312 : decode cX11_raids 312 = .ok (.iadd, 1) := by decide +kernel
theorem dX11_raids_313 : decode cX11_raids 313 = .ok (.aload_n 0, 1) := by decide +kernel
theorem dX11_raids_314 : decode cX11_raids 314 = .ok (.getfield 93, 3) := by decide +kernel
theorem dX11_raids_317 : decode cX11_raids 317 = .ok (.iconst 1, 1) := by decide +kernel
theorem dX11_raids_318 : decode cX11_raids 318 = .ok (.if_icmp .ne 10, 3) := by decide +kernel
theorem dX11_raids_321 : decode cX11_raids 321 = .ok (.aload_n 0, 1) := by decide +kernel
theorem dX11_raids_322 : decode cX11_raids 322 = .ok (.invokevirtual 112, 3) := by decide +kernel
theorem dX11_raids_325 : decode cX11_raids 325 = .ok (.goto 4, 3) := by decide +kernel
theorem dX11_raids_328 : decode cX11_raids 328 = .ok (.lconst 0, 1) := by decide +kernel
theorem dX11_raids_329 : decode cX11_raids 329 = .ok (.lastore, 1) := by decide +kernel
theorem dX11_raids_330 : decode cX11_raids 330 = .ok (.aload_n 0, 1) := by decide +kernel
theorem dX11_raids_331 : decode cX11_raids 331 = .ok (.getfield 16, 3) := by decide +kernel
theorem dX11_raids_334 : decode cX11_raids 334 = .ok (.iload 4, 2) := by decide +kernel
theorem dX11_raids_336 : decode cX11_raids 336 = .ok (.bipush 13, 2) := by decide +kernel
theorem dX11_raids_338 : decode cX11_raids 338 = .ok (.iadd, 1) := by decide +kernel
theorem dX11_raids_339 : decode cX11_raids 339 = .ok (.lconst 0, 1) := by decide +kernel
theorem dX11_raids_340 : decode cX11_raids 340 = .ok (.lastore, 1) := by decide +kernel
theorem dX11_raids_341 : decode cX11_raids 341 = .ok (.aload_n 0, 1) := by decide +kernel
theorem dX11_raids_342 : decode cX11_raids 342 = .ok (.getfield 16, 3) := by decide +kernel
theorem dX11_raids_345 : decode cX11_raids 345 = .ok (.iload 4, 2) := by decide +kernel
theorem dX11_raids_347 : decode cX11_raids 347 = .ok (.bipush 13, 2) := by decide +kernel
theorem dX11_raids_349 : decode cX11_raids 349 = .ok (.iadd, 1) := by decide +kernel
theorem dX11_raids_350 : decode cX11_raids 350 = .ok (.iconst 1, 1) := by decide +kernel
theorem dX11_raids_351 : decode cX11_raids 351 = .ok (.iadd, 1) := by decide +kernel
theorem dX11_raids_352 : decode cX11_raids 352 = .ok (.lconst 0, 1) := by decide +kernel
theorem dX11_raids_353 : decode cX11_raids 353 = .ok (.lastore, 1) := by decide +kernel
theorem dX11_raids_354 : decode cX11_raids 354 = .ok (.iconst 0, 1) := by decide +kernel
theorem dX11_raids_355 : decode cX11_raids 355 = .ok (.istore 9, 2) := by decide +kernel
theorem dX11_raids_357 : decode cX11_raids 357 = .ok (.iload 9, 2) := by decide +kernel
theorem dX11_raids_359 : decode cX11_raids 359 = .ok (.aload_n 0, 1) := by decide +kernel
theorem dX11_raids_360 : decode cX11_raids 360 = .ok (.getfield 82, 3) := by decide +kernel
theorem dX11_raids_363 : decode cX11_raids 363 = .ok (.if_icmp .ge 29, 3) := by decide +kernel
theorem dX11_raids_366 : decode cX11_raids 366 = .ok (.aload_n 0, 1) := by decide +kernel
theorem dX11_raids_367 : decode cX11_raids 367 = .ok (.getfield 93, 3) := by decide +kernel
theorem dX11_raids_370 : decode cX11_raids 370 = .ok (.iconst 1, 1) := by decide +kernel
theorem dX11_raids_371 : decode cX11_raids 371 = .ok (.if_icmp .ne 21, 3) := by decide +kernel
theorem dX11_raids_374 : decode cX11_raids 374 = .ok (.aload_n 0, 1) := by decide +kernel
theorem dX11_raids_375 : decode cX11_raids 375 = .ok (.iload_n 2, 1) := by decide +kernel
theorem dX11_raids_376 : decode cX11_raids 376 = .ok (.aload_n 0, 1) := by decide +kernel
theorem dX11_raids_377 : decode cX11_raids 377 = .ok (.getfield 19, 3) := by decide +kernel
theorem dX11_raids_380 : decode cX11_raids 380 = .ok (.iload 9, 2) := by decide +kernel
theorem dX11_raids_382 : decode cX11_raids 382 = .ok (.iaload, 1) := by decide +kernel
theorem dX11_raids_383 : decode cX11_raids 383 = .ok (.invokevirtual 116, 3) := by decide +kernel
theorem dX11_raids_386 : decode cX11_raids 386 = .ok (.iinc 9 1, 3) := by decide +kernel
theorem dX11_raids_389 : decode cX11_raids 389 = .ok (.goto (-32), 3) := by decide +kernel
theorem dX11_raids_392 : decode cX11_raids 392 = .ok (.iload 8, 2) := by decide +kernel
theorem dX11_raids_394 : decode cX11_raids 394 = .ok (.ifCond .eq 12, 3) := by decide +kernel
theorem dX11_raids_397 : decode cX11_raids 397 = .ok (.aload_n 0, 1) := by decide +kernel
theorem dX11_raids_398 : decode cX11_raids 398 = .ok (.iload_n 1, 1) := by decide +kernel
theorem dX11_raids_399 : decode cX11_raids 399 = .ok (.aload_n 0, 1) := by decide +kernel
theorem dX11_raids_400 : decode cX11_raids 400 = .ok (.getfield 96, 3) := by decide +kernel
theorem dX11_raids_403 : decode cX11_raids 403 = .ok (.invokevirtual 116, 3) := by decide +kernel
theorem dX11_raids_406 : decode cX11_raids 406 = .ok (.iconst 0, 1) := by decide +kernel
theorem dX11_raids_407 : decode cX11_raids 407 = .ok (.istore 9, 2) := by decide +kernel
theorem dX11_raids_409 : decode cX11_raids 409 = .ok (.aload_n 0, 1) := by decide +kernel
theorem dX11_raids_410 : decode cX11_raids 410 = .ok (.getfield 93, 3) := by decide +kernel
theorem dX11_raids_413 : decode cX11_raids 413 = .ok (.iconst 1, 1) := by decide +kernel
theorem dX11_raids_414 : decode cX11_raids 414 = .ok (.if_icmp .ne 13, 3) := by decide +kernel
theorem dX11_raids_417 : decode cX11_raids 417 = .ok (.aload_n 0, 1) := by decide +kernel
theorem dX11_raids_418 : decode cX11_raids 418 = .ok (.iload_n 1, 1) := by decide +kernel
theorem dX11_raids_419 : decode cX11_raids 419 = .ok (.iconst 0, 1) := by decide +kernel
theorem dX11_raids_420 : decode cX11_raids 420 = .ok (.aload_n 0, 1) := by decide +kernel
theorem dX11_raids_421 : decode cX11_raids 421 = .ok (.getfield 82, 3) := by decide +kernel
theorem dX11_raids_424 : decode cX11_raids 424 = .ok (.invokevirtual 78, 3) := by decide +kernel
theorem dX11_raids_427 : decode cX11_raids 427 = .ok (.iconst 0, 1) := by decide +kernel
theorem dX11_raids_428 : decode cX11_raids 428 = .ok (.istore 10, 2) := by decide +kernel
theorem dX11_raids_430 : decode cX11_raids 430 = .ok (.iload 10, 2) := by decide +kernel
theorem dX11_raids_432 : decode cX11_raids 432 = .ok (.aload_n 0, 1) := by decide +kernel
theorem dX11_raids_433 : decode cX11_raids 433 = .ok (.getfield 82, 3) := by decide +kernel
theorem dX11_raids_436 : decode cX11_raids 436 = .ok (.if_icmp .ge 27, 3) := by decide +kernel
theorem dX11_raids_439 : decode cX11_raids 439 = .ok (.aload_n 0, 1) := by decide +kernel
theorem dX11_raids_440 : decode cX11_raids 440 = .ok (.getfield 93, 3) := by decide +kernel
theorem dX11_raids_443 : decode cX11_raids 443 = .ok (.iconst 1, 1) := by decide +kernel
theorem dX11_raids_444 : decode cX11_raids 444 = .ok (.if_icmp .ne 19, 3) := by decide +kernel
theorem dX11_raids_447 : decode cX11_raids 447 = .ok (.iload 9, 2) := by decide +kernel
theorem dX11_raids_449 : decode cX11_raids 449 = .ok (.aload_n 0, 1) := by decide +kernel
theorem dX11_raids_450 : decode cX11_raids 450 = .ok (.iload_n 1, 1) := by decide +kernel
theorem dX11_raids_451 : decode cX11_raids 451 = .ok (.invokevirtual 75, 3) := by decide +kernel
theorem dX11_raids_454 : decode cX11_raids 454 = .ok (.iadd, 1) := by decide +kernel
theorem dX11_raids_455 : decode cX11_raids 455 = .ok (.istore 9, 2) := by decide +kernel
theorem dX11_raids_457 : decode cX11_raids 457 = .ok (.iinc 10 1, 3) := by decide +kernel
theorem dX11_raids_460 : decode cX11_raids 460 = .ok (.goto (-30), 3) := by decide +kernel
theorem dX11_raids_463 : decode cX11_raids 463 = .ok (.aload_n 0, 1) := by decide +kernel
theorem dX11_raids_464 : decode cX11_raids 464 = .ok (.getfield 108, 3) := by decide +kernel
theorem dX11_raids_467 : decode cX11_raids 467 = .ok (.ifCond .ne 11, 3) := by decide +kernel
theorem dX11_raids_470 : decode cX11_raids 470 = .ok (.aload_n 0, 1) := by decide +kernel
theorem dX11_raids_471 : decode cX11_raids 471 = .ok (.getfield 93, 3) := by decide +kernel
theorem dX11_raids_474 : decode cX11_raids 474 = .ok (.iconst 2, 1) := by decide +kernel
theorem dX11_raids_475 : decode cX11_raids 475 = .ok (.if_icmp .ne 10, 3) := by decide +kernel
theorem dX11_raids_478 : decode cX11_raids 478 = .ok (.aload_n 0, 1) := by decide +kernel
theorem dX11_raids_479 : decode cX11_raids 479 = .ok (.iload_n 1, 1) := by decide +kernel
theorem dX11_raids_480 : decode cX11_raids 480 = .ok (.iconst 1, 1) := by decide +kernel
theorem dX11_raids_481 : decode cX11_raids 481 = .ok (.iconst 1, 1) := by decide +kernel
theorem dX11_raids_482 : decode cX11_raids 482 = .ok (.invokevirtual 78, 3) := by decide +kernel
theorem dX11_raids_485 : decode cX11_raids 485 = .ok (.iload 8, 2) := by decide +kernel
theorem dX11_raids_487 : decode cX11_raids 487 = .ok (.ifCond .eq 22, 3) := by decide +kernel
theorem dX11_raids_490 : decode cX11_raids 490 = .ok (.aload_n 0, 1) := by decide +kernel
theorem dX11_raids_491 : decode cX11_raids 491 = .ok (.iload_n 2, 1) := by decide +kernel
theorem dX11_raids_492 : decode cX11_raids 492 = .ok (.aload_n 0, 1) := by decide +kernel
theorem dX11_raids_493 : decode cX11_raids 493 = .ok (.getfield 93, 3) := by decide +kernel
theorem dX11_raids_496 : decode cX11_raids 496 = .ok (.iconst 3, 1) := by decide +kernel
theorem dX11_raids_497 : decode cX11_raids 497 = .ok (.if_icmp .ne 7, 3) := by decide +kernel
theorem dX11_raids_500 : decode cX11_raids 500 = .ok (.iconst 2, 1) := by decide +kernel
theorem dX11_raids_501 : decode cX11_raids 501 = .ok (.goto 4, 3) := by decide +kernel
theorem dX11_raids_504 : decode cX11_raids 504 = .ok (.iconst 5, 1) := by decide +kernel
theorem dX11_raids_505 : decode cX11_raids 505 = .ok (.iconst 1, 1) := by decide +kernel
theorem dX11_raids_506 : decode cX11_raids 506 = .ok (.invokevirtual 78, 3) := by decide +kernel
theorem dX11_raids_509 : decode cX11_raids 509 = .ok (.aload_n 0, 1) := by decide +kernel
theorem dX11_raids_510 : decode cX11_raids 510 = .ok (.getfield 93, 3) := by decide +kernel
theorem dX11_raids_513 : decode cX11_raids 513 = .ok (.iconst 3, 1) := by decide +kernel
theorem dX11_raids_514 : decode cX11_raids 514 = .ok (.if_icmp .ne 15, 3) := by decide +kernel
theorem dX11_raids_517 : decode cX11_raids 517 = .ok (.iload_n 3, 1) := by decide +kernel
theorem dX11_raids_518 : decode cX11_raids 518 = .ok (.iconst 3, 1) := by decide +kernel
theorem dX11_raids_519 : decode cX11_raids 519 = .ok (.if_icmp .gt 10, 3) := by decide +kernel
theorem dX11_raids_522 : decode cX11_raids 522 = .ok (.aload_n 0, 1) := by decide +kernel
theorem dX11_raids_523 : decode cX11_raids 523 = .ok (.iload_n 2, 1) := by decide +kernel
theorem dX11_raids_524 : decode cX11_raids 524 = .ok (.iconst 3, 1) := by decide +kernel
theorem dX11_raids_525 : decode cX11_raids 525 = .ok (.iconst 1, 1) := by decide +kernel
theorem dX11_raids_526 : decode cX11_raids 526 = .ok (.invokevirtual 78, 3) := by decide +kernel
theorem dX11_raids_529 : decode cX11_raids 529 = .ok (.iload 8, 2) := by decide +kernel
theorem dX11_raids_531 : decode cX11_raids 531 = .ok (.ifCond .eq 13, 3) := by decide +kernel
theorem dX11_raids_534 : decode cX11_raids 534 = .ok (.iload 9, 2) := by decide +kernel
theorem dX11_raids_536 : decode cX11_raids 536 = .ok (.aload_n 0, 1) := by decide +kernel
theorem dX11_raids_537 : decode cX11_raids 537 = .ok (.iload_n 2, 1) := by decide +kernel
theorem dX11_raids_538 : decode cX11_raids 538 = .ok (.invokevirtual 75, 3) := by decide +kernel
theorem dX11_raids_541 : decode cX11_raids 541 = .ok (.iadd, 1) := by decide +kernel
theorem dX11_raids_542 : decode cX11_raids 542 = .ok (.istore 9, 2) := by decide +kernel
theorem dX11_raids_544 : decode cX11_raids 544 = .ok (.aload_n 0, 1) := by decide +kernel
theorem dX11_raids_545 : decode cX11_raids 545 = .ok (.getfield 16, 3) := by decide +kernel
theorem dX11_raids_548 : decode cX11_raids 548 = .ok (.iload 4, 2) := by decide +kernel
theorem dX11_raids_550 : decode cX11_raids 550 = .ok (.bipush 8, 2) := by decide +kernel
theorem dX11_raids_552 : decode cX11_raids 552 = .ok (.iadd, 1) := by decide +kernel
theorem dX11_raids_553 : decode cX11_raids 553 = .ok (.iload 9, 2) := by decide +kernel
theorem dX11_raids_555 : decode cX11_raids 555 = .ok (.i2l, 1) := by decide +kernel
theorem dX11_raids_556 : decode cX11_raids 556 = .ok (.lastore, 1) := by decide +kernel
theorem dX11_raids_557 : decode cX11_raids 557 = .ok (.aload_n 0, 1) := by decide +kernel
theorem dX11_raids_558 : decode cX11_raids 558 = .ok (.invokevirtual 119, 3) := by decide +kernel
theorem dX11_raids_561 : decode cX11_raids 561 = .ok (.aload_n 0, 1) := by decide +kernel
theorem dX11_raids_562 : decode cX11_raids 562 = .ok (.iload_n 2, 1) := by decide +kernel
theorem dX11_raids_563 : decode cX11_raids 563 = .ok (.invokevirtual 122, 3) := by decide +kernel
theorem dX11_raids_566 : decode cX11_raids 566 = .ok (.ifCond .eq 9, 3) := by decide +kernel
theorem dX11_raids_569 : decode cX11_raids 569 = .ok (.iconst 1, 1) := by decide +kernel
theorem dX11_raids_570 : decode cX11_raids 570 = .ok (.iload_n 2, 1) := by decide +kernel
theorem dX11_raids_571 : decode cX11_raids 571 = .ok (.ishl, 1) := by decide +kernel
theorem dX11_raids_572 : decode cX11_raids 572 = .ok (.goto 4, 3) := by decide +kernel
theorem dX11_raids_575 : decode cX11_raids 575 = .ok (.iconst 0, 1) := by decide +kernel
theorem dX11_raids_576 : decode cX11_raids 576 = .ok (.istore 10, 2) := by decide +kernel
theorem dX11_raids_578 : decode cX11_raids 578 = .ok (.iload 10, 2) := by decide +kernel
theorem dX11_raids_580 : decode cX11_raids 580 = .ok (.aload_n 0, 1) := by decide +kernel
theorem dX11_raids_581 : decode cX11_raids 581 = .ok (.iload_n 1, 1) := by decide +kernel
theorem dX11_raids_582 : decode cX11_raids 582 = .ok (.invokevirtual 122, 3) := by decide +kernel
theorem dX11_raids_585 : decode cX11_raids 585 = .ok (.ifCond .eq 9, 3) := by decide +kernel
theorem dX11_raids_588 : decode cX11_raids 588 = .ok (.iconst 1, 1) := by decide +kernel
theorem dX11_raids_589 : decode cX11_raids 589 = .ok (.iload_n 1, 1) := by decide +kernel
theorem dX11_raids_590 : decode cX11_raids 590 = .ok (.ishl, 1) := by decide +kernel
theorem dX11_raids_591 : decode cX11_raids 591 = .ok (.goto 4, 3) := by decide +kernel
theorem dX11_raids_594 : decode cX11_raids 594 = .ok (.iconst 0, 1) := by decide +kernel
theorem dX11_raids_595 : decode cX11_raids 595 = .ok (.ior, 1) := by decide +kernel
theorem dX11_raids_596 : decode cX11_raids 596 = .ok (.istore 10, 2) := by decide +kernel
theorem dX11_raids_598 : decode cX11_raids 598 = .ok (.aload_n 0, 1) := by decide +kernel
theorem dX11_raids_599 : decode cX11_raids 599 = .ok (.getfield 16, 3) := by decide +kernel
theorem dX11_raids_602 : decode cX11_raids 602 = .ok (.iload 4, 2) := by decide +kernel
theorem dX11_raids_604 : decode cX11_raids 604 = .ok (.bipush 9, 2) := by decide +kernel
theorem dX11_raids_606 : decode cX11_raids 606 = .ok (.iadd, 1) := by decide +kernel
theorem dX11_raids_607 : decode cX11_raids 607 = .ok (.iload 10, 2) := by decide +kernel
theorem dX11_raids_609 : decode cX11_raids 609 = .ok (.i2l, 1) := by decide +kernel
theorem dX11_raids_610 : decode cX11_raids 610 = .ok (.lastore, 1) := by decide +kernel
theorem dX11_raids_611 : decode cX11_raids 611 = .ok (.aload_n 0, 1) := by decide +kernel
theorem dX11_raids_612 : decode cX11_raids 612 = .ok (.getfield 16, 3) := by decide +kernel
theorem dX11_raids_615 : decode cX11_raids 615 = .ok (.iload 4, 2) := by decide +kernel
theorem dX11_raids_617 : decode cX11_raids 617 = .ok (.iconst 3, 1) := by decide +kernel
theorem dX11_raids_618 : decode cX11_raids 618 = .ok (.iadd, 1) := by decide +kernel
theorem dX11_raids_619 : decode cX11_raids 619 = .ok (.aload_n 0, 1) := by decide +kernel
theorem dX11_raids_620 : decode cX11_raids 620 = .ok (.iload_n 1, 1) := by decide +kernel
theorem dX11_raids_621 : decode cX11_raids 621 = .ok (.invokevirtual 90, 3) := by decide +kernel
theorem dX11_raids_624 : decode cX11_raids 624 = .ok (.iload 6, 2) := by decide +kernel
theorem dX11_raids_626 : decode cX11_raids 626 = .ok (.isub, 1) := by decide +kernel
theorem dX11_raids_627 : decode cX11_raids 627 = .ok (.i2l, 1) := by decide +kernel
theorem dX11_raids_628 : decode cX11_raids 628 = .ok (.lastore, 1) := by decide +kernel
theorem dX11_raids_629 : decode cX11_raids 629 = .ok (.aload_n 0, 1) := by decide +kernel
theorem dX11_raids_630 : decode cX11_raids 630 = .ok (.getfield 16, 3) := by decide +kernel
theorem dX11_raids_633 : decode cX11_raids 633 = .ok (.iload 4, 2) := by decide +kernel
theorem dX11_raids_635 : decode cX11_raids 635 = .ok (.iconst 4, 1) := by decide +kernel
theorem dX11_raids_636 : decode cX11_raids 636 = .ok (.iadd, 1) := by decide +kernel
theorem dX11_raids_637 : decode cX11_raids 637 = .ok (.aload_n 0, 1) := by decide +kernel
theorem dX11_raids_638 : decode cX11_raids 638 = .ok (.iload_n 2, 1) := by decide +kernel
theorem dX11_raids_639 : decode cX11_raids 639 = .ok (.invokevirtual 90, 3) := by decide +kernel
theorem dX11_raids_642 : decode cX11_raids 642 = .ok (.iload 7, 2) := by decide +kernel
theorem dX11_raids_644 : decode cX11_raids 644 = .ok (.isub, 1) := by decide +kernel
theorem dX11_raids_645 : decode cX11_raids 645 = .ok (.i2l, 1) := by decide +kernel
theorem dX11_raids_646 : decode cX11_raids 646 = .ok (.lastore, 1) := by decide +kernel
theorem dX11_raids_647 : decode cX11_raids 647 = .ok (.aload_n 0, 1) := by decide +kernel
theorem dX11_raids_648 : decode cX11_raids 648 = .ok (.getfield 16, 3) := by decide +kernel
theorem dX11_raids_651 : decode cX11_raids 651 = .ok (.bipush 30, 2) := by decide +kernel
theorem dX11_raids_653 : decode cX11_raids 653 = .ok (.iload_n 1, 1) := by decide +kernel
theorem dX11_raids_654 : decode cX11_raids 654 = .ok (.iadd, 1) := by decide +kernel
theorem dX11_raids_655 : decode cX11_raids 655 = .ok (.aload_n 0, 1) := by decide +kernel
theorem dX11_raids_656 : decode cX11_raids 656 = .ok (.getfield 93, 3) := by decide +kernel
theorem dX11_raids_659 : decode cX11_raids 659 = .ok (.ifCond .ne 22, 3) := by decide +kernel
theorem dX11_raids_662 : decode cX11_raids 662 = .ok (.iload 5, 2) := by decide +kernel
theorem dX11_raids_664 : decode cX11_raids 664 = .ok (.ifCond .ne 17, 3) := by decide +kernel
theorem dX11_raids_667 : decode cX11_raids 667 = .ok (.aload_n 0, 1) := by decide +kernel
theorem dX11_raids_668 : decode cX11_raids 668 = .ok (.getfield 16, 3) := by decide +kernel
theorem dX11_raids_671 : decode cX11_raids 671 = .ok (.bipush 30, 2) := by decide +kernel
theorem dX11_raids_673 : decode cX11_raids 673 = .ok (.iload_n 1, 1) := by decide +kernel
theorem dX11_raids_674 : decode cX11_raids 674 = .ok (.iadd, 1) := by decide +kernel
theorem dX11_raids_675 : decode cX11_raids 675 = .ok (.laload, 1) := by decide +kernel
theorem dX11_raids_676 : decode cX11_raids 676 = .ok (.lconst 1, 1) := by decide +kernel
theorem dX11_raids_677 : decode cX11_raids 677 = .ok (.ladd, 1) := by decide +kernel
theorem dX11_raids_678 : decode cX11_raids 678 = .ok (.goto 4, 3) := by decide +kernel
theorem dX11_raids_681 : decode cX11_raids 681 = .ok (.lconst 0, 1) := by decide +kernel
theorem dX11_raids_682 : decode cX11_raids 682 = .ok (.lastore, 1) := by decide +kernel
theorem dX11_raids_683 : decode cX11_raids 683 = .ok (.aload_n 0, 1) := by decide +kernel
theorem dX11_raids_684 : decode cX11_raids 684 = .ok (.getfield 16, 3) := by decide +kernel
theorem dX11_raids_687 : decode cX11_raids 687 = .ok (.bipush 28, 2) := by decide +kernel
theorem dX11_raids_689 : decode cX11_raids 689 = .ok (.iload_n 2, 1) := by decide +kernel
theorem dX11_raids_690 : decode cX11_raids 690 = .ok (.i2l, 1) := by decide +kernel
theorem dX11_raids_691 : decode cX11_raids 691 = .ok (.lastore, 1) := by decide +kernel
theorem dX11_raids_692 : decode cX11_raids 692 = .ok (.aload_n 0, 1) := by decide +kernel
theorem dX11_raids_693 : decode cX11_raids 693 = .ok (.getfield 16, 3) := by decide +kernel
theorem dX11_raids_696 : decode cX11_raids 696 = .ok (.bipush 25, 2) := by decide +kernel
theorem dX11_raids_698 : decode cX11_raids 698 = .ok (.dup2, 1) := by decide +kernel
theorem dX11_raids_699 : decode cX11_raids 699 = .ok (.laload, 1) := by decide +kernel
theorem dX11_raids_700 : decode cX11_raids 700 = .ok (.lconst 1, 1) := by decide +kernel
theorem dX11_raids_701 : decode cX11_raids 701 = .ok (.ladd, 1) := by decide +kernel
theorem dX11_raids_702 : decode cX11_raids 702 = .ok (.lastore, 1) := by decide +kernel
theorem dX11_raids_703 : decode cX11_raids 703 = .ok (.aload_n 0, 1) := by decide +kernel
theorem dX11_raids_704 : decode cX11_raids 704 = .ok (.getfield 16, 3) := by decide +kernel
theorem dX11_raids_707 : decode cX11_raids 707 = .ok (.bipush 29, 2) := by decide +kernel
theorem dX11_raids_709 : decode cX11_raids 709 = .ok (.lconst 1, 1) := by decide +kernel
theorem dX11_raids_710 : decode cX11_raids 710 = .ok (.lastore, 1) := by decide +kernel
theorem dX11_raids_711 : decode cX11_raids 711 = .ok (.return_, 1) := by decide +kernel
def fX11_raids_l2 (p0 : Nat) (K : Int32 → xMem → Option (xMem)) : Nat → Int32 → xMem → Option (xMem)
  | 0, _, _ => none
  | n + 1, v1, M => if (nI 105) ≤ v1 then (K v1 M) else (xGb ((nI 25) + v1) (xln (xnw M)) (xGb ((nI 130) + v1) (xln (xnw M)) (xLt (xwL M (xnw M) (Int32.toNatClampNeg ((nI 130) + v1)) (M.2.1 (xnw M) (Int32.toNatClampNeg ((nI 25) + v1)))) fun M3 => xLt (v1 + nI 1) fun x4 => fX11_raids_l2 p0 K n x4 M3)))
def fX11_raids_l357 (p0 : Nat) (p1 : Int32) (p2 : Int32) (p3 : Int32) (p4 : Int32) (p5 : Int32) (p6 : Int32) (p7 : Int32) (p8 : Int32) (K : Int32 → xMem → Option (xMem)) : Nat → Int32 → xMem → Option (xMem)
  | 0, _, _ => none
  | n + 1, v9, M => if (M.1 p0 8) ≤ v9 then (K v9 M) else (if (M.1 p0 5) = (nI 1) then (xGb v9 (xln (xrf p0 7)) (xBv (fX11_goesOut p0 p2 (M.1 (xrf p0 7) (Int32.toNatClampNeg v9)) M) fun M61 => xLt (v9 + nI 1) fun x62 => fX11_raids_l357 p0 p1 p2 p3 p4 p5 p6 p7 p8 K n x62 M61)) else (K v9 M))
def fX11_raids_l430 (p0 : Nat) (p1 : Int32) (p2 : Int32) (p3 : Int32) (p4 : Int32) (p5 : Int32) (p6 : Int32) (p7 : Int32) (p8 : Int32) (K : Int32 → Int32 → xMem → Option (xMem)) : Nat → Int32 → Int32 → xMem → Option (xMem)
  | 0, _, _, _ => none
  | n + 1, v9, v10, M => if (M.1 p0 8) ≤ v10 then (K v9 v10 M) else (if (M.1 p0 5) = (nI 1) then (xBn (fX11_back p0 p1 M) fun r67 M68 => xLt (v9 + r67) fun x69 => xLt (v10 + nI 1) fun x70 => fX11_raids_l430 p0 p1 p2 p3 p4 p5 p6 p7 p8 K n x69 x70 M68) else (K v9 v10 M))
def fX11_raids (a0 : Nat) (M : xMem) : Option (xMem) :=
  fX11_raids_l2 a0 (fun (v5 : Int32) (M6 : xMem) => xBn (fX11_get a0 (nI 28) M6) fun r7 M8 => xLt ((nI 1) - r7) fun x9 => xBn (fX11_thoseOf a0 x9 (nI 0) M8) fun r10 M11 => xBn (fX11_bits r10 M11) fun r12 M13 => xBn (fX11_get a0 (nI 25) M13) fun r14 M15 => xLt ((nI 235) + ((nI 15) * r14)) fun x16 => xGb ((nI 30) + r7) (xln (xnw M15)) (xLt (fun (s18 : Int32) (M19 : xMem) => (xBn (fX11_scoreOf a0 r7 M19) fun r20 M21 => xBn (fX11_scoreOf a0 x9 M21) fun r22 M23 => xLt (fun (s24 : Int32) (M25 : xMem) => (xGb (x16 + (nI 0)) (xln (xnw M25)) (xLt (xwL M25 (xnw M25) (Int32.toNatClampNeg (x16 + (nI 0))) (Int32.toInt64 r7)) fun M27 => xGb (x16 + (nI 1)) (xln (xnw M27)) (xLt (xwL M27 (xnw M27) (Int32.toNatClampNeg (x16 + (nI 1))) (Int32.toInt64 (M27.1 a0 4))) fun M29 => xGb (x16 + (nI 2)) (xln (xnw M29)) (xLt (xwL M29 (xnw M29) (Int32.toNatClampNeg (x16 + (nI 2))) (Int32.toInt64 (M29.1 a0 5))) fun M31 => xLt (fun (s32 : Int64) (M33 : xMem) => (xGb (x16 + (nI 5)) (xln (xnw M31)) (xLt (xwL M33 (xnw M31) (Int32.toNatClampNeg (x16 + (nI 5))) s32) fun M35 => xLt (fun (s36 : Int64) (M37 : xMem) => (xGb (x16 + (nI 6)) (xln (xnw M35)) (xLt (xwL M37 (xnw M35) (Int32.toNatClampNeg (x16 + (nI 6))) s36) fun M39 => xLt (fun (s40 : Int64) (M41 : xMem) => (xGb (x16 + (nI 7)) (xln (xnw M39)) (xLt (xwL M41 (xnw M39) (Int32.toNatClampNeg (x16 + (nI 7))) s40) fun M43 => xBn (fX11_thoseOf a0 r7 (nI 0) M43) fun r44 M45 => xGb ((x16 + (nI 10)) + r7) (xln (xnw M43)) (xLt (xwL M45 (xnw M43) (Int32.toNatClampNeg ((x16 + (nI 10)) + r7)) (Int32.toInt64 r44)) fun M47 => xBn (fX11_thoseOf a0 x9 (nI 0) M47) fun r48 M49 => xGb ((x16 + (nI 10)) + x9) (xln (xnw M47)) (xLt (xwL M49 (xnw M47) (Int32.toNatClampNeg ((x16 + (nI 10)) + x9)) (Int32.toInt64 r48)) fun M51 => xLt (fun (s52 : Int64) (M53 : xMem) => (xGb (x16 + (nI 12)) (xln (xnw M51)) (xLt (xwL M53 (xnw M51) (Int32.toNatClampNeg (x16 + (nI 12))) s52) fun M55 => xGb (x16 + (nI 13)) (xln (xnw M55)) (xLt (xwL M55 (xnw M55) (Int32.toNatClampNeg (x16 + (nI 13))) (lN 0)) fun M57 => xGb ((x16 + (nI 13)) + (nI 1)) (xln (xnw M57)) (xLt (xwL M57 (xnw M57) (Int32.toNatClampNeg ((x16 + (nI 13)) + (nI 1))) (lN 0)) fun M59 => fX11_raids_l357 a0 r7 x9 r12 x16 s18 r20 r22 s24 (fun (v63 : Int32) (M64 : xMem) => xLt (fun  (M65 : xMem) => (xLt (fun  (M66 : xMem) => (fX11_raids_l430 a0 r7 x9 r12 x16 s18 r20 r22 s24 (fun (v71 : Int32) (v72 : Int32) (M73 : xMem) => xLt (fun  (M74 : xMem) => (xLt (fun  (M75 : xMem) => (xLt (fun  (M76 : xMem) => (xLt (fun (v77 : Int32) (M78 : xMem) => (xGb (x16 + (nI 8)) (xln (xnw M78)) (xLt (xwL M78 (xnw M78) (Int32.toNatClampNeg (x16 + (nI 8))) (Int32.toInt64 v77)) fun M80 => xBv (fX11_waits a0 M80) fun M81 => xBn (fX11_allOutOf a0 x9 M81) fun r82 M83 => xLt (fun (s84 : Int32) (M85 : xMem) => (xBn (fX11_allOutOf a0 r7 M85) fun r86 M87 => xLt (fun (s88 : Int32) (M89 : xMem) => (xLt (s84 ||| s88) fun x90 => xGb (x16 + (nI 9)) (xln (xnw M89)) (xLt (xwL M89 (xnw M89) (Int32.toNatClampNeg (x16 + (nI 9))) (Int32.toInt64 x90)) fun M92 => xBn (fX11_scoreOf a0 r7 M92) fun r93 M94 => xGb (x16 + (nI 3)) (xln (xnw M92)) (xLt (xwL M94 (xnw M92) (Int32.toNatClampNeg (x16 + (nI 3))) (Int32.toInt64 (r93 - r20))) fun M96 => xBn (fX11_scoreOf a0 x9 M96) fun r97 M98 => xGb (x16 + (nI 4)) (xln (xnw M96)) (xLt (xwL M98 (xnw M96) (Int32.toNatClampNeg (x16 + (nI 4))) (Int32.toInt64 (r97 - r22))) fun M100 => xLt (fun (s101 : Int64) (M102 : xMem) => (xGb ((nI 30) + r7) (xln (xnw M100)) (xLt (xwL M102 (xnw M100) (Int32.toNatClampNeg ((nI 30) + r7)) s101) fun M104 => xGb (nI 28) (xln (xnw M104)) (xLt (xwL M104 (xnw M104) (Int32.toNatClampNeg (nI 28)) (Int32.toInt64 x9)) fun M106 => xGb (nI 25) (xln (xnw M106)) (xGb (nI 25) (xln (xnw M106)) (xLt (xwL M106 (xnw M106) (Int32.toNatClampNeg (nI 25)) ((M106.2.1 (xnw M106) (Int32.toNatClampNeg (nI 25))) + (lN 1))) fun M109 => xGb (nI 29) (xln (xnw M109)) (xLt (xwL M109 (xnw M109) (Int32.toNatClampNeg (nI 29)) (lN 1)) fun M111 => some M111))))) : Option (xMem))) fun J682 => xLt (fun  (M112 : xMem) => (J682 (lN 0) M112 : Option (xMem))) fun J681 => if (M100.1 a0 5) = 0 then (if s18 = 0 then (xGb ((nI 30) + r7) (xln (xnw M100)) (J682 ((M100.2.1 (xnw M100) (Int32.toNatClampNeg ((nI 30) + r7))) + (lN 1)) M100)) else (J681  M100)) else (J681  M100)))) : Option (xMem))) fun J595 => if r86 = 0 then (J595 (nI 0) M87) else (J595 ((nI 1) <<< (r7 &&& 31)) M87) : Option (xMem))) fun J576 => if r82 = 0 then (J576 (nI 0) M83) else (J576 ((nI 1) <<< (x9 &&& 31)) M83)) : Option (xMem))) fun J544 => if s24 = 0 then (J544 v71 M76) else (xBn (fX11_back a0 x9 M76) fun r114 M115 => xLt (v71 + r114) fun x116 => J544 x116 M115) : Option (xMem))) fun J529 => if (M75.1 a0 5) = (nI 3) then (if (nI 3) < r12 then (J529  M75) else (xBv (fX11_scores a0 x9 (nI 3) (nI 1) M75) fun M117 => J529  M117)) else (J529  M75) : Option (xMem))) fun J509 => if s24 = 0 then (J509  M74) else (xLt (fun (s118 : Int32) (M119 : xMem) => (xBv (fX11_scores a0 x9 s118 (nI 1) M119) fun M120 => J509  M120 : Option (xMem))) fun J505 => if (M74.1 a0 5) = (nI 3) then (J505 (nI 2) M74) else (J505 (nI 5) M74)) : Option (xMem))) fun J485 => xLt (fun  (M121 : xMem) => (xBv (fX11_scores a0 r7 (nI 1) (nI 1) M121) fun M122 => J485  M122 : Option (xMem))) fun J478 => if (M73.1 a0 6) = 0 then (if (M73.1 a0 5) = (nI 2) then (J478  M73) else (J485  M73)) else (J478  M73)) xFU (nI 0) (nI 0) M66 : Option (xMem))) fun J427 => if (M65.1 a0 5) = (nI 1) then (xBv (fX11_scores a0 r7 (nI 0) (M65.1 a0 8) M65) fun M123 => J427  M123) else (J427  M65) : Option (xMem))) fun J406 => if s24 = 0 then (J406  M64) else (xBv (fX11_goesOut a0 r7 (M64.1 a0 4) M64) fun M124 => J406  M124)) xFU (nI 0) M59))) : Option (xMem))) fun J329 => if (M51.1 a0 5) = (nI 1) then (xBn (fX11_orderOf a0 M51) fun r125 M126 => J329 r125 M126) else (J329 (lN 0) M51)))) : Option (xMem))) fun J265 => if s18 = 0 then (J265 (lN 0) M39) else (J265 (lN 1) M39)) : Option (xMem))) fun J245 => if (M35.1 a0 6) = 0 then (J245 (lN 0) M35) else (J245 (lN 1) M35)) : Option (xMem))) fun J223 => if (M31.1 a0 5) = (nI 3) then (J223 (Int32.toInt64 (M31.1 a0 9)) M31) else (if (M31.1 a0 5) = (nI 1) then (xBn (fX11_setOf a0 M31) fun r127 M128 => J223 (Int32.toInt64 r127) M128) else (J223 (-1) M31))))) : Option (xMem))) fun J139 => if (M23.1 a0 5) = (nI 3) then (J139 (nI 1) M23) else (if (M23.1 a0 5) = (nI 4) then (J139 (nI 1) M23) else (if (M23.1 a0 5) = 0 then (if s18 = 0 then (J139 (nI 0) M23) else (J139 (nI 1) M23)) else (J139 (nI 0) M23))) : Option (xMem))) fun J90 => if (lg_cmp (M15.2.1 (xnw M15) (Int32.toNatClampNeg ((nI 30) + r7))) (lN 2)) = 0 then (J90 (nI 1) M15) else (J90 (nI 0) M15))) xFU (nI 0) M
set_option maxRecDepth 100000 in
set_option maxHeartbeats 4000000 in
theorem lX11_raids_2 {X : xCX} {M' : xMem} (C : xCk X cX11_raids RX11 5) (R0 : xRk X none (none, M')) (hnL : X.2.2.2.2.2.2.2.2.2.2.2.2.2 = 11) (p0 : Nat) (hp0 : xkd p0 = 11) (K : Int32 → xMem → Option (xMem)) (hK : ∀ (v1 : Int32) (M : xMem), K v1 M = some M' → WW X 33 [some (vr X.1 p0), some (.int v1), none, none, none, none, none, none, none, none, none] [] M) : ∀ (n : Nat) (v1 : Int32) (M : xMem), fX11_raids_l2 p0 K n v1 M = some M' → WW X 2 [some (vr X.1 p0), some (.int v1), none, none, none, none, none, none, none, none, none] [] M := by
  have hn1 : 1 < X.2.2.2.2.2.2.2.2.2.2.2.2.2 := by rw [hnL]; decide
  have hn2 : 2 < X.2.2.2.2.2.2.2.2.2.2.2.2.2 := by rw [hnL]; decide
  have hn3 : 3 < X.2.2.2.2.2.2.2.2.2.2.2.2.2 := by rw [hnL]; decide
  have hn4 : 4 < X.2.2.2.2.2.2.2.2.2.2.2.2.2 := by rw [hnL]; decide
  have hn5 : 5 < X.2.2.2.2.2.2.2.2.2.2.2.2.2 := by rw [hnL]; decide
  have hn6 : 6 < X.2.2.2.2.2.2.2.2.2.2.2.2.2 := by rw [hnL]; decide
  have hn7 : 7 < X.2.2.2.2.2.2.2.2.2.2.2.2.2 := by rw [hnL]; decide
  have hn8 : 8 < X.2.2.2.2.2.2.2.2.2.2.2.2.2 := by rw [hnL]; decide
  have hn9 : 9 < X.2.2.2.2.2.2.2.2.2.2.2.2.2 := by rw [hnL]; decide
  have hn10 : 10 < X.2.2.2.2.2.2.2.2.2.2.2.2.2 := by rw [hnL]; decide
  intro n
  induction n with
  | zero =>
    intro v1 M h
    cases (show (none : Option (xMem)) = some M' from h)
  | succ n ih =>
    intro v1 M h
    rw [fX11_raids_l2.eq_2] at h
    refine r_iload_n (pc := 2) C dX11_raids_2 rfl rfl ?_
    refine r_bipush (pc := 3) (v := (nI 105)) C dX11_raids_3 (by decide) ?_
    refine r_icmp_ge (pc := 5) (tgt := 33) C dX11_raids_5 (by decide) h (fun _ h => ?_) (fun _ h => ?_)
    · exact hK v1 M h
    · refine r_aload_n (pc := 8) C dX11_raids_8 rfl rfl ?_
      refine r_getW (pc := 9) C kX11_16 hp0 dX11_raids_9 ?_
      refine r_sipush (pc := 12) (v := (nI 130)) C dX11_raids_12 (by decide) ?_
      refine r_iload_n (pc := 15) C dX11_raids_15 rfl rfl ?_
      refine r_iadd (pc := 16) C dX11_raids_16 ?_
      refine r_aload_n (pc := 17) C dX11_raids_17 rfl rfl ?_
      refine r_getW (pc := 18) C kX11_16 hp0 dX11_raids_18 ?_
      refine r_bipush (pc := 21) (v := (nI 25)) C dX11_raids_21 (by decide) ?_
      refine r_iload_n (pc := 23) C dX11_raids_23 rfl rfl ?_
      refine r_iadd (pc := 24) C dX11_raids_24 ?_
      obtain ⟨g1, h⟩ := xGb_of h
      refine r_lald (pc := 25) C (xknw M) g1 dX11_raids_25 ?_
      obtain ⟨g2, h⟩ := xGb_of h
      refine r_last (pc := 26) C (xknw M) g2 dX11_raids_26 ?_
      refine r_letM h (fun M3 h => ?_)
      refine r_iincL (pc := 27) (c := nI 1) C dX11_raids_27 rfl (by decide) hn1 h (fun x4 h => ?_)
      refine r_lvE (lv' := [_, _, _, _, _, _, _, _, _, _, _]) rfl ?_
      refine r_goto (pc := 30) (tgt := 2) C dX11_raids_30 (by decide) ?_
      exact ih x4 M3 h
set_option maxRecDepth 100000 in
set_option maxHeartbeats 4000000 in
theorem lX11_raids_357 {X : xCX} {M' : xMem} (C : xCk X cX11_raids RX11 5) (R0 : xRk X none (none, M')) (hnL : X.2.2.2.2.2.2.2.2.2.2.2.2.2 = 11) (p0 : Nat) (hp0 : xkd p0 = 11) (p1 : Int32) (p2 : Int32) (p3 : Int32) (p4 : Int32) (p5 : Int32) (p6 : Int32) (p7 : Int32) (p8 : Int32) (K : Int32 → xMem → Option (xMem)) (hK : ∀ (v9 : Int32) (M : xMem), K v9 M = some M' → WW X 392 [some (vr X.1 p0), some (.int p1), some (.int p2), some (.int p3), some (.int p4), some (.int p5), some (.int p6), some (.int p7), some (.int p8), some (.int v9), none] [] M) : ∀ (n : Nat) (v9 : Int32) (M : xMem), fX11_raids_l357 p0 p1 p2 p3 p4 p5 p6 p7 p8 K n v9 M = some M' → WW X 357 [some (vr X.1 p0), some (.int p1), some (.int p2), some (.int p3), some (.int p4), some (.int p5), some (.int p6), some (.int p7), some (.int p8), some (.int v9), none] [] M := by
  have hn1 : 1 < X.2.2.2.2.2.2.2.2.2.2.2.2.2 := by rw [hnL]; decide
  have hn2 : 2 < X.2.2.2.2.2.2.2.2.2.2.2.2.2 := by rw [hnL]; decide
  have hn3 : 3 < X.2.2.2.2.2.2.2.2.2.2.2.2.2 := by rw [hnL]; decide
  have hn4 : 4 < X.2.2.2.2.2.2.2.2.2.2.2.2.2 := by rw [hnL]; decide
  have hn5 : 5 < X.2.2.2.2.2.2.2.2.2.2.2.2.2 := by rw [hnL]; decide
  have hn6 : 6 < X.2.2.2.2.2.2.2.2.2.2.2.2.2 := by rw [hnL]; decide
  have hn7 : 7 < X.2.2.2.2.2.2.2.2.2.2.2.2.2 := by rw [hnL]; decide
  have hn8 : 8 < X.2.2.2.2.2.2.2.2.2.2.2.2.2 := by rw [hnL]; decide
  have hn9 : 9 < X.2.2.2.2.2.2.2.2.2.2.2.2.2 := by rw [hnL]; decide
  have hn10 : 10 < X.2.2.2.2.2.2.2.2.2.2.2.2.2 := by rw [hnL]; decide
  intro n
  induction n with
  | zero =>
    intro v9 M h
    cases (show (none : Option (xMem)) = some M' from h)
  | succ n ih =>
    intro v9 M h
    rw [fX11_raids_l357.eq_2] at h
    refine r_iload (pc := 357) C dX11_raids_357 rfl ?_
    refine r_aload_n (pc := 359) C dX11_raids_359 rfl rfl ?_
    refine r_getI (pc := 360) C kX11_82 hp0 dX11_raids_360 ?_
    refine r_icmp_ge (pc := 363) (tgt := 392) C dX11_raids_363 (by decide) h (fun _ h => ?_) (fun _ h => ?_)
    · exact hK v9 M h
    · refine r_aload_n (pc := 366) C dX11_raids_366 rfl rfl ?_
      refine r_getI (pc := 367) C kX11_93 hp0 dX11_raids_367 ?_
      refine r_iconst (pc := 370) (v := (nI 1)) C dX11_raids_370 (by decide) ?_
      refine r_icmp_ne (pc := 371) (tgt := 392) C dX11_raids_371 (by decide) h (fun _ h => ?_) (fun _ h => ?_)
      · exact hK v9 M h
      · refine r_aload_n (pc := 374) C dX11_raids_374 rfl rfl ?_
        refine r_iload_n (pc := 375) C dX11_raids_375 rfl rfl ?_
        refine r_aload_n (pc := 376) C dX11_raids_376 rfl rfl ?_
        refine r_getR (pc := 377) C kX11_19 hp0 (by decide) dX11_raids_377 ?_
        refine r_iload (pc := 380) C dX11_raids_380 rfl ?_
        obtain ⟨g60, h⟩ := xGb_of h
        refine r_iald (pc := 382) C (xtk hp0 (by decide) rfl rfl) g60 dX11_raids_382 ?_
        refine r_vV2 (pc := 383) C (fun M' e => zX11_goesOut X.1 p0 hp0 p2 (M.1 (xrf p0 7) (Int32.toNatClampNeg v9)) M M' e) hp0 (by decide) rfl mX11_goesOut lX11_116 (by decide) (Nat.le_of_ble_eq_true rfl) dX11_raids_383 h (fun M61 h => ?_)
        refine r_iincL (pc := 386) (c := nI 1) C dX11_raids_386 rfl (by decide) hn9 h (fun x62 h => ?_)
        refine r_lvE (lv' := [_, _, _, _, _, _, _, _, _, _, _]) rfl ?_
        refine r_goto (pc := 389) (tgt := 357) C dX11_raids_389 (by decide) ?_
        exact ih x62 M61 h
set_option maxRecDepth 100000 in
set_option maxHeartbeats 4000000 in
theorem lX11_raids_430 {X : xCX} {M' : xMem} (C : xCk X cX11_raids RX11 5) (R0 : xRk X none (none, M')) (hnL : X.2.2.2.2.2.2.2.2.2.2.2.2.2 = 11) (p0 : Nat) (hp0 : xkd p0 = 11) (p1 : Int32) (p2 : Int32) (p3 : Int32) (p4 : Int32) (p5 : Int32) (p6 : Int32) (p7 : Int32) (p8 : Int32) (K : Int32 → Int32 → xMem → Option (xMem)) (hK : ∀ (v9 : Int32) (v10 : Int32) (M : xMem), K v9 v10 M = some M' → WW X 463 [some (vr X.1 p0), some (.int p1), some (.int p2), some (.int p3), some (.int p4), some (.int p5), some (.int p6), some (.int p7), some (.int p8), some (.int v9), some (.int v10)] [] M) : ∀ (n : Nat) (v9 : Int32) (v10 : Int32) (M : xMem), fX11_raids_l430 p0 p1 p2 p3 p4 p5 p6 p7 p8 K n v9 v10 M = some M' → WW X 430 [some (vr X.1 p0), some (.int p1), some (.int p2), some (.int p3), some (.int p4), some (.int p5), some (.int p6), some (.int p7), some (.int p8), some (.int v9), some (.int v10)] [] M := by
  have hn1 : 1 < X.2.2.2.2.2.2.2.2.2.2.2.2.2 := by rw [hnL]; decide
  have hn2 : 2 < X.2.2.2.2.2.2.2.2.2.2.2.2.2 := by rw [hnL]; decide
  have hn3 : 3 < X.2.2.2.2.2.2.2.2.2.2.2.2.2 := by rw [hnL]; decide
  have hn4 : 4 < X.2.2.2.2.2.2.2.2.2.2.2.2.2 := by rw [hnL]; decide
  have hn5 : 5 < X.2.2.2.2.2.2.2.2.2.2.2.2.2 := by rw [hnL]; decide
  have hn6 : 6 < X.2.2.2.2.2.2.2.2.2.2.2.2.2 := by rw [hnL]; decide
  have hn7 : 7 < X.2.2.2.2.2.2.2.2.2.2.2.2.2 := by rw [hnL]; decide
  have hn8 : 8 < X.2.2.2.2.2.2.2.2.2.2.2.2.2 := by rw [hnL]; decide
  have hn9 : 9 < X.2.2.2.2.2.2.2.2.2.2.2.2.2 := by rw [hnL]; decide
  have hn10 : 10 < X.2.2.2.2.2.2.2.2.2.2.2.2.2 := by rw [hnL]; decide
  intro n
  induction n with
  | zero =>
    intro v9 v10 M h
    cases (show (none : Option (xMem)) = some M' from h)
  | succ n ih =>
    intro v9 v10 M h
    rw [fX11_raids_l430.eq_2] at h
    refine r_iload (pc := 430) C dX11_raids_430 rfl ?_
    refine r_aload_n (pc := 432) C dX11_raids_432 rfl rfl ?_
    refine r_getI (pc := 433) C kX11_82 hp0 dX11_raids_433 ?_
    refine r_icmp_ge (pc := 436) (tgt := 463) C dX11_raids_436 (by decide) h (fun _ h => ?_) (fun _ h => ?_)
    · exact hK v9 v10 M h
    · refine r_aload_n (pc := 439) C dX11_raids_439 rfl rfl ?_
      refine r_getI (pc := 440) C kX11_93 hp0 dX11_raids_440 ?_
      refine r_iconst (pc := 443) (v := (nI 1)) C dX11_raids_443 (by decide) ?_
      refine r_icmp_ne (pc := 444) (tgt := 463) C dX11_raids_444 (by decide) h (fun _ h => ?_) (fun _ h => ?_)
      · exact hK v9 v10 M h
      · refine r_iload (pc := 447) C dX11_raids_447 rfl ?_
        refine r_aload_n (pc := 449) C dX11_raids_449 rfl rfl ?_
        refine r_iload_n (pc := 450) C dX11_raids_450 rfl rfl ?_
        refine r_vI1 (pc := 451) C (fun r M' e => zX11_back X.1 p0 hp0 p1 M r M' e) hp0 (by decide) rfl mX11_back lX11_75 (by decide) (Nat.le_of_ble_eq_true rfl) dX11_raids_451 h (fun r67 M68 h => ?_)
        refine r_iadd (pc := 454) C dX11_raids_454 ?_
        refine r_letI h (fun x69 h => ?_)
        refine r_istore (pc := 455) (lv' := [_, _, _, _, _, _, _, _, _, _, _]) C dX11_raids_455 hn9 rfl ?_
        refine r_iincL (pc := 457) (c := nI 1) C dX11_raids_457 rfl (by decide) hn10 h (fun x70 h => ?_)
        refine r_lvE (lv' := [_, _, _, _, _, _, _, _, _, _, _]) rfl ?_
        refine r_goto (pc := 460) (tgt := 430) C dX11_raids_460 (by decide) ?_
        exact ih x69 x70 M68 h
set_option maxRecDepth 100000 in
set_option maxHeartbeats 4000000 in
theorem zX11_raids (G : xGX) (a0 : Nat) (h0 : xkd a0 = 11) (M : xMem) (M' : xMem) (h : fX11_raids a0 M = some M') : xCt G yX11_raids cX11_raids 11 none 5 [vr G a0] M (none, M') := by
  refine xMet (lv := [some (vr G a0), none, none, none, none, none, none, none, none, none, none]) (by decide) (Nat.le_of_ble_eq_true rfl) rfl ?_
  intro X hG hnL C R0
  subst hG
  have C : xCk X cX11_raids RX11 5 := C
  have hn1 : 1 < X.2.2.2.2.2.2.2.2.2.2.2.2.2 := by rw [hnL]; decide
  have hn2 : 2 < X.2.2.2.2.2.2.2.2.2.2.2.2.2 := by rw [hnL]; decide
  have hn3 : 3 < X.2.2.2.2.2.2.2.2.2.2.2.2.2 := by rw [hnL]; decide
  have hn4 : 4 < X.2.2.2.2.2.2.2.2.2.2.2.2.2 := by rw [hnL]; decide
  have hn5 : 5 < X.2.2.2.2.2.2.2.2.2.2.2.2.2 := by rw [hnL]; decide
  have hn6 : 6 < X.2.2.2.2.2.2.2.2.2.2.2.2.2 := by rw [hnL]; decide
  have hn7 : 7 < X.2.2.2.2.2.2.2.2.2.2.2.2.2 := by rw [hnL]; decide
  have hn8 : 8 < X.2.2.2.2.2.2.2.2.2.2.2.2.2 := by rw [hnL]; decide
  have hn9 : 9 < X.2.2.2.2.2.2.2.2.2.2.2.2.2 := by rw [hnL]; decide
  have hn10 : 10 < X.2.2.2.2.2.2.2.2.2.2.2.2.2 := by rw [hnL]; decide
  unfold fX11_raids at h
  refine r_iconst (pc := 0) (v := (nI 0)) C dX11_raids_0 (by decide) ?_
  refine r_istore_n (pc := 1) (lv' := [_, _, _, _, _, _, _, _, _, _, _]) C dX11_raids_1 rfl hn1 rfl ?_
  refine lX11_raids_2 C R0 hnL a0 h0 _ (fun v5 M6 h => ?_) _ _ _ h
  refine r_aload_n (pc := 33) C dX11_raids_33 rfl rfl ?_
  refine r_bipush (pc := 34) (v := (nI 28)) C dX11_raids_34 (by decide) ?_
  refine r_vI1 (pc := 36) C (fun r M' e => zX11_get X.1 a0 h0 (nI 28) M6 r M' e) h0 (by decide) rfl mX11_get lX11_43 (by decide) (Nat.le_of_ble_eq_true rfl) dX11_raids_36 h (fun r7 M8 h => ?_)
  refine r_istore_n (pc := 39) (lv' := [_, _, _, _, _, _, _, _, _, _, _]) C dX11_raids_39 rfl hn1 rfl ?_
  refine r_iconst (pc := 40) (v := (nI 1)) C dX11_raids_40 (by decide) ?_
  refine r_iload_n (pc := 41) C dX11_raids_41 rfl rfl ?_
  refine r_isub (pc := 42) C dX11_raids_42 ?_
  refine r_letI h (fun x9 h => ?_)
  refine r_istore_n (pc := 43) (lv' := [_, _, _, _, _, _, _, _, _, _, _]) C dX11_raids_43 rfl hn2 rfl ?_
  refine r_aload_n (pc := 44) C dX11_raids_44 rfl rfl ?_
  refine r_iload_n (pc := 45) C dX11_raids_45 rfl rfl ?_
  refine r_iconst (pc := 46) (v := (nI 0)) C dX11_raids_46 (by decide) ?_
  refine r_vI2 (pc := 47) C (fun r M' e => zX11_thoseOf X.1 a0 h0 x9 (nI 0) M8 r M' e) h0 (by decide) rfl mX11_thoseOf lX11_72 (by decide) (Nat.le_of_ble_eq_true rfl) dX11_raids_47 h (fun r10 M11 h => ?_)
  refine r_sI1 (pc := 50) C (fun r M' e => zX11_bits X.1 r10 M11 r M' e) mX11_bits lX11_87 (by decide) (Nat.le_of_ble_eq_true rfl) dX11_raids_50 h (fun r12 M13 h => ?_)
  refine r_istore_n (pc := 53) (lv' := [_, _, _, _, _, _, _, _, _, _, _]) C dX11_raids_53 rfl hn3 rfl ?_
  refine r_sipush (pc := 54) (v := (nI 235)) C dX11_raids_54 (by decide) ?_
  refine r_bipush (pc := 57) (v := (nI 15)) C dX11_raids_57 (by decide) ?_
  refine r_aload_n (pc := 59) C dX11_raids_59 rfl rfl ?_
  refine r_bipush (pc := 60) (v := (nI 25)) C dX11_raids_60 (by decide) ?_
  refine r_vI1 (pc := 62) C (fun r M' e => zX11_get X.1 a0 h0 (nI 25) M13 r M' e) h0 (by decide) rfl mX11_get lX11_43 (by decide) (Nat.le_of_ble_eq_true rfl) dX11_raids_62 h (fun r14 M15 h => ?_)
  refine r_imul (pc := 65) C dX11_raids_65 ?_
  refine r_iadd (pc := 66) C dX11_raids_66 ?_
  refine r_letI h (fun x16 h => ?_)
  refine r_istore (pc := 67) (lv' := [_, _, _, _, _, _, _, _, _, _, _]) C dX11_raids_67 hn4 rfl ?_
  refine r_aload_n (pc := 69) C dX11_raids_69 rfl rfl ?_
  refine r_getW (pc := 70) C kX11_16 h0 dX11_raids_70 ?_
  refine r_bipush (pc := 73) (v := (nI 30)) C dX11_raids_73 (by decide) ?_
  refine r_iload_n (pc := 75) C dX11_raids_75 rfl rfl ?_
  refine r_iadd (pc := 76) C dX11_raids_76 ?_
  obtain ⟨g17, h⟩ := xGb_of h
  refine r_lald (pc := 77) C (xknw M15) g17 dX11_raids_77 ?_
  refine r_ldc2 (pc := 78) C nX11_66 dX11_raids_78 ?_
  refine r_lcmp (pc := 81) C dX11_raids_81 ?_
  refine r_jn (fun J => ∀ (s18 : Int32) (M19 : xMem) , J s18 M19 = some M' → WW X 90 [some (vr X.1 a0), some (.int r7), some (.int x9), some (.int r12), some (.int x16), none, none, none, none, none, none] [.int s18] M19) h (fun s18 M19  h => ?_) (fun J90 hJ90 h => ?_)
  · refine r_istore (pc := 90) (lv' := [_, _, _, _, _, _, _, _, _, _, _]) C dX11_raids_90 hn5 rfl ?_
    refine r_aload_n (pc := 92) C dX11_raids_92 rfl rfl ?_
    refine r_iload_n (pc := 93) C dX11_raids_93 rfl rfl ?_
    refine r_vI1 (pc := 94) C (fun r M' e => zX11_scoreOf X.1 a0 h0 r7 M19 r M' e) h0 (by decide) rfl mX11_scoreOf lX11_90 (by decide) (Nat.le_of_ble_eq_true rfl) dX11_raids_94 h (fun r20 M21 h => ?_)
    refine r_istore (pc := 97) (lv' := [_, _, _, _, _, _, _, _, _, _, _]) C dX11_raids_97 hn6 rfl ?_
    refine r_aload_n (pc := 99) C dX11_raids_99 rfl rfl ?_
    refine r_iload_n (pc := 100) C dX11_raids_100 rfl rfl ?_
    refine r_vI1 (pc := 101) C (fun r M' e => zX11_scoreOf X.1 a0 h0 x9 M21 r M' e) h0 (by decide) rfl mX11_scoreOf lX11_90 (by decide) (Nat.le_of_ble_eq_true rfl) dX11_raids_101 h (fun r22 M23 h => ?_)
    refine r_istore (pc := 104) (lv' := [_, _, _, _, _, _, _, _, _, _, _]) C dX11_raids_104 hn7 rfl ?_
    refine r_aload_n (pc := 106) C dX11_raids_106 rfl rfl ?_
    refine r_getI (pc := 107) C kX11_93 h0 dX11_raids_107 ?_
    refine r_iconst (pc := 110) (v := (nI 3)) C dX11_raids_110 (by decide) ?_
    refine r_jn (fun J => ∀ (s24 : Int32) (M25 : xMem) , J s24 M25 = some M' → WW X 139 [some (vr X.1 a0), some (.int r7), some (.int x9), some (.int r12), some (.int x16), some (.int s18), some (.int r20), some (.int r22), none, none, none] [.int s24] M25) h (fun s24 M25  h => ?_) (fun J139 hJ139 h => ?_)
    · refine r_istore (pc := 139) (lv' := [_, _, _, _, _, _, _, _, _, _, _]) C dX11_raids_139 hn8 rfl ?_
      refine r_aload_n (pc := 141) C dX11_raids_141 rfl rfl ?_
      refine r_getW (pc := 142) C kX11_16 h0 dX11_raids_142 ?_
      refine r_iload (pc := 145) C dX11_raids_145 rfl ?_
      refine r_iconst (pc := 147) (v := (nI 0)) C dX11_raids_147 (by decide) ?_
      refine r_iadd (pc := 148) C dX11_raids_148 ?_
      refine r_iload_n (pc := 149) C dX11_raids_149 rfl rfl ?_
      refine r_i2l (pc := 150) C dX11_raids_150 ?_
      obtain ⟨g26, h⟩ := xGb_of h
      refine r_last (pc := 151) C (xknw M25) g26 dX11_raids_151 ?_
      refine r_letM h (fun M27 h => ?_)
      refine r_aload_n (pc := 152) C dX11_raids_152 rfl rfl ?_
      refine r_getW (pc := 153) C kX11_16 h0 dX11_raids_153 ?_
      refine r_iload (pc := 156) C dX11_raids_156 rfl ?_
      refine r_iconst (pc := 158) (v := (nI 1)) C dX11_raids_158 (by decide) ?_
      refine r_iadd (pc := 159) C dX11_raids_159 ?_
      refine r_aload_n (pc := 160) C dX11_raids_160 rfl rfl ?_
      refine r_getI (pc := 161) C kX11_96 h0 dX11_raids_161 ?_
      refine r_i2l (pc := 164) C dX11_raids_164 ?_
      obtain ⟨g28, h⟩ := xGb_of h
      refine r_last (pc := 165) C (xknw M27) g28 dX11_raids_165 ?_
      refine r_letM h (fun M29 h => ?_)
      refine r_aload_n (pc := 166) C dX11_raids_166 rfl rfl ?_
      refine r_getW (pc := 167) C kX11_16 h0 dX11_raids_167 ?_
      refine r_iload (pc := 170) C dX11_raids_170 rfl ?_
      refine r_iconst (pc := 172) (v := (nI 2)) C dX11_raids_172 (by decide) ?_
      refine r_iadd (pc := 173) C dX11_raids_173 ?_
      refine r_aload_n (pc := 174) C dX11_raids_174 rfl rfl ?_
      refine r_getI (pc := 175) C kX11_93 h0 dX11_raids_175 ?_
      refine r_i2l (pc := 178) C dX11_raids_178 ?_
      obtain ⟨g30, h⟩ := xGb_of h
      refine r_last (pc := 179) C (xknw M29) g30 dX11_raids_179 ?_
      refine r_letM h (fun M31 h => ?_)
      refine r_aload_n (pc := 180) C dX11_raids_180 rfl rfl ?_
      refine r_getW (pc := 181) C kX11_16 h0 dX11_raids_181 ?_
      refine r_iload (pc := 184) C dX11_raids_184 rfl ?_
      refine r_iconst (pc := 186) (v := (nI 5)) C dX11_raids_186 (by decide) ?_
      refine r_iadd (pc := 187) C dX11_raids_187 ?_
      refine r_aload_n (pc := 188) C dX11_raids_188 rfl rfl ?_
      refine r_getI (pc := 189) C kX11_93 h0 dX11_raids_189 ?_
      refine r_iconst (pc := 192) (v := (nI 3)) C dX11_raids_192 (by decide) ?_
      refine r_jn (fun J => ∀ (s32 : Int64) (M33 : xMem) , J s32 M33 = some M' → WW X 223 [some (vr X.1 a0), some (.int r7), some (.int x9), some (.int r12), some (.int x16), some (.int s18), some (.int r20), some (.int r22), some (.int s24), none, none] [.long s32, .int (x16 + (nI 5)), vr X.1 (xnw M31)] M33) h (fun s32 M33  h => ?_) (fun J223 hJ223 h => ?_)
      · obtain ⟨g34, h⟩ := xGb_of h
        refine r_last (pc := 223) C (xknw M31) g34 dX11_raids_223 ?_
        refine r_letM h (fun M35 h => ?_)
        refine r_aload_n (pc := 224) C dX11_raids_224 rfl rfl ?_
        refine r_getW (pc := 225) C kX11_16 h0 dX11_raids_225 ?_
        refine r_iload (pc := 228) C dX11_raids_228 rfl ?_
        refine r_bipush (pc := 230) (v := (nI 6)) C dX11_raids_230 (by decide) ?_
        refine r_iadd (pc := 232) C dX11_raids_232 ?_
        refine r_aload_n (pc := 233) C dX11_raids_233 rfl rfl ?_
        refine r_getI (pc := 234) C kX11_108 h0 dX11_raids_234 ?_
        refine r_jn (fun J => ∀ (s36 : Int64) (M37 : xMem) , J s36 M37 = some M' → WW X 245 [some (vr X.1 a0), some (.int r7), some (.int x9), some (.int r12), some (.int x16), some (.int s18), some (.int r20), some (.int r22), some (.int s24), none, none] [.long s36, .int (x16 + (nI 6)), vr X.1 (xnw M35)] M37) h (fun s36 M37  h => ?_) (fun J245 hJ245 h => ?_)
        · obtain ⟨g38, h⟩ := xGb_of h
          refine r_last (pc := 245) C (xknw M35) g38 dX11_raids_245 ?_
          refine r_letM h (fun M39 h => ?_)
          refine r_aload_n (pc := 246) C dX11_raids_246 rfl rfl ?_
          refine r_getW (pc := 247) C kX11_16 h0 dX11_raids_247 ?_
          refine r_iload (pc := 250) C dX11_raids_250 rfl ?_
          refine r_bipush (pc := 252) (v := (nI 7)) C dX11_raids_252 (by decide) ?_
          refine r_iadd (pc := 254) C dX11_raids_254 ?_
          refine r_iload (pc := 255) C dX11_raids_255 rfl ?_
          refine r_jn (fun J => ∀ (s40 : Int64) (M41 : xMem) , J s40 M41 = some M' → WW X 265 [some (vr X.1 a0), some (.int r7), some (.int x9), some (.int r12), some (.int x16), some (.int s18), some (.int r20), some (.int r22), some (.int s24), none, none] [.long s40, .int (x16 + (nI 7)), vr X.1 (xnw M39)] M41) h (fun s40 M41  h => ?_) (fun J265 hJ265 h => ?_)
          · obtain ⟨g42, h⟩ := xGb_of h
            refine r_last (pc := 265) C (xknw M39) g42 dX11_raids_265 ?_
            refine r_letM h (fun M43 h => ?_)
            refine r_aload_n (pc := 266) C dX11_raids_266 rfl rfl ?_
            refine r_getW (pc := 267) C kX11_16 h0 dX11_raids_267 ?_
            refine r_iload (pc := 270) C dX11_raids_270 rfl ?_
            refine r_bipush (pc := 272) (v := (nI 10)) C dX11_raids_272 (by decide) ?_
            refine r_iadd (pc := 274) C dX11_raids_274 ?_
            refine r_iload_n (pc := 275) C dX11_raids_275 rfl rfl ?_
            refine r_iadd (pc := 276) C dX11_raids_276 ?_
            refine r_aload_n (pc := 277) C dX11_raids_277 rfl rfl ?_
            refine r_iload_n (pc := 278) C dX11_raids_278 rfl rfl ?_
            refine r_iconst (pc := 279) (v := (nI 0)) C dX11_raids_279 (by decide) ?_
            refine r_vI2 (pc := 280) C (fun r M' e => zX11_thoseOf X.1 a0 h0 r7 (nI 0) M43 r M' e) h0 (by decide) rfl mX11_thoseOf lX11_72 (by decide) (Nat.le_of_ble_eq_true rfl) dX11_raids_280 h (fun r44 M45 h => ?_)
            refine r_i2l (pc := 283) C dX11_raids_283 ?_
            obtain ⟨g46, h⟩ := xGb_of h
            refine r_last (pc := 284) C (xknw M43) g46 dX11_raids_284 ?_
            refine r_letM h (fun M47 h => ?_)
            refine r_aload_n (pc := 285) C dX11_raids_285 rfl rfl ?_
            refine r_getW (pc := 286) C kX11_16 h0 dX11_raids_286 ?_
            refine r_iload (pc := 289) C dX11_raids_289 rfl ?_
            refine r_bipush (pc := 291) (v := (nI 10)) C dX11_raids_291 (by decide) ?_
            refine r_iadd (pc := 293) C dX11_raids_293 ?_
            refine r_iload_n (pc := 294) C dX11_raids_294 rfl rfl ?_
            refine r_iadd (pc := 295) C dX11_raids_295 ?_
            refine r_aload_n (pc := 296) C dX11_raids_296 rfl rfl ?_
            refine r_iload_n (pc := 297) C dX11_raids_297 rfl rfl ?_
            refine r_iconst (pc := 298) (v := (nI 0)) C dX11_raids_298 (by decide) ?_
            refine r_vI2 (pc := 299) C (fun r M' e => zX11_thoseOf X.1 a0 h0 x9 (nI 0) M47 r M' e) h0 (by decide) rfl mX11_thoseOf lX11_72 (by decide) (Nat.le_of_ble_eq_true rfl) dX11_raids_299 h (fun r48 M49 h => ?_)
            refine r_i2l (pc := 302) C dX11_raids_302 ?_
            obtain ⟨g50, h⟩ := xGb_of h
            refine r_last (pc := 303) C (xknw M47) g50 dX11_raids_303 ?_
            refine r_letM h (fun M51 h => ?_)
            refine r_aload_n (pc := 304) C dX11_raids_304 rfl rfl ?_
            refine r_getW (pc := 305) C kX11_16 h0 dX11_raids_305 ?_
            refine r_iload (pc := 308) C dX11_raids_308 rfl ?_
            refine r_bipush (pc := 310) (v := (nI 12)) C dX11_raids_310 (by decide) ?_
            refine r_iadd (pc := 312) C dX11_raids_312 ?_
            refine r_aload_n (pc := 313) C dX11_raids_313 rfl rfl ?_
            refine r_getI (pc := 314) C kX11_93 h0 dX11_raids_314 ?_
            refine r_iconst (pc := 317) (v := (nI 1)) C dX11_raids_317 (by decide) ?_
            refine r_jn (fun J => ∀ (s52 : Int64) (M53 : xMem) , J s52 M53 = some M' → WW X 329 [some (vr X.1 a0), some (.int r7), some (.int x9), some (.int r12), some (.int x16), some (.int s18), some (.int r20), some (.int r22), some (.int s24), none, none] [.long s52, .int (x16 + (nI 12)), vr X.1 (xnw M51)] M53) h (fun s52 M53  h => ?_) (fun J329 hJ329 h => ?_)
            · obtain ⟨g54, h⟩ := xGb_of h
              refine r_last (pc := 329) C (xknw M51) g54 dX11_raids_329 ?_
              refine r_letM h (fun M55 h => ?_)
              refine r_aload_n (pc := 330) C dX11_raids_330 rfl rfl ?_
              refine r_getW (pc := 331) C kX11_16 h0 dX11_raids_331 ?_
              refine r_iload (pc := 334) C dX11_raids_334 rfl ?_
              refine r_bipush (pc := 336) (v := (nI 13)) C dX11_raids_336 (by decide) ?_
              refine r_iadd (pc := 338) C dX11_raids_338 ?_
              refine r_lconst (pc := 339) (v := lN 0) C dX11_raids_339 rfl ?_
              obtain ⟨g56, h⟩ := xGb_of h
              refine r_last (pc := 340) C (xknw M55) g56 dX11_raids_340 ?_
              refine r_letM h (fun M57 h => ?_)
              refine r_aload_n (pc := 341) C dX11_raids_341 rfl rfl ?_
              refine r_getW (pc := 342) C kX11_16 h0 dX11_raids_342 ?_
              refine r_iload (pc := 345) C dX11_raids_345 rfl ?_
              refine r_bipush (pc := 347) (v := (nI 13)) C dX11_raids_347 (by decide) ?_
              refine r_iadd (pc := 349) C dX11_raids_349 ?_
              refine r_iconst (pc := 350) (v := (nI 1)) C dX11_raids_350 (by decide) ?_
              refine r_iadd (pc := 351) C dX11_raids_351 ?_
              refine r_lconst (pc := 352) (v := lN 0) C dX11_raids_352 rfl ?_
              obtain ⟨g58, h⟩ := xGb_of h
              refine r_last (pc := 353) C (xknw M57) g58 dX11_raids_353 ?_
              refine r_letM h (fun M59 h => ?_)
              refine r_iconst (pc := 354) (v := (nI 0)) C dX11_raids_354 (by decide) ?_
              refine r_istore (pc := 355) (lv' := [_, _, _, _, _, _, _, _, _, _, _]) C dX11_raids_355 hn9 rfl ?_
              refine lX11_raids_357 C R0 hnL a0 h0 r7 x9 r12 x16 s18 r20 r22 s24 _ (fun v63 M64 h => ?_) _ _ _ h
              refine r_iload (pc := 392) C dX11_raids_392 rfl ?_
              refine r_jn (fun J => ∀  (M65 : xMem) , J  M65 = some M' → WW X 406 [some (vr X.1 a0), some (.int r7), some (.int x9), some (.int r12), some (.int x16), some (.int s18), some (.int r20), some (.int r22), some (.int s24), some (.int v63), none] [] M65) h (fun  M65  h => ?_) (fun J406 hJ406 h => ?_)
              · refine r_iconst (pc := 406) (v := (nI 0)) C dX11_raids_406 (by decide) ?_
                refine r_istore (pc := 407) (lv' := [_, _, _, _, _, _, _, _, _, _, _]) C dX11_raids_407 hn9 rfl ?_
                refine r_aload_n (pc := 409) C dX11_raids_409 rfl rfl ?_
                refine r_getI (pc := 410) C kX11_93 h0 dX11_raids_410 ?_
                refine r_iconst (pc := 413) (v := (nI 1)) C dX11_raids_413 (by decide) ?_
                refine r_jn (fun J => ∀  (M66 : xMem) , J  M66 = some M' → WW X 427 [some (vr X.1 a0), some (.int r7), some (.int x9), some (.int r12), some (.int x16), some (.int s18), some (.int r20), some (.int r22), some (.int s24), some (.int (nI 0)), none] [] M66) h (fun  M66  h => ?_) (fun J427 hJ427 h => ?_)
                · refine r_iconst (pc := 427) (v := (nI 0)) C dX11_raids_427 (by decide) ?_
                  refine r_istore (pc := 428) (lv' := [_, _, _, _, _, _, _, _, _, _, _]) C dX11_raids_428 hn10 rfl ?_
                  refine lX11_raids_430 C R0 hnL a0 h0 r7 x9 r12 x16 s18 r20 r22 s24 _ (fun v71 v72 M73 h => ?_) _ _ _ _ h
                  refine r_aload_n (pc := 463) C dX11_raids_463 rfl rfl ?_
                  refine r_getI (pc := 464) C kX11_108 h0 dX11_raids_464 ?_
                  refine r_jn (fun J => ∀  (M74 : xMem) , J  M74 = some M' → WW X 485 [some (vr X.1 a0), some (.int r7), some (.int x9), some (.int r12), some (.int x16), some (.int s18), some (.int r20), some (.int r22), some (.int s24), some (.int v71), some (.int v72)] [] M74) h (fun  M74  h => ?_) (fun J485 hJ485 h => ?_)
                  · refine r_iload (pc := 485) C dX11_raids_485 rfl ?_
                    refine r_jn (fun J => ∀  (M75 : xMem) , J  M75 = some M' → WW X 509 [some (vr X.1 a0), some (.int r7), some (.int x9), some (.int r12), some (.int x16), some (.int s18), some (.int r20), some (.int r22), some (.int s24), some (.int v71), some (.int v72)] [] M75) h (fun  M75  h => ?_) (fun J509 hJ509 h => ?_)
                    · refine r_aload_n (pc := 509) C dX11_raids_509 rfl rfl ?_
                      refine r_getI (pc := 510) C kX11_93 h0 dX11_raids_510 ?_
                      refine r_iconst (pc := 513) (v := (nI 3)) C dX11_raids_513 (by decide) ?_
                      refine r_jn (fun J => ∀  (M76 : xMem) , J  M76 = some M' → WW X 529 [some (vr X.1 a0), some (.int r7), some (.int x9), some (.int r12), some (.int x16), some (.int s18), some (.int r20), some (.int r22), some (.int s24), some (.int v71), some (.int v72)] [] M76) h (fun  M76  h => ?_) (fun J529 hJ529 h => ?_)
                      · refine r_iload (pc := 529) C dX11_raids_529 rfl ?_
                        refine r_jn (fun J => ∀ (v77 : Int32) (M78 : xMem) , J v77 M78 = some M' → WW X 544 [some (vr X.1 a0), some (.int r7), some (.int x9), some (.int r12), some (.int x16), some (.int s18), some (.int r20), some (.int r22), some (.int s24), some (.int v77), some (.int v72)] [] M78) h (fun v77 M78  h => ?_) (fun J544 hJ544 h => ?_)
                        · refine r_aload_n (pc := 544) C dX11_raids_544 rfl rfl ?_
                          refine r_getW (pc := 545) C kX11_16 h0 dX11_raids_545 ?_
                          refine r_iload (pc := 548) C dX11_raids_548 rfl ?_
                          refine r_bipush (pc := 550) (v := (nI 8)) C dX11_raids_550 (by decide) ?_
                          refine r_iadd (pc := 552) C dX11_raids_552 ?_
                          refine r_iload (pc := 553) C dX11_raids_553 rfl ?_
                          refine r_i2l (pc := 555) C dX11_raids_555 ?_
                          obtain ⟨g79, h⟩ := xGb_of h
                          refine r_last (pc := 556) C (xknw M78) g79 dX11_raids_556 ?_
                          refine r_letM h (fun M80 h => ?_)
                          refine r_aload_n (pc := 557) C dX11_raids_557 rfl rfl ?_
                          refine r_vV0 (pc := 558) C (fun M' e => zX11_waits X.1 a0 h0 M80 M' e) h0 (by decide) rfl mX11_waits lX11_119 (by decide) (Nat.le_of_ble_eq_true rfl) dX11_raids_558 h (fun M81 h => ?_)
                          refine r_aload_n (pc := 561) C dX11_raids_561 rfl rfl ?_
                          refine r_iload_n (pc := 562) C dX11_raids_562 rfl rfl ?_
                          refine r_vI1 (pc := 563) C (fun r M' e => zX11_allOutOf X.1 a0 h0 x9 M81 r M' e) h0 (by decide) rfl mX11_allOutOf lX11_122 (by decide) (Nat.le_of_ble_eq_true rfl) dX11_raids_563 h (fun r82 M83 h => ?_)
                          refine r_jn (fun J => ∀ (s84 : Int32) (M85 : xMem) , J s84 M85 = some M' → WW X 576 [some (vr X.1 a0), some (.int r7), some (.int x9), some (.int r12), some (.int x16), some (.int s18), some (.int r20), some (.int r22), some (.int s24), some (.int v77), some (.int v72)] [.int s84] M85) h (fun s84 M85  h => ?_) (fun J576 hJ576 h => ?_)
                          · refine r_istore (pc := 576) (lv' := [_, _, _, _, _, _, _, _, _, _, _]) C dX11_raids_576 hn10 rfl ?_
                            refine r_iload (pc := 578) C dX11_raids_578 rfl ?_
                            refine r_aload_n (pc := 580) C dX11_raids_580 rfl rfl ?_
                            refine r_iload_n (pc := 581) C dX11_raids_581 rfl rfl ?_
                            refine r_vI1 (pc := 582) C (fun r M' e => zX11_allOutOf X.1 a0 h0 r7 M85 r M' e) h0 (by decide) rfl mX11_allOutOf lX11_122 (by decide) (Nat.le_of_ble_eq_true rfl) dX11_raids_582 h (fun r86 M87 h => ?_)
                            refine r_jn (fun J => ∀ (s88 : Int32) (M89 : xMem) , J s88 M89 = some M' → WW X 595 [some (vr X.1 a0), some (.int r7), some (.int x9), some (.int r12), some (.int x16), some (.int s18), some (.int r20), some (.int r22), some (.int s24), some (.int v77), some (.int s84)] [.int s88, .int s84] M89) h (fun s88 M89  h => ?_) (fun J595 hJ595 h => ?_)
                            · refine r_ior (pc := 595) C dX11_raids_595 ?_
                              refine r_letI h (fun x90 h => ?_)
                              refine r_istore (pc := 596) (lv' := [_, _, _, _, _, _, _, _, _, _, _]) C dX11_raids_596 hn10 rfl ?_
                              refine r_aload_n (pc := 598) C dX11_raids_598 rfl rfl ?_
                              refine r_getW (pc := 599) C kX11_16 h0 dX11_raids_599 ?_
                              refine r_iload (pc := 602) C dX11_raids_602 rfl ?_
                              refine r_bipush (pc := 604) (v := (nI 9)) C dX11_raids_604 (by decide) ?_
                              refine r_iadd (pc := 606) C dX11_raids_606 ?_
                              refine r_iload (pc := 607) C dX11_raids_607 rfl ?_
                              refine r_i2l (pc := 609) C dX11_raids_609 ?_
                              obtain ⟨g91, h⟩ := xGb_of h
                              refine r_last (pc := 610) C (xknw M89) g91 dX11_raids_610 ?_
                              refine r_letM h (fun M92 h => ?_)
                              refine r_aload_n (pc := 611) C dX11_raids_611 rfl rfl ?_
                              refine r_getW (pc := 612) C kX11_16 h0 dX11_raids_612 ?_
                              refine r_iload (pc := 615) C dX11_raids_615 rfl ?_
                              refine r_iconst (pc := 617) (v := (nI 3)) C dX11_raids_617 (by decide) ?_
                              refine r_iadd (pc := 618) C dX11_raids_618 ?_
                              refine r_aload_n (pc := 619) C dX11_raids_619 rfl rfl ?_
                              refine r_iload_n (pc := 620) C dX11_raids_620 rfl rfl ?_
                              refine r_vI1 (pc := 621) C (fun r M' e => zX11_scoreOf X.1 a0 h0 r7 M92 r M' e) h0 (by decide) rfl mX11_scoreOf lX11_90 (by decide) (Nat.le_of_ble_eq_true rfl) dX11_raids_621 h (fun r93 M94 h => ?_)
                              refine r_iload (pc := 624) C dX11_raids_624 rfl ?_
                              refine r_isub (pc := 626) C dX11_raids_626 ?_
                              refine r_i2l (pc := 627) C dX11_raids_627 ?_
                              obtain ⟨g95, h⟩ := xGb_of h
                              refine r_last (pc := 628) C (xknw M92) g95 dX11_raids_628 ?_
                              refine r_letM h (fun M96 h => ?_)
                              refine r_aload_n (pc := 629) C dX11_raids_629 rfl rfl ?_
                              refine r_getW (pc := 630) C kX11_16 h0 dX11_raids_630 ?_
                              refine r_iload (pc := 633) C dX11_raids_633 rfl ?_
                              refine r_iconst (pc := 635) (v := (nI 4)) C dX11_raids_635 (by decide) ?_
                              refine r_iadd (pc := 636) C dX11_raids_636 ?_
                              refine r_aload_n (pc := 637) C dX11_raids_637 rfl rfl ?_
                              refine r_iload_n (pc := 638) C dX11_raids_638 rfl rfl ?_
                              refine r_vI1 (pc := 639) C (fun r M' e => zX11_scoreOf X.1 a0 h0 x9 M96 r M' e) h0 (by decide) rfl mX11_scoreOf lX11_90 (by decide) (Nat.le_of_ble_eq_true rfl) dX11_raids_639 h (fun r97 M98 h => ?_)
                              refine r_iload (pc := 642) C dX11_raids_642 rfl ?_
                              refine r_isub (pc := 644) C dX11_raids_644 ?_
                              refine r_i2l (pc := 645) C dX11_raids_645 ?_
                              obtain ⟨g99, h⟩ := xGb_of h
                              refine r_last (pc := 646) C (xknw M96) g99 dX11_raids_646 ?_
                              refine r_letM h (fun M100 h => ?_)
                              refine r_aload_n (pc := 647) C dX11_raids_647 rfl rfl ?_
                              refine r_getW (pc := 648) C kX11_16 h0 dX11_raids_648 ?_
                              refine r_bipush (pc := 651) (v := (nI 30)) C dX11_raids_651 (by decide) ?_
                              refine r_iload_n (pc := 653) C dX11_raids_653 rfl rfl ?_
                              refine r_iadd (pc := 654) C dX11_raids_654 ?_
                              refine r_aload_n (pc := 655) C dX11_raids_655 rfl rfl ?_
                              refine r_getI (pc := 656) C kX11_93 h0 dX11_raids_656 ?_
                              refine r_jn (fun J => ∀ (s101 : Int64) (M102 : xMem) , J s101 M102 = some M' → WW X 682 [some (vr X.1 a0), some (.int r7), some (.int x9), some (.int r12), some (.int x16), some (.int s18), some (.int r20), some (.int r22), some (.int s24), some (.int v77), some (.int x90)] [.long s101, .int ((nI 30) + r7), vr X.1 (xnw M100)] M102) h (fun s101 M102  h => ?_) (fun J682 hJ682 h => ?_)
                              · obtain ⟨g103, h⟩ := xGb_of h
                                refine r_last (pc := 682) C (xknw M100) g103 dX11_raids_682 ?_
                                refine r_letM h (fun M104 h => ?_)
                                refine r_aload_n (pc := 683) C dX11_raids_683 rfl rfl ?_
                                refine r_getW (pc := 684) C kX11_16 h0 dX11_raids_684 ?_
                                refine r_bipush (pc := 687) (v := (nI 28)) C dX11_raids_687 (by decide) ?_
                                refine r_iload_n (pc := 689) C dX11_raids_689 rfl rfl ?_
                                refine r_i2l (pc := 690) C dX11_raids_690 ?_
                                obtain ⟨g105, h⟩ := xGb_of h
                                refine r_last (pc := 691) C (xknw M104) g105 dX11_raids_691 ?_
                                refine r_letM h (fun M106 h => ?_)
                                refine r_aload_n (pc := 692) C dX11_raids_692 rfl rfl ?_
                                refine r_getW (pc := 693) C kX11_16 h0 dX11_raids_693 ?_
                                refine r_bipush (pc := 696) (v := (nI 25)) C dX11_raids_696 (by decide) ?_
                                refine r_dup2 (pc := 698) C rfl rfl dX11_raids_698 ?_
                                obtain ⟨g107, h⟩ := xGb_of h
                                refine r_lald (pc := 699) C (xknw M106) g107 dX11_raids_699 ?_
                                refine r_lconst (pc := 700) (v := lN 1) C dX11_raids_700 rfl ?_
                                refine r_ladd (pc := 701) C dX11_raids_701 ?_
                                obtain ⟨g108, h⟩ := xGb_of h
                                refine r_last (pc := 702) C (xknw M106) g108 dX11_raids_702 ?_
                                refine r_letM h (fun M109 h => ?_)
                                refine r_aload_n (pc := 703) C dX11_raids_703 rfl rfl ?_
                                refine r_getW (pc := 704) C kX11_16 h0 dX11_raids_704 ?_
                                refine r_bipush (pc := 707) (v := (nI 29)) C dX11_raids_707 (by decide) ?_
                                refine r_lconst (pc := 709) (v := lN 1) C dX11_raids_709 rfl ?_
                                obtain ⟨g110, h⟩ := xGb_of h
                                refine r_last (pc := 710) C (xknw M109) g110 dX11_raids_710 ?_
                                refine r_letM h (fun M111 h => ?_)
                                exact r_vret (pc := 711) C R0 h dX11_raids_711
                              refine r_jn (fun J => ∀  (M112 : xMem) , J  M112 = some M' → WW X 681 [some (vr X.1 a0), some (.int r7), some (.int x9), some (.int r12), some (.int x16), some (.int s18), some (.int r20), some (.int r22), some (.int s24), some (.int v77), some (.int x90)] [.int ((nI 30) + r7), vr X.1 (xnw M100)] M112) h (fun  M112  h => ?_) (fun J681 hJ681 h => ?_)
                              · refine r_lconst (pc := 681) (v := lN 0) C dX11_raids_681 rfl ?_
                                exact hJ682 (lN 0) M112  h
                              refine r_if_ne (pc := 659) (tgt := 681) C dX11_raids_659 (by decide) h (fun _ h => ?_) (fun _ h => ?_)
                              · exact hJ681  M100  h
                              · refine r_iload (pc := 662) C dX11_raids_662 rfl ?_
                                refine r_if_ne (pc := 664) (tgt := 681) C dX11_raids_664 (by decide) h (fun _ h => ?_) (fun _ h => ?_)
                                · exact hJ681  M100  h
                                · refine r_aload_n (pc := 667) C dX11_raids_667 rfl rfl ?_
                                  refine r_getW (pc := 668) C kX11_16 h0 dX11_raids_668 ?_
                                  refine r_bipush (pc := 671) (v := (nI 30)) C dX11_raids_671 (by decide) ?_
                                  refine r_iload_n (pc := 673) C dX11_raids_673 rfl rfl ?_
                                  refine r_iadd (pc := 674) C dX11_raids_674 ?_
                                  obtain ⟨g113, h⟩ := xGb_of h
                                  refine r_lald (pc := 675) C (xknw M100) g113 dX11_raids_675 ?_
                                  refine r_lconst (pc := 676) (v := lN 1) C dX11_raids_676 rfl ?_
                                  refine r_ladd (pc := 677) C dX11_raids_677 ?_
                                  refine r_goto (pc := 678) (tgt := 682) C dX11_raids_678 (by decide) ?_
                                  exact hJ682 ((M100.2.1 (xnw M100) (Int32.toNatClampNeg ((nI 30) + r7))) + (lN 1)) M100  h
                            refine r_if_eq (pc := 585) (tgt := 594) C dX11_raids_585 (by decide) h (fun _ h => ?_) (fun _ h => ?_)
                            · refine r_iconst (pc := 594) (v := (nI 0)) C dX11_raids_594 (by decide) ?_
                              exact hJ595 (nI 0) M87  h
                            · refine r_iconst (pc := 588) (v := (nI 1)) C dX11_raids_588 (by decide) ?_
                              refine r_iload_n (pc := 589) C dX11_raids_589 rfl rfl ?_
                              refine r_ishl (pc := 590) C dX11_raids_590 ?_
                              refine r_goto (pc := 591) (tgt := 595) C dX11_raids_591 (by decide) ?_
                              exact hJ595 ((nI 1) <<< (r7 &&& 31)) M87  h
                          refine r_if_eq (pc := 566) (tgt := 575) C dX11_raids_566 (by decide) h (fun _ h => ?_) (fun _ h => ?_)
                          · refine r_iconst (pc := 575) (v := (nI 0)) C dX11_raids_575 (by decide) ?_
                            exact hJ576 (nI 0) M83  h
                          · refine r_iconst (pc := 569) (v := (nI 1)) C dX11_raids_569 (by decide) ?_
                            refine r_iload_n (pc := 570) C dX11_raids_570 rfl rfl ?_
                            refine r_ishl (pc := 571) C dX11_raids_571 ?_
                            refine r_goto (pc := 572) (tgt := 576) C dX11_raids_572 (by decide) ?_
                            exact hJ576 ((nI 1) <<< (x9 &&& 31)) M83  h
                        refine r_if_eq (pc := 531) (tgt := 544) C dX11_raids_531 (by decide) h (fun _ h => ?_) (fun _ h => ?_)
                        · exact hJ544 v71 M76  h
                        · refine r_iload (pc := 534) C dX11_raids_534 rfl ?_
                          refine r_aload_n (pc := 536) C dX11_raids_536 rfl rfl ?_
                          refine r_iload_n (pc := 537) C dX11_raids_537 rfl rfl ?_
                          refine r_vI1 (pc := 538) C (fun r M' e => zX11_back X.1 a0 h0 x9 M76 r M' e) h0 (by decide) rfl mX11_back lX11_75 (by decide) (Nat.le_of_ble_eq_true rfl) dX11_raids_538 h (fun r114 M115 h => ?_)
                          refine r_iadd (pc := 541) C dX11_raids_541 ?_
                          refine r_letI h (fun x116 h => ?_)
                          refine r_istore (pc := 542) (lv' := [_, _, _, _, _, _, _, _, _, _, _]) C dX11_raids_542 hn9 rfl ?_
                          exact hJ544 x116 M115  h
                      refine r_icmp_ne (pc := 514) (tgt := 529) C dX11_raids_514 (by decide) h (fun _ h => ?_) (fun _ h => ?_)
                      · exact hJ529  M75  h
                      · refine r_iload_n (pc := 517) C dX11_raids_517 rfl rfl ?_
                        refine r_iconst (pc := 518) (v := (nI 3)) C dX11_raids_518 (by decide) ?_
                        refine r_icmp_gt (pc := 519) (tgt := 529) C dX11_raids_519 (by decide) h (fun _ h => ?_) (fun _ h => ?_)
                        · exact hJ529  M75  h
                        · refine r_aload_n (pc := 522) C dX11_raids_522 rfl rfl ?_
                          refine r_iload_n (pc := 523) C dX11_raids_523 rfl rfl ?_
                          refine r_iconst (pc := 524) (v := (nI 3)) C dX11_raids_524 (by decide) ?_
                          refine r_iconst (pc := 525) (v := (nI 1)) C dX11_raids_525 (by decide) ?_
                          refine r_vV3 (pc := 526) C (fun M' e => zX11_scores X.1 a0 h0 x9 (nI 3) (nI 1) M75 M' e) h0 (by decide) rfl mX11_scores lX11_78 (by decide) (Nat.le_of_ble_eq_true rfl) dX11_raids_526 h (fun M117 h => ?_)
                          exact hJ529  M117  h
                    refine r_if_eq (pc := 487) (tgt := 509) C dX11_raids_487 (by decide) h (fun _ h => ?_) (fun _ h => ?_)
                    · exact hJ509  M74  h
                    · refine r_aload_n (pc := 490) C dX11_raids_490 rfl rfl ?_
                      refine r_iload_n (pc := 491) C dX11_raids_491 rfl rfl ?_
                      refine r_aload_n (pc := 492) C dX11_raids_492 rfl rfl ?_
                      refine r_getI (pc := 493) C kX11_93 h0 dX11_raids_493 ?_
                      refine r_iconst (pc := 496) (v := (nI 3)) C dX11_raids_496 (by decide) ?_
                      refine r_jn (fun J => ∀ (s118 : Int32) (M119 : xMem) , J s118 M119 = some M' → WW X 505 [some (vr X.1 a0), some (.int r7), some (.int x9), some (.int r12), some (.int x16), some (.int s18), some (.int r20), some (.int r22), some (.int s24), some (.int v71), some (.int v72)] [.int s118, .int x9, vr X.1 a0] M119) h (fun s118 M119  h => ?_) (fun J505 hJ505 h => ?_)
                      · refine r_iconst (pc := 505) (v := (nI 1)) C dX11_raids_505 (by decide) ?_
                        refine r_vV3 (pc := 506) C (fun M' e => zX11_scores X.1 a0 h0 x9 s118 (nI 1) M119 M' e) h0 (by decide) rfl mX11_scores lX11_78 (by decide) (Nat.le_of_ble_eq_true rfl) dX11_raids_506 h (fun M120 h => ?_)
                        exact hJ509  M120  h
                      refine r_icmp_ne (pc := 497) (tgt := 504) C dX11_raids_497 (by decide) h (fun _ h => ?_) (fun _ h => ?_)
                      · refine r_iconst (pc := 504) (v := (nI 5)) C dX11_raids_504 (by decide) ?_
                        exact hJ505 (nI 5) M74  h
                      · refine r_iconst (pc := 500) (v := (nI 2)) C dX11_raids_500 (by decide) ?_
                        refine r_goto (pc := 501) (tgt := 505) C dX11_raids_501 (by decide) ?_
                        exact hJ505 (nI 2) M74  h
                  refine r_jn (fun J => ∀  (M121 : xMem) , J  M121 = some M' → WW X 478 [some (vr X.1 a0), some (.int r7), some (.int x9), some (.int r12), some (.int x16), some (.int s18), some (.int r20), some (.int r22), some (.int s24), some (.int v71), some (.int v72)] [] M121) h (fun  M121  h => ?_) (fun J478 hJ478 h => ?_)
                  · refine r_aload_n (pc := 478) C dX11_raids_478 rfl rfl ?_
                    refine r_iload_n (pc := 479) C dX11_raids_479 rfl rfl ?_
                    refine r_iconst (pc := 480) (v := (nI 1)) C dX11_raids_480 (by decide) ?_
                    refine r_iconst (pc := 481) (v := (nI 1)) C dX11_raids_481 (by decide) ?_
                    refine r_vV3 (pc := 482) C (fun M' e => zX11_scores X.1 a0 h0 r7 (nI 1) (nI 1) M121 M' e) h0 (by decide) rfl mX11_scores lX11_78 (by decide) (Nat.le_of_ble_eq_true rfl) dX11_raids_482 h (fun M122 h => ?_)
                    exact hJ485  M122  h
                  refine r_if_ne (pc := 467) (tgt := 478) C dX11_raids_467 (by decide) h (fun _ h => ?_) (fun _ h => ?_)
                  · exact hJ478  M73  h
                  · refine r_aload_n (pc := 470) C dX11_raids_470 rfl rfl ?_
                    refine r_getI (pc := 471) C kX11_93 h0 dX11_raids_471 ?_
                    refine r_iconst (pc := 474) (v := (nI 2)) C dX11_raids_474 (by decide) ?_
                    refine r_icmp_ne (pc := 475) (tgt := 485) C dX11_raids_475 (by decide) h (fun _ h => ?_) (fun _ h => ?_)
                    · exact hJ485  M73  h
                    · exact hJ478  M73  h
                refine r_icmp_ne (pc := 414) (tgt := 427) C dX11_raids_414 (by decide) h (fun _ h => ?_) (fun _ h => ?_)
                · exact hJ427  M65  h
                · refine r_aload_n (pc := 417) C dX11_raids_417 rfl rfl ?_
                  refine r_iload_n (pc := 418) C dX11_raids_418 rfl rfl ?_
                  refine r_iconst (pc := 419) (v := (nI 0)) C dX11_raids_419 (by decide) ?_
                  refine r_aload_n (pc := 420) C dX11_raids_420 rfl rfl ?_
                  refine r_getI (pc := 421) C kX11_82 h0 dX11_raids_421 ?_
                  refine r_vV3 (pc := 424) C (fun M' e => zX11_scores X.1 a0 h0 r7 (nI 0) (M65.1 a0 8) M65 M' e) h0 (by decide) rfl mX11_scores lX11_78 (by decide) (Nat.le_of_ble_eq_true rfl) dX11_raids_424 h (fun M123 h => ?_)
                  exact hJ427  M123  h
              refine r_if_eq (pc := 394) (tgt := 406) C dX11_raids_394 (by decide) h (fun _ h => ?_) (fun _ h => ?_)
              · exact hJ406  M64  h
              · refine r_aload_n (pc := 397) C dX11_raids_397 rfl rfl ?_
                refine r_iload_n (pc := 398) C dX11_raids_398 rfl rfl ?_
                refine r_aload_n (pc := 399) C dX11_raids_399 rfl rfl ?_
                refine r_getI (pc := 400) C kX11_96 h0 dX11_raids_400 ?_
                refine r_vV2 (pc := 403) C (fun M' e => zX11_goesOut X.1 a0 h0 r7 (M64.1 a0 4) M64 M' e) h0 (by decide) rfl mX11_goesOut lX11_116 (by decide) (Nat.le_of_ble_eq_true rfl) dX11_raids_403 h (fun M124 h => ?_)
                exact hJ406  M124  h
            refine r_icmp_ne (pc := 318) (tgt := 328) C dX11_raids_318 (by decide) h (fun _ h => ?_) (fun _ h => ?_)
            · refine r_lconst (pc := 328) (v := lN 0) C dX11_raids_328 rfl ?_
              exact hJ329 (lN 0) M51  h
            · refine r_aload_n (pc := 321) C dX11_raids_321 rfl rfl ?_
              refine r_vL0 (pc := 322) C (fun r M' e => zX11_orderOf X.1 a0 h0 M51 r M' e) h0 (by decide) rfl mX11_orderOf lX11_112 (by decide) (Nat.le_of_ble_eq_true rfl) dX11_raids_322 h (fun r125 M126 h => ?_)
              refine r_goto (pc := 325) (tgt := 329) C dX11_raids_325 (by decide) ?_
              exact hJ329 r125 M126  h
          refine r_if_eq (pc := 257) (tgt := 264) C dX11_raids_257 (by decide) h (fun _ h => ?_) (fun _ h => ?_)
          · refine r_lconst (pc := 264) (v := lN 0) C dX11_raids_264 rfl ?_
            exact hJ265 (lN 0) M39  h
          · refine r_lconst (pc := 260) (v := lN 1) C dX11_raids_260 rfl ?_
            refine r_goto (pc := 261) (tgt := 265) C dX11_raids_261 (by decide) ?_
            exact hJ265 (lN 1) M39  h
        refine r_if_eq (pc := 237) (tgt := 244) C dX11_raids_237 (by decide) h (fun _ h => ?_) (fun _ h => ?_)
        · refine r_lconst (pc := 244) (v := lN 0) C dX11_raids_244 rfl ?_
          exact hJ245 (lN 0) M35  h
        · refine r_lconst (pc := 240) (v := lN 1) C dX11_raids_240 rfl ?_
          refine r_goto (pc := 241) (tgt := 245) C dX11_raids_241 (by decide) ?_
          exact hJ245 (lN 1) M35  h
      refine r_icmp_ne (pc := 193) (tgt := 204) C dX11_raids_193 (by decide) h (fun _ h => ?_) (fun _ h => ?_)
      · refine r_aload_n (pc := 204) C dX11_raids_204 rfl rfl ?_
        refine r_getI (pc := 205) C kX11_93 h0 dX11_raids_205 ?_
        refine r_iconst (pc := 208) (v := (nI 1)) C dX11_raids_208 (by decide) ?_
        refine r_icmp_ne (pc := 209) (tgt := 220) C dX11_raids_209 (by decide) h (fun _ h => ?_) (fun _ h => ?_)
        · refine r_ldc2 (pc := 220) C nX11_106 dX11_raids_220 ?_
          exact hJ223 (-1) M31  h
        · refine r_aload_n (pc := 212) C dX11_raids_212 rfl rfl ?_
          refine r_vI0 (pc := 213) C (fun r M' e => zX11_setOf X.1 a0 h0 M31 r M' e) h0 (by decide) rfl mX11_setOf lX11_102 (by decide) (Nat.le_of_ble_eq_true rfl) dX11_raids_213 h (fun r127 M128 h => ?_)
          refine r_i2l (pc := 216) C dX11_raids_216 ?_
          refine r_goto (pc := 217) (tgt := 223) C dX11_raids_217 (by decide) ?_
          exact hJ223 (Int32.toInt64 r127) M128  h
      · refine r_aload_n (pc := 196) C dX11_raids_196 rfl rfl ?_
        refine r_getI (pc := 197) C kX11_99 h0 dX11_raids_197 ?_
        refine r_i2l (pc := 200) C dX11_raids_200 ?_
        refine r_goto (pc := 201) (tgt := 223) C dX11_raids_201 (by decide) ?_
        exact hJ223 (Int32.toInt64 (M31.1 a0 9)) M31  h
    refine r_icmp_eq (pc := 111) (tgt := 134) C dX11_raids_111 (by decide) h (fun _ h => ?_) (fun _ h => ?_)
    · refine r_iconst (pc := 134) (v := (nI 1)) C dX11_raids_134 (by decide) ?_
      refine r_goto (pc := 135) (tgt := 139) C dX11_raids_135 (by decide) ?_
      exact hJ139 (nI 1) M23  h
    · refine r_aload_n (pc := 114) C dX11_raids_114 rfl rfl ?_
      refine r_getI (pc := 115) C kX11_93 h0 dX11_raids_115 ?_
      refine r_iconst (pc := 118) (v := (nI 4)) C dX11_raids_118 (by decide) ?_
      refine r_icmp_eq (pc := 119) (tgt := 134) C dX11_raids_119 (by decide) h (fun _ h => ?_) (fun _ h => ?_)
      · refine r_iconst (pc := 134) (v := (nI 1)) C dX11_raids_134 (by decide) ?_
        refine r_goto (pc := 135) (tgt := 139) C dX11_raids_135 (by decide) ?_
        exact hJ139 (nI 1) M23  h
      · refine r_aload_n (pc := 122) C dX11_raids_122 rfl rfl ?_
        refine r_getI (pc := 123) C kX11_93 h0 dX11_raids_123 ?_
        refine r_if_ne (pc := 126) (tgt := 138) C dX11_raids_126 (by decide) h (fun _ h => ?_) (fun _ h => ?_)
        · refine r_iconst (pc := 138) (v := (nI 0)) C dX11_raids_138 (by decide) ?_
          exact hJ139 (nI 0) M23  h
        · refine r_iload (pc := 129) C dX11_raids_129 rfl ?_
          refine r_if_eq (pc := 131) (tgt := 138) C dX11_raids_131 (by decide) h (fun _ h => ?_) (fun _ h => ?_)
          · refine r_iconst (pc := 138) (v := (nI 0)) C dX11_raids_138 (by decide) ?_
            exact hJ139 (nI 0) M23  h
          · refine r_iconst (pc := 134) (v := (nI 1)) C dX11_raids_134 (by decide) ?_
            refine r_goto (pc := 135) (tgt := 139) C dX11_raids_135 (by decide) ?_
            exact hJ139 (nI 1) M23  h
  refine r_if_ne (pc := 82) (tgt := 89) C dX11_raids_82 (by decide) h (fun _ h => ?_) (fun _ h => ?_)
  · refine r_iconst (pc := 89) (v := (nI 0)) C dX11_raids_89 (by decide) ?_
    exact hJ90 (nI 0) M15  h
  · refine r_iconst (pc := 85) (v := (nI 1)) C dX11_raids_85 (by decide) ?_
    refine r_goto (pc := 86) (tgt := 90) C dX11_raids_86 (by decide) ?_
    exact hJ90 (nI 1) M15  h
theorem dX11_standing_0 : decode cX11_standing 0 = .ok (.aload_n 0, 1) := by decide +kernel
theorem dX11_standing_1 : decode cX11_standing 1 = .ok (.iconst 1, 1) := by decide +kernel
theorem dX11_standing_2 : decode cX11_standing 2 = .ok (.aload_n 0, 1) := by decide +kernel
theorem dX11_standing_3 : decode cX11_standing 3 = .ok (.bipush 28, 2) := by decide +kernel
theorem dX11_standing_5 : decode cX11_standing 5 = .ok (.invokevirtual 43, 3) := by decide +kernel
theorem dX11_standing_8 : decode cX11_standing 8 = .ok (.isub, 1) := by decide +kernel
theorem dX11_standing_9 : decode cX11_standing 9 = .ok (.iconst 0, 1) := by decide +kernel
theorem dX11_standing_10 : decode cX11_standing 10 = .ok (.invokevirtual 72, 3) := by decide +kernel
theorem dX11_standing_13 : decode cX11_standing 13 = .ok (.invokestatic 87, 3) := by decide +kernel
theorem dX11_standing_16 : decode cX11_standing 16 = .ok (.ireturn, 1) := by decide +kernel
def fX11_standing (a0 : Nat) (M : xMem) : Option (Int32 × xMem) :=
  xBn (fX11_get a0 (nI 28) M) fun r1 M2 => xBn (fX11_thoseOf a0 ((nI 1) - r1) (nI 0) M2) fun r3 M4 => xBn (fX11_bits r3 M4) fun r5 M6 => some (r5, M6)
set_option maxRecDepth 100000 in
set_option maxHeartbeats 4000000 in
theorem zX11_standing (G : xGX) (a0 : Nat) (h0 : xkd a0 = 11) (M : xMem) (r : Int32) (M' : xMem) (h : fX11_standing a0 M = some (r, M')) : xCt G yX11_standing cX11_standing 1 (some .int) 4 [vr G a0] M (some (.int r), M') := by
  refine xMet (lv := [some (vr G a0)]) (by decide) (Nat.le_of_ble_eq_true rfl) rfl ?_
  intro X hG hnL C R0
  subst hG
  have C : xCk X cX11_standing RX11 4 := C
  unfold fX11_standing at h
  refine r_aload_n (pc := 0) C dX11_standing_0 rfl rfl ?_
  refine r_iconst (pc := 1) (v := (nI 1)) C dX11_standing_1 (by decide) ?_
  refine r_aload_n (pc := 2) C dX11_standing_2 rfl rfl ?_
  refine r_bipush (pc := 3) (v := (nI 28)) C dX11_standing_3 (by decide) ?_
  refine r_vI1 (pc := 5) C (fun r M' e => zX11_get X.1 a0 h0 (nI 28) M r M' e) h0 (by decide) rfl mX11_get lX11_43 (by decide) (Nat.le_of_ble_eq_true rfl) dX11_standing_5 h (fun r1 M2 h => ?_)
  refine r_isub (pc := 8) C dX11_standing_8 ?_
  refine r_iconst (pc := 9) (v := (nI 0)) C dX11_standing_9 (by decide) ?_
  refine r_vI2 (pc := 10) C (fun r M' e => zX11_thoseOf X.1 a0 h0 ((nI 1) - r1) (nI 0) M2 r M' e) h0 (by decide) rfl mX11_thoseOf lX11_72 (by decide) (Nat.le_of_ble_eq_true rfl) dX11_standing_10 h (fun r3 M4 h => ?_)
  refine r_sI1 (pc := 13) C (fun r M' e => zX11_bits X.1 r3 M4 r M' e) mX11_bits lX11_87 (by decide) (Nat.le_of_ble_eq_true rfl) dX11_standing_13 h (fun r5 M6 h => ?_)
  exact r_iret (pc := 16) C R0 h dX11_standing_16
theorem dX11_lineComes_0 : decode cX11_lineComes 0 = .ok (.aload_n 0, 1) := by decide +kernel
theorem dX11_lineComes_1 : decode cX11_lineComes 1 = .ok (.getfield 16, 3) := by decide +kernel
theorem dX11_lineComes_4 : decode cX11_lineComes 4 = .ok (.bipush 26, 2) := by decide +kernel
theorem dX11_lineComes_6 : decode cX11_lineComes 6 = .ok (.dup2, 1) := by decide +kernel
theorem dX11_lineComes_7 : decode cX11_lineComes 7 = .ok (.laload, 1) := by decide +kernel
theorem dX11_lineComes_8 : decode cX11_lineComes 8 = .ok (.lconst 1, 1) := by decide +kernel
theorem dX11_lineComes_9 : decode cX11_lineComes 9 = .ok (.ladd, 1) := by decide +kernel
theorem dX11_lineComes_10 : decode cX11_lineComes 10 = .ok (.lastore, 1) := by decide +kernel
theorem dX11_lineComes_11 : decode cX11_lineComes 11 = .ok (.aload_n 0, 1) := by decide +kernel
theorem dX11_lineComes_12 : decode cX11_lineComes 12 = .ok (.getfield 16, 3) := by decide +kernel
theorem dX11_lineComes_15 : decode cX11_lineComes 15 = .ok (.bipush 29, 2) := by decide +kernel
theorem dX11_lineComes_17 : decode cX11_lineComes 17 = .ok (.lconst 0, 1) := by decide +kernel
theorem dX11_lineComes_18 : decode cX11_lineComes 18 = .ok (.lastore, 1) := by decide +kernel
theorem dX11_lineComes_19 : decode cX11_lineComes 19 = .ok (.return_, 1) := by decide +kernel
def fX11_lineComes (a0 : Nat) (M : xMem) : Option (xMem) :=
  xGb (nI 26) (xln (xnw M)) (xGb (nI 26) (xln (xnw M)) (xLt (xwL M (xnw M) (Int32.toNatClampNeg (nI 26)) ((M.2.1 (xnw M) (Int32.toNatClampNeg (nI 26))) + (lN 1))) fun M3 => xGb (nI 29) (xln (xnw M3)) (xLt (xwL M3 (xnw M3) (Int32.toNatClampNeg (nI 29)) (lN 0)) fun M5 => some M5)))
set_option maxRecDepth 100000 in
set_option maxHeartbeats 4000000 in
theorem zX11_lineComes (G : xGX) (a0 : Nat) (h0 : xkd a0 = 11) (M : xMem) (M' : xMem) (h : fX11_lineComes a0 M = some M') : xCt G yX11_lineComes cX11_lineComes 1 none 1 [vr G a0] M (none, M') := by
  refine xMet (lv := [some (vr G a0)]) (by decide) (Nat.le_of_ble_eq_true rfl) rfl ?_
  intro X hG hnL C R0
  subst hG
  have C : xCk X cX11_lineComes RX11 1 := C
  unfold fX11_lineComes at h
  refine r_aload_n (pc := 0) C dX11_lineComes_0 rfl rfl ?_
  refine r_getW (pc := 1) C kX11_16 h0 dX11_lineComes_1 ?_
  refine r_bipush (pc := 4) (v := (nI 26)) C dX11_lineComes_4 (by decide) ?_
  refine r_dup2 (pc := 6) C rfl rfl dX11_lineComes_6 ?_
  obtain ⟨g1, h⟩ := xGb_of h
  refine r_lald (pc := 7) C (xknw M) g1 dX11_lineComes_7 ?_
  refine r_lconst (pc := 8) (v := lN 1) C dX11_lineComes_8 rfl ?_
  refine r_ladd (pc := 9) C dX11_lineComes_9 ?_
  obtain ⟨g2, h⟩ := xGb_of h
  refine r_last (pc := 10) C (xknw M) g2 dX11_lineComes_10 ?_
  refine r_letM h (fun M3 h => ?_)
  refine r_aload_n (pc := 11) C dX11_lineComes_11 rfl rfl ?_
  refine r_getW (pc := 12) C kX11_16 h0 dX11_lineComes_12 ?_
  refine r_bipush (pc := 15) (v := (nI 29)) C dX11_lineComes_15 (by decide) ?_
  refine r_lconst (pc := 17) (v := lN 0) C dX11_lineComes_17 rfl ?_
  obtain ⟨g4, h⟩ := xGb_of h
  refine r_last (pc := 18) C (xknw M3) g4 dX11_lineComes_18 ?_
  refine r_letM h (fun M5 h => ?_)
  exact r_vret (pc := 19) C R0 h dX11_lineComes_19
