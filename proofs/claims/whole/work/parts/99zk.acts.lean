/-! ===== constructors: Acts, with its loop ===== -/
theorem nk_X0_9 : gNK RX0 9 9 [.null, .null, .int 0] := ⟨RX9, TX9, tyX9, rfl, xin9, tyX9_ok, (xTb_c2 96 rfl rfl), (xTb_c1 49 rfl rfl), (xTb_c1 4 rfl rfl), by decide⟩
theorem wq_X0 : Cond.classLink RX0 9 RX9 ∈ xTb := (xTb_c2 96 rfl rfl)
theorem dX0_init_0 : decode cX0_init 0 = .ok (.aload_n 0, 1) := by decide +kernel
theorem dX0_init_1 : decode cX0_init 1 = .ok (.invokespecial 3, 3) := by decide +kernel
theorem dX0_init_4 : decode cX0_init 4 = .ok (.aload_n 0, 1) := by decide +kernel
theorem dX0_init_5 : decode cX0_init 5 = .ok (.bipush 10, 2) := by decide +kernel
theorem dX0_init_7 : decode cX0_init 7 = .ok (.anewarray 9, 3) := by decide +kernel
theorem dX0_init_10 : decode cX0_init 10 = .ok (.putfield 11, 3) := by decide +kernel
theorem dX0_init_13 : decode cX0_init 13 = .ok (.aload_n 0, 1) := by decide +kernel
theorem dX0_init_14 : decode cX0_init 14 = .ok (.bipush 10, 2) := by decide +kernel
theorem dX0_init_16 : decode cX0_init 16 = .ok (.newarray .boolean, 2) := by decide +kernel
theorem dX0_init_18 : decode cX0_init 18 = .ok (.putfield 17, 3) := by decide +kernel
theorem dX0_init_21 : decode cX0_init 21 = .ok (.aload_n 0, 1) := by decide +kernel
theorem dX0_init_22 : decode cX0_init 22 = .ok (.iconst 0, 1) := by decide +kernel
theorem dX0_init_23 : decode cX0_init 23 = .ok (.putfield 21, 3) := by decide +kernel
theorem dX0_init_26 : decode cX0_init 26 = .ok (.iconst 0, 1) := by decide +kernel
theorem dX0_init_27 : decode cX0_init 27 = .ok (.istore_n 1, 1) := by decide +kernel
theorem dX0_init_28 : decode cX0_init 28 = .ok (.iload_n 1, 1) := by decide +kernel
theorem dX0_init_29 : decode cX0_init 29 = .ok (.bipush 10, 2) := by decide +kernel
theorem dX0_init_31 : decode cX0_init 31 = .ok (.if_icmp .ge 22, 3) := by decide +kernel
theorem dX0_init_34 : decode cX0_init 34 = .ok (.aload_n 0, 1) := by decide +kernel
theorem dX0_init_35 : decode cX0_init 35 = .ok (.getfield 11, 3) := by decide +kernel
theorem dX0_init_38 : decode cX0_init 38 = .ok (.iload_n 1, 1) := by decide +kernel
theorem dX0_init_39 : decode cX0_init 39 = .ok (.new 9, 3) := by decide +kernel
theorem dX0_init_42 : decode cX0_init 42 = .ok (.dup, 1) := by decide +kernel
theorem dX0_init_43 : decode cX0_init 43 = .ok (.invokespecial 25, 3) := by decide +kernel
theorem dX0_init_46 : decode cX0_init 46 = .ok (.aastore, 1) := by decide +kernel
theorem dX0_init_47 : decode cX0_init 47 = .ok (.iinc 1 1, 3) := by decide +kernel
theorem dX0_init_50 : decode cX0_init 50 = .ok (.goto (-22), 3) := by decide +kernel
theorem dX0_init_53 : decode cX0_init 53 = .ok (.return_, 1) := by decide +kernel
def aF (G : xGX) (n : Nat) : Nat → Nat → Option Nat
  | 0 => fun _ => none
  | i + 1 => va_up (aF G n i) i (some (xbs G + (n + (3 + 6 * i))))
def aT (G : xGX) (n : Nat) : Nat → List va_E
  | 0 => []
  | i + 1 => aT G n i ++ bX9 G (n + (3 + 6 * i))
theorem aT_len (G : xGX) (n : Nat) : ∀ i, (aT G n i).length = 6 * i
  | 0 => rfl
  | i + 1 => by
    show (aT G n i ++ bX9 G (n + (3 + 6 * i))).length = _
    rw [List.length_append, aT_len G n i, show (bX9 G (n + (3 + 6 * i))).length = 6 from rfl]
    omega
def aL (G : xGX) (n : Nat) (f : Nat → Option Nat) (T : List va_E) : List va_E := .inr (0, [vr G (n + 1), vr G (n + 2), .int 0]) :: .inl (xcy G 17, 10, .inr (.inr (.inr (.inr f)))) :: .inl (xcy G 15, 10, .inl (fun _ => 0)) :: T
def bX0 (G : xGX) (n : Nat) : List va_E := aL G n (fun j => some (xbs G + (n + 3 + 6 * (j % 10)))) (aT G n 10)
theorem aL_len (G : xGX) (n : Nat) (f : Nat → Option Nat) (i : Nat) : (aL G n f (aT G n i)).length = 3 + 6 * i := by
  unfold aL
  simp only [List.length_cons, aT_len]
  omega
theorem aL_at (G : xGX) (n : Nat) (f : Nat → Option Nat) (i : Nat) : (aL G n f (aT G n (i + 1)))[3 + 6 * i]? = some (.inr (9, [vr G (n + (3 + 6 * i) + 1), vr G (n + (3 + 6 * i) + 5), .int 0])) := by
  have e : ∀ (a b c : va_E) (T : List va_E) (j : Nat), (a :: b :: c :: T)[3 + j]? = T[j]? := fun a b c T j => by rw [Nat.add_comm]; rfl
  unfold aL
  rw [e]
  show (aT G n i ++ bX9 G (n + (3 + 6 * i)))[6 * i]? = _
  rw [List.getElem?_append_right (by rw [aT_len]; omega), aT_len, Nat.sub_self]
  rfl
set_option maxRecDepth 100000 in
theorem a_it {X : xCX} {E0 : List va_E} {n nc ns i : Nat} (hnL : X.2.2.2.2.2.2.2.2.2.2.2.2.2 = 2) (C : gCk X cX0_init RX0 3 62 3120) (h0 : E0.length = n) {x x' : Int32} (hx : x.toNatClampNeg = i) (hin : vp_in x 10) (hlt : ¬ (10 : Int32) ≤ x) (hx' : x + Int32.ofInt 1 = x') (hnc : Nat.ble (nc + 6) 62 = true) (hns : Nat.ble (ns + 310) 3120 = true) (k : GW X E0 28 [some (vr X.1 (n + 0)), some (.int x')] [] (aL X.1 n (aF X.1 n (i + 1)) (aT X.1 n (i + 1))) (nc + 6) (ns + 310)) : GW X E0 28 [some (vr X.1 (n + 0)), some (.int x)] [] (aL X.1 n (aF X.1 n i) (aT X.1 n i)) nc ns := by
  subst hx
  have b1 : Nat.ble (nc + 1) 62 = true := Nat.ble_eq_true_of_le (by have := Nat.le_of_ble_eq_true hnc; omega)
  have b2 : Nat.ble (ns + xnf 9) 3120 = true := Nat.ble_eq_true_of_le (by have := Nat.le_of_ble_eq_true hns; show ns + 3 ≤ 3120; omega)
  refine g_iload (pc := 28) (x := x) C dX0_init_28 rfl rfl ?_
  refine g_bipush (pc := 29) (v := 10) C dX0_init_29 (by decide) ?_
  refine g_icge (pc := 31) (tgt := 53) C dX0_init_31 (by decide) (fun h => absurd h hlt) (fun _ => ?_)
  refine g_aload (pc := 34) (a := n + 0) C dX0_init_34 rfl rfl ?_
  refine g_get (pc := 35) (i := 0) (v := vr X.1 (n + 1)) C h0 kX0_11 rfl rfl dX0_init_35 ?_
  refine g_iload (pc := 38) (x := x) C dX0_init_38 rfl rfl ?_
  refine g_new (pc := 39) (j := 3 + 6 * x.toNatClampNeg) (L' := aL X.1 n (aF X.1 n x.toNatClampNeg) (aT X.1 n x.toNatClampNeg ++ [.inr (9, [.null, .null, .int 0])])) C h0 nk_X0_9 (aL_len _ _ _ _) b1 b2 dX0_init_39 rfl ?_
  refine g_dup (pc := 42) (a := n + (3 + 6 * x.toNatClampNeg)) C dX0_init_42 ?_
  refine g_call (pc := 43) (st := [vr X.1 (n + (3 + 6 * x.toNatClampNeg)), .int x, vr X.1 (n + 1)]) (b := n + (3 + 6 * x.toNatClampNeg)) (As := []) (L1 := aL X.1 n (aF X.1 n x.toNatClampNeg) (aT X.1 n x.toNatClampNeg)) (B := bX9 X.1 (n + (3 + 6 * x.toNatClampNeg))) (en := .inr (9, [.null, .null, .int 0])) (L' := aL X.1 n (aF X.1 n x.toNatClampNeg) (aT X.1 n (x.toNatClampNeg + 1))) C (cX9 X.1 (E0 ++ (aL X.1 n (aF X.1 n x.toNatClampNeg) (aT X.1 n x.toNatClampNeg))) (n + (3 + 6 * x.toNatClampNeg)) (gl h0 (aL_len _ _ _ _))) mi_X9 lX0_25 rfl (by decide) rfl (Nat.le_of_ble_eq_true rfl) rfl rfl hnc hns dX0_init_43 rfl ?_
  refine g_astq (pc := 46) (K := 17) (t0 := 5) (i := 1) (b := 3 + 6 * x.toNatClampNeg) (N := 10) (ci := 9) (r := (RX9, TX9, 3)) (x := x) (L' := aL X.1 n (aF X.1 n (x.toNatClampNeg + 1)) (aT X.1 n (x.toNatClampNeg + 1))) C h0 rfl rfl rfl (aL_at _ _ _ _) hin dX0_init_46 rfl ?_
  refine g_iinc (pc := 47) (x := x) (v := x') C dX0_init_47 rfl hx' (by rw [hnL]; decide) rfl ?_
  refine g_goto (pc := 50) (tgt := 28) C dX0_init_50 (by decide) ?_
  exact k
set_option maxRecDepth 100000 in
theorem cX0 (G : xGX) (E0 : List va_E) (n : Nat) (h0 : E0.length = n) : gCt G yX0_init cX0_init 2 3 62 3120 [vr G n] (E0 ++ [.inr (0, [.null, .null, .int 0])]) (E0 ++ bX0 G n) := by
  refine gMet (lv := [some (vr G (n + 0)), none]) (by decide +kernel) rfl (Nat.le_of_ble_eq_true rfl) rfl ?_
  intro X hG hnL C R0
  subst hG
  refine g_aload (pc := 0) (a := n + 0) C dX0_init_0 rfl rfl ?_
  refine g_obj (pc := 1) (a := n + 0) C wo_X0 wo_i wo_c (by decide) dX0_init_1 ?_
  refine g_aload (pc := 4) (a := n + 0) C dX0_init_4 rfl rfl ?_
  refine g_bipush (pc := 5) (v := 10) C dX0_init_5 (by decide) ?_
  refine g_newq (pc := 7) (Cs := RX9) (K := 17) (t0 := 5) (j := 1) (N := 10) (x := 10) (L' := [.inr (0, [.null, .null, .int 0]), .inl (xcy X.1 17, 10, .inr (.inr (.inr (.inr (fun _ => none)))))]) C h0 wq_X0 (fun _ h => h.2.1) rfl (by decide) (by decide) rfl rfl rfl rfl dX0_init_7 rfl ?_
  refine g_putF (pc := 10) (i := 0) (L' := [.inr (0, [vr X.1 (n + 1), .null, .int 0]), .inl (xcy X.1 17, 10, .inr (.inr (.inr (.inr (fun _ => none)))))]) C R0 h0 kX0_11 (fun _ _ h => by cases h; rfl) (by simp [xNF]; try decide) rfl rfl rfl rfl dX0_init_10 rfl ?_
  refine g_aload (pc := 13) (a := n + 0) C dX0_init_13 rfl rfl ?_
  refine g_bipush (pc := 14) (v := 10) C dX0_init_14 (by decide) ?_
  refine g_newa (pc := 16) (atype := .boolean) (ty := .boolean) (K := 15) (t0 := 3) (j := 2) (N := 10) (x := 10) (a0 := (10, .inl (fun _ => 0))) (L' := [.inr (0, [vr X.1 (n + 1), .null, .int 0]), .inl (xcy X.1 17, 10, .inr (.inr (.inr (.inr (fun _ => none))))), .inl (xcy X.1 15, 10, .inl (fun _ => 0))]) C h0 wa_boolean rfl rfl (fun _ _ h => h) (fun _ => rfl) (by decide) (by decide +kernel) rfl rfl rfl rfl dX0_init_16 rfl ?_
  refine g_putF (pc := 18) (i := 0) (L' := [.inr (0, [vr X.1 (n + 1), vr X.1 (n + 2), .int 0]), .inl (xcy X.1 17, 10, .inr (.inr (.inr (.inr (fun _ => none))))), .inl (xcy X.1 15, 10, .inl (fun _ => 0))]) C R0 h0 kX0_17 (fun _ _ h => by cases h; rfl) (by simp [xNF]; try decide) rfl rfl rfl rfl dX0_init_18 rfl ?_
  refine g_aload (pc := 21) (a := n + 0) C dX0_init_21 rfl rfl ?_
  refine g_iconst (pc := 22) (v := 0) C dX0_init_22 (by decide) ?_
  refine g_put (pc := 23) (i := 0) (L' := aL X.1 n (aF X.1 n 0) (aT X.1 n 0)) C h0 kX0_21 rfl rfl rfl rfl dX0_init_23 rfl ?_
  refine g_iconst (pc := 26) (v := 0) C dX0_init_26 (by decide) ?_
  refine g_istore (pc := 27) (x := 0) (lv' := [some (vr X.1 (n + 0)), some (.int 0)]) C dX0_init_27 rfl (by rw [hnL]; decide) rfl ?_
  refine a_it (i := 0) (x := 0) (x' := 1) hnL C h0 (by decide) (by unfold vp_in; decide) (by decide) (by decide) rfl rfl ?_
  refine a_it (i := 1) (x := 1) (x' := 2) hnL C h0 (by decide) (by unfold vp_in; decide) (by decide) (by decide) rfl rfl ?_
  refine a_it (i := 2) (x := 2) (x' := 3) hnL C h0 (by decide) (by unfold vp_in; decide) (by decide) (by decide) rfl rfl ?_
  refine a_it (i := 3) (x := 3) (x' := 4) hnL C h0 (by decide) (by unfold vp_in; decide) (by decide) (by decide) rfl rfl ?_
  refine a_it (i := 4) (x := 4) (x' := 5) hnL C h0 (by decide) (by unfold vp_in; decide) (by decide) (by decide) rfl rfl ?_
  refine a_it (i := 5) (x := 5) (x' := 6) hnL C h0 (by decide) (by unfold vp_in; decide) (by decide) (by decide) rfl rfl ?_
  refine a_it (i := 6) (x := 6) (x' := 7) hnL C h0 (by decide) (by unfold vp_in; decide) (by decide) (by decide) rfl rfl ?_
  refine a_it (i := 7) (x := 7) (x' := 8) hnL C h0 (by decide) (by unfold vp_in; decide) (by decide) (by decide) rfl rfl ?_
  refine a_it (i := 8) (x := 8) (x' := 9) hnL C h0 (by decide) (by unfold vp_in; decide) (by decide) (by decide) rfl rfl ?_
  refine a_it (i := 9) (x := 9) (x' := 10) hnL C h0 (by decide) (by unfold vp_in; decide) (by decide) (by decide) rfl rfl ?_
  refine g_iload (pc := 28) (x := 10) C dX0_init_28 rfl rfl ?_
  refine g_bipush (pc := 29) (v := 10) C dX0_init_29 (by decide) ?_
  refine g_icge (pc := 31) (tgt := 53) C dX0_init_31 (by decide) (fun _ => ?_) (fun h => absurd (by decide) h)
  refine g_arr (i := 1) (N := 10) (cA := xcy X.1 17) (L' := bX0 X.1 n) h0 rfl (by intro j hj; rcases (show j = 0 ∨ j = 1 ∨ j = 2 ∨ j = 3 ∨ j = 4 ∨ j = 5 ∨ j = 6 ∨ j = 7 ∨ j = 8 ∨ j = 9 by omega) with rfl | rfl | rfl | rfl | rfl | rfl | rfl | rfl | rfl | rfl <;> rfl) rfl ?_
  exact g_ret (pc := 53) C R0 rfl rfl rfl dX0_init_53
