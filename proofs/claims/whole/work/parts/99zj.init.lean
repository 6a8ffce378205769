/-! ===== constructors ===== -/
def gTbF (G : xGX) (n : Nat) : List va_E := .inl (xcy G 18, 16, .inr (.inr (.inr (.inr (fun j => some (xbs G + [n + 1, n + 2, n + 3, n + 4, n + 5, n + 6, n + 7, n + 8, n + 9, n + 10, n + 11, n + 12, n + 13, n + 14, n + 15, n + 16].getD j 0)))))) :: List.replicate 16 (.inl (xcy G 13, 200, .inl (fun _ => 0)))
theorem gTb_eq (G : xGX) (n : Nat) : ∀ j, j < 16 → (fun j => if j < 16 then some (xbs G + (n + 1 + 1 + j)) else none : Nat → Option Nat) j = (fun j => some (xbs G + [n + 1 + 1, n + 1 + 2, n + 1 + 3, n + 1 + 4, n + 1 + 5, n + 1 + 6, n + 1 + 7, n + 1 + 8, n + 1 + 9, n + 1 + 10, n + 1 + 11, n + 1 + 12, n + 1 + 13, n + 1 + 14, n + 1 + 15, n + 1 + 16].getD j 0) : Nat → Option Nat) j := by
  intro j hj
  rcases (show j = 0 ∨ j = 1 ∨ j = 2 ∨ j = 3 ∨ j = 4 ∨ j = 5 ∨ j = 6 ∨ j = 7 ∨ j = 8 ∨ j = 9 ∨ j = 10 ∨ j = 11 ∨ j = 12 ∨ j = 13 ∨ j = 14 ∨ j = 15 by omega) with rfl | rfl | rfl | rfl | rfl | rfl | rfl | rfl | rfl | rfl | rfl | rfl | rfl | rfl | rfl | rfl <;> rfl
def bX6a (G : xGX) (n : Nat) : List va_E := [.inr (6, [vr G (n + 1), .int 0]), .inl (xcy G 12, 2000, .inl (fun _ => 0))]
set_option maxRecDepth 100000 in
theorem cX6a (G : xGX) (E0 : List va_E) (n : Nat) (h0 : E0.length = n) : gCt G yX6_init cX6_init 2 1 1 2000 [vr G n, .int 2000] (E0 ++ [.inr (6, [.null, .int 0])]) (E0 ++ bX6a G n) := by
  refine gMet (lv := [some (vr G (n + 0)), some (.int 2000)]) (by decide +kernel) rfl (Nat.le_of_ble_eq_true rfl) rfl ?_
  intro X hG hnL C R0
  subst hG
  refine g_aload (pc := 0) (a := n + 0) C dX6_init_0 rfl rfl ?_
  refine g_obj (pc := 1) (a := n + 0) C wo_X6 wo_i wo_c (by decide) dX6_init_1 ?_
  refine g_aload (pc := 4) (a := n + 0) C dX6_init_4 rfl rfl ?_
  refine g_iconst (pc := 5) (v := 0) C dX6_init_5 (by decide) ?_
  refine g_put (pc := 6) (i := 0) (L' := [.inr (6, [.null, .int 0])]) C h0 kX6_9 rfl rfl rfl rfl dX6_init_6 rfl ?_
  refine g_aload (pc := 9) (a := n + 0) C dX6_init_9 rfl rfl ?_
  refine g_iload (pc := 10) (x := 2000) C dX6_init_10 rfl rfl ?_
  refine g_ifge (pc := 11) (tgt := 18) C dX6_init_11 (by decide) (by decide) ?_
  refine g_iload (pc := 18) (x := 2000) C dX6_init_18 rfl rfl ?_
  refine g_newa (pc := 19) (atype := .byte) (ty := .byte) (K := 12) (t0 := 0) (j := 1) (N := 2000) (x := 2000) (a0 := (2000, .inl (fun _ => 0))) (L' := [.inr (6, [.null, .int 0]), .inl (xcy X.1 12, 2000, .inl (fun _ => 0))]) C h0 wa_byte rfl rfl (fun _ _ h => h) (fun _ => rfl) (by decide) (by decide +kernel) rfl rfl rfl rfl dX6_init_19 rfl ?_
  refine g_putF (pc := 21) (i := 0) (L' := [.inr (6, [vr X.1 (n + 1), .int 0]), .inl (xcy X.1 12, 2000, .inl (fun _ => 0))]) C R0 h0 kX6_15 (fun _ _ h => by cases h; rfl) (by simp [xNF]; try decide) rfl rfl rfl rfl dX6_init_21 rfl ?_
  exact g_ret (pc := 24) C R0 rfl rfl rfl dX6_init_24
def bX6b (G : xGX) (n : Nat) : List va_E := [.inr (6, [vr G (n + 1), .int 0]), .inl (xcy G 12, 2064, .inl (fun _ => 0))]
set_option maxRecDepth 100000 in
theorem cX6b (G : xGX) (E0 : List va_E) (n : Nat) (h0 : E0.length = n) : gCt G yX6_init cX6_init 2 1 1 2064 [vr G n, .int 2064] (E0 ++ [.inr (6, [.null, .int 0])]) (E0 ++ bX6b G n) := by
  refine gMet (lv := [some (vr G (n + 0)), some (.int 2064)]) (by decide +kernel) rfl (Nat.le_of_ble_eq_true rfl) rfl ?_
  intro X hG hnL C R0
  subst hG
  refine g_aload (pc := 0) (a := n + 0) C dX6_init_0 rfl rfl ?_
  refine g_obj (pc := 1) (a := n + 0) C wo_X6 wo_i wo_c (by decide) dX6_init_1 ?_
  refine g_aload (pc := 4) (a := n + 0) C dX6_init_4 rfl rfl ?_
  refine g_iconst (pc := 5) (v := 0) C dX6_init_5 (by decide) ?_
  refine g_put (pc := 6) (i := 0) (L' := [.inr (6, [.null, .int 0])]) C h0 kX6_9 rfl rfl rfl rfl dX6_init_6 rfl ?_
  refine g_aload (pc := 9) (a := n + 0) C dX6_init_9 rfl rfl ?_
  refine g_iload (pc := 10) (x := 2064) C dX6_init_10 rfl rfl ?_
  refine g_ifge (pc := 11) (tgt := 18) C dX6_init_11 (by decide) (by decide) ?_
  refine g_iload (pc := 18) (x := 2064) C dX6_init_18 rfl rfl ?_
  refine g_newa (pc := 19) (atype := .byte) (ty := .byte) (K := 12) (t0 := 0) (j := 1) (N := 2064) (x := 2064) (a0 := (2064, .inl (fun _ => 0))) (L' := [.inr (6, [.null, .int 0]), .inl (xcy X.1 12, 2064, .inl (fun _ => 0))]) C h0 wa_byte rfl rfl (fun _ _ h => h) (fun _ => rfl) (by decide) (by decide +kernel) rfl rfl rfl rfl dX6_init_19 rfl ?_
  refine g_putF (pc := 21) (i := 0) (L' := [.inr (6, [vr X.1 (n + 1), .int 0]), .inl (xcy X.1 12, 2064, .inl (fun _ => 0))]) C R0 h0 kX6_15 (fun _ _ h => by cases h; rfl) (by simp [xNF]; try decide) rfl rfl rfl rfl dX6_init_21 rfl ?_
  exact g_ret (pc := 24) C R0 rfl rfl rfl dX6_init_24
def bX5 (G : xGX) (n : Nat) : List va_E := [.inr (5, [vr G (n + 1), vr G (n + 2), vr G (n + 3)]), .inl (xcy G 13, 2, .inl (fun _ => 0)), .inl (xcy G 13, 20, .inl (fun _ => 0)), .inl (xcy G 13, 2, .inl (fun _ => 0))]
set_option maxRecDepth 100000 in
theorem cX5 (G : xGX) (E0 : List va_E) (n : Nat) (h0 : E0.length = n) : gCt G yX5_init cX5_init 1 1 3 24 [vr G n] (E0 ++ [.inr (5, [.null, .null, .null])]) (E0 ++ bX5 G n) := by
  refine gMet (lv := [some (vr G (n + 0))]) (by decide +kernel) rfl (Nat.le_of_ble_eq_true rfl) rfl ?_
  intro X hG hnL C R0
  subst hG
  refine g_aload (pc := 0) (a := n + 0) C dX5_init_0 rfl rfl ?_
  refine g_obj (pc := 1) (a := n + 0) C wo_X5 wo_i wo_c (by decide) dX5_init_1 ?_
  refine g_aload (pc := 4) (a := n + 0) C dX5_init_4 rfl rfl ?_
  refine g_iconst (pc := 5) (v := 2) C dX5_init_5 (by decide) ?_
  refine g_newa (pc := 6) (atype := .int) (ty := .int) (K := 13) (t0 := 1) (j := 1) (N := 2) (x := 2) (a0 := (2, .inl (fun _ => 0))) (L' := [.inr (5, [.null, .null, .null]), .inl (xcy X.1 13, 2, .inl (fun _ => 0))]) C h0 wa_int rfl rfl (fun _ _ h => h) (fun _ => rfl) (by decide) (by decide +kernel) rfl rfl rfl rfl dX5_init_6 rfl ?_
  refine g_putF (pc := 8) (i := 0) (L' := [.inr (5, [vr X.1 (n + 1), .null, .null]), .inl (xcy X.1 13, 2, .inl (fun _ => 0))]) C R0 h0 kX5_9 (fun _ _ h => by cases h; rfl) (by simp [xNF]; try decide) rfl rfl rfl rfl dX5_init_8 rfl ?_
  refine g_aload (pc := 11) (a := n + 0) C dX5_init_11 rfl rfl ?_
  refine g_bipush (pc := 12) (v := 20) C dX5_init_12 (by decide) ?_
  refine g_newa (pc := 14) (atype := .int) (ty := .int) (K := 13) (t0 := 1) (j := 2) (N := 20) (x := 20) (a0 := (20, .inl (fun _ => 0))) (L' := [.inr (5, [vr X.1 (n + 1), .null, .null]), .inl (xcy X.1 13, 2, .inl (fun _ => 0)), .inl (xcy X.1 13, 20, .inl (fun _ => 0))]) C h0 wa_int rfl rfl (fun _ _ h => h) (fun _ => rfl) (by decide) (by decide +kernel) rfl rfl rfl rfl dX5_init_14 rfl ?_
  refine g_putF (pc := 16) (i := 0) (L' := [.inr (5, [vr X.1 (n + 1), vr X.1 (n + 2), .null]), .inl (xcy X.1 13, 2, .inl (fun _ => 0)), .inl (xcy X.1 13, 20, .inl (fun _ => 0))]) C R0 h0 kX5_15 (fun _ _ h => by cases h; rfl) (by simp [xNF]; try decide) rfl rfl rfl rfl dX5_init_16 rfl ?_
  refine g_aload (pc := 19) (a := n + 0) C dX5_init_19 rfl rfl ?_
  refine g_iconst (pc := 20) (v := 2) C dX5_init_20 (by decide) ?_
  refine g_newa (pc := 21) (atype := .int) (ty := .int) (K := 13) (t0 := 1) (j := 3) (N := 2) (x := 2) (a0 := (2, .inl (fun _ => 0))) (L' := [.inr (5, [vr X.1 (n + 1), vr X.1 (n + 2), .null]), .inl (xcy X.1 13, 2, .inl (fun _ => 0)), .inl (xcy X.1 13, 20, .inl (fun _ => 0)), .inl (xcy X.1 13, 2, .inl (fun _ => 0))]) C h0 wa_int rfl rfl (fun _ _ h => h) (fun _ => rfl) (by decide) (by decide +kernel) rfl rfl rfl rfl dX5_init_21 rfl ?_
  refine g_putF (pc := 23) (i := 0) (L' := [.inr (5, [vr X.1 (n + 1), vr X.1 (n + 2), vr X.1 (n + 3)]), .inl (xcy X.1 13, 2, .inl (fun _ => 0)), .inl (xcy X.1 13, 20, .inl (fun _ => 0)), .inl (xcy X.1 13, 2, .inl (fun _ => 0))]) C R0 h0 kX5_18 (fun _ _ h => by cases h; rfl) (by simp [xNF]; try decide) rfl rfl rfl rfl dX5_init_23 rfl ?_
  exact g_ret (pc := 26) C R0 rfl rfl rfl dX5_init_26
def bX9 (G : xGX) (n : Nat) : List va_E := .inr (9, [vr G (n + 1), vr G (n + 5), .int 0]) :: (bX5 G (n + 1) ++ [.inl (xcy G 14, 280, .inr (.inl (fun _ => 0)))])
set_option maxRecDepth 100000 in
theorem cX9 (G : xGX) (E0 : List va_E) (n : Nat) (h0 : E0.length = n) : gCt G yX9_init cX9_init 1 2 5 307 [vr G n] (E0 ++ [.inr (9, [.null, .null, .int 0])]) (E0 ++ bX9 G n) := by
  refine gMet (lv := [some (vr G (n + 0))]) (by decide +kernel) rfl (Nat.le_of_ble_eq_true rfl) rfl ?_
  intro X hG hnL C R0
  subst hG
  refine g_aload (pc := 0) (a := n + 0) C dX9_init_0 rfl rfl ?_
  refine g_obj (pc := 1) (a := n + 0) C wo_X9 wo_i wo_c (by decide) dX9_init_1 ?_
  refine g_aload (pc := 4) (a := n + 0) C dX9_init_4 rfl rfl ?_
  refine g_new (pc := 5) (j := 1) (L' := [.inr (9, [.null, .null, .int 0]), .inr (5, [.null, .null, .null])]) C h0 nk_X9_9 rfl rfl rfl dX9_init_5 rfl ?_
  refine g_dup (pc := 8) (a := n + 1) C dX9_init_8 ?_
  refine g_call (pc := 9) (st := [vr X.1 (n + 1), vr X.1 (n + 0)]) (b := n + 1) (As := []) (L1 := [.inr (9, [.null, .null, .int 0])]) (B := bX5 X.1 (n + 1)) (en := .inr (5, [.null, .null, .null])) (L' := .inr (9, [.null, .null, .int 0]) :: (bX5 X.1 (n + 1))) C (cX5 X.1 (E0 ++ ([.inr (9, [.null, .null, .int 0])])) (n + 1) (gl h0 rfl)) mi_X5 lX9_11 rfl (by decide) rfl (Nat.le_of_ble_eq_true rfl) rfl rfl rfl rfl dX9_init_9 rfl ?_
  refine g_putF (pc := 12) (i := 0) (L' := .inr (9, [vr X.1 (n + 1), .null, .int 0]) :: (bX5 X.1 (n + 1))) C R0 h0 kX9_12 (fun _ _ h => by cases h; rfl) (by simp [xNF]; try decide) rfl rfl rfl rfl dX9_init_12 rfl ?_
  refine g_aload (pc := 15) (a := n + 0) C dX9_init_15 rfl rfl ?_
  refine g_sipush (pc := 16) (v := 280) C dX9_init_16 (by decide) ?_
  refine g_newa (pc := 19) (atype := .long) (ty := .long) (K := 14) (t0 := 2) (j := 5) (N := 280) (x := 280) (a0 := (280, .inr (.inl (fun _ => 0)))) (L' := .inr (9, [vr X.1 (n + 1), .null, .int 0]) :: (bX5 X.1 (n + 1) ++ [.inl (xcy X.1 14, 280, .inr (.inl (fun _ => 0)))])) C h0 wa_long rfl rfl (fun _ _ h => h) (fun _ => rfl) (by decide) (by decide +kernel) rfl rfl rfl rfl dX9_init_19 rfl ?_
  refine g_putF (pc := 21) (i := 0) (L' := .inr (9, [vr X.1 (n + 1), vr X.1 (n + 5), .int 0]) :: (bX5 X.1 (n + 1) ++ [.inl (xcy X.1 14, 280, .inr (.inl (fun _ => 0)))])) C R0 h0 kX9_18 (fun _ _ h => by cases h; rfl) (by simp [xNF]; try decide) rfl rfl rfl rfl dX9_init_21 rfl ?_
  refine g_aload (pc := 24) (a := n + 0) C dX9_init_24 rfl rfl ?_
  refine g_iconst (pc := 25) (v := 0) C dX9_init_25 (by decide) ?_
  refine g_put (pc := 26) (i := 0) (L' := .inr (9, [vr X.1 (n + 1), vr X.1 (n + 5), .int 0]) :: (bX5 X.1 (n + 1) ++ [.inl (xcy X.1 14, 280, .inr (.inl (fun _ => 0)))])) C h0 kX9_22 rfl rfl rfl rfl dX9_init_26 rfl ?_
  exact g_ret (pc := 29) C R0 rfl rfl rfl dX9_init_29
def bX7 (G : xGX) (n : Nat) : List va_E := [.inr (7, [vr G (n + 1), vr G (n + 2), vr G (n + 3), vr G (n + 4), .int 0, .int 0, .int 0, .int 0, .int 0, .int 0]), .inl (xcy G 13, 10, .inl (fun _ => 0)), .inl (xcy G 13, 10, .inl (fun _ => 0)), .inl (xcy G 13, 10, .inl (fun _ => 0)), .inl (xcy G 13, 10, .inl (fun _ => 0))]
set_option maxRecDepth 100000 in
theorem cX7 (G : xGX) (E0 : List va_E) (n : Nat) (h0 : E0.length = n) : gCt G yX7_init cX7_init 1 1 4 40 [vr G n] (E0 ++ [.inr (7, [.null, .null, .null, .null, .int 0, .int 0, .int 0, .int 0, .int 0, .int 0])]) (E0 ++ bX7 G n) := by
  refine gMet (lv := [some (vr G (n + 0))]) (by decide +kernel) rfl (Nat.le_of_ble_eq_true rfl) rfl ?_
  intro X hG hnL C R0
  subst hG
  refine g_aload (pc := 0) (a := n + 0) C dX7_init_0 rfl rfl ?_
  refine g_obj (pc := 1) (a := n + 0) C wo_X7 wo_i wo_c (by decide) dX7_init_1 ?_
  refine g_aload (pc := 4) (a := n + 0) C dX7_init_4 rfl rfl ?_
  refine g_bipush (pc := 5) (v := 10) C dX7_init_5 (by decide) ?_
  refine g_newa (pc := 7) (atype := .int) (ty := .int) (K := 13) (t0 := 1) (j := 1) (N := 10) (x := 10) (a0 := (10, .inl (fun _ => 0))) (L' := [.inr (7, [.null, .null, .null, .null, .int 0, .int 0, .int 0, .int 0, .int 0, .int 0]), .inl (xcy X.1 13, 10, .inl (fun _ => 0))]) C h0 wa_int rfl rfl (fun _ _ h => h) (fun _ => rfl) (by decide) (by decide +kernel) rfl rfl rfl rfl dX7_init_7 rfl ?_
  refine g_putF (pc := 9) (i := 0) (L' := [.inr (7, [vr X.1 (n + 1), .null, .null, .null, .int 0, .int 0, .int 0, .int 0, .int 0, .int 0]), .inl (xcy X.1 13, 10, .inl (fun _ => 0))]) C R0 h0 kX7_9 (fun _ _ h => by cases h; rfl) (by simp [xNF]; try decide) rfl rfl rfl rfl dX7_init_9 rfl ?_
  refine g_aload (pc := 12) (a := n + 0) C dX7_init_12 rfl rfl ?_
  refine g_bipush (pc := 13) (v := 10) C dX7_init_13 (by decide) ?_
  refine g_newa (pc := 15) (atype := .int) (ty := .int) (K := 13) (t0 := 1) (j := 2) (N := 10) (x := 10) (a0 := (10, .inl (fun _ => 0))) (L' := [.inr (7, [vr X.1 (n + 1), .null, .null, .null, .int 0, .int 0, .int 0, .int 0, .int 0, .int 0]), .inl (xcy X.1 13, 10, .inl (fun _ => 0)), .inl (xcy X.1 13, 10, .inl (fun _ => 0))]) C h0 wa_int rfl rfl (fun _ _ h => h) (fun _ => rfl) (by decide) (by decide +kernel) rfl rfl rfl rfl dX7_init_15 rfl ?_
  refine g_putF (pc := 17) (i := 0) (L' := [.inr (7, [vr X.1 (n + 1), vr X.1 (n + 2), .null, .null, .int 0, .int 0, .int 0, .int 0, .int 0, .int 0]), .inl (xcy X.1 13, 10, .inl (fun _ => 0)), .inl (xcy X.1 13, 10, .inl (fun _ => 0))]) C R0 h0 kX7_15 (fun _ _ h => by cases h; rfl) (by simp [xNF]; try decide) rfl rfl rfl rfl dX7_init_17 rfl ?_
  refine g_aload (pc := 20) (a := n + 0) C dX7_init_20 rfl rfl ?_
  refine g_bipush (pc := 21) (v := 10) C dX7_init_21 (by decide) ?_
  refine g_newa (pc := 23) (atype := .int) (ty := .int) (K := 13) (t0 := 1) (j := 3) (N := 10) (x := 10) (a0 := (10, .inl (fun _ => 0))) (L' := [.inr (7, [vr X.1 (n + 1), vr X.1 (n + 2), .null, .null, .int 0, .int 0, .int 0, .int 0, .int 0, .int 0]), .inl (xcy X.1 13, 10, .inl (fun _ => 0)), .inl (xcy X.1 13, 10, .inl (fun _ => 0)), .inl (xcy X.1 13, 10, .inl (fun _ => 0))]) C h0 wa_int rfl rfl (fun _ _ h => h) (fun _ => rfl) (by decide) (by decide +kernel) rfl rfl rfl rfl dX7_init_23 rfl ?_
  refine g_putF (pc := 25) (i := 0) (L' := [.inr (7, [vr X.1 (n + 1), vr X.1 (n + 2), vr X.1 (n + 3), .null, .int 0, .int 0, .int 0, .int 0, .int 0, .int 0]), .inl (xcy X.1 13, 10, .inl (fun _ => 0)), .inl (xcy X.1 13, 10, .inl (fun _ => 0)), .inl (xcy X.1 13, 10, .inl (fun _ => 0))]) C R0 h0 kX7_18 (fun _ _ h => by cases h; rfl) (by simp [xNF]; try decide) rfl rfl rfl rfl dX7_init_25 rfl ?_
  refine g_aload (pc := 28) (a := n + 0) C dX7_init_28 rfl rfl ?_
  refine g_bipush (pc := 29) (v := 10) C dX7_init_29 (by decide) ?_
  refine g_newa (pc := 31) (atype := .int) (ty := .int) (K := 13) (t0 := 1) (j := 4) (N := 10) (x := 10) (a0 := (10, .inl (fun _ => 0))) (L' := [.inr (7, [vr X.1 (n + 1), vr X.1 (n + 2), vr X.1 (n + 3), .null, .int 0, .int 0, .int 0, .int 0, .int 0, .int 0]), .inl (xcy X.1 13, 10, .inl (fun _ => 0)), .inl (xcy X.1 13, 10, .inl (fun _ => 0)), .inl (xcy X.1 13, 10, .inl (fun _ => 0)), .inl (xcy X.1 13, 10, .inl (fun _ => 0))]) C h0 wa_int rfl rfl (fun _ _ h => h) (fun _ => rfl) (by decide) (by decide +kernel) rfl rfl rfl rfl dX7_init_31 rfl ?_
  refine g_putF (pc := 33) (i := 0) (L' := [.inr (7, [vr X.1 (n + 1), vr X.1 (n + 2), vr X.1 (n + 3), vr X.1 (n + 4), .int 0, .int 0, .int 0, .int 0, .int 0, .int 0]), .inl (xcy X.1 13, 10, .inl (fun _ => 0)), .inl (xcy X.1 13, 10, .inl (fun _ => 0)), .inl (xcy X.1 13, 10, .inl (fun _ => 0)), .inl (xcy X.1 13, 10, .inl (fun _ => 0))]) C R0 h0 kX7_21 (fun _ _ h => by cases h; rfl) (by simp [xNF]; try decide) rfl rfl rfl rfl dX7_init_33 rfl ?_
  refine g_aload (pc := 36) (a := n + 0) C dX7_init_36 rfl rfl ?_
  refine g_iconst (pc := 37) (v := 0) C dX7_init_37 (by decide) ?_
  refine g_put (pc := 38) (i := 0) (L' := [.inr (7, [vr X.1 (n + 1), vr X.1 (n + 2), vr X.1 (n + 3), vr X.1 (n + 4), .int 0, .int 0, .int 0, .int 0, .int 0, .int 0]), .inl (xcy X.1 13, 10, .inl (fun _ => 0)), .inl (xcy X.1 13, 10, .inl (fun _ => 0)), .inl (xcy X.1 13, 10, .inl (fun _ => 0)), .inl (xcy X.1 13, 10, .inl (fun _ => 0))]) C h0 kX7_24 rfl rfl rfl rfl dX7_init_38 rfl ?_
  refine g_aload (pc := 41) (a := n + 0) C dX7_init_41 rfl rfl ?_
  refine g_iconst (pc := 42) (v := 0) C dX7_init_42 (by decide) ?_
  refine g_put (pc := 43) (i := 0) (L' := [.inr (7, [vr X.1 (n + 1), vr X.1 (n + 2), vr X.1 (n + 3), vr X.1 (n + 4), .int 0, .int 0, .int 0, .int 0, .int 0, .int 0]), .inl (xcy X.1 13, 10, .inl (fun _ => 0)), .inl (xcy X.1 13, 10, .inl (fun _ => 0)), .inl (xcy X.1 13, 10, .inl (fun _ => 0)), .inl (xcy X.1 13, 10, .inl (fun _ => 0))]) C h0 kX7_28 rfl rfl rfl rfl dX7_init_43 rfl ?_
  refine g_aload (pc := 46) (a := n + 0) C dX7_init_46 rfl rfl ?_
  refine g_iconst (pc := 47) (v := 0) C dX7_init_47 (by decide) ?_
  refine g_put (pc := 48) (i := 0) (L' := [.inr (7, [vr X.1 (n + 1), vr X.1 (n + 2), vr X.1 (n + 3), vr X.1 (n + 4), .int 0, .int 0, .int 0, .int 0, .int 0, .int 0]), .inl (xcy X.1 13, 10, .inl (fun _ => 0)), .inl (xcy X.1 13, 10, .inl (fun _ => 0)), .inl (xcy X.1 13, 10, .inl (fun _ => 0)), .inl (xcy X.1 13, 10, .inl (fun _ => 0))]) C h0 kX7_31 rfl rfl rfl rfl dX7_init_48 rfl ?_
  refine g_aload (pc := 51) (a := n + 0) C dX7_init_51 rfl rfl ?_
  refine g_iconst (pc := 52) (v := 0) C dX7_init_52 (by decide) ?_
  refine g_put (pc := 53) (i := 0) (L' := [.inr (7, [vr X.1 (n + 1), vr X.1 (n + 2), vr X.1 (n + 3), vr X.1 (n + 4), .int 0, .int 0, .int 0, .int 0, .int 0, .int 0]), .inl (xcy X.1 13, 10, .inl (fun _ => 0)), .inl (xcy X.1 13, 10, .inl (fun _ => 0)), .inl (xcy X.1 13, 10, .inl (fun _ => 0)), .inl (xcy X.1 13, 10, .inl (fun _ => 0))]) C h0 kX7_34 rfl rfl rfl rfl dX7_init_53 rfl ?_
  refine g_aload (pc := 56) (a := n + 0) C dX7_init_56 rfl rfl ?_
  refine g_iconst (pc := 57) (v := 0) C dX7_init_57 (by decide) ?_
  refine g_put (pc := 58) (i := 0) (L' := [.inr (7, [vr X.1 (n + 1), vr X.1 (n + 2), vr X.1 (n + 3), vr X.1 (n + 4), .int 0, .int 0, .int 0, .int 0, .int 0, .int 0]), .inl (xcy X.1 13, 10, .inl (fun _ => 0)), .inl (xcy X.1 13, 10, .inl (fun _ => 0)), .inl (xcy X.1 13, 10, .inl (fun _ => 0)), .inl (xcy X.1 13, 10, .inl (fun _ => 0))]) C h0 kX7_37 rfl rfl rfl rfl dX7_init_58 rfl ?_
  refine g_aload (pc := 61) (a := n + 0) C dX7_init_61 rfl rfl ?_
  refine g_iconst (pc := 62) (v := 0) C dX7_init_62 (by decide) ?_
  refine g_put (pc := 63) (i := 0) (L' := [.inr (7, [vr X.1 (n + 1), vr X.1 (n + 2), vr X.1 (n + 3), vr X.1 (n + 4), .int 0, .int 0, .int 0, .int 0, .int 0, .int 0]), .inl (xcy X.1 13, 10, .inl (fun _ => 0)), .inl (xcy X.1 13, 10, .inl (fun _ => 0)), .inl (xcy X.1 13, 10, .inl (fun _ => 0)), .inl (xcy X.1 13, 10, .inl (fun _ => 0))]) C h0 kX7_40 rfl rfl rfl rfl dX7_init_63 rfl ?_
  exact g_ret (pc := 66) C R0 rfl rfl rfl dX7_init_66
def bX8 (G : xGX) (n : Nat) : List va_E := .inr (8, [vr G (n + 1), .int 0, .int 0, .int 0, .int 0, .int 0, .int 0, .int 0, .int 0]) :: .inl (xcy G 16, 2, .inr (.inr (.inr (.inr (fun j => some (xbs G + [n + 2, n + 7].getD j 0)))))) :: (bX7 G (n + 2) ++ bX7 G (n + 7))
set_option maxRecDepth 100000 in
theorem cX8 (G : xGX) (E0 : List va_E) (n : Nat) (h0 : E0.length = n) : gCt G yX8_init cX8_init 1 2 11 102 [vr G n] (E0 ++ [.inr (8, [.null, .int 0, .int 0, .int 0, .int 0, .int 0, .int 0, .int 0, .int 0])]) (E0 ++ bX8 G n) := by
  refine gMet (lv := [some (vr G (n + 0))]) (by decide +kernel) rfl (Nat.le_of_ble_eq_true rfl) rfl ?_
  intro X hG hnL C R0
  subst hG
  refine g_aload (pc := 0) (a := n + 0) C dX8_init_0 rfl rfl ?_
  refine g_obj (pc := 1) (a := n + 0) C wo_X8 wo_i wo_c (by decide) dX8_init_1 ?_
  refine g_aload (pc := 4) (a := n + 0) C dX8_init_4 rfl rfl ?_
  refine g_iconst (pc := 5) (v := 2) C dX8_init_5 (by decide) ?_
  refine g_newq (pc := 6) (Cs := RX7) (K := 16) (t0 := 4) (j := 1) (N := 2) (x := 2) (L' := [.inr (8, [.null, .int 0, .int 0, .int 0, .int 0, .int 0, .int 0, .int 0, .int 0]), .inl (xcy X.1 16, 2, .inr (.inr (.inr (.inr (fun _ => none)))))]) C h0 wq_X8 (fun _ h => h.1) rfl (by decide) (by decide) rfl rfl rfl rfl dX8_init_6 rfl ?_
  refine g_dup (pc := 9) (a := n + 1) C dX8_init_9 ?_
  refine g_iconst (pc := 10) (v := 0) C dX8_init_10 (by decide) ?_
  refine g_new (pc := 11) (j := 2) (L' := .inr (8, [.null, .int 0, .int 0, .int 0, .int 0, .int 0, .int 0, .int 0, .int 0]) :: .inl (xcy X.1 16, 2, .inr (.inr (.inr (.inr (fun _ => none))))) :: ([.inr (7, [.null, .null, .null, .null, .int 0, .int 0, .int 0, .int 0, .int 0, .int 0])])) C h0 nk_X8_9 rfl rfl rfl dX8_init_11 rfl ?_
  refine g_dup (pc := 14) (a := n + 2) C dX8_init_14 ?_
  refine g_call (pc := 15) (st := [vr X.1 (n + 2), .int 0, vr X.1 (n + 1), vr X.1 (n + 1), vr X.1 (n + 0)]) (b := n + 2) (As := []) (L1 := [.inr (8, [.null, .int 0, .int 0, .int 0, .int 0, .int 0, .int 0, .int 0, .int 0]), .inl (xcy X.1 16, 2, .inr (.inr (.inr (.inr (fun _ => none)))))]) (B := bX7 X.1 (n + 2)) (en := .inr (7, [.null, .null, .null, .null, .int 0, .int 0, .int 0, .int 0, .int 0, .int 0])) (L' := .inr (8, [.null, .int 0, .int 0, .int 0, .int 0, .int 0, .int 0, .int 0, .int 0]) :: .inl (xcy X.1 16, 2, .inr (.inr (.inr (.inr (fun _ => none))))) :: (bX7 X.1 (n + 2))) C (cX7 X.1 (E0 ++ ([.inr (8, [.null, .int 0, .int 0, .int 0, .int 0, .int 0, .int 0, .int 0, .int 0]), .inl (xcy X.1 16, 2, .inr (.inr (.inr (.inr (fun _ => none)))))])) (n + 2) (gl h0 rfl)) mi_X7 lX8_11 rfl (by decide) rfl (Nat.le_of_ble_eq_true rfl) rfl rfl rfl rfl dX8_init_15 rfl ?_
  refine g_astq (pc := 18) (K := 16) (t0 := 4) (i := 1) (b := 2) (N := 2) (ci := 7) (r := (RX7, TX7, 10)) (x := 0) (L' := .inr (8, [.null, .int 0, .int 0, .int 0, .int 0, .int 0, .int 0, .int 0, .int 0]) :: .inl (xcy X.1 16, 2, .inr (.inr (.inr (.inr (va_up (fun _ => none) (0 : Int32).toNatClampNeg (some (xbs X.1 + (n + 2)))))))) :: (bX7 X.1 (n + 2))) C h0 rfl rfl rfl rfl (by unfold vp_in; decide) dX8_init_18 rfl ?_
  refine g_dup (pc := 19) (a := n + 1) C dX8_init_19 ?_
  refine g_iconst (pc := 20) (v := 1) C dX8_init_20 (by decide) ?_
  refine g_new (pc := 21) (j := 7) (L' := .inr (8, [.null, .int 0, .int 0, .int 0, .int 0, .int 0, .int 0, .int 0, .int 0]) :: .inl (xcy X.1 16, 2, .inr (.inr (.inr (.inr (va_up (fun _ => none) (0 : Int32).toNatClampNeg (some (xbs X.1 + (n + 2)))))))) :: (bX7 X.1 (n + 2) ++ [.inr (7, [.null, .null, .null, .null, .int 0, .int 0, .int 0, .int 0, .int 0, .int 0])])) C h0 nk_X8_9 rfl rfl rfl dX8_init_21 rfl ?_
  refine g_dup (pc := 24) (a := n + 7) C dX8_init_24 ?_
  refine g_call (pc := 25) (st := [vr X.1 (n + 7), .int 1, vr X.1 (n + 1), vr X.1 (n + 1), vr X.1 (n + 0)]) (b := n + 7) (As := []) (L1 := .inr (8, [.null, .int 0, .int 0, .int 0, .int 0, .int 0, .int 0, .int 0, .int 0]) :: .inl (xcy X.1 16, 2, .inr (.inr (.inr (.inr (va_up (fun _ => none) (0 : Int32).toNatClampNeg (some (xbs X.1 + (n + 2)))))))) :: (bX7 X.1 (n + 2))) (B := bX7 X.1 (n + 7)) (en := .inr (7, [.null, .null, .null, .null, .int 0, .int 0, .int 0, .int 0, .int 0, .int 0])) (L' := .inr (8, [.null, .int 0, .int 0, .int 0, .int 0, .int 0, .int 0, .int 0, .int 0]) :: .inl (xcy X.1 16, 2, .inr (.inr (.inr (.inr (va_up (fun _ => none) (0 : Int32).toNatClampNeg (some (xbs X.1 + (n + 2)))))))) :: (bX7 X.1 (n + 2) ++ bX7 X.1 (n + 7))) C (cX7 X.1 (E0 ++ (.inr (8, [.null, .int 0, .int 0, .int 0, .int 0, .int 0, .int 0, .int 0, .int 0]) :: .inl (xcy X.1 16, 2, .inr (.inr (.inr (.inr (va_up (fun _ => none) (0 : Int32).toNatClampNeg (some (xbs X.1 + (n + 2)))))))) :: (bX7 X.1 (n + 2)))) (n + 7) (gl h0 rfl)) mi_X7 lX8_11 rfl (by decide) rfl (Nat.le_of_ble_eq_true rfl) rfl rfl rfl rfl dX8_init_25 rfl ?_
  refine g_astq (pc := 28) (K := 16) (t0 := 4) (i := 1) (b := 7) (N := 2) (ci := 7) (r := (RX7, TX7, 10)) (x := 1) (L' := .inr (8, [.null, .int 0, .int 0, .int 0, .int 0, .int 0, .int 0, .int 0, .int 0]) :: .inl (xcy X.1 16, 2, .inr (.inr (.inr (.inr (va_up (va_up (fun _ => none) (0 : Int32).toNatClampNeg (some (xbs X.1 + (n + 2)))) (1 : Int32).toNatClampNeg (some (xbs X.1 + (n + 7)))))))) :: (bX7 X.1 (n + 2) ++ bX7 X.1 (n + 7))) C h0 rfl rfl rfl rfl (by unfold vp_in; decide) dX8_init_28 rfl ?_
  refine g_arr (i := 1) (N := 2) (cA := xcy X.1 16) (L' := .inr (8, [.null, .int 0, .int 0, .int 0, .int 0, .int 0, .int 0, .int 0, .int 0]) :: .inl (xcy X.1 16, 2, .inr (.inr (.inr (.inr (fun j => some (xbs X.1 + [n + 2, n + 7].getD j 0)))))) :: (bX7 X.1 (n + 2) ++ bX7 X.1 (n + 7))) h0 rfl (by intro j hj; rcases (show j = 0 ∨ j = 1 by omega) with rfl | rfl <;> rfl) rfl ?_
  refine g_putF (pc := 29) (i := 0) (L' := .inr (8, [vr X.1 (n + 1), .int 0, .int 0, .int 0, .int 0, .int 0, .int 0, .int 0, .int 0]) :: .inl (xcy X.1 16, 2, .inr (.inr (.inr (.inr (fun j => some (xbs X.1 + [n + 2, n + 7].getD j 0)))))) :: (bX7 X.1 (n + 2) ++ bX7 X.1 (n + 7))) C R0 h0 kX8_12 (fun _ _ h => by cases h; rfl) (by simp [xNF]; try decide) rfl rfl rfl rfl dX8_init_29 rfl ?_
  refine g_aload (pc := 32) (a := n + 0) C dX8_init_32 rfl rfl ?_
  refine g_iconst (pc := 33) (v := 0) C dX8_init_33 (by decide) ?_
  refine g_put (pc := 34) (i := 0) (L' := .inr (8, [vr X.1 (n + 1), .int 0, .int 0, .int 0, .int 0, .int 0, .int 0, .int 0, .int 0]) :: .inl (xcy X.1 16, 2, .inr (.inr (.inr (.inr (fun j => some (xbs X.1 + [n + 2, n + 7].getD j 0)))))) :: (bX7 X.1 (n + 2) ++ bX7 X.1 (n + 7))) C h0 kX8_18 rfl rfl rfl rfl dX8_init_34 rfl ?_
  refine g_aload (pc := 37) (a := n + 0) C dX8_init_37 rfl rfl ?_
  refine g_iconst (pc := 38) (v := 0) C dX8_init_38 (by decide) ?_
  refine g_put (pc := 39) (i := 0) (L' := .inr (8, [vr X.1 (n + 1), .int 0, .int 0, .int 0, .int 0, .int 0, .int 0, .int 0, .int 0]) :: .inl (xcy X.1 16, 2, .inr (.inr (.inr (.inr (fun j => some (xbs X.1 + [n + 2, n + 7].getD j 0)))))) :: (bX7 X.1 (n + 2) ++ bX7 X.1 (n + 7))) C h0 kX8_22 rfl rfl rfl rfl dX8_init_39 rfl ?_
  refine g_aload (pc := 42) (a := n + 0) C dX8_init_42 rfl rfl ?_
  refine g_iconst (pc := 43) (v := 0) C dX8_init_43 (by decide) ?_
  refine g_put (pc := 44) (i := 0) (L' := .inr (8, [vr X.1 (n + 1), .int 0, .int 0, .int 0, .int 0, .int 0, .int 0, .int 0, .int 0]) :: .inl (xcy X.1 16, 2, .inr (.inr (.inr (.inr (fun j => some (xbs X.1 + [n + 2, n + 7].getD j 0)))))) :: (bX7 X.1 (n + 2) ++ bX7 X.1 (n + 7))) C h0 kX8_25 rfl rfl rfl rfl dX8_init_44 rfl ?_
  refine g_aload (pc := 47) (a := n + 0) C dX8_init_47 rfl rfl ?_
  refine g_iconst (pc := 48) (v := 0) C dX8_init_48 (by decide) ?_
  refine g_put (pc := 49) (i := 0) (L' := .inr (8, [vr X.1 (n + 1), .int 0, .int 0, .int 0, .int 0, .int 0, .int 0, .int 0, .int 0]) :: .inl (xcy X.1 16, 2, .inr (.inr (.inr (.inr (fun j => some (xbs X.1 + [n + 2, n + 7].getD j 0)))))) :: (bX7 X.1 (n + 2) ++ bX7 X.1 (n + 7))) C h0 kX8_28 rfl rfl rfl rfl dX8_init_49 rfl ?_
  refine g_aload (pc := 52) (a := n + 0) C dX8_init_52 rfl rfl ?_
  refine g_iconst (pc := 53) (v := 0) C dX8_init_53 (by decide) ?_
  refine g_put (pc := 54) (i := 0) (L' := .inr (8, [vr X.1 (n + 1), .int 0, .int 0, .int 0, .int 0, .int 0, .int 0, .int 0, .int 0]) :: .inl (xcy X.1 16, 2, .inr (.inr (.inr (.inr (fun j => some (xbs X.1 + [n + 2, n + 7].getD j 0)))))) :: (bX7 X.1 (n + 2) ++ bX7 X.1 (n + 7))) C h0 kX8_32 rfl rfl rfl rfl dX8_init_54 rfl ?_
  refine g_aload (pc := 57) (a := n + 0) C dX8_init_57 rfl rfl ?_
  refine g_iconst (pc := 58) (v := 0) C dX8_init_58 (by decide) ?_
  refine g_put (pc := 59) (i := 0) (L' := .inr (8, [vr X.1 (n + 1), .int 0, .int 0, .int 0, .int 0, .int 0, .int 0, .int 0, .int 0]) :: .inl (xcy X.1 16, 2, .inr (.inr (.inr (.inr (fun j => some (xbs X.1 + [n + 2, n + 7].getD j 0)))))) :: (bX7 X.1 (n + 2) ++ bX7 X.1 (n + 7))) C h0 kX8_35 rfl rfl rfl rfl dX8_init_59 rfl ?_
  refine g_aload (pc := 62) (a := n + 0) C dX8_init_62 rfl rfl ?_
  refine g_iconst (pc := 63) (v := 0) C dX8_init_63 (by decide) ?_
  refine g_put (pc := 64) (i := 0) (L' := .inr (8, [vr X.1 (n + 1), .int 0, .int 0, .int 0, .int 0, .int 0, .int 0, .int 0, .int 0]) :: .inl (xcy X.1 16, 2, .inr (.inr (.inr (.inr (fun j => some (xbs X.1 + [n + 2, n + 7].getD j 0)))))) :: (bX7 X.1 (n + 2) ++ bX7 X.1 (n + 7))) C h0 kX8_38 rfl rfl rfl rfl dX8_init_64 rfl ?_
  refine g_aload (pc := 67) (a := n + 0) C dX8_init_67 rfl rfl ?_
  refine g_iconst (pc := 68) (v := 0) C dX8_init_68 (by decide) ?_
  refine g_put (pc := 69) (i := 0) (L' := .inr (8, [vr X.1 (n + 1), .int 0, .int 0, .int 0, .int 0, .int 0, .int 0, .int 0, .int 0]) :: .inl (xcy X.1 16, 2, .inr (.inr (.inr (.inr (fun j => some (xbs X.1 + [n + 2, n + 7].getD j 0)))))) :: (bX7 X.1 (n + 2) ++ bX7 X.1 (n + 7))) C h0 kX8_41 rfl rfl rfl rfl dX8_init_69 rfl ?_
  exact g_ret (pc := 72) C R0 rfl rfl rfl dX8_init_72
def bX1 (G : xGX) (n : Nat) : List va_E := .inr (1, [vr G (n + 1), vr G (n + 18), vr G (n + 19), vr G (n + 20), vr G (n + 21), .int 0]) :: (gTbF G (n + 1) ++ [.inl (xcy G 14, 200, .inr (.inl (fun _ => 0)))] ++ [.inl (xcy G 13, 201, .inl (fun _ => 0))] ++ [.inl (xcy G 13, 160, .inl (fun _ => 0))] ++ [.inl (xcy G 13, 12, .inl (fun _ => 0))])
set_option maxRecDepth 100000 in
theorem cX1 (G : xGX) (E0 : List va_E) (n : Nat) (h0 : E0.length = n) : gCt G yX1_init cX1_init 1 1 21 3789 [vr G n] (E0 ++ [.inr (1, [.null, .null, .null, .null, .null, .int 0])]) (E0 ++ bX1 G n) := by
  refine gMet (lv := [some (vr G (n + 0))]) (by decide +kernel) rfl (Nat.le_of_ble_eq_true rfl) rfl ?_
  intro X hG hnL C R0
  subst hG
  refine g_aload (pc := 0) (a := n + 0) C dX1_init_0 rfl rfl ?_
  refine g_obj (pc := 1) (a := n + 0) C wo_X1 wo_i wo_c (by decide) dX1_init_1 ?_
  refine g_aload (pc := 4) (a := n + 0) C dX1_init_4 rfl rfl ?_
  refine g_bipush (pc := 5) (v := 16) C dX1_init_5 (by decide) ?_
  refine g_sipush (pc := 7) (v := 200) C dX1_init_7 (by decide) ?_
  refine g_multi (pc := 10) (j := 1) (x := 16) (y := 200) (L' := .inr (1, [.null, .null, .null, .null, .null, .int 0]) :: (gTab X.1 (n + 1))) C h0 wq_X1 (by decide) (by decide) (by decide) (by decide) rfl rfl rfl dX1_init_10 rfl ?_
  refine g_arr (i := 1) (N := 16) (cA := xcy X.1 18) (L' := .inr (1, [.null, .null, .null, .null, .null, .int 0]) :: (gTbF X.1 (n + 1))) h0 rfl (gTb_eq X.1 n) rfl ?_
  refine g_putF (pc := 14) (i := 0) (L' := .inr (1, [vr X.1 (n + 1), .null, .null, .null, .null, .int 0]) :: (gTbF X.1 (n + 1))) C R0 h0 kX1_13 (fun _ _ h => by cases h; rfl) (by simp [xNF]; try decide) rfl rfl rfl rfl dX1_init_14 rfl ?_
  refine g_aload (pc := 17) (a := n + 0) C dX1_init_17 rfl rfl ?_
  refine g_sipush (pc := 18) (v := 200) C dX1_init_18 (by decide) ?_
  refine g_newa (pc := 21) (atype := .long) (ty := .long) (K := 14) (t0 := 2) (j := 18) (N := 200) (x := 200) (a0 := (200, .inr (.inl (fun _ => 0)))) (L' := .inr (1, [vr X.1 (n + 1), .null, .null, .null, .null, .int 0]) :: (gTbF X.1 (n + 1) ++ [.inl (xcy X.1 14, 200, .inr (.inl (fun _ => 0)))])) C h0 wa_long rfl rfl (fun _ _ h => h) (fun _ => rfl) (by decide) (by decide +kernel) rfl rfl rfl rfl dX1_init_21 rfl ?_
  refine g_putF (pc := 23) (i := 0) (L' := .inr (1, [vr X.1 (n + 1), vr X.1 (n + 18), .null, .null, .null, .int 0]) :: (gTbF X.1 (n + 1) ++ [.inl (xcy X.1 14, 200, .inr (.inl (fun _ => 0)))])) C R0 h0 kX1_16 (fun _ _ h => by cases h; rfl) (by simp [xNF]; try decide) rfl rfl rfl rfl dX1_init_23 rfl ?_
  refine g_aload (pc := 26) (a := n + 0) C dX1_init_26 rfl rfl ?_
  refine g_sipush (pc := 27) (v := 201) C dX1_init_27 (by decide) ?_
  refine g_newa (pc := 30) (atype := .int) (ty := .int) (K := 13) (t0 := 1) (j := 19) (N := 201) (x := 201) (a0 := (201, .inl (fun _ => 0))) (L' := .inr (1, [vr X.1 (n + 1), vr X.1 (n + 18), .null, .null, .null, .int 0]) :: (gTbF X.1 (n + 1) ++ [.inl (xcy X.1 14, 200, .inr (.inl (fun _ => 0)))] ++ [.inl (xcy X.1 13, 201, .inl (fun _ => 0))])) C h0 wa_int rfl rfl (fun _ _ h => h) (fun _ => rfl) (by decide) (by decide +kernel) rfl rfl rfl rfl dX1_init_30 rfl ?_
  refine g_putF (pc := 32) (i := 0) (L' := .inr (1, [vr X.1 (n + 1), vr X.1 (n + 18), vr X.1 (n + 19), .null, .null, .int 0]) :: (gTbF X.1 (n + 1) ++ [.inl (xcy X.1 14, 200, .inr (.inl (fun _ => 0)))] ++ [.inl (xcy X.1 13, 201, .inl (fun _ => 0))])) C R0 h0 kX1_20 (fun _ _ h => by cases h; rfl) (by simp [xNF]; try decide) rfl rfl rfl rfl dX1_init_32 rfl ?_
  refine g_aload (pc := 35) (a := n + 0) C dX1_init_35 rfl rfl ?_
  refine g_sipush (pc := 36) (v := 160) C dX1_init_36 (by decide) ?_
  refine g_newa (pc := 39) (atype := .int) (ty := .int) (K := 13) (t0 := 1) (j := 20) (N := 160) (x := 160) (a0 := (160, .inl (fun _ => 0))) (L' := .inr (1, [vr X.1 (n + 1), vr X.1 (n + 18), vr X.1 (n + 19), .null, .null, .int 0]) :: (gTbF X.1 (n + 1) ++ [.inl (xcy X.1 14, 200, .inr (.inl (fun _ => 0)))] ++ [.inl (xcy X.1 13, 201, .inl (fun _ => 0))] ++ [.inl (xcy X.1 13, 160, .inl (fun _ => 0))])) C h0 wa_int rfl rfl (fun _ _ h => h) (fun _ => rfl) (by decide) (by decide +kernel) rfl rfl rfl rfl dX1_init_39 rfl ?_
  refine g_putF (pc := 41) (i := 0) (L' := .inr (1, [vr X.1 (n + 1), vr X.1 (n + 18), vr X.1 (n + 19), vr X.1 (n + 20), .null, .int 0]) :: (gTbF X.1 (n + 1) ++ [.inl (xcy X.1 14, 200, .inr (.inl (fun _ => 0)))] ++ [.inl (xcy X.1 13, 201, .inl (fun _ => 0))] ++ [.inl (xcy X.1 13, 160, .inl (fun _ => 0))])) C R0 h0 kX1_24 (fun _ _ h => by cases h; rfl) (by simp [xNF]; try decide) rfl rfl rfl rfl dX1_init_41 rfl ?_
  refine g_aload (pc := 44) (a := n + 0) C dX1_init_44 rfl rfl ?_
  refine g_bipush (pc := 45) (v := 12) C dX1_init_45 (by decide) ?_
  refine g_newa (pc := 47) (atype := .int) (ty := .int) (K := 13) (t0 := 1) (j := 21) (N := 12) (x := 12) (a0 := (12, .inl (fun _ => 0))) (L' := .inr (1, [vr X.1 (n + 1), vr X.1 (n + 18), vr X.1 (n + 19), vr X.1 (n + 20), .null, .int 0]) :: (gTbF X.1 (n + 1) ++ [.inl (xcy X.1 14, 200, .inr (.inl (fun _ => 0)))] ++ [.inl (xcy X.1 13, 201, .inl (fun _ => 0))] ++ [.inl (xcy X.1 13, 160, .inl (fun _ => 0))] ++ [.inl (xcy X.1 13, 12, .inl (fun _ => 0))])) C h0 wa_int rfl rfl (fun _ _ h => h) (fun _ => rfl) (by decide) (by decide +kernel) rfl rfl rfl rfl dX1_init_47 rfl ?_
  refine g_putF (pc := 49) (i := 0) (L' := .inr (1, [vr X.1 (n + 1), vr X.1 (n + 18), vr X.1 (n + 19), vr X.1 (n + 20), vr X.1 (n + 21), .int 0]) :: (gTbF X.1 (n + 1) ++ [.inl (xcy X.1 14, 200, .inr (.inl (fun _ => 0)))] ++ [.inl (xcy X.1 13, 201, .inl (fun _ => 0))] ++ [.inl (xcy X.1 13, 160, .inl (fun _ => 0))] ++ [.inl (xcy X.1 13, 12, .inl (fun _ => 0))])) C R0 h0 kX1_27 (fun _ _ h => by cases h; rfl) (by simp [xNF]; try decide) rfl rfl rfl rfl dX1_init_49 rfl ?_
  refine g_aload (pc := 52) (a := n + 0) C dX1_init_52 rfl rfl ?_
  refine g_iconst (pc := 53) (v := 0) C dX1_init_53 (by decide) ?_
  refine g_put (pc := 54) (i := 0) (L' := .inr (1, [vr X.1 (n + 1), vr X.1 (n + 18), vr X.1 (n + 19), vr X.1 (n + 20), vr X.1 (n + 21), .int 0]) :: (gTbF X.1 (n + 1) ++ [.inl (xcy X.1 14, 200, .inr (.inl (fun _ => 0)))] ++ [.inl (xcy X.1 13, 201, .inl (fun _ => 0))] ++ [.inl (xcy X.1 13, 160, .inl (fun _ => 0))] ++ [.inl (xcy X.1 13, 12, .inl (fun _ => 0))])) C h0 kX1_30 rfl rfl rfl rfl dX1_init_54 rfl ?_
  exact g_ret (pc := 57) C R0 rfl rfl rfl dX1_init_57
def bX4 (G : xGX) (n : Nat) : List va_E := [.inr (4, [.int 0, .int 0, .int 0, .int 0, .int 0, vr G (n + 1)]), .inl (xcy G 13, 7, .inl (fun _ => 0))]
set_option maxRecDepth 100000 in
theorem cX4 (G : xGX) (E0 : List va_E) (n : Nat) (h0 : E0.length = n) : gCt G yX4_init cX4_init 1 1 1 7 [vr G n] (E0 ++ [.inr (4, [.int 0, .int 0, .int 0, .int 0, .int 0, .null])]) (E0 ++ bX4 G n) := by
  refine gMet (lv := [some (vr G (n + 0))]) (by decide +kernel) rfl (Nat.le_of_ble_eq_true rfl) rfl ?_
  intro X hG hnL C R0
  subst hG
  refine g_aload (pc := 0) (a := n + 0) C dX4_init_0 rfl rfl ?_
  refine g_obj (pc := 1) (a := n + 0) C wo_X4 wo_i wo_c (by decide) dX4_init_1 ?_
  refine g_aload (pc := 4) (a := n + 0) C dX4_init_4 rfl rfl ?_
  refine g_iconst (pc := 5) (v := 0) C dX4_init_5 (by decide) ?_
  refine g_put (pc := 6) (i := 0) (L' := [.inr (4, [.int 0, .int 0, .int 0, .int 0, .int 0, .null])]) C h0 kX4_9 rfl rfl rfl rfl dX4_init_6 rfl ?_
  refine g_aload (pc := 9) (a := n + 0) C dX4_init_9 rfl rfl ?_
  refine g_iconst (pc := 10) (v := 0) C dX4_init_10 (by decide) ?_
  refine g_put (pc := 11) (i := 0) (L' := [.inr (4, [.int 0, .int 0, .int 0, .int 0, .int 0, .null])]) C h0 kX4_15 rfl rfl rfl rfl dX4_init_11 rfl ?_
  refine g_aload (pc := 14) (a := n + 0) C dX4_init_14 rfl rfl ?_
  refine g_iconst (pc := 15) (v := 0) C dX4_init_15 (by decide) ?_
  refine g_put (pc := 16) (i := 0) (L' := [.inr (4, [.int 0, .int 0, .int 0, .int 0, .int 0, .null])]) C h0 kX4_18 rfl rfl rfl rfl dX4_init_16 rfl ?_
  refine g_aload (pc := 19) (a := n + 0) C dX4_init_19 rfl rfl ?_
  refine g_iconst (pc := 20) (v := 0) C dX4_init_20 (by decide) ?_
  refine g_put (pc := 21) (i := 0) (L' := [.inr (4, [.int 0, .int 0, .int 0, .int 0, .int 0, .null])]) C h0 kX4_21 rfl rfl rfl rfl dX4_init_21 rfl ?_
  refine g_aload (pc := 24) (a := n + 0) C dX4_init_24 rfl rfl ?_
  refine g_iconst (pc := 25) (v := 0) C dX4_init_25 (by decide) ?_
  refine g_put (pc := 26) (i := 0) (L' := [.inr (4, [.int 0, .int 0, .int 0, .int 0, .int 0, .null])]) C h0 kX4_24 rfl rfl rfl rfl dX4_init_26 rfl ?_
  refine g_aload (pc := 29) (a := n + 0) C dX4_init_29 rfl rfl ?_
  refine g_bipush (pc := 30) (v := 7) C dX4_init_30 (by decide) ?_
  refine g_newa (pc := 32) (atype := .int) (ty := .int) (K := 13) (t0 := 1) (j := 1) (N := 7) (x := 7) (a0 := (7, .inl (fun _ => 0))) (L' := [.inr (4, [.int 0, .int 0, .int 0, .int 0, .int 0, .null]), .inl (xcy X.1 13, 7, .inl (fun _ => 0))]) C h0 wa_int rfl rfl (fun _ _ h => h) (fun _ => rfl) (by decide) (by decide +kernel) rfl rfl rfl rfl dX4_init_32 rfl ?_
  refine g_putF (pc := 34) (i := 0) (L' := [.inr (4, [.int 0, .int 0, .int 0, .int 0, .int 0, vr X.1 (n + 1)]), .inl (xcy X.1 13, 7, .inl (fun _ => 0))]) C R0 h0 kX4_27 (fun _ _ h => by cases h; rfl) (by simp [xNF]; try decide) rfl rfl rfl rfl dX4_init_34 rfl ?_
  exact g_ret (pc := 37) C R0 rfl rfl rfl dX4_init_37
def bX2 (G : xGX) (n : Nat) : List va_E := .inr (2, [vr G (n + 1), vr G (n + 7), vr G (n + 19), vr G (n + 41), vr G (n + 53)]) :: (bX9 G (n + 1) ++ bX8 G (n + 7) ++ bX1 G (n + 19) ++ bX8 G (n + 41) ++ bX4 G (n + 53))
set_option maxRecDepth 100000 in
theorem cX2 (G : xGX) (E0 : List va_E) (n : Nat) (h0 : E0.length = n) : gCt G yX2_init cX2_init 1 3 54 4340 [vr G n] (E0 ++ [.inr (2, [.null, .null, .null, .null, .null])]) (E0 ++ bX2 G n) := by
  refine gMet (lv := [some (vr G (n + 0))]) (by decide +kernel) rfl (Nat.le_of_ble_eq_true rfl) rfl ?_
  intro X hG hnL C R0
  subst hG
  refine g_aload (pc := 0) (a := n + 0) C dX2_init_0 rfl rfl ?_
  refine g_obj (pc := 1) (a := n + 0) C wo_X2 wo_i wo_c (by decide) dX2_init_1 ?_
  refine g_aload (pc := 4) (a := n + 0) C dX2_init_4 rfl rfl ?_
  refine g_new (pc := 5) (j := 1) (L' := [.inr (2, [.null, .null, .null, .null, .null]), .inr (9, [.null, .null, .int 0])]) C h0 nk_X2_9 rfl rfl rfl dX2_init_5 rfl ?_
  refine g_dup (pc := 8) (a := n + 1) C dX2_init_8 ?_
  refine g_call (pc := 9) (st := [vr X.1 (n + 1), vr X.1 (n + 0)]) (b := n + 1) (As := []) (L1 := [.inr (2, [.null, .null, .null, .null, .null])]) (B := bX9 X.1 (n + 1)) (en := .inr (9, [.null, .null, .int 0])) (L' := .inr (2, [.null, .null, .null, .null, .null]) :: (bX9 X.1 (n + 1))) C (cX9 X.1 (E0 ++ ([.inr (2, [.null, .null, .null, .null, .null])])) (n + 1) (gl h0 rfl)) mi_X9 lX2_11 rfl (by decide) rfl (Nat.le_of_ble_eq_true rfl) rfl rfl rfl rfl dX2_init_9 rfl ?_
  refine g_putF (pc := 12) (i := 0) (L' := .inr (2, [vr X.1 (n + 1), .null, .null, .null, .null]) :: (bX9 X.1 (n + 1))) C R0 h0 kX2_12 (fun _ _ h => by cases h; rfl) (by simp [xNF]; try decide) rfl rfl rfl rfl dX2_init_12 rfl ?_
  refine g_aload (pc := 15) (a := n + 0) C dX2_init_15 rfl rfl ?_
  refine g_new (pc := 16) (j := 7) (L' := .inr (2, [vr X.1 (n + 1), .null, .null, .null, .null]) :: (bX9 X.1 (n + 1) ++ [.inr (8, [.null, .int 0, .int 0, .int 0, .int 0, .int 0, .int 0, .int 0, .int 0])])) C h0 nk_X2_18 rfl rfl rfl dX2_init_16 rfl ?_
  refine g_dup (pc := 19) (a := n + 7) C dX2_init_19 ?_
  refine g_call (pc := 20) (st := [vr X.1 (n + 7), vr X.1 (n + 0)]) (b := n + 7) (As := []) (L1 := .inr (2, [vr X.1 (n + 1), .null, .null, .null, .null]) :: (bX9 X.1 (n + 1))) (B := bX8 X.1 (n + 7)) (en := .inr (8, [.null, .int 0, .int 0, .int 0, .int 0, .int 0, .int 0, .int 0, .int 0])) (L' := .inr (2, [vr X.1 (n + 1), .null, .null, .null, .null]) :: (bX9 X.1 (n + 1) ++ bX8 X.1 (n + 7))) C (cX8 X.1 (E0 ++ (.inr (2, [vr X.1 (n + 1), .null, .null, .null, .null]) :: (bX9 X.1 (n + 1)))) (n + 7) (gl h0 rfl)) mi_X8 lX2_20 rfl (by decide) rfl (Nat.le_of_ble_eq_true rfl) rfl rfl rfl rfl dX2_init_20 rfl ?_
  refine g_putF (pc := 23) (i := 0) (L' := .inr (2, [vr X.1 (n + 1), vr X.1 (n + 7), .null, .null, .null]) :: (bX9 X.1 (n + 1) ++ bX8 X.1 (n + 7))) C R0 h0 kX2_21 (fun _ _ h => by cases h; rfl) (by simp [xNF]; try decide) rfl rfl rfl rfl dX2_init_23 rfl ?_
  refine g_aload (pc := 26) (a := n + 0) C dX2_init_26 rfl rfl ?_
  refine g_new (pc := 27) (j := 19) (L' := .inr (2, [vr X.1 (n + 1), vr X.1 (n + 7), .null, .null, .null]) :: (bX9 X.1 (n + 1) ++ bX8 X.1 (n + 7) ++ [.inr (1, [.null, .null, .null, .null, .null, .int 0])])) C h0 nk_X2_25 rfl rfl rfl dX2_init_27 rfl ?_
  refine g_dup (pc := 30) (a := n + 19) C dX2_init_30 ?_
  refine g_call (pc := 31) (st := [vr X.1 (n + 19), vr X.1 (n + 0)]) (b := n + 19) (As := []) (L1 := .inr (2, [vr X.1 (n + 1), vr X.1 (n + 7), .null, .null, .null]) :: (bX9 X.1 (n + 1) ++ bX8 X.1 (n + 7))) (B := bX1 X.1 (n + 19)) (en := .inr (1, [.null, .null, .null, .null, .null, .int 0])) (L' := .inr (2, [vr X.1 (n + 1), vr X.1 (n + 7), .null, .null, .null]) :: (bX9 X.1 (n + 1) ++ bX8 X.1 (n + 7) ++ bX1 X.1 (n + 19))) C (cX1 X.1 (E0 ++ (.inr (2, [vr X.1 (n + 1), vr X.1 (n + 7), .null, .null, .null]) :: (bX9 X.1 (n + 1) ++ bX8 X.1 (n + 7)))) (n + 19) (gl h0 rfl)) mi_X1 lX2_27 rfl (by decide) rfl (Nat.le_of_ble_eq_true rfl) rfl rfl rfl rfl dX2_init_31 rfl ?_
  refine g_putF (pc := 34) (i := 0) (L' := .inr (2, [vr X.1 (n + 1), vr X.1 (n + 7), vr X.1 (n + 19), .null, .null]) :: (bX9 X.1 (n + 1) ++ bX8 X.1 (n + 7) ++ bX1 X.1 (n + 19))) C R0 h0 kX2_28 (fun _ _ h => by cases h; rfl) (by simp [xNF]; try decide) rfl rfl rfl rfl dX2_init_34 rfl ?_
  refine g_aload (pc := 37) (a := n + 0) C dX2_init_37 rfl rfl ?_
  refine g_new (pc := 38) (j := 41) (L' := .inr (2, [vr X.1 (n + 1), vr X.1 (n + 7), vr X.1 (n + 19), .null, .null]) :: (bX9 X.1 (n + 1) ++ bX8 X.1 (n + 7) ++ bX1 X.1 (n + 19) ++ [.inr (8, [.null, .int 0, .int 0, .int 0, .int 0, .int 0, .int 0, .int 0, .int 0])])) C h0 nk_X2_18 rfl rfl rfl dX2_init_38 rfl ?_
  refine g_dup (pc := 41) (a := n + 41) C dX2_init_41 ?_
  refine g_call (pc := 42) (st := [vr X.1 (n + 41), vr X.1 (n + 0)]) (b := n + 41) (As := []) (L1 := .inr (2, [vr X.1 (n + 1), vr X.1 (n + 7), vr X.1 (n + 19), .null, .null]) :: (bX9 X.1 (n + 1) ++ bX8 X.1 (n + 7) ++ bX1 X.1 (n + 19))) (B := bX8 X.1 (n + 41)) (en := .inr (8, [.null, .int 0, .int 0, .int 0, .int 0, .int 0, .int 0, .int 0, .int 0])) (L' := .inr (2, [vr X.1 (n + 1), vr X.1 (n + 7), vr X.1 (n + 19), .null, .null]) :: (bX9 X.1 (n + 1) ++ bX8 X.1 (n + 7) ++ bX1 X.1 (n + 19) ++ bX8 X.1 (n + 41))) C (cX8 X.1 (E0 ++ (.inr (2, [vr X.1 (n + 1), vr X.1 (n + 7), vr X.1 (n + 19), .null, .null]) :: (bX9 X.1 (n + 1) ++ bX8 X.1 (n + 7) ++ bX1 X.1 (n + 19)))) (n + 41) (gl h0 rfl)) mi_X8 lX2_20 rfl (by decide) rfl (Nat.le_of_ble_eq_true rfl) rfl rfl rfl rfl dX2_init_42 rfl ?_
  refine g_putF (pc := 45) (i := 0) (L' := .inr (2, [vr X.1 (n + 1), vr X.1 (n + 7), vr X.1 (n + 19), vr X.1 (n + 41), .null]) :: (bX9 X.1 (n + 1) ++ bX8 X.1 (n + 7) ++ bX1 X.1 (n + 19) ++ bX8 X.1 (n + 41))) C R0 h0 kX2_32 (fun _ _ h => by cases h; rfl) (by simp [xNF]; try decide) rfl rfl rfl rfl dX2_init_45 rfl ?_
  refine g_aload (pc := 48) (a := n + 0) C dX2_init_48 rfl rfl ?_
  refine g_new (pc := 49) (j := 53) (L' := .inr (2, [vr X.1 (n + 1), vr X.1 (n + 7), vr X.1 (n + 19), vr X.1 (n + 41), .null]) :: (bX9 X.1 (n + 1) ++ bX8 X.1 (n + 7) ++ bX1 X.1 (n + 19) ++ bX8 X.1 (n + 41) ++ [.inr (4, [.int 0, .int 0, .int 0, .int 0, .int 0, .null])])) C h0 nk_X2_35 rfl rfl rfl dX2_init_49 rfl ?_
  refine g_dup (pc := 52) (a := n + 53) C dX2_init_52 ?_
  refine g_call (pc := 53) (st := [vr X.1 (n + 53), vr X.1 (n + 0)]) (b := n + 53) (As := []) (L1 := .inr (2, [vr X.1 (n + 1), vr X.1 (n + 7), vr X.1 (n + 19), vr X.1 (n + 41), .null]) :: (bX9 X.1 (n + 1) ++ bX8 X.1 (n + 7) ++ bX1 X.1 (n + 19) ++ bX8 X.1 (n + 41))) (B := bX4 X.1 (n + 53)) (en := .inr (4, [.int 0, .int 0, .int 0, .int 0, .int 0, .null])) (L' := .inr (2, [vr X.1 (n + 1), vr X.1 (n + 7), vr X.1 (n + 19), vr X.1 (n + 41), .null]) :: (bX9 X.1 (n + 1) ++ bX8 X.1 (n + 7) ++ bX1 X.1 (n + 19) ++ bX8 X.1 (n + 41) ++ bX4 X.1 (n + 53))) C (cX4 X.1 (E0 ++ (.inr (2, [vr X.1 (n + 1), vr X.1 (n + 7), vr X.1 (n + 19), vr X.1 (n + 41), .null]) :: (bX9 X.1 (n + 1) ++ bX8 X.1 (n + 7) ++ bX1 X.1 (n + 19) ++ bX8 X.1 (n + 41)))) (n + 53) (gl h0 rfl)) mi_X4 lX2_37 rfl (by decide) rfl (Nat.le_of_ble_eq_true rfl) rfl rfl rfl rfl dX2_init_53 rfl ?_
  refine g_putF (pc := 56) (i := 0) (L' := .inr (2, [vr X.1 (n + 1), vr X.1 (n + 7), vr X.1 (n + 19), vr X.1 (n + 41), vr X.1 (n + 53)]) :: (bX9 X.1 (n + 1) ++ bX8 X.1 (n + 7) ++ bX1 X.1 (n + 19) ++ bX8 X.1 (n + 41) ++ bX4 X.1 (n + 53))) C R0 h0 kX2_38 (fun _ _ h => by cases h; rfl) (by simp [xNF]; try decide) rfl rfl rfl rfl dX2_init_56 rfl ?_
  exact g_ret (pc := 59) C R0 rfl rfl rfl dX2_init_59
def bX3 (G : xGX) (n : Nat) (a1 a2 : Nat) : List va_E := .inr (3, [vr G a1, vr G a2, vr G (n + 1), .int 0, .int 0, .int 0, .long 0, .int 0, .int 0, .long 0]) :: (bX4 G (n + 1))
set_option maxRecDepth 100000 in
theorem cX3 (G : xGX) (E0 : List va_E) (n : Nat) (a1 a2 : Nat) (h0 : E0.length = n) : gCt G yX3_init cX3_init 3 2 2 13 [vr G n, vr G a1, vr G a2] (E0 ++ [.inr (3, [.null, .null, .null, .int 0, .int 0, .int 0, .long 0, .int 0, .int 0, .long 0])]) (E0 ++ bX3 G n a1 a2) := by
  refine gMet (lv := [some (vr G (n + 0)), some (vr G a1), some (vr G a2)]) (by decide +kernel) rfl (Nat.le_of_ble_eq_true rfl) rfl ?_
  intro X hG hnL C R0
  subst hG
  refine g_aload (pc := 0) (a := n + 0) C dX3_init_0 rfl rfl ?_
  refine g_obj (pc := 1) (a := n + 0) C wo_X3 wo_i wo_c (by decide) dX3_init_1 ?_
  refine g_aload (pc := 4) (a := n + 0) C dX3_init_4 rfl rfl ?_
  refine g_new (pc := 5) (j := 1) (L' := [.inr (3, [.null, .null, .null, .int 0, .int 0, .int 0, .long 0, .int 0, .int 0, .long 0]), .inr (4, [.int 0, .int 0, .int 0, .int 0, .int 0, .null])]) C h0 nk_X3_9 rfl rfl rfl dX3_init_5 rfl ?_
  refine g_dup (pc := 8) (a := n + 1) C dX3_init_8 ?_
  refine g_call (pc := 9) (st := [vr X.1 (n + 1), vr X.1 (n + 0)]) (b := n + 1) (As := []) (L1 := [.inr (3, [.null, .null, .null, .int 0, .int 0, .int 0, .long 0, .int 0, .int 0, .long 0])]) (B := bX4 X.1 (n + 1)) (en := .inr (4, [.int 0, .int 0, .int 0, .int 0, .int 0, .null])) (L' := .inr (3, [.null, .null, .null, .int 0, .int 0, .int 0, .long 0, .int 0, .int 0, .long 0]) :: (bX4 X.1 (n + 1))) C (cX4 X.1 (E0 ++ ([.inr (3, [.null, .null, .null, .int 0, .int 0, .int 0, .long 0, .int 0, .int 0, .long 0])])) (n + 1) (gl h0 rfl)) mi_X4 lX3_11 rfl (by decide) rfl (Nat.le_of_ble_eq_true rfl) rfl rfl rfl rfl dX3_init_9 rfl ?_
  refine g_putF (pc := 12) (i := 0) (L' := .inr (3, [.null, .null, vr X.1 (n + 1), .int 0, .int 0, .int 0, .long 0, .int 0, .int 0, .long 0]) :: (bX4 X.1 (n + 1))) C R0 h0 kX3_12 (fun _ _ h => by cases h; rfl) (by simp [xNF]; try decide) rfl rfl rfl rfl dX3_init_12 rfl ?_
  refine g_aload (pc := 15) (a := n + 0) C dX3_init_15 rfl rfl ?_
  refine g_iconst (pc := 16) (v := 0) C dX3_init_16 (by decide) ?_
  refine g_put (pc := 17) (i := 0) (L' := .inr (3, [.null, .null, vr X.1 (n + 1), .int 0, .int 0, .int 0, .long 0, .int 0, .int 0, .long 0]) :: (bX4 X.1 (n + 1))) C h0 kX3_18 rfl rfl rfl rfl dX3_init_17 rfl ?_
  refine g_aload (pc := 20) (a := n + 0) C dX3_init_20 rfl rfl ?_
  refine g_iconst (pc := 21) (v := 0) C dX3_init_21 (by decide) ?_
  refine g_put (pc := 22) (i := 0) (L' := .inr (3, [.null, .null, vr X.1 (n + 1), .int 0, .int 0, .int 0, .long 0, .int 0, .int 0, .long 0]) :: (bX4 X.1 (n + 1))) C h0 kX3_22 rfl rfl rfl rfl dX3_init_22 rfl ?_
  refine g_aload (pc := 25) (a := n + 0) C dX3_init_25 rfl rfl ?_
  refine g_iconst (pc := 26) (v := 0) C dX3_init_26 (by decide) ?_
  refine g_put (pc := 27) (i := 0) (L' := .inr (3, [.null, .null, vr X.1 (n + 1), .int 0, .int 0, .int 0, .long 0, .int 0, .int 0, .long 0]) :: (bX4 X.1 (n + 1))) C h0 kX3_25 rfl rfl rfl rfl dX3_init_27 rfl ?_
  refine g_aload (pc := 30) (a := n + 0) C dX3_init_30 rfl rfl ?_
  refine g_lconst (pc := 31) (v := 0) C dX3_init_31 (by decide) ?_
  refine g_put (pc := 32) (i := 0) (L' := .inr (3, [.null, .null, vr X.1 (n + 1), .int 0, .int 0, .int 0, .long 0, .int 0, .int 0, .long 0]) :: (bX4 X.1 (n + 1))) C h0 kX3_28 rfl rfl rfl rfl dX3_init_32 rfl ?_
  refine g_aload (pc := 35) (a := n + 0) C dX3_init_35 rfl rfl ?_
  refine g_iconst (pc := 36) (v := 0) C dX3_init_36 (by decide) ?_
  refine g_put (pc := 37) (i := 0) (L' := .inr (3, [.null, .null, vr X.1 (n + 1), .int 0, .int 0, .int 0, .long 0, .int 0, .int 0, .long 0]) :: (bX4 X.1 (n + 1))) C h0 kX3_32 rfl rfl rfl rfl dX3_init_37 rfl ?_
  refine g_aload (pc := 40) (a := n + 0) C dX3_init_40 rfl rfl ?_
  refine g_iconst (pc := 41) (v := 0) C dX3_init_41 (by decide) ?_
  refine g_put (pc := 42) (i := 0) (L' := .inr (3, [.null, .null, vr X.1 (n + 1), .int 0, .int 0, .int 0, .long 0, .int 0, .int 0, .long 0]) :: (bX4 X.1 (n + 1))) C h0 kX3_35 rfl rfl rfl rfl dX3_init_42 rfl ?_
  refine g_aload (pc := 45) (a := n + 0) C dX3_init_45 rfl rfl ?_
  refine g_lconst (pc := 46) (v := 0) C dX3_init_46 (by decide) ?_
  refine g_put (pc := 47) (i := 0) (L' := .inr (3, [.null, .null, vr X.1 (n + 1), .int 0, .int 0, .int 0, .long 0, .int 0, .int 0, .long 0]) :: (bX4 X.1 (n + 1))) C h0 kX3_38 rfl rfl rfl rfl dX3_init_47 rfl ?_
  refine g_aload (pc := 50) (a := n + 0) C dX3_init_50 rfl rfl ?_
  refine g_aload (pc := 51) (a := a1) C dX3_init_51 rfl rfl ?_
  refine g_putF (pc := 52) (i := 0) (L' := .inr (3, [vr X.1 a1, .null, vr X.1 (n + 1), .int 0, .int 0, .int 0, .long 0, .int 0, .int 0, .long 0]) :: (bX4 X.1 (n + 1))) C R0 h0 kX3_41 (fun _ _ h => by cases h; rfl) (by simp [xNF]; try decide) rfl rfl rfl rfl dX3_init_52 rfl ?_
  refine g_aload (pc := 55) (a := n + 0) C dX3_init_55 rfl rfl ?_
  refine g_aload (pc := 56) (a := a2) C dX3_init_56 rfl rfl ?_
  refine g_putF (pc := 57) (i := 0) (L' := .inr (3, [vr X.1 a1, vr X.1 a2, vr X.1 (n + 1), .int 0, .int 0, .int 0, .long 0, .int 0, .int 0, .long 0]) :: (bX4 X.1 (n + 1))) C R0 h0 kX3_45 (fun _ _ h => by cases h; rfl) (by simp [xNF]; try decide) rfl rfl rfl rfl dX3_init_57 rfl ?_
  exact g_ret (pc := 60) C R0 rfl rfl rfl dX3_init_60
