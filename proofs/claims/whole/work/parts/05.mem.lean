/-- a field by its class, place and type, and its link -/
def xFK (own : String) (idx C j t : Nat) (fin : Bool) (ty : FieldType) : Prop :=
  C < 12 ∧ j < xnf C ∧ xft C j = t ∧ ∃ (Cs : String) (T : u_T) (ty0 : Nat → FieldType), vwCl[C]? = some (Cs, T, xnf C) ∧ (∀ w ∈ u_ws Cs T (xnf C), w ∈ xTb) ∧ (∀ k, k < xnf C → parseFieldDescriptor (T k).2.2.1 = some (ty0 k)) ∧ (∀ a, a < xnf C → ∀ b, b < xnf C → a ≠ b → (T a).2.1 ≠ (T b).2.1) ∧ parseFieldDescriptor (T j).2.2.1 = some ty ∧ (T j).2.2.2 = fin ∧ (Cond.fieldLink own idx (T j).1 (T j).2.1 (T j).2.2.1 ∈ xTb ∨ ∃ host, (own, idx, (T j).1, (T j).2.1, (T j).2.2.1, host) ∈ xNF)
theorem xget0 {X : xCX} {cc : ByteArray} {own : String} {d pc : Nat} {lv : List (Option Value)} {st : List Value} {M : xMem} {idx C j t k : Nat} {fin : Bool} {ty : FieldType} (C0 : xCk X cc own d) (F : xFK own idx C j t fin ty) (hk : xkd k = C) (hd : decode cc pc = .ok (.getfield idx, 3)) (kk : WW X (pc + 3) lv (xfv X.1 M k j t :: st) M) : WW X pc lv (vr X.1 k :: st) M := by
  obtain ⟨G, p, e, R, s, m, args, below, meth, c, cells, slots, Q, nL⟩ := X
  obtain ⟨hx, hb, hml, hown, hts, hK, hSS, hbs, hcl, hsl, hfr, hlo⟩ := id C0
  intro H locs ls hP hS hl
  obtain ⟨hC, hj, ht, Cs, T, ty0, hc, hin, hty, hnm, hd0, hfin, hlk⟩ := F
  subst ht
  rcases hlk with hlk | ⟨host, hlk⟩
  · exact va_get (tys := xtys G) hx hb hts hin hown hK hP k (xwd_obj hk hC) hc j hj (hts _ hlk) (fun _ h => h) (xfs_get hj) hd (kk H locs ls hP hS hl)
  · exact va_getN (tys := xtys G) hx hb hts hin hown hK hP k (xwd_obj hk hC) hc j hj (va_Nw.use rfl (hSS.2.2.2.2.2 _ hlk)) (fun _ h => h) (xfs_get hj) hd (kk H locs ls hP hS hl)
theorem r_getI {X : xCX} {cc : ByteArray} {own : String} {d pc : Nat} {lv : List (Option Value)} {st : List Value} {M : xMem} {idx C j k : Nat} {fin : Bool} {ty : FieldType} (C0 : xCk X cc own d) (F : xFK own idx C j 0 fin ty) (hk : xkd k = C)  (hd : decode cc pc = .ok (.getfield idx, 3)) (kk : WW X (pc + 3) lv (.int (M.1 k j) :: st) M) : WW X pc lv (vr X.1 k :: st) M := xget0 C0 F hk hd (by exact kk)
theorem r_getL {X : xCX} {cc : ByteArray} {own : String} {d pc : Nat} {lv : List (Option Value)} {st : List Value} {M : xMem} {idx C j k : Nat} {fin : Bool} {ty : FieldType} (C0 : xCk X cc own d) (F : xFK own idx C j 1 fin ty) (hk : xkd k = C)  (hd : decode cc pc = .ok (.getfield idx, 3)) (kk : WW X (pc + 3) lv (.long (M.2.1 k j) :: st) M) : WW X pc lv (vr X.1 k :: st) M := xget0 C0 F hk hd (by exact kk)
theorem r_getR {X : xCX} {cc : ByteArray} {own : String} {d pc : Nat} {lv : List (Option Value)} {st : List Value} {M : xMem} {idx C j k : Nat} {fin : Bool} {ty : FieldType} (C0 : xCk X cc own d) (F : xFK own idx C j 2 fin ty) (hk : xkd k = C) (hn : C = 11 → j ≠ 3) (hd : decode cc pc = .ok (.getfield idx, 3)) (kk : WW X (pc + 3) lv (vr X.1 (xrf k j) :: st) M) : WW X pc lv (vr X.1 k :: st) M := xget0 C0 F hk hd (by 
  have e1 : xrv M k j = xrf k j := if_neg (fun q => hn (by rw [← hk, q.1]; decide) q.2)
  have e : xfv X.1 M k j 2 = vr X.1 (xrf k j) := by rw [← e1]; rfl
  rw [e]; exact kk)
theorem r_getW {X : xCX} {cc : ByteArray} {own : String} {d pc : Nat} {lv : List (Option Value)} {st : List Value} {M : xMem} {idx k : Nat} {fin : Bool} {ty : FieldType} (C0 : xCk X cc own d) (F : xFK own idx 11 3 2 fin ty) (hk : xkd k = 11) (hd : decode cc pc = .ok (.getfield idx, 3)) (kk : WW X (pc + 3) lv (vr X.1 (xnw M) :: st) M) : WW X pc lv (vr X.1 k :: st) M := xget0 C0 F hk hd (by
  have e1 : xrv M k 3 = xnw M := if_pos ⟨xk11 hk, rfl⟩
  have e : xfv X.1 M k 3 2 = vr X.1 (xnw M) := by rw [← e1]; rfl
  rw [e]; exact kk)
theorem xput0 {X : xCX} {cc : ByteArray} {own : String} {d pc : Nat} {lv : List (Option Value)} {st : List Value} {M : xMem} {idx C j t k : Nat} {ty : FieldType} {v : Value} {M' : xMem} (C0 : xCk X cc own d) (F : xFK own idx C j t false ty) (hk : xkd k = C) (hn : narrow ty v = v) (hfit : fits ty v = true) (hw : (xwd X.1 M).set k (xbs X.1 + k, .inr (C, (xfs X.1 M k C).set j v)) = xwd X.1 M') (hd : decode cc pc = .ok (.putfield idx, 3)) (kk : WW X (pc + 3) lv st M') : WW X pc lv (v :: vr X.1 k :: st) M := by
  obtain ⟨G, p, e, R, s, m, args, below, meth, c, cells, slots, Q, nL⟩ := X
  obtain ⟨hx, hb, hml, hown, hts, hK, hSS, hbs, hcl, hsl, hfr, hlo⟩ := id C0
  intro H locs ls hP hS hl
  have hw : (xwd G M).set k (xbs G + k, .inr (C, (xfs G M k C).set j v)) = xwd G M' := hw
  obtain ⟨hC, hj, ht, Cs, T, ty0, hc, hin, hty, hnm, hd0, hfin, hlk⟩ := F
  rcases hlk with hlk | ⟨host, hlk⟩
  · exact va_put (tys := xtys G) hx hb hts hin ty0 hty hnm hown hK hP (xwd_D G M) hS k (xwd_obj hk hC) hc j hj (hts _ hlk) (fun _ h => h) hfin hd0 hn hfit (by rw [xfs_len]; exact hj) hd (fun H1 locs1 h1 h2 h3 => kk H1 locs1 ls (by rw [← hw]; exact h1) h3 hl)
  · exact va_putN (tys := xtys G) hx hb hts hin ty0 hty hnm hown hK hP (xwd_D G M) hS k (xwd_obj hk hC) hc j hj (va_Nw.use rfl (hSS.2.2.2.2.2 _ hlk)) (fun _ h => h) hfin hd0 hn hfit (by rw [xfs_len]; exact hj) hd (fun H1 locs1 h1 h2 h3 => kk H1 locs1 ls (by rw [← hw]; exact h1) h3 hl)
theorem xset_I {G : xGX} {M : xMem} {k C j : Nat} {v : Int32} (hk : xkd k = C) (hC : C < 12) (ht : xft C j = 0) : (xwd G M).set k (xbs G + k, .inr (C, (xfs G M k C).set j (.int v))) = xwd G (xwI M k j v) := by
  refine xwd_wR ?_
  subst hk
  rw [xfs_set (M' := xwI M k j v) (by simp [xfv, ht, xwI, xwR, va_up, upd]) (fun i hi => by simp [xfv, xwI, xwR, va_up, upd, hi, xrv, xnw])]
  simp [xce, hC, xwI]
theorem xset_L {G : xGX} {M : xMem} {k C j : Nat} {v : Int64} (hk : xkd k = C) (hC : C < 12) (ht : xft C j = 1) : (xwd G M).set k (xbs G + k, .inr (C, (xfs G M k C).set j (.long v))) = xwd G (xwL M k j v) := by
  refine xwd_wQ ?_
  subst hk
  rw [xfs_set (M' := xwL M k j v) (by simp [xfv, ht, xwL, xwQ, va_up, vp_updL]) (fun i hi => by simp [xfv, xwL, xwQ, va_up, vp_updL, hi, xrv, xnw])]
  simp [xce, hC, xwL]
theorem xset_W {G : xGX} {M : xMem} {k : Nat} {b : Bool} (hk : xkd k = 11) : (xwd G M).set k (xbs G + k, .inr (11, (xfs G M k 11).set 3 (vr G (xnw (xwW M b))))) = xwd G (xwW M b) := by
  have e := xk11 hk
  refine xwd_set ?_ (fun j hj => xce_congr rfl rfl (Or.inl (by rw [← e]; exact hj)) (Or.inr rfl))
  have hft : xft 11 3 = 2 := by decide
  rw [xfs_set (M' := xwW M b) (by rw [hft]; simp [xfv, xrv, e]) (fun i hi => by simp [xfv, xwW, xrv, hi])]
  simp [xce, hk]
theorem r_putI {X : xCX} {cc : ByteArray} {own : String} {d pc : Nat} {lv : List (Option Value)} {st : List Value} {M : xMem} {idx C j k : Nat} {v : Int32} (C0 : xCk X cc own d) (F : xFK own idx C j 0 false .int) (hk : xkd k = C)  (hd : decode cc pc = .ok (.putfield idx, 3)) (kk : WW X (pc + 3) lv st (xwI M k j v)) : WW X pc lv (.int v :: vr X.1 k :: st) M := xput0 C0 F hk rfl rfl (xset_I hk F.1 F.2.2.1) hd kk
theorem r_putZ {X : xCX} {cc : ByteArray} {own : String} {d pc : Nat} {lv : List (Option Value)} {st : List Value} {M : xMem} {idx C j k : Nat} {v : Int32} (C0 : xCk X cc own d) (F : xFK own idx C j 0 false .boolean) (hk : xkd k = C) (hv : v = 0 ∨ v = 1) (hd : decode cc pc = .ok (.putfield idx, 3)) (kk : WW X (pc + 3) lv st (xwI M k j v)) : WW X pc lv (.int v :: vr X.1 k :: st) M := xput0 C0 F hk (by rcases hv with rfl | rfl <;> decide) (by rcases hv with rfl | rfl <;> decide) (xset_I hk F.1 F.2.2.1) hd kk
theorem r_putL {X : xCX} {cc : ByteArray} {own : String} {d pc : Nat} {lv : List (Option Value)} {st : List Value} {M : xMem} {idx C j k : Nat} {v : Int64} (C0 : xCk X cc own d) (F : xFK own idx C j 1 false .long) (hk : xkd k = C)  (hd : decode cc pc = .ok (.putfield idx, 3)) (kk : WW X (pc + 3) lv st (xwL M k j v)) : WW X pc lv (.long v :: vr X.1 k :: st) M := xput0 C0 F hk rfl rfl (xset_L hk F.1 F.2.2.1) hd kk
theorem r_putW_told {X : xCX} {cc : ByteArray} {own : String} {d pc : Nat} {lv : List (Option Value)} {st : List Value} {M : xMem} {idx k : Nat} {ty : FieldType} (C0 : xCk X cc own d) (F : xFK own idx 11 3 2 false ty) (hk : xkd k = 11) (hn : ∀ a, narrow ty (.ref a) = .ref a) (hf : ∀ a, fits ty (.ref a) = true) (hd : decode cc pc = .ok (.putfield idx, 3)) (kk : WW X (pc + 3) lv st (xwW M false)) : WW X pc lv (vr X.1 (xrf k 1) :: vr X.1 k :: st) M := xput0 C0 F hk (hn _) (hf _) (by
  have e : xrf k 1 = xnw (xwW M false) := (by rw [xk11 hk]; rfl)
  have := xset_W (G := X.1) (M := M) (b := false) hk
  rw [← e] at this
  exact this) hd kk
theorem r_putW_aside {X : xCX} {cc : ByteArray} {own : String} {d pc : Nat} {lv : List (Option Value)} {st : List Value} {M : xMem} {idx k : Nat} {ty : FieldType} (C0 : xCk X cc own d) (F : xFK own idx 11 3 2 false ty) (hk : xkd k = 11) (hn : ∀ a, narrow ty (.ref a) = .ref a) (hf : ∀ a, fits ty (.ref a) = true) (hd : decode cc pc = .ok (.putfield idx, 3)) (kk : WW X (pc + 3) lv st (xwW M true)) : WW X pc lv (vr X.1 (xrf k 2) :: vr X.1 k :: st) M := xput0 C0 F hk (hn _) (hf _) (by
  have e : xrf k 2 = xnw (xwW M true) := (by rw [xk11 hk]; rfl)
  have := xset_W (G := X.1) (M := M) (b := true) hk
  rw [← e] at this
  exact this) hd kk
theorem xin_of {i : Int32} {n : Nat} (h : ¬ (i < 0 ∨ n ≤ i.toNatClampNeg)) : vp_in i n := h
theorem r_iald {X : xCX} {cc : ByteArray} {own : String} {d pc : Nat} {lv : List (Option Value)} {st : List Value} {M : xMem} (C : xCk X cc own d) {a : Nat} {i : Int32} (hk : xkd a = 13) (hi : vp_in i (xln a)) (hd : decode cc pc = .ok (.iaload, 1)) (k : WW X (pc + 1) lv (.int (M.1 a i.toNatClampNeg) :: st) (M)) : WW X pc lv (.int i :: vr X.1 a :: st) M := by
  obtain ⟨G, p, e, R, s, m, args, below, meth, c, cells, slots, Q, nL⟩ := X
  obtain ⟨hx, hb, hml, hown, hts, hK, hSS, hbs, hcl, hsl, hfr, hlo⟩ := id C
  intro H locs ls hP hS hl
  exact va_iald (tys := xtys G) hx hb hK hP a 1 (xwd_int hk (by decide)) rfl hi hd (k H locs ls hP hS hl)
theorem r_bald {X : xCX} {cc : ByteArray} {own : String} {d pc : Nat} {lv : List (Option Value)} {st : List Value} {M : xMem} (C : xCk X cc own d) {a : Nat} {i : Int32} (hk : xkd a = 12) (hi : vp_in i (xln a)) (hd : decode cc pc = .ok (.baload, 1)) (k : WW X (pc + 1) lv (.int (M.1 a i.toNatClampNeg) :: st) (M)) : WW X pc lv (.int i :: vr X.1 a :: st) M := by
  obtain ⟨G, p, e, R, s, m, args, below, meth, c, cells, slots, Q, nL⟩ := X
  obtain ⟨hx, hb, hml, hown, hts, hK, hSS, hbs, hcl, hsl, hfr, hlo⟩ := id C
  intro H locs ls hP hS hl
  exact va_bald (tys := xtys G) hx hb hK hP a 0 (xwd_int hk (by decide)) rfl hi hd (k H locs ls hP hS hl)
theorem r_zald {X : xCX} {cc : ByteArray} {own : String} {d pc : Nat} {lv : List (Option Value)} {st : List Value} {M : xMem} (C : xCk X cc own d) {a : Nat} {i : Int32} (hk : xkd a = 15) (hi : vp_in i (xln a)) (hd : decode cc pc = .ok (.baload, 1)) (k : WW X (pc + 1) lv (.int (M.1 a i.toNatClampNeg) :: st) (M)) : WW X pc lv (.int i :: vr X.1 a :: st) M := by
  obtain ⟨G, p, e, R, s, m, args, below, meth, c, cells, slots, Q, nL⟩ := X
  obtain ⟨hx, hb, hml, hown, hts, hK, hSS, hbs, hcl, hsl, hfr, hlo⟩ := id C
  intro H locs ls hP hS hl
  exact va_zald (tys := xtys G) hx hb hK hP a 3 (xwd_int hk (by decide)) rfl hi hd (k H locs ls hP hS hl)
theorem r_lald {X : xCX} {cc : ByteArray} {own : String} {d pc : Nat} {lv : List (Option Value)} {st : List Value} {M : xMem} (C : xCk X cc own d) {a : Nat} {i : Int32} (hk : xkd a = 14) (hi : vp_in i (xln a)) (hd : decode cc pc = .ok (.laload, 1)) (k : WW X (pc + 1) lv (.long (M.2.1 a i.toNatClampNeg) :: st) (M)) : WW X pc lv (.int i :: vr X.1 a :: st) M := by
  obtain ⟨G, p, e, R, s, m, args, below, meth, c, cells, slots, Q, nL⟩ := X
  obtain ⟨hx, hb, hml, hown, hts, hK, hSS, hbs, hcl, hsl, hfr, hlo⟩ := id C
  intro H locs ls hP hS hl
  exact va_lald (tys := xtys G) hx hb hK hP a 2 (xwd_lng hk) rfl hi hd (k H locs ls hP hS hl)
theorem xset_aR {G : xGX} {M : xMem} {k K : Nat} {f : Nat → Int32} (hk : xkd k = K) (hK : K = 12 ∨ K = 13 ∨ K = 15) : (xwd G M).set k (xbs G + k, .inl (xcy G K, xln k, .inl f)) = xwd G (xwR M k f) := by
  refine xwd_wR ?_
  subst hk
  rcases hK with h | h | h <;> simp [xce, h, xwR, va_up]
theorem xset_aQ {G : xGX} {M : xMem} {k : Nat} {f : Nat → Int64} (hk : xkd k = 14) : (xwd G M).set k (xbs G + k, .inl (xcy G 14, xln k, .inr (.inl f))) = xwd G (xwQ M k f) := by
  refine xwd_wQ ?_
  simp [xce, hk, xwQ, va_up]
theorem xset_aF {G : xGX} {M : xMem} {k i p : Nat} (hk : xkd k = 17) : (xwd G M).set k (xbs G + k, .inl (xcy G 17, xln k, .inr (.inr (.inr (.inr (va_up (xel G M k) i (some (xbs G + (66 + 6 * (p % 10))))))))))= xwd G (xwF M i p) := by
  have e := xk17 hk
  refine xwd_set ?_ (fun j hj => xce_congr rfl rfl (Or.inr rfl) (Or.inl (by rw [← e]; exact hj)))
  have : xel G (xwF M i p) k = va_up (xel G M k) i (some (xbs G + (66 + 6 * (p % 10)))) := by
    funext j
    by_cases h : j = i
    · subst h; simp [xel, xre, e, xfo, xwF, va_up]
    · simp [xel, xre, e, xfo, xwF, va_up, h]
  simp [xce, hk, this]
theorem r_iast {X : xCX} {cc : ByteArray} {own : String} {d pc : Nat} {lv : List (Option Value)} {st : List Value} {M : xMem} (C : xCk X cc own d) {a : Nat} {i : Int32} {v : Int32} (hk : xkd a = 13) (hi : vp_in i (xln a)) (hd : decode cc pc = .ok (.iastore, 1)) (k : WW X (pc + 1) lv (st) (xwI M a i.toNatClampNeg v)) : WW X pc lv (.int v :: .int i :: vr X.1 a :: st) M := by
  obtain ⟨G, p, e, R, s, m, args, below, meth, c, cells, slots, Q, nL⟩ := X
  obtain ⟨hx, hb, hml, hown, hts, hK, hSS, hbs, hcl, hsl, hfr, hlo⟩ := id C
  intro H locs ls hP hS hl
  exact va_iast (tys := xtys G) hx hb hK hP (xwd_D G M) hS a 1 (xwd_int hk (by decide)) rfl hi hd (fun H1 locs1 h1 h2 h3 => k H1 locs1 ls (by rw [xset_aR hk (by decide)] at h1; exact h1) h3 hl)
theorem r_bast {X : xCX} {cc : ByteArray} {own : String} {d pc : Nat} {lv : List (Option Value)} {st : List Value} {M : xMem} (C : xCk X cc own d) {a : Nat} {i : Int32} {v : Int32} (hk : xkd a = 12) (hi : vp_in i (xln a)) (hd : decode cc pc = .ok (.bastore, 1)) (k : WW X (pc + 1) lv (st) (xwI M a i.toNatClampNeg (vp_nar .byte v))) : WW X pc lv (.int v :: .int i :: vr X.1 a :: st) M := by
  obtain ⟨G, p, e, R, s, m, args, below, meth, c, cells, slots, Q, nL⟩ := X
  obtain ⟨hx, hb, hml, hown, hts, hK, hSS, hbs, hcl, hsl, hfr, hlo⟩ := id C
  intro H locs ls hP hS hl
  exact va_bast (tys := xtys G) hx hb hK hP (xwd_D G M) hS a 0 (xwd_int hk (by decide)) rfl hi hd (fun H1 locs1 h1 h2 h3 => k H1 locs1 ls (by rw [xset_aR hk (by decide)] at h1; exact h1) h3 hl)
theorem r_zast {X : xCX} {cc : ByteArray} {own : String} {d pc : Nat} {lv : List (Option Value)} {st : List Value} {M : xMem} (C : xCk X cc own d) {a : Nat} {i : Int32} {v : Int32} (hk : xkd a = 15) (hi : vp_in i (xln a)) (hd : decode cc pc = .ok (.bastore, 1)) (k : WW X (pc + 1) lv (st) (xwI M a i.toNatClampNeg (vp_nar .boolean v))) : WW X pc lv (.int v :: .int i :: vr X.1 a :: st) M := by
  obtain ⟨G, p, e, R, s, m, args, below, meth, c, cells, slots, Q, nL⟩ := X
  obtain ⟨hx, hb, hml, hown, hts, hK, hSS, hbs, hcl, hsl, hfr, hlo⟩ := id C
  intro H locs ls hP hS hl
  exact va_zast (tys := xtys G) hx hb hK hP (xwd_D G M) hS a 3 (xwd_int hk (by decide)) rfl hi hd (fun H1 locs1 h1 h2 h3 => k H1 locs1 ls (by rw [xset_aR hk (by decide)] at h1; exact h1) h3 hl)
theorem r_last {X : xCX} {cc : ByteArray} {own : String} {d pc : Nat} {lv : List (Option Value)} {st : List Value} {M : xMem} (C : xCk X cc own d) {a : Nat} {i : Int32} {v : Int64} (hk : xkd a = 14) (hi : vp_in i (xln a)) (hd : decode cc pc = .ok (.lastore, 1)) (k : WW X (pc + 1) lv (st) (xwL M a i.toNatClampNeg v)) : WW X pc lv (.long v :: .int i :: vr X.1 a :: st) M := by
  obtain ⟨G, p, e, R, s, m, args, below, meth, c, cells, slots, Q, nL⟩ := X
  obtain ⟨hx, hb, hml, hown, hts, hK, hSS, hbs, hcl, hsl, hfr, hlo⟩ := id C
  intro H locs ls hP hS hl
  exact va_last (tys := xtys G) hx hb hK hP (xwd_D G M) hS a 2 (xwd_lng hk) rfl hi hd (fun H1 locs1 h1 h2 h3 => k H1 locs1 ls (by rw [xset_aQ hk] at h1; exact h1) h3 hl)
theorem r_aaldS {X : xCX} {cc : ByteArray} {own : String} {d pc : Nat} {lv : List (Option Value)} {st : List Value} {M : xMem} (C : xCk X cc own d) {a : Nat} {i : Int32} (hk : xkd a = 16) (hi : vp_in i (xln a)) (hd : decode cc pc = .ok (.aaload, 1)) (k : WW X (pc + 1) lv (vr X.1 (xrf a i.toNatClampNeg) :: st) (M)) : WW X pc lv (.int i :: vr X.1 a :: st) M := by
  obtain ⟨G, p, e, R, s, m, args, below, meth, c, cells, slots, Q, nL⟩ := X
  obtain ⟨hx, hb, hml, hown, hts, hK, hSS, hbs, hcl, hsl, hfr, hlo⟩ := id C
  intro H locs ls hP hS hl
  refine va_aldq (tys := xtys G) (C := RX7) hx hb hK hP a 4 (xwd_ref hk (by decide)) rfl hi hd ?_
  have e : va_rf (xel G M a i.toNatClampNeg) = vr G (xrf a i.toNatClampNeg) := by
    have : a ≠ 64 := fun q => by rw [q] at hk; exact absurd hk (by decide)
    simp [xel, xre, this, va_rf, vr]
  rw [e]
  exact k H locs ls hP hS hl
theorem r_aaldT {X : xCX} {cc : ByteArray} {own : String} {d pc : Nat} {lv : List (Option Value)} {st : List Value} {M : xMem} (C : xCk X cc own d) {a : Nat} {i : Int32} (hk : xkd a = 17) (hi : vp_in i (xln a)) (hd : decode cc pc = .ok (.aaload, 1)) (k : WW X (pc + 1) lv (vr X.1 (xfo M i.toNatClampNeg) :: st) (M)) : WW X pc lv (.int i :: vr X.1 a :: st) M := by
  obtain ⟨G, p, e, R, s, m, args, below, meth, c, cells, slots, Q, nL⟩ := X
  obtain ⟨hx, hb, hml, hown, hts, hK, hSS, hbs, hcl, hsl, hfr, hlo⟩ := id C
  intro H locs ls hP hS hl
  refine va_aldq (tys := xtys G) (C := RX9) hx hb hK hP a 5 (xwd_ref hk (by decide)) rfl hi hd ?_
  have e : va_rf (xel G M a i.toNatClampNeg) = vr G (xfo M i.toNatClampNeg) := by
    simp [xel, xre, xk17 hk, va_rf, vr]
  rw [e]
  exact k H locs ls hP hS hl
theorem r_aaldI {X : xCX} {cc : ByteArray} {own : String} {d pc : Nat} {lv : List (Option Value)} {st : List Value} {M : xMem} (C : xCk X cc own d) {a : Nat} {i : Int32} (hk : xkd a = 18) (hi : vp_in i (xln a)) (hd : decode cc pc = .ok (.aaload, 1)) (k : WW X (pc + 1) lv (vr X.1 (xrf a i.toNatClampNeg) :: st) (M)) : WW X pc lv (.int i :: vr X.1 a :: st) M := by
  obtain ⟨G, p, e, R, s, m, args, below, meth, c, cells, slots, Q, nL⟩ := X
  obtain ⟨hx, hb, hml, hown, hts, hK, hSS, hbs, hcl, hsl, hfr, hlo⟩ := id C
  intro H locs ls hP hS hl
  have hlt : i.toNatClampNeg < xln a := Nat.not_le.mp fun q => hi (Or.inr q)
  have ha := xwd_ref (G := G) (M := M) hk (by decide)
  have e : va_rf (xel G M a i.toNatClampNeg) = vr G (xrf a i.toNatClampNeg) := by
    have : a ≠ 64 := fun q => by rw [q] at hk; exact absurd hk (by decide)
    simp [xel, xre, this, va_rf, vr]
  refine W.aald (v := va_rf (xel G M a i.toNatClampNeg)) (ty := .array .int) hx hb (hP a _ ha) ((hK.2 6 _ rfl).1 (xln a) (fun j => va_rf (xel G M a j))) rfl (fun q => by cases q) (by show ¬ (i < 0 ∨ (arrV _ _ _).slots.size ≤ _); rw [arrV_size]; exact hi) (by show (arrV _ _ _).slots[_]? = _; rw [arrV_read _ _ hlt]) rfl rfl hd ?_
  rw [e]
  exact k H locs ls hP hS hl
theorem r_aast {X : xCX} {cc : ByteArray} {own : String} {d pc : Nat} {lv : List (Option Value)} {st : List Value} {M : xMem} (C : xCk X cc own d) {a q : Nat} {i : Int32} (hk : xkd a = 17) (hq : 66 + 6 * ((q - 66) / 6 % 10) = q) (hi : vp_in i (xln a)) (hd : decode cc pc = .ok (.aastore, 1)) (k : WW X (pc + 1) lv (st) (xwF M i.toNatClampNeg ((q - 66) / 6))) : WW X pc lv (vr X.1 q :: .int i :: vr X.1 a :: st) M := by
  obtain ⟨G, p, e, R, s, m, args, below, meth, c, cells, slots, Q, nL⟩ := X
  obtain ⟨hx, hb, hml, hown, hts, hK, hSS, hbs, hcl, hsl, hfr, hlo⟩ := id C
  intro H locs ls hP hS hl
  have h9 : xkd q = 9 := by rw [← hq]; exact xkfo0 _ (Nat.mod_lt _ (by decide))
  exact va_astq (tys := xtys G) (r := (RX9, TX9, 3)) hx hb hK hP (xwd_D G M) hS a 5 q 9 (xwd_ref hk (by decide)) rfl (xwd_obj h9 (by decide)) rfl hi hd (fun H1 locs1 h1 h2 h3 => k H1 locs1 ls (by
    have h1 : va_P (xD G) vwCl ((xwd G M).set a (xbs G + a, .inl (xcy G 17, xln a, .inr (.inr (.inr (.inr (va_up (xel G M a) i.toNatClampNeg (some (xbs G + q))))))))) H1 := h1
    rw [← hq, xset_aF hk] at h1
    exact h1) h3 hl)
theorem r_alen {X : xCX} {cc : ByteArray} {own : String} {d pc : Nat} {lv : List (Option Value)} {st : List Value} {M : xMem} (C : xCk X cc own d) {a : Nat} (hk : 12 ≤ xkd a ∧ xkd a < 19) (hd : decode cc pc = .ok (.arraylength, 1)) (k : WW X (pc + 1) lv (.int (nI (xln a)) :: st) (M)) : WW X pc lv (vr X.1 a :: st) M := by
  obtain ⟨G, p, e, R, s, m, args, below, meth, c, cells, slots, Q, nL⟩ := X
  obtain ⟨hx, hb, hml, hown, hts, hK, hSS, hbs, hcl, hsl, hfr, hlo⟩ := id C
  intro H locs ls hP hS hl
  have h : xkd a = 14 ∨ (xkd a = 12 ∨ xkd a = 13 ∨ xkd a = 15) ∨ (xkd a = 16 ∨ xkd a = 17 ∨ xkd a = 18) := by omega
  rcases h with h | h | h
  · exact va_alen (tys := xtys G) hx hb hK hP a 2 (xwd_lng h) rfl rfl hd (k H locs ls hP hS hl)
  · rcases h with h | h | h
    · exact va_alen (tys := xtys G) hx hb hK hP a 0 (xwd_int h (by decide)) rfl rfl hd (k H locs ls hP hS hl)
    · exact va_alen (tys := xtys G) hx hb hK hP a 1 (xwd_int h (by decide)) rfl rfl hd (k H locs ls hP hS hl)
    · exact va_alen (tys := xtys G) hx hb hK hP a 3 (xwd_int h (by decide)) rfl rfl hd (k H locs ls hP hS hl)
  · rcases h with h | h | h
    · exact va_alen (tys := xtys G) hx hb hK hP a 4 (xwd_ref h (by decide)) rfl rfl hd (k H locs ls hP hS hl)
    · exact va_alen (tys := xtys G) hx hb hK hP a 5 (xwd_ref h (by decide)) rfl rfl hd (k H locs ls hP hS hl)
    · exact va_alen (tys := xtys G) hx hb hK hP a 6 (xwd_ref h (by decide)) rfl rfl hd (k H locs ls hP hS hl)
theorem r_letM {X : xCX} {pc : Nat} {lv : List (Option Value)} {st : List Value} {M : xMem} {β : Type} {F : xMem → Option β} {r : β} (h : xLt M F = some r) (k : ∀ M', F M' = some r → WW X pc lv st M') : WW X pc lv st M := k M h
theorem r_letI {X : xCX} {pc : Nat} {lv : List (Option Value)} {st : List Value} {M : xMem} {β : Type} {x : Int32} {F : Int32 → Option β} {r : β} (h : xLt x F = some r) (k : ∀ x', F x' = some r → WW X pc lv (.int x' :: st) M) : WW X pc lv (.int x :: st) M := k x h
theorem r_letL {X : xCX} {pc : Nat} {lv : List (Option Value)} {st : List Value} {M : xMem} {β : Type} {x : Int64} {F : Int64 → Option β} {r : β} (h : xLt x F = some r) (k : ∀ x', F x' = some r → WW X pc lv (.long x' :: st) M) : WW X pc lv (.long x :: st) M := k x h
theorem r_lv {X : xCX} {pc : Nat} {lv lv' : List (Option Value)} {st : List Value} {M : xMem} (hs : ∀ (i : Nat) (v : Value), lv'[i]? = some (some v) → lv[i]? = some (some v)) (k : WW X pc lv' st M) : WW X pc lv st M := by
  obtain ⟨G, p, e, R, s, m, args, below, meth, c, cells, slots, Q, nL⟩ := X
  intro H locs ls hP hS hl
  exact k H locs ls hP hS (xlh_sub hl (fun i v h => xlp_mem.mpr ⟨i, by simp, hs i v h⟩))
/-- fewer locals: one by one -/
def xle : List (Option Value) → List (Option Value) → Prop
  | [], _ => True
  | none :: r, _ :: r' => xle r r'
  | none :: r, [] => xle r []
  | some v :: r, some w :: r' => v = w ∧ xle r r'
  | some _ :: _, _ => False
theorem xle_at : ∀ {lv' lv : List (Option Value)}, xle lv' lv → ∀ (i : Nat) (v : Value), lv'[i]? = some (some v) → lv[i]? = some (some v)
  | [], _, _, i, v, h => by simp at h
  | none :: r, [], h, i, v, hv => by
    cases i with
    | zero => simp at hv
    | succ i => have := xle_at (lv' := r) (lv := []) h i v (by simpa using hv); simp at this
  | none :: r, b :: r', h, i, v, hv => by
    cases i with
    | zero => simp at hv
    | succ i => simpa using xle_at (lv' := r) (lv := r') h i v (by simpa using hv)
  | some w :: r, some u :: r', h, i, v, hv => by
    obtain ⟨h1, h2⟩ := h
    cases i with
    | zero => subst h1; simpa using hv
    | succ i => simpa using xle_at (lv' := r) (lv := r') h2 i v (by simpa using hv)
  | some w :: r, none :: r', h, i, v, hv => by cases h
  | some w :: r, [], h, i, v, hv => by cases h
theorem r_tabIn {X : xCX} {cc : ByteArray} {own : String} {d pc : Nat} {lv : List (Option Value)} {st : List Value} {M : xMem} {x : Int32} {dflt lo hi off : Int} {offs : Array Int} {len tgt : Nat} (C : xCk X cc own d) (hd : decode cc pc = .ok (.tableswitch dflt lo hi offs, len)) (h1 : ¬ x.toInt < lo) (h2 : ¬ hi < x.toInt) (ho : offs[(x.toInt - lo).toNat]? = some off) (ht : (pc : Int) + off = (tgt : Int)) (k : WW X tgt lv st M) : WW X pc lv (.int x :: st) M := by
  obtain ⟨G, p, e, R, s, m, args, below, meth, c, cells, slots, Q, nL⟩ := X
  obtain ⟨hx, hb, hml, hown, hts, hK, hSS, hbs, hcl, hsl, hfr, hlo⟩ := id C
  intro H locs ls hP hS hl
  exact lv_tableIn hx hb hd h1 h2 ho ht (k H locs ls hP hS hl)
theorem r_tabOut {X : xCX} {cc : ByteArray} {own : String} {d pc : Nat} {lv : List (Option Value)} {st : List Value} {M : xMem} {x : Int32} {dflt lo hi : Int} {offs : Array Int} {len tgt : Nat} (C : xCk X cc own d) (hd : decode cc pc = .ok (.tableswitch dflt lo hi offs, len)) (h1 : x.toInt < lo ∨ hi < x.toInt) (ht : (pc : Int) + dflt = (tgt : Int)) (k : WW X tgt lv st M) : WW X pc lv (.int x :: st) M := by
  obtain ⟨G, p, e, R, s, m, args, below, meth, c, cells, slots, Q, nL⟩ := X
  obtain ⟨hx, hb, hml, hown, hts, hK, hSS, hbs, hcl, hsl, hfr, hlo⟩ := id C
  intro H locs ls hP hS hl
  exact lv_tableOut hx hb hd h1 ht (k H locs ls hP hS hl)
