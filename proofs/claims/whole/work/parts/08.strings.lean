def xGc {β : Type} (sp dp n : Int32) (l0 l1 : Nat) (F : Option β) : Option β := if ¬ sp < 0 ∧ ¬ dp < 0 ∧ ¬ n < 0 ∧ sp.toNatClampNeg + n.toNatClampNeg ≤ l0 ∧ dp.toNatClampNeg + n.toNatClampNeg ≤ l1 then F else none
theorem xGc_of {β : Type} {sp dp n : Int32} {l0 l1 : Nat} {F : Option β} {r : β} (h : xGc sp dp n l0 l1 F = some r) : (¬ sp < 0 ∧ ¬ dp < 0 ∧ ¬ n < 0 ∧ sp.toNatClampNeg + n.toNatClampNeg ≤ l0 ∧ dp.toNatClampNeg + n.toNatClampNeg ≤ l1) ∧ F = some r := xGd_of h
def xGb {β : Type} (i : Int32) (n : Nat) (F : Option β) : Option β := if i < 0 ∨ n ≤ i.toNatClampNeg then none else F
theorem xGb_of {β : Type} {i : Int32} {n : Nat} {F : Option β} {r : β} (h : xGb i n F = some r) : vp_in i n ∧ F = some r := by
  unfold xGb at h
  by_cases hp : i < 0 ∨ n ≤ i.toNatClampNeg
  · rw [if_pos hp] at h; cases h
  · rw [if_neg hp] at h; exact ⟨hp, h⟩
theorem xac : Cond.native arraycopyName ∈ xTb ∧ Cond.static arraycopyName ∈ xTb ∧ Cond.initialized "java/lang/System" ∈ xTb := ⟨(xTb_c2 186 rfl rfl), (xTb_c2 185 rfl rfl), (xTb_c1 13 rfl rfl)⟩
theorem r_acpI {X : xCX} {cc : ByteArray} {own : String} {d pc : Nat} {lv : List (Option Value)} {st : List Value} {M : xMem} (C : xCk X cc own d) {idx a0 a1 : Nat} {sp dp n : Int32} (hw : Cond.methodLink own idx arraycopyName ∈ xTb) (hk0 : xkd a0 = 13) (hk1 : xkd a1 = 13) (hg : ¬ sp < 0 ∧ ¬ dp < 0 ∧ ¬ n < 0 ∧ sp.toNatClampNeg + n.toNatClampNeg ≤ xln a0 ∧ dp.toNatClampNeg + n.toNatClampNeg ≤ xln a1) (h1 : 1 ≤ d) (hst : (st.map fun v => v.category).sum ≤ 8) (hd : decode cc pc = .ok (.invokestatic idx, 3)) (k : WW X (pc + 3) lv (st) (xwR M a1 (va_cpy (M.1 a0) (M.1 a1) sp.toNatClampNeg dp.toNatClampNeg n.toNatClampNeg))) : WW X pc lv (.int n :: .int dp :: vr X.1 a1 :: .int sp :: vr X.1 a0 :: st) M := by
  obtain ⟨G, p, e, R, s, m, args, below, meth, c, cells, slots, Q, nL⟩ := X
  obtain ⟨hx, hb, hml, hown, hts, hK, hSS, hbs, hcl, hsl, hfr, hlo⟩ := id C
  intro H locs ls hP hS hl
  have hnf : nativeFrameWords "java/lang/System" "arraycopy" 5 = 7 := by decide
  exact va_copyi (tys := xtys G) hx hb (by rw [hml]; exact hl.1.symm) hown (hts _ hw) (hts _ xac.1) (hts _ xac.2.1) (hts _ xac.2.2) hK hP (xwd_D G M) hS a0 a1 1 1 (xwd_int hk0 (by decide)) (xwd_int hk1 (by decide)) rfl rfl rfl hg.1 hg.2.1 hg.2.2.1 hg.2.2.2.1 hg.2.2.2.2 (fun _ _ => rfl) (by rw [hfr]; exact h1) (by rw [hnf]; omega) hd (fun H1 locs1 h1 h2 h3 => k H1 locs1 ls (by rw [xset_aR hk1 (by decide)] at h1; exact h1) h3 hl)
theorem r_acpL {X : xCX} {cc : ByteArray} {own : String} {d pc : Nat} {lv : List (Option Value)} {st : List Value} {M : xMem} (C : xCk X cc own d) {idx a0 a1 : Nat} {sp dp n : Int32} (hw : Cond.methodLink own idx arraycopyName ∈ xTb) (hk0 : xkd a0 = 14) (hk1 : xkd a1 = 14) (hg : ¬ sp < 0 ∧ ¬ dp < 0 ∧ ¬ n < 0 ∧ sp.toNatClampNeg + n.toNatClampNeg ≤ xln a0 ∧ dp.toNatClampNeg + n.toNatClampNeg ≤ xln a1) (h1 : 1 ≤ d) (hst : (st.map fun v => v.category).sum ≤ 8) (hd : decode cc pc = .ok (.invokestatic idx, 3)) (k : WW X (pc + 3) lv (st) (xwQ M a1 (va_cpy (M.2.1 a0) (M.2.1 a1) sp.toNatClampNeg dp.toNatClampNeg n.toNatClampNeg))) : WW X pc lv (.int n :: .int dp :: vr X.1 a1 :: .int sp :: vr X.1 a0 :: st) M := by
  obtain ⟨G, p, e, R, s, m, args, below, meth, c, cells, slots, Q, nL⟩ := X
  obtain ⟨hx, hb, hml, hown, hts, hK, hSS, hbs, hcl, hsl, hfr, hlo⟩ := id C
  intro H locs ls hP hS hl
  have hnf : nativeFrameWords "java/lang/System" "arraycopy" 5 = 7 := by decide
  exact va_copyl (tys := xtys G) hx hb (by rw [hml]; exact hl.1.symm) hown (hts _ hw) (hts _ xac.1) (hts _ xac.2.1) (hts _ xac.2.2) hK hP (xwd_D G M) hS a0 a1 2 2 (xwd_lng hk0) (xwd_lng hk1) rfl rfl rfl hg.1 hg.2.1 hg.2.2.1 hg.2.2.2.1 hg.2.2.2.2 (fun _ _ => rfl) (by rw [hfr]; exact h1) (by rw [hnf]; omega) hd (fun H1 locs1 h1 h2 h3 => k H1 locs1 ls (by rw [xset_aQ hk1] at h1; exact h1) h3 hl)
theorem xldcw {p : Program} {l : Launch} {e : Env} {R : Room} {s : State} {m : MethodId} {args : Array Value} {below : List Frame} {meth : Method} {c : Code} {T : State} {locs : List Loc} {cells slots : Nat}
    (X : Stand p l e R s m args below meth c T locs cells slots) (hexec : p.tables.exec = Jvm.exec) {own text : String} {index : Nat} {a : Addr} (hown : s.vm.findClass own = some m.cls)
    (hconst : (Cond.stringRef own index text).before args s = true) (hev : (Term.string own index).eval args s none [] s = some (.ref a)) {g : JFrame} (hg : g.method = m) (hdg : decode c.code g.pc = .ok (.ldc_w index, 3)) :
    ∀ target, Steps p.tables e below (T.setTop { g with pc := g.pc + 3, stack := .ref a :: g.stack }) target → Steps p.tables e below (T.setTop g) target := by
  obtain ⟨k, cf, i, a', hk, hcf, hcp, -, hr, hev'⟩ := Cond.stringRef_spec hown hconst
  cases hev.symm.trans hev'
  obtain ⟨k', hk', he⟩ := X.warmed.alike.2.2 _ _ hk
  have hr' : k'.resolved[index]? = some (some (.string a)) := by
    rcases X.warmed.entry hk hk' index with h | ⟨h, -⟩
    · rw [h]; exact hr
    · rw [hr] at h; cases h
  intro target hrest
  subst hg
  jvm_step X.here [hexec, hdg, ldc_w.wp_string (e := e) (s := T) (f := g) X.here.top hk' (by rw [he]; exact hcf) hcp hr']
  exact hrest
theorem xldcwS {p : Program} {l : Launch} {e : Env} {R : Room} {s : State} {m : MethodId} {args : Array Value} {below : List Frame} {meth : Method} {c : Code} {H : Heap} {locs : List Loc} {cells slots : Nat} {Q : State → Prop} {cc : ByteArray} {pc : Nat} {ls : Array Slot} {rest : List Value} (hexec : p.tables.exec = Jvm.exec) (hb : c.code = cc) {own tx : String} {index q : Nat} (hown : s.vm.findClass own = some m.cls) (hZ : vk_R own index tx q s) (hdg : decode cc pc = .ok (.ldc_w index, 3))
    (k : W p l e R s m args below meth c H locs cells slots Q (F0 m (pc + 3) ls (.ref q :: rest))) : W p l e R s m args below meth c H locs cells slots Q (F0 m pc ls rest) := by
  intro T hT X
  obtain ⟨t, a1, b1⟩ := k T hT X
  exact ⟨t, xldcw X hexec hown (text := tx) (a := q) hZ.1 hZ.2 (g := F0 m pc ls rest) rfl (by rw [hb]; exact hdg) t a1, b1⟩
theorem r_ldcwS {X : xCX} {cc : ByteArray} {own : String} {d pc : Nat} {lv : List (Option Value)} {st : List Value} {M : xMem} (C : xCk X cc own d) {i : Nat} (hi : i < 30) (ho : (xso i).1 = own) (hd : decode cc pc = .ok (.ldc_w (xso i).2.1, 3)) (k : WW X (pc + 3) lv (vs X.1 i :: st) (M)) : WW X pc lv (st) M := by
  obtain ⟨G, p, e, R, s, m, args, below, meth, c, cells, slots, Q, nL⟩ := X
  obtain ⟨hx, hb, hml, hown, hts, hK, hSS, hbs, hcl, hsl, hfr, hlo⟩ := id C
  intro H locs ls hP hS hl
  exact xldcwS hx hb (by rw [ho]; exact hown) (hSS.2.2.1 i hi) hd (k H locs ls hP hS hl)
theorem r_ldcw {X : xCX} {cc : ByteArray} {own : String} {d pc : Nat} {lv : List (Option Value)} {st : List Value} {M : xMem} (C : xCk X cc own d) {n : Nat} {v : Int32} (hw : Cond.constant own n v ∈ xTb) (hd : decode cc pc = .ok (.ldc_w n, 3)) (k : WW X (pc + 3) lv (.int v :: st) (M)) : WW X pc lv (st) M := by
  obtain ⟨G, p, e, R, s, m, args, below, meth, c, cells, slots, Q, nL⟩ := X
  obtain ⟨hx, hb, hml, hown, hts, hK, hSS, hbs, hcl, hsl, hfr, hlo⟩ := id C
  intro H locs ls hP hS hl
  exact lv_ldcw hx hb hown (hts _ hw) hd (k H locs ls hP hS hl)
theorem xcat (a : Int32) : (Value.int a).category = 1 := rfl
def vb (G : xGX) (n : Nat) : Value := .ref (xadV G n)
theorem r_bload_n {X : xCX} {cc : ByteArray} {own : String} {d pc : Nat} {lv : List (Option Value)} {st : List Value} {M : xMem} (C : xCk X cc own d) {q : Fin 4} {i a : Nat} (hd : decode cc pc = .ok (.aload_n q, 1)) (hi : (q : Nat) = i) (hv : lv[i]? = some (some (vb X.1 a))) (k : WW X (pc + 1) lv (vb X.1 a :: st) M) : WW X pc lv (st) M := by
  obtain ⟨G, p, e, R, s, m, args, below, meth, c, cells, slots, Q, nL⟩ := X
  obtain ⟨hx, hb, hml, hown, hts, hK, hSS, hbs, hcl, hsl, hfr, hlo⟩ := id C
  intro H locs ls hP hS hl
  exact lv_aload_n hx hb hd hi (xlh_at hl hv) (k H locs ls hP hS hl)
theorem r_sgetV {X : xCX} {cc : ByteArray} {own : String} {d pc : Nat} {lv : List (Option Value)} {st : List Value} {M : xMem} (C : xCk X cc own d) {i idx : Nat} (hi : i < 30) (hw : Cond.fieldLink own idx "java/lang/String" "value" "[B" ∈ xTb) (hd : decode cc pc = .ok (.getfield idx, 3)) (k : WW X (pc + 3) lv (vb X.1 i :: st) M) : WW X pc lv (vs X.1 i :: st) M := by
  obtain ⟨G, p, e, R, s, m, args, below, meth, c, cells, slots, Q, nL⟩ := X
  obtain ⟨hx, hb, hml, hown, hts, hK, hSS, hbs, hcl, hsl, hfr, hlo⟩ := id C
  intro H locs ls hP hS hl
  exact vk_getf hx hb (hSS.1 i hi).2.2.1 hS hown (hts _ hw) (fun _ h => h) hd (k H locs ls hP hS hl)
theorem r_sgetC {X : xCX} {cc : ByteArray} {own : String} {d pc : Nat} {lv : List (Option Value)} {st : List Value} {M : xMem} (C : xCk X cc own d) {i idx : Nat} (hi : i < 30) (hw : Cond.fieldLink own idx "java/lang/String" "coder" "B" ∈ xTb) (hd : decode cc pc = .ok (.getfield idx, 3)) (k : WW X (pc + 3) lv (.int 0 :: st) M) : WW X pc lv (vs X.1 i :: st) M := by
  obtain ⟨G, p, e, R, s, m, args, below, meth, c, cells, slots, Q, nL⟩ := X
  obtain ⟨hx, hb, hml, hown, hts, hK, hSS, hbs, hcl, hsl, hfr, hlo⟩ := id C
  intro H locs ls hP hS hl
  exact vk_getf hx hb (hSS.1 i hi).2.1 hS hown (hts _ hw) (fun _ h => h) hd (k H locs ls hP hS hl)
theorem r_getsC {X : xCX} {cc : ByteArray} {own : String} {d pc : Nat} {lv : List (Option Value)} {st : List Value} {M : xMem} (C : xCk X cc own d) {idx : Nat} (hw : Cond.fieldLink own idx "java/lang/String" "COMPACT_STRINGS" "Z" ∈ xTb) (hd : decode cc pc = .ok (.getstatic idx, 3)) (k : WW X (pc + 3) lv (.int 1 :: st) M) : WW X pc lv (st) M := by
  obtain ⟨G, p, e, R, s, m, args, below, meth, c, cells, slots, Q, nL⟩ := X
  obtain ⟨hx, hb, hml, hown, hts, hK, hSS, hbs, hcl, hsl, hfr, hlo⟩ := id C
  intro H locs ls hP hS hl
  exact va_gets hx hb hSS.2.1 hS hown (hts _ hw) (fun _ h => h) hd (k H locs ls hP hS hl)
theorem r_getsF {X : xCX} {cc : ByteArray} {own : String} {d pc : Nat} {lv : List (Option Value)} {st : List Value} {M : xMem} (C : xCk X cc own d) {idx : Nat} (hw : Cond.fieldLink own idx "jdk/internal/util/Preconditions" "SIOOBE_FORMATTER" "Ljava/util/function/BiFunction;" ∈ xTb) (hd : decode cc pc = .ok (.getstatic idx, 3)) (k : ∀ w : Value, w.category = 1 → WW X (pc + 3) lv (w :: st) M) : WW X pc lv (st) M := by
  obtain ⟨G, p, e, R, s, m, args, below, meth, c, cells, slots, Q, nL⟩ := X
  obtain ⟨hx, hb, hml, hown, hts, hK, hSS, hbs, hcl, hsl, hfr, hlo⟩ := id C
  intro H locs ls hP hS hl
  rcases hSS.2.2.2.1 with hz | ⟨t, hz⟩
  · exact va_gets hx hb hz hS hown (hts _ hw) (fun _ h => h) hd (k _ rfl H locs ls hP hS hl)
  · exact va_gets hx hb hz hS hown (hts _ hw) (fun _ h => h) hd (k _ rfl H locs ls hP hS hl)
theorem r_salen {X : xCX} {cc : ByteArray} {own : String} {d pc : Nat} {lv : List (Option Value)} {st : List Value} {M : xMem} (C : xCk X cc own d) {i : Nat} (hi : i < 30) (hd : decode cc pc = .ok (.arraylength, 1)) (k : WW X (pc + 1) lv (.int (nI (xsn i)) :: st) M) : WW X pc lv (vb X.1 i :: st) M := by
  obtain ⟨G, p, e, R, s, m, args, below, meth, c, cells, slots, Q, nL⟩ := X
  obtain ⟨hx, hb, hml, hown, hts, hK, hSS, hbs, hcl, hsl, hfr, hlo⟩ := id C
  intro H locs ls hP hS hl
  exact va_tlen hx hb (hSS.1 i hi).2.2.2 hS rfl hd (k H locs ls hP hS hl)
theorem r_sbald {X : xCX} {cc : ByteArray} {own : String} {d pc : Nat} {lv : List (Option Value)} {st : List Value} {M : xMem} (C : xCk X cc own d) {i : Nat} {j : Int32} (hi : i < 30) (hj : vp_in j (xsn i)) (hd : decode cc pc = .ok (.baload, 1)) (k : WW X (pc + 1) lv (.int (xsc i j.toNatClampNeg) :: st) M) : WW X pc lv (.int j :: vb X.1 i :: st) M := by
  obtain ⟨G, p, e, R, s, m, args, below, meth, c, cells, slots, Q, nL⟩ := X
  obtain ⟨hx, hb, hml, hown, hts, hK, hSS, hbs, hcl, hsl, hfr, hlo⟩ := id C
  intro H locs ls hP hS hl
  exact va_tb hx hb (hSS.1 i hi).2.2.2 hS hj rfl hd (k H locs ls hP hS hl)
theorem r_i2c {X : xCX} {cc : ByteArray} {own : String} {d pc : Nat} {lv : List (Option Value)} {st : List Value} {M : xMem} (C : xCk X cc own d) {x : Int32} (hd : decode cc pc = .ok (.i2c, 1)) (k : WW X (pc + 1) lv (.int ((x.toUInt32 % 65536).toInt32) :: st) M) : WW X pc lv (.int x :: st) M := by
  obtain ⟨G, p, e, R, s, m, args, below, meth, c, cells, slots, Q, nL⟩ := X
  obtain ⟨hx, hb, hml, hown, hts, hK, hSS, hbs, hcl, hsl, hfr, hlo⟩ := id C
  intro H locs ls hP hS hl
  exact lv_i2c hx hb hd rfl (k H locs ls hP hS hl)
theorem r_bret {X : xCX} {cc : ByteArray} {own : String} {d pc : Nat} {lv : List (Option Value)} {M : xMem} {v r : Int32} {M' : xMem} (C : xCk X cc own d) (R0 : xRk X (some .byte) (some (.int r), M')) (hv : narrow .byte (.int v) = .int v) (h : some (v, M) = some (r, M')) (hd : decode cc pc = .ok (.ireturn, 1)) : WW X pc lv [.int v] M := by
  cases h
  obtain ⟨G, p, e, R, s, m, args, below, meth, c, cells, slots, Q, nL⟩ := X
  obtain ⟨hx, hb, hml, hown, hts, hK, hSS, hbs, hcl, hsl, hfr, hlo⟩ := id C
  obtain ⟨hr, hlk, rfl⟩ := R0
  intro H locs ls hP hS hl
  exact W.zret hx hb hr hv (fun t ht hW => ⟨⟨rfl, by rw [ht]; exact hP⟩, hS.F ht⟩) hS.2.2 hd hlk
theorem r_cret {X : xCX} {cc : ByteArray} {own : String} {d pc : Nat} {lv : List (Option Value)} {M : xMem} {v r : Int32} {M' : xMem} (C : xCk X cc own d) (R0 : xRk X (some .char) (some (.int r), M')) (hv : narrow .char (.int v) = .int v) (h : some (v, M) = some (r, M')) (hd : decode cc pc = .ok (.ireturn, 1)) : WW X pc lv [.int v] M := by
  cases h
  obtain ⟨G, p, e, R, s, m, args, below, meth, c, cells, slots, Q, nL⟩ := X
  obtain ⟨hx, hb, hml, hown, hts, hK, hSS, hbs, hcl, hsl, hfr, hlo⟩ := id C
  obtain ⟨hr, hlk, rfl⟩ := R0
  intro H locs ls hP hS hl
  exact W.zret hx hb hr hv (fun t ht hW => ⟨⟨rfl, by rw [ht]; exact hP⟩, hS.F ht⟩) hS.2.2 hd hlk
theorem xvirtS {X : xCX} {cc : ByteArray} {own : String} {d pc : Nat} {lv : List (Option Value)} {st : List Value} {M : xMem} {y : MethodName} {cc' : ByteArray} {n np idx d' i : Nat} {ret : Option FieldType} {As : List Value} {res : Option Value × xMem} {st0 : List Value} (C : xCk X cc own d) (hM : xCt X.1 y cc' n ret d' (vs X.1 i :: As) M res) (hi : i < 30) (hy : y.cls = "java/lang/String") (MK : xMK y cc' n ret np) (LK : xLK own idx y) (hd' : d' + 1 ≤ d) (hnp : As.length = np) (hst : (st.map fun v => v.category).sum ≤ 8) (h0 : st0 = As.reverse ++ vs X.1 i :: st) (hd : decode cc pc = .ok (.invokevirtual idx, 3)) (k : WW X (pc + 3) lv (res.1.toList ++ st) res.2) : WW X pc lv st0 M := by
  obtain ⟨G, p, e, R, s, m, args, below, meth, c, cells, slots, Q, nL⟩ := X
  obtain ⟨hx, hb, hml, hown, hts, hK, hSS, hbs, hcl, hsl, hfr, hlo⟩ := id C
  intro H locs ls hP hS hl
  obtain ⟨hcode, hinst, hsel, hini, hd9, hn19⟩ := MK
  have hRoom : (xrm d').frames + 1 ≤ R.frames ∧ 8 + (n + 11) + (xrm d').locals ≤ R.locals := by
    simp only [xrm]; omega
  have hpre : PreV s H y.cls (xadK G i) (va_Pc (vs G i :: As) (xHB G M)) As := ⟨xHB_blind, (by
    obtain ⟨cell, h1, h2, h3, -⟩ := (hSS.1 i hi).1.kept hS.2.1
    exact ⟨cell, h1, h2, by rw [hy]; exact h3⟩), fun U hU hW => ⟨rfl, xHB_of hP hS hK hSS hbs hU hW⟩⟩
  rcases LK with LK | ⟨host, LK⟩
  · exact xrun (va_runV (As := As) (rest := st) ⟨hx, hb, hml, hown, hts⟩ hM ⟨callB_of np hts (xgoodIn hcode) rfl rfl rfl (hts _ hini) (hts _ LK) hd9 hRoom, hts _ hinst, hts _ hsel⟩ hpre rfl hnp hl.1 h0 (lv_room hst) hd ⟨by simpa using hcl, by simpa using hsl⟩) hS (fun H1 locs1 h1 h2 => k H1 locs1 ls h1 h2 hl)
  · exact xrun (va_runVN (As := As) (rest := st) ⟨hx, hb, hml, hown, hts⟩ hM ⟨va_cnB np hts (xgoodIn hcode) rfl rfl rfl (hSS.2.2.2.2.1 _ LK) (hts _ hini) hd9 hRoom, hts _ hinst, hts _ hsel⟩ hpre rfl hnp hl.1 h0 (lv_room hst) hd ⟨by simpa using hcl, by simpa using hsl⟩) hS (fun H1 locs1 h1 h2 => k H1 locs1 ls h1 h2 hl)
theorem dJ3_checkIndex_8e157_0 : decode cJ3_checkIndex_8e157 0 = .ok (.iload_n 0, 1) := by decide +kernel
theorem dJ3_checkIndex_8e157_1 : decode cJ3_checkIndex_8e157 1 = .ok (.ifCond .lt 8, 3) := by decide +kernel
theorem dJ3_checkIndex_8e157_4 : decode cJ3_checkIndex_8e157 4 = .ok (.iload_n 0, 1) := by decide +kernel
theorem dJ3_checkIndex_8e157_5 : decode cJ3_checkIndex_8e157 5 = .ok (.iload_n 1, 1) := by decide +kernel
theorem dJ3_checkIndex_8e157_6 : decode cJ3_checkIndex_8e157 6 = .ok (.if_icmp .lt 10, 3) := by decide +kernel
theorem dJ3_checkIndex_8e157_9 : decode cJ3_checkIndex_8e157 9 = .ok (.aload_n 2, 1) := by decide +kernel
theorem dJ3_checkIndex_8e157_10 : decode cJ3_checkIndex_8e157 10 = .ok (.iload_n 0, 1) := by decide +kernel
theorem dJ3_checkIndex_8e157_11 : decode cJ3_checkIndex_8e157 11 = .ok (.iload_n 1, 1) := by decide +kernel
theorem dJ3_checkIndex_8e157_12 : decode cJ3_checkIndex_8e157 12 = .ok (.invokestatic 95, 3) := by decide +kernel
theorem dJ3_checkIndex_8e157_15 : decode cJ3_checkIndex_8e157 15 = .ok (.athrow, 1) := by decide +kernel
theorem dJ3_checkIndex_8e157_16 : decode cJ3_checkIndex_8e157 16 = .ok (.iload_n 0, 1) := by decide +kernel
theorem dJ3_checkIndex_8e157_17 : decode cJ3_checkIndex_8e157 17 = .ok (.ireturn, 1) := by decide +kernel
theorem dJ0_checkIndex_df160_0 : decode cJ0_checkIndex_df160 0 = .ok (.iload_n 0, 1) := by decide +kernel
theorem dJ0_checkIndex_df160_1 : decode cJ0_checkIndex_df160 1 = .ok (.iload_n 1, 1) := by decide +kernel
theorem dJ0_checkIndex_df160_2 : decode cJ0_checkIndex_df160 2 = .ok (.getstatic 1053, 3) := by decide +kernel
theorem dJ0_checkIndex_df160_5 : decode cJ0_checkIndex_df160 5 = .ok (.invokestatic 1059, 3) := by decide +kernel
theorem dJ0_checkIndex_df160_8 : decode cJ0_checkIndex_df160 8 = .ok (.pop, 1) := by decide +kernel
theorem dJ0_checkIndex_df160_9 : decode cJ0_checkIndex_df160 9 = .ok (.return_, 1) := by decide +kernel
theorem dJ1_charAt_3b067_0 : decode cJ1_charAt_3b067 0 = .ok (.iload_n 1, 1) := by decide +kernel
theorem dJ1_charAt_3b067_1 : decode cJ1_charAt_3b067 1 = .ok (.aload_n 0, 1) := by decide +kernel
theorem dJ1_charAt_3b067_2 : decode cJ1_charAt_3b067 2 = .ok (.arraylength, 1) := by decide +kernel
theorem dJ1_charAt_3b067_3 : decode cJ1_charAt_3b067 3 = .ok (.invokestatic 9, 3) := by decide +kernel
theorem dJ1_charAt_3b067_6 : decode cJ1_charAt_3b067 6 = .ok (.aload_n 0, 1) := by decide +kernel
theorem dJ1_charAt_3b067_7 : decode cJ1_charAt_3b067 7 = .ok (.iload_n 1, 1) := by decide +kernel
theorem dJ1_charAt_3b067_8 : decode cJ1_charAt_3b067 8 = .ok (.baload, 1) := by decide +kernel
theorem dJ1_charAt_3b067_9 : decode cJ1_charAt_3b067 9 = .ok (.sipush 255, 3) := by decide +kernel
theorem dJ1_charAt_3b067_12 : decode cJ1_charAt_3b067 12 = .ok (.iand, 1) := by decide +kernel
theorem dJ1_charAt_3b067_13 : decode cJ1_charAt_3b067 13 = .ok (.i2c, 1) := by decide +kernel
theorem dJ1_charAt_3b067_14 : decode cJ1_charAt_3b067 14 = .ok (.ireturn, 1) := by decide +kernel
theorem dJ0_isLatin1_aae02_0 : decode cJ0_isLatin1_aae02 0 = .ok (.getstatic 38, 3) := by decide +kernel
theorem dJ0_isLatin1_aae02_3 : decode cJ0_isLatin1_aae02 3 = .ok (.ifCond .eq 14, 3) := by decide +kernel
theorem dJ0_isLatin1_aae02_6 : decode cJ0_isLatin1_aae02 6 = .ok (.aload_n 0, 1) := by decide +kernel
theorem dJ0_isLatin1_aae02_7 : decode cJ0_isLatin1_aae02 7 = .ok (.getfield 15, 3) := by decide +kernel
theorem dJ0_isLatin1_aae02_10 : decode cJ0_isLatin1_aae02 10 = .ok (.ifCond .ne 7, 3) := by decide +kernel
theorem dJ0_isLatin1_aae02_13 : decode cJ0_isLatin1_aae02 13 = .ok (.iconst 1, 1) := by decide +kernel
theorem dJ0_isLatin1_aae02_14 : decode cJ0_isLatin1_aae02 14 = .ok (.goto 4, 3) := by decide +kernel
theorem dJ0_isLatin1_aae02_17 : decode cJ0_isLatin1_aae02 17 = .ok (.iconst 0, 1) := by decide +kernel
theorem dJ0_isLatin1_aae02_18 : decode cJ0_isLatin1_aae02 18 = .ok (.ireturn, 1) := by decide +kernel
theorem dJ0_coder_7d493_0 : decode cJ0_coder_7d493 0 = .ok (.getstatic 38, 3) := by decide +kernel
theorem dJ0_coder_7d493_3 : decode cJ0_coder_7d493 3 = .ok (.ifCond .eq 10, 3) := by decide +kernel
theorem dJ0_coder_7d493_6 : decode cJ0_coder_7d493 6 = .ok (.aload_n 0, 1) := by decide +kernel
theorem dJ0_coder_7d493_7 : decode cJ0_coder_7d493 7 = .ok (.getfield 15, 3) := by decide +kernel
theorem dJ0_coder_7d493_10 : decode cJ0_coder_7d493 10 = .ok (.goto 4, 3) := by decide +kernel
theorem dJ0_coder_7d493_13 : decode cJ0_coder_7d493 13 = .ok (.iconst 1, 1) := by decide +kernel
theorem dJ0_coder_7d493_14 : decode cJ0_coder_7d493 14 = .ok (.ireturn, 1) := by decide +kernel
theorem dJ0_length_8abf5_0 : decode cJ0_length_8abf5 0 = .ok (.aload_n 0, 1) := by decide +kernel
theorem dJ0_length_8abf5_1 : decode cJ0_length_8abf5 1 = .ok (.getfield 9, 3) := by decide +kernel
theorem dJ0_length_8abf5_4 : decode cJ0_length_8abf5 4 = .ok (.arraylength, 1) := by decide +kernel
theorem dJ0_length_8abf5_5 : decode cJ0_length_8abf5 5 = .ok (.aload_n 0, 1) := by decide +kernel
theorem dJ0_length_8abf5_6 : decode cJ0_length_8abf5 6 = .ok (.invokevirtual 335, 3) := by decide +kernel
theorem dJ0_length_8abf5_9 : decode cJ0_length_8abf5 9 = .ok (.ishr, 1) := by decide +kernel
theorem dJ0_length_8abf5_10 : decode cJ0_length_8abf5 10 = .ok (.ireturn, 1) := by decide +kernel
theorem dJ0_charAt_5068e_0 : decode cJ0_charAt_5068e 0 = .ok (.aload_n 0, 1) := by decide +kernel
theorem dJ0_charAt_5068e_1 : decode cJ0_charAt_5068e 1 = .ok (.invokevirtual 492, 3) := by decide +kernel
theorem dJ0_charAt_5068e_4 : decode cJ0_charAt_5068e 4 = .ok (.ifCond .eq 12, 3) := by decide +kernel
theorem dJ0_charAt_5068e_7 : decode cJ0_charAt_5068e 7 = .ok (.aload_n 0, 1) := by decide +kernel
theorem dJ0_charAt_5068e_8 : decode cJ0_charAt_5068e 8 = .ok (.getfield 9, 3) := by decide +kernel
theorem dJ0_charAt_5068e_11 : decode cJ0_charAt_5068e 11 = .ok (.iload_n 1, 1) := by decide +kernel
theorem dJ0_charAt_5068e_12 : decode cJ0_charAt_5068e 12 = .ok (.invokestatic 495, 3) := by decide +kernel
theorem dJ0_charAt_5068e_15 : decode cJ0_charAt_5068e 15 = .ok (.ireturn, 1) := by decide +kernel
theorem dJ0_charAt_5068e_16 : decode cJ0_charAt_5068e 16 = .ok (.aload_n 0, 1) := by decide +kernel
theorem dJ0_charAt_5068e_17 : decode cJ0_charAt_5068e 17 = .ok (.getfield 9, 3) := by decide +kernel
theorem dJ0_charAt_5068e_20 : decode cJ0_charAt_5068e 20 = .ok (.iload_n 1, 1) := by decide +kernel
theorem dJ0_charAt_5068e_21 : decode cJ0_charAt_5068e 21 = .ok (.invokestatic 498, 3) := by decide +kernel
theorem dJ0_charAt_5068e_24 : decode cJ0_charAt_5068e 24 = .ok (.ireturn, 1) := by decide +kernel
set_option maxRecDepth 100000 in
theorem cPchk (G : xGX) (M : xMem) (a b : Int32) (w : Value) (hw : w.category = 1) (ha : ¬ a < 0) (hab : a < b) : xCt G yJ3_checkIndex_8e157 cJ3_checkIndex_8e157 3 (some .int) 1 [.int a, .int b, w] M (some (.int a), M) := by
  refine xMet (lv := [some (.int a), some (.int b), some w]) (by decide) (by simp [lg_sl, hw, xcat]) (by simp [xen, xex, hw, xcat]) ?_
  intro X hG hnL C R0
  refine r_iload_n C dJ3_checkIndex_8e157_0 rfl rfl ?_
  refine r_if_lt (tgt := 9) C dJ3_checkIndex_8e157_1 (by decide) (A := (none : Option Unit)) (B := some ()) (if_neg ha) (fun q => absurd q ha) (fun _ _ => ?_)
  refine r_iload_n C dJ3_checkIndex_8e157_4 rfl rfl ?_
  refine r_iload_n C dJ3_checkIndex_8e157_5 rfl rfl ?_
  refine r_icmp_lt (tgt := 16) C dJ3_checkIndex_8e157_6 (by decide) (A := some ()) (B := (none : Option Unit)) (if_pos hab) (fun _ _ => ?_) (fun q => absurd hab q)
  refine r_iload_n C dJ3_checkIndex_8e157_16 rfl rfl ?_
  exact r_iret C R0 rfl dJ3_checkIndex_8e157_17
set_option maxRecDepth 100000 in
theorem cSchk (G : xGX) (M : xMem) (a b : Int32) (ha : ¬ a < 0) (hab : a < b) : xCt G yJ0_checkIndex_df160 cJ0_checkIndex_df160 2 none 2 [.int a, .int b] M (none, M) := by
  refine xMet (lv := [some (.int a), some (.int b)]) (by decide) (Nat.le_of_ble_eq_true rfl) rfl ?_
  intro X hG hnL C R0
  refine r_iload_n C dJ0_checkIndex_df160_0 rfl rfl ?_
  refine r_iload_n C dJ0_checkIndex_df160_1 rfl rfl ?_
  refine r_getsF C (xTb_c3 16 rfl rfl) dJ0_checkIndex_df160_2 (fun w hw => ?_)
  refine xstat (np := 3) C (cPchk X.1 M a b w hw ha hab) mJ3_checkIndex_8e157 lJ0_1059 (by decide) rfl (Nat.le_of_ble_eq_true rfl) rfl dJ0_checkIndex_df160_5 ?_
  refine r_pop C rfl dJ0_checkIndex_df160_8 ?_
  exact r_vret C R0 rfl dJ0_checkIndex_df160_9
theorem xsc_ok : ∀ i, i < 30 → ∀ j, j < xsn i → ((xsc i j &&& 255).toUInt32 % 65536).toInt32 = xsc i j ∧ narrow .char (.int (xsc i j)) = .int (xsc i j) := by decide +kernel
theorem xsn_lt : ∀ i, i < 30 → xsn i < 100 := by decide +kernel
set_option maxRecDepth 100000 in
theorem cL1ch (G : xGX) (M : xMem) (i : Nat) (j : Int32) (hi : i < 30) (hj : vp_in j (xsn i)) : xCt G yJ1_charAt_3b067 cJ1_charAt_3b067 2 (some .char) 3 [vb G i, .int j] M (some (.int (xsc i j.toNatClampNeg)), M) := by
  have hn : ¬ j < 0 := fun q => hj (Or.inl q)
  have hl : j < nI (xsn i) := by
    obtain ⟨q, hq, rfl⟩ := vp_in_of hj (Nat.lt_of_lt_of_le (xsn_lt i hi) (by decide))
    exact nI_lt hq (Nat.lt_of_lt_of_le (xsn_lt i hi) (by decide))
  have hlt : j.toNatClampNeg < xsn i := Nat.not_le.mp fun q => hj (Or.inr q)
  refine xMet (lv := [some (vb G i), some (.int j)]) (by decide) (Nat.le_of_ble_eq_true rfl) rfl ?_
  intro X hG hnL C R0
  subst hG
  refine r_iload_n C dJ1_charAt_3b067_0 rfl rfl ?_
  refine r_bload_n C dJ1_charAt_3b067_1 rfl rfl ?_
  refine r_salen C hi dJ1_charAt_3b067_2 ?_
  refine xstat (np := 2) C (cSchk X.1 M j (nI (xsn i)) hn hl) mJ0_checkIndex_df160 lJ1_9 (by decide) rfl (Nat.le_of_ble_eq_true rfl) rfl dJ1_charAt_3b067_3 ?_
  refine r_bload_n C dJ1_charAt_3b067_6 rfl rfl ?_
  refine r_iload_n C dJ1_charAt_3b067_7 rfl rfl ?_
  refine r_sbald C hi hj dJ1_charAt_3b067_8 ?_
  refine r_sipush (v := 255) C dJ1_charAt_3b067_9 (by decide) ?_
  refine r_iand C dJ1_charAt_3b067_12 ?_
  refine r_i2c C dJ1_charAt_3b067_13 ?_
  rw [(xsc_ok i hi _ hlt).1]
  exact r_cret C R0 (xsc_ok i hi _ hlt).2 rfl dJ1_charAt_3b067_14
set_option maxRecDepth 100000 in
theorem cLat1 (G : xGX) (M : xMem) (i : Nat) (hi : i < 30) : xCt G yJ0_isLatin1_aae02 cJ0_isLatin1_aae02 1 (some .boolean) 1 [vs G i] M (some (.int 1), M) := by
  refine xMet (lv := [some (vs G i)]) (by decide) (Nat.le_of_ble_eq_true rfl) rfl ?_
  intro X hG hnL C R0
  subst hG
  refine r_getsC C (xTb_c3 0 rfl rfl) dJ0_isLatin1_aae02_0 ?_
  refine r_if_eq (tgt := 17) C dJ0_isLatin1_aae02_3 (by decide) (A := (none : Option Unit)) (B := some ()) (if_neg (by decide)) (fun q => absurd q (by decide)) (fun _ _ => ?_)
  refine r_sload_n C dJ0_isLatin1_aae02_6 rfl rfl ?_
  refine r_sgetC C hi (xTb_c9 67 rfl rfl) dJ0_isLatin1_aae02_7 ?_
  refine r_if_ne (tgt := 17) C dJ0_isLatin1_aae02_10 (by decide) (A := some ()) (B := (none : Option Unit)) (if_pos rfl) (fun q => absurd rfl q) (fun _ _ => ?_)
  refine r_iconst (v := 1) C dJ0_isLatin1_aae02_13 (by decide) ?_
  refine r_goto (tgt := 18) C dJ0_isLatin1_aae02_14 (by decide) ?_
  exact r_zret (Or.inr rfl) C R0 rfl dJ0_isLatin1_aae02_18
set_option maxRecDepth 100000 in
theorem cCoder (G : xGX) (M : xMem) (i : Nat) (hi : i < 30) : xCt G yJ0_coder_7d493 cJ0_coder_7d493 1 (some .byte) 1 [vs G i] M (some (.int 0), M) := by
  refine xMet (lv := [some (vs G i)]) (by decide) (Nat.le_of_ble_eq_true rfl) rfl ?_
  intro X hG hnL C R0
  subst hG
  refine r_getsC C (xTb_c3 0 rfl rfl) dJ0_coder_7d493_0 ?_
  refine r_if_eq (tgt := 13) C dJ0_coder_7d493_3 (by decide) (A := (none : Option Unit)) (B := some ()) (if_neg (by decide)) (fun q => absurd q (by decide)) (fun _ _ => ?_)
  refine r_sload_n C dJ0_coder_7d493_6 rfl rfl ?_
  refine r_sgetC C hi (xTb_c9 67 rfl rfl) dJ0_coder_7d493_7 ?_
  refine r_goto (tgt := 14) C dJ0_coder_7d493_10 (by decide) ?_
  exact r_bret C R0 (by decide) rfl dJ0_coder_7d493_14
set_option maxRecDepth 100000 in
theorem cSlen (G : xGX) (M : xMem) (i : Nat) (hi : i < 30) : xCt G yJ0_length_8abf5 cJ0_length_8abf5 1 (some .int) 2 [vs G i] M (some (.int (nI (xsn i))), M) := by
  refine xMet (lv := [some (vs G i)]) (by decide) (Nat.le_of_ble_eq_true rfl) rfl ?_
  intro X hG hnL C R0
  subst hG
  refine r_sload_n C dJ0_length_8abf5_0 rfl rfl ?_
  refine r_sgetV C hi (xTb_c9 66 rfl rfl) dJ0_length_8abf5_1 ?_
  refine r_salen C hi dJ0_length_8abf5_4 ?_
  refine r_sload_n C dJ0_length_8abf5_5 rfl rfl ?_
  refine xvirtS (np := 0) C (cCoder X.1 M i hi) hi rfl mJ0_coder_7d493 lJ0_335 (by decide) rfl (Nat.le_of_ble_eq_true rfl) rfl dJ0_length_8abf5_6 ?_
  refine r_ishr C dJ0_length_8abf5_9 ?_
  rw [sb_shr0]
  exact r_iret C R0 rfl dJ0_length_8abf5_10
set_option maxRecDepth 100000 in
theorem cSchar (G : xGX) (M : xMem) (i : Nat) (j : Int32) (hi : i < 30) (hj : vp_in j (xsn i)) : xCt G yJ0_charAt_5068e cJ0_charAt_5068e 2 (some .char) 4 [vs G i, .int j] M (some (.int (xsc i j.toNatClampNeg)), M) := by
  have hlt : j.toNatClampNeg < xsn i := Nat.not_le.mp fun q => hj (Or.inr q)
  refine xMet (lv := [some (vs G i), some (.int j)]) (by decide) (Nat.le_of_ble_eq_true rfl) rfl ?_
  intro X hG hnL C R0
  subst hG
  refine r_sload_n C dJ0_charAt_5068e_0 rfl rfl ?_
  refine xvirtS (np := 0) C (cLat1 X.1 M i hi) hi rfl mJ0_isLatin1_aae02 lJ0_492 (by decide) rfl (Nat.le_of_ble_eq_true rfl) rfl dJ0_charAt_5068e_1 ?_
  refine r_if_eq (tgt := 16) C dJ0_charAt_5068e_4 (by decide) (A := (none : Option Unit)) (B := some ()) (if_neg (by decide)) (fun q => absurd q (by decide)) (fun _ _ => ?_)
  refine r_sload_n C dJ0_charAt_5068e_7 rfl rfl ?_
  refine r_sgetV C hi (xTb_c9 66 rfl rfl) dJ0_charAt_5068e_8 ?_
  refine r_iload_n C dJ0_charAt_5068e_11 rfl rfl ?_
  refine xstat (np := 2) C (cL1ch X.1 M i j hi hj) mJ1_charAt_3b067 lJ0_495 (by decide) rfl (Nat.le_of_ble_eq_true rfl) rfl dJ0_charAt_5068e_12 ?_
  exact r_cret C R0 (xsc_ok i hi _ hlt).2 rfl dJ0_charAt_5068e_15
theorem r_slen {X : xCX} {cc : ByteArray} {own : String} {d pc : Nat} {lv : List (Option Value)} {st : List Value} {M : xMem} {idx i : Nat} (C : xCk X cc own d) (hi : i < 30) (LK : xLK own idx yJ0_length_8abf5) (hd' : 3 ≤ d) (hst : (st.map fun v => v.category).sum ≤ 8) (hd : decode cc pc = .ok (.invokevirtual idx, 3)) (k : WW X (pc + 3) lv (.int (nI (xsn i)) :: st) M) : WW X pc lv (vs X.1 i :: st) M :=
  xvirtS (np := 0) C (cSlen X.1 M i hi) hi rfl mJ0_length_8abf5 LK hd' rfl hst rfl hd k
theorem r_schar {X : xCX} {cc : ByteArray} {own : String} {d pc : Nat} {lv : List (Option Value)} {st : List Value} {M : xMem} {idx i : Nat} {j : Int32} (C : xCk X cc own d) (hi : i < 30) (hj : vp_in j (xsn i)) (LK : xLK own idx yJ0_charAt_5068e) (hd' : 5 ≤ d) (hst : (st.map fun v => v.category).sum ≤ 8) (hd : decode cc pc = .ok (.invokevirtual idx, 3)) (k : WW X (pc + 3) lv (.int (xsc i j.toNatClampNeg) :: st) M) : WW X pc lv (.int j :: vs X.1 i :: st) M :=
  xvirtS (np := 1) C (cSchar X.1 M i j hi hj) hi rfl mJ0_charAt_5068e LK hd' rfl hst rfl hd k
