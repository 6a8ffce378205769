/-! ===== a world that grows: cells in the order in which they are made ===== -/
def gw (b : Nat) (E : List va_E) : va_W := E.mapIdx (fun k e => (b + k, e))
theorem gw_len (b : Nat) (E : List va_E) : (gw b E).length = E.length := by simp [gw]
theorem gw_get (b : Nat) (E : List va_E) (k : Nat) : (gw b E)[k]? = E[k]?.map (fun e => (b + k, e)) := by simp [gw, List.getElem?_mapIdx]
theorem gw_at {b : Nat} {E : List va_E} {k : Nat} {e : va_E} (h : E[k]? = some e) : (gw b E)[k]? = some (b + k, e) := by rw [gw_get, h]; rfl
theorem gw_inv {b k : Nat} {E : List va_E} {q : Nat × va_E} (h : (gw b E)[k]? = some q) : ∃ e, E[k]? = some e ∧ q = (b + k, e) := by
  rw [gw_get] at h
  cases he : E[k]? with
  | none => rw [he] at h; cases h
  | some e => rw [he] at h; cases h; exact ⟨e, rfl, rfl⟩
theorem gw_push (b : Nat) (E : List va_E) (e : va_E) : gw b E ++ [(b + E.length, e)] = gw b (E ++ [e]) := by
  apply List.ext_getElem?
  intro k
  rw [gw_get]
  by_cases h : k < E.length
  · rw [List.getElem?_append_left (by rw [gw_len]; exact h), List.getElem?_append_left h, gw_get]
  · rw [List.getElem?_append_right (by rw [gw_len]; omega), List.getElem?_append_right (by omega), gw_len]
    by_cases h2 : k = E.length
    · subst h2; simp
    · rw [List.getElem?_eq_none (by simp; omega), List.getElem?_eq_none (by simp; omega)]; rfl
theorem gw_set (b : Nat) (E : List va_E) (k : Nat) (e : va_E) : (gw b E).set k (b + k, e) = gw b (E.set k e) := by
  apply List.ext_getElem?
  intro j
  rw [gw_get, List.getElem?_set, List.getElem?_set, gw_len, gw_get]
  by_cases h : k = j
  · subst h
    by_cases h2 : k < E.length <;> simp [h2]
  · simp [h]
theorem gw_D (G : xGX) (E : List va_E) : va_D (xA G) (gw (xbs G) E) := by
  refine ⟨fun i j p q h1 h2 h3 => ?_, fun k q h => ?_⟩
  · obtain ⟨e1, -, rfl⟩ := gw_inv h1
    obtain ⟨e2, -, rfl⟩ := gw_inv h2
    have h3 : xbs G + i = xbs G + j := h3
    omega
  · obtain ⟨e1, -, rfl⟩ := gw_inv h
    exact Nat.le_add_right _ _
theorem gl {E0 L : List va_E} {n j : Nat} (h0 : E0.length = n) (h : L.length = j) : (E0 ++ L).length = n + j := by rw [List.length_append, h0, h]
theorem gat {E0 L : List va_E} {n j : Nat} {e : va_E} (h0 : E0.length = n) (h : L[j]? = some e) : (E0 ++ L)[n + j]? = some e := by
  rw [List.getElem?_append_right (by omega), h0, Nat.add_sub_cancel_left]; exact h
theorem gset {E0 L : List va_E} {n j : Nat} {e : va_E} (h0 : E0.length = n) : (E0 ++ L).set (n + j) e = E0 ++ L.set j e := by
  rw [List.set_append_right _ _ (by omega), h0, Nat.add_sub_cancel_left]
/-- what else holds: arrays over Side and Tale, the table's class -/
def gAO (G : xGX) (U : State) : Prop := va_AO RX7 U ∧ va_AO RX9 U ∧ ∃ (kA kI : Class) (cE : ClassId), U.vm.classes[xcy G 18]? = some kA ∧ kA.kind = .array (xcy G 13) (.array .int) ∧ U.vm.classes[xcy G 13]? = some kI ∧ kI.kind = .array cE .int
theorem gAO_moved {G : xGX} {u U : State} (hA : u.vm.Alike U.vm) (h : gAO G u) : gAO G U := by
  obtain ⟨h1, h2, kA, kI, cE, h3, h4, h5, h6⟩ := h
  obtain ⟨kA', e1, e2⟩ := hA.2.2 _ _ h3
  obtain ⟨kI', e3, e4⟩ := hA.2.2 _ _ h5
  exact ⟨h1.moved hA, h2.moved hA, kA', kI', cE, e1, by rw [e2]; exact h4, e3, by rw [e4]; exact h6⟩
def GW (X : xCX) (E0 : List va_E) (pc : Nat) (lv : List (Option Value)) (st : List Value) (L : List va_E) (nc ns : Nat) : Prop :=
  match X with
  | (G, p, e, R, s, m, args, below, meth, c, cells, slots, Q, nL) => ∀ (H : Heap) (locs : List Loc) (ls : Array Slot), va_P (xD G) vwCl (gw (xbs G) (E0 ++ L)) H → H.size = xbs G + (E0 ++ L).length → va_S (xA G) s.heap H locs → xlh ls nL lv → s.heap.size + nc = xbs G + (E0 ++ L).length → W p G.1 e R s m args below meth c H locs nc ns Q (F0 m pc ls st)
def gCk (X : xCX) (cc : ByteArray) (own : String) (d mc ms : Nat) : Prop :=
  xCk X cc own d ∧ match X with
  | (G, p, e, R, s, m, args, below, meth, c, cells, slots, Q, nL) => gAO G s ∧ R.cells = mc ∧ R.slots = ms
def gHB (G : xGX) (E : List va_E) (U : State) : Prop := va_P (xD G) vwCl (gw (xbs G) E) U.heap ∧ U.heap.size = xbs G + E.length ∧ va_K (xD G) vwCl (xtys G) U ∧ xSS G U ∧ gAO G U
theorem gHB_blind {G : xGX} {E : List va_E} {av : List Value} : FrameBlind (va_Pc av (gHB G E)) := by
  intro a U g mk h
  obtain ⟨h0, hP, hz, hK, hS, hA⟩ := h
  exact ⟨h0, hP, hz, va_K.moved (u := U) (U := U.calling g mk a) (Vm.Alike.refl U.vm) hK, xSS_same (u := U) (U := U.calling g mk a) rfl rfl hS, gAO_moved (u := U) (U := U.calling g mk a) (Vm.Alike.refl U.vm) hA⟩
theorem gHB_of {G : xGX} {E : List va_E} {s U : State} {H : Heap} {locs : List Loc} (hP : va_P (xD G) vwCl (gw (xbs G) E) H) (hz : H.size = xbs G + E.length) (hS : va_S (xA G) s.heap H locs) (hK : va_K (xD G) vwCl (xtys G) s) (hSS : xSS G s) (hA : gAO G s) (hU : U.heap = H) (hW : s.WarmedH U.vm) : gHB G E U :=
  ⟨by rw [hU]; exact hP, by rw [hU]; exact hz, va_K.moved hW.alike hK, xSS_kept hW (fun a h1 h2 => by rw [hU]; exact hS.2.1 a h1 h2) hSS, gAO_moved hW.alike hA⟩
def gQQ (G : xGX) (E : List va_E) : Array Value → State → Outcome → State → Prop := fun _ st oc t => (oc = .returned none ∧ va_P (xD G) vwCl (gw (xbs G) E) t.heap ∧ t.heap.size = xbs G + E.length) ∧ va_F (xA G) st t
def grm (d mc ms : Nat) : Room := { frames := d, cells := mc, slots := ms, locals := 38 * d }
def gCt (G : xGX) (y : MethodName) (cc : ByteArray) (n d mc ms : Nat) (av : List Value) (E E' : List va_E) : Prop :=
  Met G.1 y (xws y cc n none) (grm d mc ms) (va_Pc av (gHB G E)) (gQQ G E') mc ms (xA G)
def gRk (X : xCX) (E : List va_E) (mc ms : Nat) : Prop :=
  match X with
  | (G, p, e, R, s, m, args, below, meth, c, cells, slots, Q, nL) => meth.name = "<init>" ∧ meth.sig.returnType = none ∧ meth.locks = false ∧ Q = MQ below (gQQ G E) args s mc ms (xA G)
set_option maxHeartbeats 1000000 in
theorem gMet {G : xGX} {y : MethodName} {cc : ByteArray} {n d mc ms : Nat} {av : List Value} {E0 L E' : List va_E} {lv : List (Option Value)} (hy : plainName y.cls = true) (hyn : y.name = "<init>") (hn : (lg_sl av).length ≤ n) (he : xen av n = lv)
    (body : ∀ X : xCX, X.1 = G → X.2.2.2.2.2.2.2.2.2.2.2.2.2 = n → gCk X cc y.cls d mc ms → gRk X E' mc ms → GW X E0 0 lv [] L 0 0) : gCt G y cc n d mc ms av (E0 ++ L) E' := by
  refine Met.ofW (cc := cc) (maxL := n) (ret := none) hy rfl ?_
  intro p e s m args below meth c s₁ B hml hv
  obtain ⟨rfl, hP, hz, hK, hSS, hA⟩ := hv
  have hts := atoms_spec (ws := xws y cc n none) B.pre
  have hown : s.vm.findClass y.cls = some m.cls := findClass_of_methodNamed B.named
  have hin : meth.name = "<init>" := by rw [(name_of_methodNamed B.named B.method).1, hyn]
  have hl := lv_entry av (n := n) hn
  have key := body (G, p, e, grm d mc ms, s, m, av.toArray, below, meth, c, 0, 0, MQ below (gQQ G E') av.toArray s mc ms (xA G), n) rfl rfl
    ⟨⟨B.exec, B.bytes, hml, hown, fun w h => hts w (List.mem_cons_of_mem _ h), hK, hSS, by omega, Nat.zero_le _, Nat.zero_le _, rfl, rfl⟩, hA, rfl, rfl⟩ ⟨hin, B.returns, B.notSynchronized, rfl⟩
  rw [lg_entry_eq]
  exact key s.heap [] _ hP hz va_S.rf (xlh_sub hl (fun i v h => by rw [← he] at h; exact xen_at h)) hz
section
variable {X : xCX} {cc : ByteArray} {own : String} {d mc ms n pc nc ns : Nat} {lv : List (Option Value)} {st : List Value} {E0 L L' : List va_E}
theorem g_aload (C : gCk X cc own d mc ms) {q : Fin 4} {i : Nat} {a : Nat} (hd : decode cc pc = .ok (.aload_n q, 1)) (hi : (q : Nat) = i) (hv : lv[i]? = some (some (vr X.1 a))) (k : GW X E0 (pc + 1) lv (vr X.1 a :: st) L nc ns) : GW X E0 pc lv st L nc ns := by
  obtain ⟨G, p, e, R, s, m, args, below, meth, c, cells, slots, Q, nL⟩ := X
  obtain ⟨⟨hx, hb, hml, hown, hts, hK, hSS, hbs, hcl, hsl, hfr, hlo⟩, hA, hmc, hms⟩ := id C
  intro H locs ls hP hz hS hl hq
  exact lv_aload_n hx hb hd hi (xlh_at hl hv) (k H locs ls hP hz hS hl hq)
theorem g_iload (C : gCk X cc own d mc ms) {q : Fin 4} {i : Nat} {x : Int32} (hd : decode cc pc = .ok (.iload_n q, 1)) (hi : (q : Nat) = i) (hv : lv[i]? = some (some (.int x))) (k : GW X E0 (pc + 1) lv (.int x :: st) L nc ns) : GW X E0 pc lv st L nc ns := by
  obtain ⟨G, p, e, R, s, m, args, below, meth, c, cells, slots, Q, nL⟩ := X
  obtain ⟨⟨hx, hb, hml, hown, hts, hK, hSS, hbs, hcl, hsl, hfr, hlo⟩, hA, hmc, hms⟩ := id C
  intro H locs ls hP hz hS hl hq
  exact lv_iload_n hx hb hd hi (xlh_at hl hv) (k H locs ls hP hz hS hl hq)
theorem g_iconst (C : gCk X cc own d mc ms) {q : Int} {v : Int32} (hd : decode cc pc = .ok (.iconst q, 1)) (hv : Int32.ofInt q = v) (k : GW X E0 (pc + 1) lv (.int v :: st) L nc ns) : GW X E0 pc lv st L nc ns := by
  obtain ⟨G, p, e, R, s, m, args, below, meth, c, cells, slots, Q, nL⟩ := X
  obtain ⟨⟨hx, hb, hml, hown, hts, hK, hSS, hbs, hcl, hsl, hfr, hlo⟩, hA, hmc, hms⟩ := id C
  intro H locs ls hP hz hS hl hq
  exact lv_iconst hx hb hd hv (k H locs ls hP hz hS hl hq)
theorem g_lconst (C : gCk X cc own d mc ms) {q : Fin 2} {v : Int64} (hd : decode cc pc = .ok (.lconst q, 1)) (hv : Int64.ofNat (q : Nat) = v) (k : GW X E0 (pc + 1) lv (.long v :: st) L nc ns) : GW X E0 pc lv st L nc ns := by
  obtain ⟨G, p, e, R, s, m, args, below, meth, c, cells, slots, Q, nL⟩ := X
  obtain ⟨⟨hx, hb, hml, hown, hts, hK, hSS, hbs, hcl, hsl, hfr, hlo⟩, hA, hmc, hms⟩ := id C
  intro H locs ls hP hz hS hl hq
  exact lv_lconst hx hb hd hv (k H locs ls hP hz hS hl hq)
theorem g_bipush (C : gCk X cc own d mc ms) {q : Int} {v : Int32} (hd : decode cc pc = .ok (.bipush q, 2)) (hv : (Int8.ofInt q).toInt32 = v) (k : GW X E0 (pc + 2) lv (.int v :: st) L nc ns) : GW X E0 pc lv st L nc ns := by
  obtain ⟨G, p, e, R, s, m, args, below, meth, c, cells, slots, Q, nL⟩ := X
  obtain ⟨⟨hx, hb, hml, hown, hts, hK, hSS, hbs, hcl, hsl, hfr, hlo⟩, hA, hmc, hms⟩ := id C
  intro H locs ls hP hz hS hl hq
  exact lv_bipush hx hb hd hv (k H locs ls hP hz hS hl hq)
theorem g_sipush (C : gCk X cc own d mc ms) {q : Int} {v : Int32} (hd : decode cc pc = .ok (.sipush q, 3)) (hv : (Int16.ofInt q).toInt32 = v) (k : GW X E0 (pc + 3) lv (.int v :: st) L nc ns) : GW X E0 pc lv st L nc ns := by
  obtain ⟨G, p, e, R, s, m, args, below, meth, c, cells, slots, Q, nL⟩ := X
  obtain ⟨⟨hx, hb, hml, hown, hts, hK, hSS, hbs, hcl, hsl, hfr, hlo⟩, hA, hmc, hms⟩ := id C
  intro H locs ls hP hz hS hl hq
  exact lv_sipush hx hb hd hv (k H locs ls hP hz hS hl hq)
theorem g_dup (C : gCk X cc own d mc ms) {a : Nat} (hd : decode cc pc = .ok (.dup, 1)) (k : GW X E0 (pc + 1) lv (vr X.1 a :: vr X.1 a :: st) L nc ns) : GW X E0 pc lv (vr X.1 a :: st) L nc ns := by
  obtain ⟨G, p, e, R, s, m, args, below, meth, c, cells, slots, Q, nL⟩ := X
  obtain ⟨⟨hx, hb, hml, hown, hts, hK, hSS, hbs, hcl, hsl, hfr, hlo⟩, hA, hmc, hms⟩ := id C
  intro H locs ls hP hz hS hl hq
  exact lv_dup hx hb hd rfl (k H locs ls hP hz hS hl hq)
theorem g_goto (C : gCk X cc own d mc ms) {off : Int} {tgt : Nat} (hd : decode cc pc = .ok (.goto off, 3)) (ht : (pc : Int) + off = (tgt : Int)) (k : GW X E0 tgt lv st L nc ns) : GW X E0 pc lv st L nc ns := by
  obtain ⟨G, p, e, R, s, m, args, below, meth, c, cells, slots, Q, nL⟩ := X
  obtain ⟨⟨hx, hb, hml, hown, hts, hK, hSS, hbs, hcl, hsl, hfr, hlo⟩, hA, hmc, hms⟩ := id C
  intro H locs ls hP hz hS hl hq
  exact lv_goto hx hb hd ht (k H locs ls hP hz hS hl hq)
theorem g_ifge (C : gCk X cc own d mc ms) {x : Int32} {off : Int} {tgt : Nat} (hd : decode cc pc = .ok (.ifCond .ge off, 3)) (ht : (pc : Int) + off = (tgt : Int)) (hx0 : 0 ≤ x) (k : GW X E0 tgt lv st L nc ns) : GW X E0 pc lv (.int x :: st) L nc ns := by
  obtain ⟨G, p, e, R, s, m, args, below, meth, c, cells, slots, Q, nL⟩ := X
  obtain ⟨⟨hx, hb, hml, hown, hts, hK, hSS, hbs, hcl, hsl, hfr, hlo⟩, hA, hmc, hms⟩ := id C
  intro H locs ls hP hz hS hl hq
  exact lv_if_ge hx hb hd ht (fun _ => k H locs ls hP hz hS hl hq) (fun h => absurd hx0 (by first | exact h | simpa using h))
theorem g_icge (C : gCk X cc own d mc ms) {x y : Int32} {off : Int} {tgt : Nat} (hd : decode cc pc = .ok (.if_icmp .ge off, 3)) (ht : (pc : Int) + off = (tgt : Int)) (kt : y ≤ x → GW X E0 tgt lv st L nc ns) (kf : ¬ y ≤ x → GW X E0 (pc + 3) lv st L nc ns) : GW X E0 pc lv (.int y :: .int x :: st) L nc ns := by
  obtain ⟨G, p, e, R, s, m, args, below, meth, c, cells, slots, Q, nL⟩ := X
  obtain ⟨⟨hx, hb, hml, hown, hts, hK, hSS, hbs, hcl, hsl, hfr, hlo⟩, hA, hmc, hms⟩ := id C
  intro H locs ls hP hz hS hl hq
  exact lv_icmp_ge hx hb hd ht (fun h => kt (by first | exact h | simpa using h) H locs ls hP hz hS hl hq) (fun h => kf (by first | exact h | simpa using h) H locs ls hP hz hS hl hq)
theorem g_istore (C : gCk X cc own d mc ms) {q : Fin 4} {i : Nat} {x : Int32} {lv' : List (Option Value)} (hd : decode cc pc = .ok (.istore_n q, 1)) (hi : (q : Nat) = i) (hn : i < X.2.2.2.2.2.2.2.2.2.2.2.2.2) (hv : xst lv i (.int x) = lv') (k : GW X E0 (pc + 1) lv' st L nc ns) : GW X E0 pc lv (.int x :: st) L nc ns := by
  obtain ⟨G, p, e, R, s, m, args, below, meth, c, cells, slots, Q, nL⟩ := X
  obtain ⟨⟨hx, hb, hml, hown, hts, hK, hSS, hbs, hcl, hsl, hfr, hlo⟩, hA, hmc, hms⟩ := id C
  intro H locs ls hP hz hS hl hq
  exact lv_istore_n (lv := xlp 0 lv) hx hb hd hi hl hn rfl (fun ls' hl' => k H locs ls' hP hz hS (xlh_sub hl' (fun j w h => by
    rw [← hv] at h
    exact (by
    rcases xst_at h with ⟨rfl, rfl⟩ | ⟨h1, h3, h4⟩
    · exact List.mem_cons_self
    · refine List.mem_cons_of_mem _ (List.mem_filter.mpr ⟨xlp_mem.mpr ⟨j, by omega, h3⟩, ?_⟩)
      simp only [Bool.and_eq_true, Bool.not_eq_true', beq_eq_false_iff_ne, ne_eq, Bool.and_eq_false_iff]
      exact ⟨h1, by
        by_cases e : j + 1 = i
        · exact Or.inr (fun q => h4 ⟨e, q⟩)
        · exact Or.inl e⟩))) hq)
theorem g_iinc (C : gCk X cc own d mc ms) {i : Nat} {q : Int} {x v : Int32} {lv' : List (Option Value)} (hd : decode cc pc = .ok (.iinc i q, 3)) (hi : lv[i]? = some (some (.int x))) (hw : x + Int32.ofInt q = v) (hn : i < X.2.2.2.2.2.2.2.2.2.2.2.2.2) (hv : xst lv i (.int v) = lv') (k : GW X E0 (pc + 3) lv' st L nc ns) : GW X E0 pc lv st L nc ns := by
  obtain ⟨G, p, e, R, s, m, args, below, meth, c, cells, slots, Q, nL⟩ := X
  obtain ⟨⟨hx, hb, hml, hown, hts, hK, hSS, hbs, hcl, hsl, hfr, hlo⟩, hA, hmc, hms⟩ := id C
  intro H locs ls hP hz hS hl hq
  obtain ⟨q, hq9⟩ := List.getElem?_of_mem (xlp_mem (n := 0) (q := (i, .int x)) |>.mpr ⟨i, by omega, hi⟩)
  exact lv_iinc (lv := xlp 0 lv) (k := q) hx hb hd hl hq9 hw hn rfl (fun ls' hl' => k H locs ls' hP hz hS (xlh_sub hl' (fun j w h => by
    rw [← hv] at h
    rcases xst_at h with ⟨rfl, rfl⟩ | ⟨h1, h3, h4⟩
    · exact List.mem_cons_self
    · refine List.mem_cons_of_mem _ (List.mem_filter.mpr ⟨xlp_mem.mpr ⟨j, by omega, h3⟩, ?_⟩)
      simp only [Bool.and_eq_true, Bool.not_eq_true', beq_eq_false_iff_ne, ne_eq, Bool.and_eq_false_iff]
      exact ⟨h1, by
        by_cases e : j + 1 = i
        · exact Or.inr (fun q => h4 ⟨e, q⟩)
        · exact Or.inl e⟩)) hq)
theorem g_obj (C : gCk X cc own d mc ms) {a idx : Nat} (hlk : Cond.methodLink own idx objectInit ∈ xTb) (hin : Cond.instanceMethod objectInit ∈ xTb) (hco : Cond.code objectInit ⟨#[0xb1]⟩ 1 none ∈ xTb) (h1 : 1 ≤ d) (hd : decode cc pc = .ok (.invokespecial idx, 3)) (k : GW X E0 (pc + 3) lv [] L nc ns) : GW X E0 pc lv [vr X.1 a] L nc ns := by
  obtain ⟨G, p, e, R, s, m, args, below, meth, c, cells, slots, Q, nL⟩ := X
  obtain ⟨⟨hx, hb, hml, hown, hts, hK, hSS, hbs, hcl, hsl, hfr, hlo⟩, hA, hmc, hms⟩ := id C
  intro H locs ls hP hz hS hl hq
  refine W.objInit hx hb hown (hts _ hlk) (hts _ hin) (hts _ hco) rfl (by rw [hml]; exact hl.1) rfl hd (by omega) (by show 2 * 0 + 0 + 12 ≤ R.locals; omega) ?_
  exact W.eq (g2 := F0 m (pc + 3) ls []) rfl (k H locs ls hP hz hS hl hq)
theorem g_ret (C : gCk X cc own d mc ms) {E : List va_E} (R0 : gRk X E mc ms) (hE : E0 ++ L = E) (h1 : Nat.ble nc mc = true) (h2 : Nat.ble ns ms = true) (hd : decode cc pc = .ok (.return_, 1)) : GW X E0 pc lv [] L nc ns := by
  subst hE
  obtain ⟨G, p, e, R, s, m, args, below, meth, c, cells, slots, Q, nL⟩ := X
  obtain ⟨⟨hx, hb, hml, hown, hts, hK, hSS, hbs, hcl, hsl, hfr, hlo⟩, hA, hmc, hms⟩ := id C
  obtain ⟨hin, hr, hlk, rfl⟩ := R0
  intro H locs ls hP hz hS hl hq
  exact W.widen (Nat.le_of_ble_eq_true h1) (Nat.le_of_ble_eq_true h2) (W.vret hx hb hr (fun t ht hW => ⟨⟨rfl, by rw [ht]; exact hP, by rw [ht]; exact hz⟩, hS.F ht⟩) hS.2.2 hd hlk)
/-- a cell comes -/
theorem g_born {G : xGX} {E0 L L' : List va_E} {H H1 : Heap} {en : va_E} (hP : va_P (xD G) vwCl (gw (xbs G) (E0 ++ L)) H) (hz : H.size = xbs G + (E0 ++ L).length) (z1 : H1.size = H.size + 1) (o1 : ∀ q, q < H.size → H1[q]? = H[q]?) (he : va_at (xD G) vwCl (H.size, en) H1) (hL : L ++ [en] = L') : va_P (xD G) vwCl (gw (xbs G) (E0 ++ L')) H1 ∧ H1.size = xbs G + (E0 ++ L').length := by
  subst hL
  rw [← List.append_assoc]
  refine ⟨?_, by rw [z1, hz, List.length_append (as := E0 ++ L)]; rfl⟩
  rw [← gw_push, ← hz]
  have hk : ∀ (k : Nat) (x : Nat × va_E), (gw (xbs G) (E0 ++ L))[k]? = some x → H1[x.1]? = H[x.1]? := fun k x hx => o1 x.1 ((hP k x hx).lt)
  refine (hP.kept hk).app (fun k x hx => ?_)
  have hz : k < 1 := (List.getElem?_eq_some_iff.mp hx).1
  rw [show k = 0 by omega] at hx
  cases hx
  exact he
theorem g_S {G : xGX} {H0 H H1 : Heap} {locs : List Loc} (hS : va_S (xA G) H0 H locs) (z1 : H.size ≤ H1.size) (o1 : ∀ q, q < H.size → H1[q]? = H[q]?) : va_S (xA G) H0 H1 locs :=
  ⟨Nat.le_trans hS.1 z1, fun x h1 h2 => (o1 x (Nat.lt_of_lt_of_le h1 hS.1)).trans (hS.2.1 x h1 h2), hS.2.2⟩
/-- a class whose objects can be made here -/
def gNK (own : String) (idx K : Nat) (fs : List Value) : Prop := ∃ (Cs : String) (T : u_T) (ty0 : Nat → FieldType), vwCl[K]? = some (Cs, T, xnf K) ∧ (∀ w ∈ u_ws Cs T (xnf K), w ∈ xTb) ∧ (∀ k, k < xnf K → parseFieldDescriptor (T k).2.2.1 = some (ty0 k)) ∧ Cond.classLink own idx Cs ∈ xTb ∧ Cond.instantiable Cs (xnf K) ∈ xTb ∧ Cond.initialized Cs ∈ xTb ∧ ∀ j, j < xnf K → defaultValue (ty0 j) = vp_V fs j
theorem g_new (C : gCk X cc own d mc ms) (h0 : E0.length = n) {idx K j : Nat} {fs : List Value} (N : gNK own idx K fs) (hj : L.length = j) (h1 : Nat.ble (nc + 1) mc = true) (h2 : Nat.ble (ns + xnf K) ms = true) (hd : decode cc pc = .ok (.new idx, 3)) (hL : L ++ [.inr (K, fs)] = L') (k : GW X E0 (pc + 3) lv (vr X.1 (n + j) :: st) L' (nc + 1) (ns + xnf K)) : GW X E0 pc lv st L nc ns := by
  obtain ⟨G, p, e, R, s, m, args, below, meth, c, cells, slots, Q, nL⟩ := X
  obtain ⟨⟨hx, hb, hml, hown, hts, hK, hSS, hbs, hcl, hsl, hfr, hlo⟩, hA, hmc, hms⟩ := id C
  obtain ⟨Cs, T, ty0, hc, hin, hty, hlk, hinst, hini, hfs⟩ := N
  intro H locs ls hP hz hS hl hq
  have hKn := hK.1 K _ hc
  refine W.newcK hx hb hown (hts _ hlk) (hts _ hinst) (hts _ hini) rfl hd (by rw [hmc]; exact Nat.le_of_ble_eq_true h1) (by rw [hms]; exact Nat.le_of_ble_eq_true h2) hKn.2.1 (hz.trans (by rw [gl h0 hj])) fun H1 kC hkC e1 z1 o1 => ?_
  have hz' : H.size = xbs G + (n + j) := hz.trans (by rw [gl h0 hj])
  rw [← hz'] at e1 z1 o1
  obtain ⟨hP1, hz1⟩ := g_born hP hz z1 o1 (en := .inr (K, fs)) ⟨_, hc, (u_born ty0 hts hin hKn hkC e1 hty).to hfs⟩ hL
  exact W.eq (g2 := F0 m (pc + 3) ls (vr G (n + j) :: st)) rfl (k H1 locs ls hP1 hz1 (g_S hS (by omega) o1) hl (by omega))
theorem g_newa (C : gCk X cc own d mc ms) (h0 : E0.length = n) {atype : ArrayType} {ty : FieldType} {K t0 j N : Nat} {x : Int32} {a0 : vp_A} (harr : Cond.arrayClass ty ∈ xTb) (hty : newarray.typeOf atype = ty) (ht : (xtys X.1)[t0]? = some (xcy X.1 K, ty)) (hra : ∀ U cl, va_RA U cl ty → U.vm.findClass ("[" ++ ty.toString) = some cl) (ha : ∀ cA, vp_cell cA a0 = arrV cA N (fun _ => defaultValue ty)) (hx0 : ¬ x < 0) (hN : x.toNatClampNeg = N) (hby : Nat.ble (N * componentBytes ty) 536870912 = true) (hj : L.length = j) (h1 : Nat.ble (nc + 1) mc = true) (h2 : Nat.ble (ns + N) ms = true) (hd : decode cc pc = .ok (.newarray atype, 2)) (hL : L ++ [.inl (xcy X.1 K, a0)] = L') (k : GW X E0 (pc + 2) lv (vr X.1 (n + j) :: st) L' (nc + 1) (ns + N)) : GW X E0 pc lv (.int x :: st) L nc ns := by
  subst hty
  obtain ⟨G, p, e, R, s, m, args, below, meth, c, cells, slots, Q, nL⟩ := X
  obtain ⟨⟨hx, hb, hml, hown, hts, hK, hSS, hbs, hcl, hsl, hfr, hlo⟩, hA, hmc, hms⟩ := id C
  intro H locs ls hP hz hS hl hq
  have hz' : H.size = xbs G + (n + j) := hz.trans (by rw [gl h0 hj])
  refine va_newaK hx hb (hts _ harr) rfl hd rfl hx0 hN (Nat.le_of_ble_eq_true hby) (by rw [hmc]; exact Nat.le_of_ble_eq_true h1) (by rw [hms]; exact Nat.le_of_ble_eq_true h2) hz' fun H1 cA e1 z1 o1 hAr hNm => ?_
  have hcA : cA = xcy G K := Option.some.inj (hNm.symm.trans (hra _ _ (hK.2 t0 _ ht).2))
  subst hcA
  rw [← hz'] at e1 z1 o1
  obtain ⟨hP1, hz1⟩ := g_born hP hz z1 o1 (en := .inl (xcy G K, a0)) (by show H1[H.size]? = some (vp_cell _ _); rw [ha]; exact e1) hL
  exact W.eq (g2 := F0 m (pc + 2) ls (vr G (n + j) :: st)) rfl (k H1 locs ls hP1 hz1 (g_S hS (by omega) o1) hl (by omega))
theorem g_newq (C : gCk X cc own d mc ms) (h0 : E0.length = n) {Cs : String} {K t0 j N idx : Nat} {x : Int32} (hlk : Cond.classLink own idx Cs ∈ xTb) (hao : ∀ U, gAO X.1 U → va_AO Cs U) (ht : (xtys X.1)[t0]? = some (xcy X.1 K, .object Cs)) (hx0 : ¬ x < 0) (hN : x.toNatClampNeg = N) (hby : Nat.ble (N * 4) 536870912 = true) (hj : L.length = j) (h1 : Nat.ble (nc + 1) mc = true) (h2 : Nat.ble (ns + N) ms = true) (hd : decode cc pc = .ok (.anewarray idx, 3)) (hL : L ++ [.inl (xcy X.1 K, N, .inr (.inr (.inr (.inr (fun _ => none)))))] = L') (k : GW X E0 (pc + 3) lv (vr X.1 (n + j) :: st) L' (nc + 1) (ns + N)) : GW X E0 pc lv (.int x :: st) L nc ns := by
  subst hN
  obtain ⟨G, p, e, R, s, m, args, below, meth, c, cells, slots, Q, nL⟩ := X
  obtain ⟨⟨hx, hb, hml, hown, hts, hK, hSS, hbs, hcl, hsl, hfr, hlo⟩, hA, hmc, hms⟩ := id C
  intro H locs ls hP hz hS hl hq
  have hz' : H.size = xbs G + (n + j) := hz.trans (by rw [gl h0 hj])
  refine W.anew hx hb hown (hts _ hlk) (va_AO.use (hao s hA)) rfl hd rfl hx0 (Nat.le_of_ble_eq_true hby) (by rw [hmc]; exact Nat.le_of_ble_eq_true h1) (by rw [hms]; exact Nat.le_of_ble_eq_true h2) fun cA kA comp f1 f2 f3 f4 => ?_
  obtain ⟨kA', comp', k1, k2, k3, k4⟩ := (hK.2 t0 _ ht).2
  have hcA : cA = xcy G K := Option.some.inj (f1.symm.trans k4)
  subst hcA
  generalize hH1 : H.push ({ cls := xcy G K, slots := Array.replicate x.toNatClampNeg .null, vm := .none } : Cell) = H1
  have z1 : H1.size = H.size + 1 := by rw [← hH1, Array.size_push]
  have e1 : H1[H.size]? = some (arrV (xcy G K) x.toNatClampNeg (fun _ => .null)) := by rw [← hH1, Array.getElem?_push_size, ← arrV_new]
  have o1 : ∀ q : Nat, q < H.size → H1[q]? = H[q]? := fun q hq => by rw [← hH1, Array.getElem?_push, if_neg (Nat.ne_of_lt hq)]
  obtain ⟨hP1, hz1⟩ := g_born hP hz z1 o1 (en := .inl (xcy G K, x.toNatClampNeg, .inr (.inr (.inr (.inr (fun _ => none)))))) (by show H1[H.size]? = some (vp_cell _ _); rw [vp_cell_q]; exact e1) hL
  exact W.eq (g2 := F0 m (pc + 3) ls (vr G (n + j) :: st)) (by show _ = F0 m (pc + 3) ls (.ref (xbs G + (n + j)) :: st); rw [← hz']) (k H1 locs ls hP1 hz1 (g_S hS (by omega) o1) hl (by omega))
end
