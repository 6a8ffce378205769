/-! ===== the start ===== -/
theorem nk_L_7 : gNK RL 7 10 [.null, .null, .null, .null, .null, .null, .null, .null, .int 0, .int 0] := ⟨RX10, TX10, tyX10, rfl, xin10, tyX10_ok, (xTb_c1 20 rfl rfl), (xTb_c1 21 rfl rfl), (xTb_c1 1 rfl rfl), by decide⟩
theorem nk_L_10 : gNK RL 10 11 [.int 0, .null, .null, .null, .int 0, .int 0, .int 0, .null, .int 0, .int 0, .null, .int 0, .int 0, .int 0, .int 0, .int 0, .int 0, .int 0, .int 0, .int 0, .null, .null, .int 0, .null, .int 0] := ⟨RX11, TX11, tyX11, rfl, xin11, tyX11_ok, (xTb_c6 115 rfl rfl), (xTb_c6 116 rfl rfl), (xTb_c1 12 rfl rfl), by decide⟩
theorem dL_law_0 : decode cL_law 0 = .ok (.new 7, 3) := by decide +kernel
theorem dL_law_3 : decode cL_law 3 = .ok (.dup, 1) := by decide +kernel
theorem dL_law_4 : decode cL_law 4 = .ok (.invokespecial 9, 3) := by decide +kernel
theorem dL_law_7 : decode cL_law 7 = .ok (.astore_n 1, 1) := by decide +kernel
theorem dL_law_8 : decode cL_law 8 = .ok (.new 10, 3) := by decide +kernel
theorem dL_law_11 : decode cL_law 11 = .ok (.dup, 1) := by decide +kernel
theorem dL_law_12 : decode cL_law 12 = .ok (.invokespecial 12, 3) := by decide +kernel
theorem dL_law_15 : decode cL_law 15 = .ok (.astore_n 2, 1) := by decide +kernel
theorem dL_law_16 : decode cL_law 16 = .ok (.iconst 0, 1) := by decide +kernel
theorem dL_law_17 : decode cL_law 17 = .ok (.istore_n 3, 1) := by decide +kernel
def sPl : List Nat := [31, 129, 138, 148, 158, 168, 180, 188, 196, 204, 212, 222, 230, 240, 247, 254, 262, 271, 280, 289, 300, 307, 316, 326, 333, 343, 354, 365, 376, 389]
def sTl : List Nat := [471, 1290, 1305, 1306, 1307, 1308, 1309, 1438, 1469, 1470, 1471, 1472, 1473, 1474, 1475, 1476, 1477, 1478, 1479, 1480, 1481, 1482, 1483, 1484, 1960, 1973, 1974, 1975, 1976, 1977]
def sTm (i : Nat) : Term := .string (xso i).1 (xso i).2.1
def sFl (i : Nat) : Term := .field (sTm i) "java/lang/String" "value" "[B"
/-- what the Statement gives of a string -/
def sW (i : Nat) : List Cond := [.exactly (sTm i) "java/lang/String", .eq (.field (sTm i) "java/lang/String" "coder" "B") (.int 0), .arrayOf (sFl i) .byte, .eq (.length (sFl i)) (.int (Int32.ofNat (xsn i)))] ++ (List.range (xsn i)).map (fun j => .eq (.elem (sFl i) (.int (Int32.ofNat j))) (.int (xsc i j)))
set_option maxRecDepth 100000 in
theorem sW_ok : ∀ i, i < 30 → ((flatC narrow_1).drop (sPl.getD i 0)).take (sW i).length = sW i := by decide +kernel
set_option maxRecDepth 100000 in
theorem sT_ok : ∀ i, i < 30 → tables_1[sTl.getD i 0]? = some (Cond.stringRef (xso i).1 (xso i).2.1 (xso i).2.2) := by decide +kernel
theorem sW_in {args : Array Value} {s : State} (h : narrow_1.before args s = true) {i : Nat} (hi : i < 30) : ∀ w ∈ sW i, w.before args s = true := by
  intro w hw
  rw [← sW_ok i hi] at hw
  exact flat_of_before _ h w (List.mem_of_mem_drop (List.mem_of_mem_take hw))
theorem s_one {args : Array Value} {s : State} {A : Nat → Prop} (h : narrow_1.before args s = true) (hA : ∀ a : Nat, a < s.heap.size → ¬ A a) {i : Nat} (hi : i < 30) : ∃ q : Nat × Nat, (va_O "java/lang/String" q.1 A s s.heap ∧ va_OF "java/lang/String" "coder" "B" (.int 0) q.1 A s s.heap ∧ va_OF "java/lang/String" "value" "[B" (.ref q.2) q.1 A s s.heap ∧ va_T .byte q.2 (xsn i) (fun j => .int (xsc i j)) A s s.heap) ∧ (sTm i).eval args s none [] s = some (.ref q.1) := by
  have hw := sW_in h hi
  have hl : xsn i < 2 ^ 31 := by
    have : ∀ i, i < 30 → xsn i < 100 := by decide +kernel
    have := this i hi
    omega
  obtain ⟨adK, adV, ⟨h1, -⟩, h2⟩ := vk_Sof (args := args) (s := s) (N := 1) (tm := fun _ => sTm i) (len := [xsn i]) (byt := [(List.range (xsn i)).map (xsc i)]) (A := A)
    (fun j hj => by rw [show j = 0 by omega]; exact hl)
    (fun j hj => hw _ (List.mem_append_left _ (List.mem_of_getElem? (i := 0) rfl)))
    (fun j hj => hw _ (List.mem_append_left _ (List.mem_of_getElem? (i := 1) rfl)))
    (fun j hj => hw _ (List.mem_append_left _ (List.mem_of_getElem? (i := 2) rfl)))
    (fun j hj => by rw [show j = 0 by omega]; exact hw _ (List.mem_append_left _ (List.mem_of_getElem? (i := 3) rfl)))
    (fun j hj k hk => by
      rw [show j = 0 by omega] at hk ⊢
      have hk : k < xsn i := hk
      have e : ([(List.range (xsn i)).map (xsc i)].getD 0 []).getD k 0 = xsc i k := by
        show ((List.range (xsn i)).map (xsc i)).getD k 0 = _
        simp [List.getD, hk]
      rw [e]
      exact hw _ (List.mem_append_right _ (List.mem_map.mpr ⟨k, List.mem_range.mpr hk, rfl⟩)))
    (fun j k hj hk hn => absurd (show j = k by omega) hn) hA
  obtain ⟨a1, a2, a3, a4⟩ := h1 0 (by decide)
  refine ⟨(adK 0, adV 0), ⟨a1, a2, a3, ?_⟩, h2 0 (by decide)⟩
  obtain ⟨cell, b1, b2, b3, b4, b5, b6, b7⟩ := a4
  refine ⟨cell, b1, b2, b3, b4, b5, fun j hj => ?_, b7⟩
  rw [b6 j hj]
  have hj : j < xsn i := hj
  have e : ([(List.range (xsn i)).map (xsc i)].getD 0 []).getD j 0 = xsc i j := by
    show ((List.range (xsn i)).map (xsc i)).getD j 0 = _
    simp [List.getD, hj]
  exact congrArg (fun z => some (Value.int z)) e
theorem nm_ok : ∀ q ∈ xNM, Cond.methodLinkNest q.1 q.2.1 q.2.2.1 q.2.2.2 ∈ tables_1 := List.forall_mem_cons.mpr ⟨(List.mem_append_left _ (List.mem_of_getElem? (i := 44) rfl)), List.forall_mem_cons.mpr ⟨(List.mem_append_left _ (List.mem_of_getElem? (i := 50) rfl)), List.forall_mem_cons.mpr ⟨(List.mem_append_left _ (List.mem_of_getElem? (i := 56) rfl)), List.forall_mem_cons.mpr ⟨(List.mem_append_left _ (List.mem_of_getElem? (i := 90) rfl)), List.forall_mem_cons.mpr ⟨(List.mem_append_left _ (List.mem_of_getElem? (i := 97) rfl)), List.forall_mem_cons.mpr ⟨(List.mem_append_left _ (List.mem_of_getElem? (i := 193) rfl)), List.forall_mem_cons.mpr ⟨(List.mem_append_left _ (List.mem_of_getElem? (i := 226) rfl)), List.forall_mem_cons.mpr ⟨(List.mem_append_right _ (List.mem_append_left _ (List.mem_of_getElem? (i := 58) rfl))), List.forall_mem_cons.mpr ⟨(List.mem_append_right _ (List.mem_append_left _ (List.mem_of_getElem? (i := 98) rfl))), List.forall_mem_cons.mpr ⟨(List.mem_append_right _ (List.mem_append_left _ (List.mem_of_getElem? (i := 112) rfl))), List.forall_mem_cons.mpr ⟨(List.mem_append_right _ (List.mem_append_left _ (List.mem_of_getElem? (i := 114) rfl))), List.forall_mem_cons.mpr ⟨(List.mem_append_right _ (List.mem_append_left _ (List.mem_of_getElem? (i := 116) rfl))), List.forall_mem_cons.mpr ⟨(List.mem_append_right _ (List.mem_append_right _ (List.mem_append_left _ (List.mem_of_getElem? (i := 72) rfl)))), List.forall_mem_cons.mpr ⟨(List.mem_append_right _ (List.mem_append_right _ (List.mem_append_right _ (List.mem_append_left _ (List.mem_of_getElem? (i := 176) rfl))))), fun _ h => absurd h List.not_mem_nil⟩⟩⟩⟩⟩⟩⟩⟩⟩⟩⟩⟩⟩⟩
theorem nf_ok : ∀ q ∈ xNF, Cond.fieldLinkNest q.1 q.2.1 q.2.2.1 q.2.2.2.1 q.2.2.2.2.1 q.2.2.2.2.2 ∈ tables_1 := List.forall_mem_cons.mpr ⟨(List.mem_append_left _ (List.mem_of_getElem? (i := 61) rfl)), fun _ h => absurd h List.not_mem_nil⟩
theorem ws_1 : Cond.laysStatic "java/lang/String" "COMPACT_STRINGS" "Z" ∈ tables_1 := (List.mem_append_right _ (List.mem_append_right _ (List.mem_append_left _ (List.mem_of_getElem? (i := 1) rfl))))
theorem ws_2 : Cond.laysStatic "jdk/internal/util/Preconditions" "SIOOBE_FORMATTER" "Ljava/util/function/BiFunction;" ∈ tables_1 := (List.mem_append_right _ (List.mem_append_right _ (List.mem_append_left _ (List.mem_of_getElem? (i := 17) rfl))))
theorem ws_3 : Cond.initialized "java/lang/String" ∈ tables_1 := (List.mem_append_left _ (List.mem_of_getElem? (i := 14) rfl))
theorem ws_4 : Cond.initialized "jdk/internal/util/Preconditions" ∈ tables_1 := (List.mem_append_left _ (List.mem_of_getElem? (i := 16) rfl))
theorem ws_5 : Cond.arrayOver (.object RX7) ∈ tables_1 := (List.mem_append_left _ (List.mem_of_getElem? (i := 95) rfl))
theorem ws_6 : Cond.arrayOver (.object RX9) ∈ tables_1 := (List.mem_append_right _ (List.mem_append_left _ (List.mem_of_getElem? (i := 97) rfl)))
theorem ws_7 : Cond.arrayOver (.array .int) ∈ tables_1 := (List.mem_append_left _ (List.mem_of_getElem? (i := 198) rfl))
theorem ws_8 : Cond.eq (.static "java/lang/String" "COMPACT_STRINGS" "Z") (.int 1) ∈ flatC narrow_1 := List.mem_of_getElem? (i := 2) rfl
theorem ws_9 : Cond.isRef (.static "jdk/internal/util/Preconditions" "SIOOBE_FORMATTER" "Ljava/util/function/BiFunction;") ∈ flatC narrow_1 := List.mem_of_getElem? (i := 3) rfl
theorem s_known {ts : List Cond} {args : Array Value} {s : State} (hts : ∀ w ∈ xTb, w.before args s = true) : ∃ (dC : Nat → ClassId) (dI : Nat → Nat → Nat), ∀ (k : Nat) (q : vw_C), vwCl[k]? = some q → u_Kn s q.1 q.2.1 q.2.2 (dC k) (dI k) := by
  have h0 : ∀ k : Nat, ∃ d : ClassId × (Nat → Nat), ∀ q : vw_C, vwCl[k]? = some q → u_Kn s q.1 q.2.1 q.2.2 d.1 d.2 := by
    intro k
    match k with
    | 0 => obtain ⟨c, iS, h⟩ := u_known (C := RX0) (T := TX0) (N := 3) (n := 3) hts xin0 (hts _ (xTb_c2 91 rfl rfl)); exact ⟨(c, iS), fun q hq => by cases hq; exact h⟩
    | 1 => obtain ⟨c, iS, h⟩ := u_known (C := RX1) (T := TX1) (N := 6) (n := 6) hts xin1 (hts _ (xTb_c1 192 rfl rfl)); exact ⟨(c, iS), fun q hq => by cases hq; exact h⟩
    | 2 => obtain ⟨c, iS, h⟩ := u_known (C := RX2) (T := TX2) (N := 5) (n := 5) hts xin2 (hts _ (xTb_c1 43 rfl rfl)); exact ⟨(c, iS), fun q hq => by cases hq; exact h⟩
    | 3 => obtain ⟨c, iS, h⟩ := u_known (C := RX3) (T := TX3) (N := 10) (n := 10) hts xin3 (hts _ (xTb_c2 52 rfl rfl)); exact ⟨(c, iS), fun q hq => by cases hq; exact h⟩
    | 4 => obtain ⟨c, iS, h⟩ := u_known (C := RX4) (T := TX4) (N := 6) (n := 6) hts xin4 (hts _ (xTb_c1 225 rfl rfl)); exact ⟨(c, iS), fun q hq => by cases hq; exact h⟩
    | 5 => obtain ⟨c, iS, h⟩ := u_known (C := RX5) (T := TX5) (N := 3) (n := 3) hts xin5 (hts _ (xTb_c1 55 rfl rfl)); exact ⟨(c, iS), fun q hq => by cases hq; exact h⟩
    | 6 => obtain ⟨c, iS, h⟩ := u_known (C := RX6) (T := TX6) (N := 2) (n := 2) hts xin6 (hts _ (xTb_c1 29 rfl rfl)); exact ⟨(c, iS), fun q hq => by cases hq; exact h⟩
    | 7 => obtain ⟨c, iS, h⟩ := u_known (C := RX7) (T := TX7) (N := 10) (n := 10) hts xin7 (hts _ (xTb_c1 96 rfl rfl)); exact ⟨(c, iS), fun q hq => by cases hq; exact h⟩
    | 8 => obtain ⟨c, iS, h⟩ := u_known (C := RX8) (T := TX8) (N := 9) (n := 9) hts xin8 (hts _ (xTb_c1 89 rfl rfl)); exact ⟨(c, iS), fun q hq => by cases hq; exact h⟩
    | 9 => obtain ⟨c, iS, h⟩ := u_known (C := RX9) (T := TX9) (N := 3) (n := 3) hts xin9 (hts _ (xTb_c1 49 rfl rfl)); exact ⟨(c, iS), fun q hq => by cases hq; exact h⟩
    | 10 => obtain ⟨c, iS, h⟩ := u_known (C := RX10) (T := TX10) (N := 10) (n := 10) hts xin10 (hts _ (xTb_c1 21 rfl rfl)); exact ⟨(c, iS), fun q hq => by cases hq; exact h⟩
    | 11 => obtain ⟨c, iS, h⟩ := u_known (C := RX11) (T := TX11) (N := 25) (n := 25) hts xin11 (hts _ (xTb_c6 116 rfl rfl)); exact ⟨(c, iS), fun q hq => by cases hq; exact h⟩
    | k + 12 => exact ⟨((0 : Nat), fun _ => 0), fun q hq => by simp [vwCl] at hq⟩
  obtain ⟨d, hd⟩ := Classical.axiomOfChoice h0
  exact ⟨fun k => (d k).1, fun k => (d k).2, hd⟩
theorem s_G {args : Array Value} {s : State} (l : Launch) (hts : ∀ w ∈ lw_tbl, w.before args s = true) (hn : narrow_1.before args s = true) : ∃ G : xGX, G.1 = l ∧ xbs G = s.heap.size ∧ va_K (xD G) vwCl (xtys G) s ∧ xSS G s ∧ gAO G s := by
  have htx : ∀ w ∈ xTb, w.before args s = true := fun w h => hts w (List.mem_filter.mp h).1
  have htt : ∀ w ∈ tables_1, w.before args s = true := fun w h => hts w (List.mem_append_right _ h)
  obtain ⟨dC, dI, hKc⟩ := s_known (ts := []) htx
  obtain ⟨c12, k12, e12, f12, g12, i12⟩ := Cond.arrayClass_spec (htx _ wa_byte)
  obtain ⟨c13, k13, e13, f13, g13, i13⟩ := Cond.arrayClass_spec (htx _ wa_int)
  obtain ⟨c14, k14, e14, f14, g14, i14⟩ := Cond.arrayClass_spec (htx _ wa_long)
  obtain ⟨c15, k15, e15, f15, g15, i15⟩ := Cond.arrayClass_spec (htx _ wa_boolean)
  obtain ⟨o16, c16, k16, a16, -, f16, g16, i16⟩ := Cond.arrayOver_spec (htt _ ws_5)
  obtain ⟨o17, c17, k17, a17, -, f17, g17, i17⟩ := Cond.arrayOver_spec (htt _ ws_6)
  obtain ⟨o18, c18, k18, a18, -, f18, g18, i18⟩ := arrayOverA_spec (htt _ ws_7)
  have h1318 : o18 = c13 := Option.some.inj (a18.symm.trans f13)
  subst h1318
  have hA0 : ∀ a : Nat, a < s.heap.size → ¬ (fun q : Nat => s.heap.size ≤ q) a := fun a h => Nat.not_le.mpr h
  have hs0 : ∀ i : Nat, ∃ q : Nat × Nat, i < 30 → (va_O "java/lang/String" q.1 (fun q : Nat => s.heap.size ≤ q) s s.heap ∧ va_OF "java/lang/String" "coder" "B" (.int 0) q.1 (fun q : Nat => s.heap.size ≤ q) s s.heap ∧ va_OF "java/lang/String" "value" "[B" (.ref q.2) q.1 (fun q : Nat => s.heap.size ≤ q) s s.heap ∧ va_T .byte q.2 (xsn i) (fun j => .int (xsc i j)) (fun q : Nat => s.heap.size ≤ q) s s.heap) ∧ (sTm i).eval args s none [] s = some (.ref q.1) := by
    intro i
    by_cases hi : i < 30
    · obtain ⟨q, hq⟩ := s_one hn hA0 hi
      exact ⟨q, fun _ => hq⟩
    · exact ⟨(0, 0), fun h => absurd h hi⟩
  obtain ⟨ad, had⟩ := Classical.axiomOfChoice hs0
  refine ⟨(l, dC, dI, fun k => if k = 12 then c12 else if k = 13 then o18 else if k = 14 then c14 else if k = 15 then c15 else if k = 16 then c16 else if k = 17 then c17 else c18, s.heap.size, fun i => (ad i).1, fun i => (ad i).2), rfl, rfl, ⟨hKc, ?_⟩, ⟨fun i hi => (had i hi).1, va_Zof (htt _ ws_1) (htt _ ws_3) (va_eqi (flat_of_before _ hn _ ws_8)) hA0, fun i hi => vk_R.of (htt _ (List.mem_of_getElem? (sT_ok i hi))) (had i hi).2, va_Zqof (htt _ ws_2) (htt _ ws_4) (flat_of_before _ hn _ ws_9) hA0, fun q hq => va_Nw.of rfl (htt _ (nm_ok q hq)), fun q hq => va_Nw.of rfl (htt _ (nf_ok q hq))⟩, va_AO.of (htt _ ws_5), va_AO.of (htt _ ws_6), k18, k13, e13, f18, g18, g13, i13⟩
  intro k q hq
  match k, hq with
  | 0, hq => cases hq; exact ⟨fun n z => ⟨fun k h => (by cases h), k12, g12, e12, i12⟩, f12⟩
  | 1, hq => cases hq; exact ⟨fun n z => ⟨fun k h => (by cases h), k13, g13, e13, i13⟩, f13⟩
  | 2, hq => cases hq; exact ⟨fun n z => ⟨fun k h => (by cases h), k14, g14, e14, i14⟩, f14⟩
  | 3, hq => cases hq; exact ⟨fun n z => ⟨fun k h => (by cases h), k15, g15, e15, i15⟩, f15⟩
  | 4, hq => cases hq; exact ⟨fun n z => ⟨fun k h => (by cases h), k16, f16, o16, g16⟩, k16, o16, f16, g16, a16, i16⟩
  | 5, hq => cases hq; exact ⟨fun n z => ⟨fun k h => (by cases h), k17, f17, o17, g17⟩, k17, o17, f17, g17, a17, i17⟩
  | 6, hq => cases hq; exact ⟨fun n z => ⟨fun k h => (by cases h), k18, f18, o18, g18⟩, i18⟩
  | k + 7, hq => simp [xtys] at hq
