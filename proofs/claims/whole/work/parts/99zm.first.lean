/-! ===== the first memory ===== -/
def M00 : xMem := (fun k => if k = 0 then (fun j => if j = 9 then -1 else 0) else if k = 146 then (fun j => if j = 18 then -1 else 0) else fun _ => 0, fun _ _ => 0, false, fun j => j)
set_option maxRecDepth 100000 in
theorem e00_a (G : xGX) : bX10 G 0 = (List.range 146).map (xce G M00) := rfl
set_option maxRecDepth 100000 in
theorem e00_b (G : xGX) : bX11 G 146 = (List.range 8).map (fun k => xce G M00 (146 + k)) := rfl
theorem top00 : TOP M00 := top_0 (fun t _ => rfl) (fun t _ => rfl) rfl rfl rfl rfl rfl (fun i j hi hj h => by
  have h : i % 10 = j % 10 := h
  omega) rfl rfl rfl rfl rfl rfl ⟨fun _ => 0, rfl⟩ rfl rfl rfl rfl
theorem gw_00 (G : xGX) : gw (xbs G) ([] ++ (bX10 G 0 ++ bX11 G 146)) = xwd G M00 := by
  have e : bX10 G 0 ++ bX11 G 146 = (List.range 154).map (xce G M00) := by
    rw [e00_a, e00_b, show (154 : Nat) = 146 + 8 from rfl, List.range_add, List.map_append, List.map_map]
    rfl
  rw [List.nil_append, e]
  unfold xwd
  apply List.ext_getElem?
  intro k
  rw [gw_get]
  by_cases hk : k < 154
  · simp [hk]
  · simp [hk]
/-- the heap behind both constructors is the first memory -/
theorem g_top {X : xCX} {pc nc ns : Nat} {lv : List (Option Value)} {st : List Value} (h1 : nc ≤ X.2.2.2.2.2.2.2.2.2.2.1) (h2 : ns ≤ X.2.2.2.2.2.2.2.2.2.2.2.1) (k : WW X pc lv st M00) : GW X [] pc lv st (bX10 X.1 0 ++ bX11 X.1 146) nc ns := by
  obtain ⟨G, p, e, R, s, m, args, below, meth, c, cells, slots, Q, nL⟩ := X
  intro H locs ls hP hz hS hl hq
  have hP : va_P (xD G) vwCl (gw (xbs G) ([] ++ (bX10 G 0 ++ bX11 G 146))) H := hP
  rw [gw_00] at hP
  exact W.widen h1 h2 (k H locs ls hP hS hl)
theorem g_astore {X : xCX} {cc : ByteArray} {own : String} {d mc ms pc nc ns : Nat} {lv : List (Option Value)} {st : List Value} {E0 L : List va_E} (C : gCk X cc own d mc ms) {q : Fin 4} {i : Nat} {x : Nat} {lv' : List (Option Value)} (hd : decode cc pc = .ok (.astore_n q, 1)) (hi : (q : Nat) = i) (hn : i < X.2.2.2.2.2.2.2.2.2.2.2.2.2) (hv : xst lv i (vr X.1 x) = lv') (k : GW X E0 (pc + 1) lv' st L nc ns) : GW X E0 pc lv (vr X.1 x :: st) L nc ns := by
  obtain ⟨G, p, e, R, s, m, args, below, meth, c, cells, slots, Q, nL⟩ := X
  obtain ⟨⟨hx, hb, hml, hown, hts, hK, hSS, hbs, hcl, hsl, hfr, hlo⟩, hA, hmc, hms⟩ := id C
  intro H locs ls hP hz hS hl hq
  exact lv_astore_n (lv := xlp 0 lv) hx hb hd hi hl hn rfl (fun ls' hl' => k H locs ls' hP hz hS (xlh_sub hl' (fun j w h => by
    rw [← hv] at h
    exact (by
    rcases xst_at h with ⟨rfl, rfl⟩ | ⟨h1, h3, h4⟩
    · exact List.mem_cons_self
    · refine List.mem_cons_of_mem _ (List.mem_filter.mpr ⟨xlp_mem.mpr ⟨j, by omega, h3⟩, ?_⟩)
      simp only [Bool.and_eq_true, Bool.not_eq_true', beq_eq_false_iff_ne, ne_eq, Bool.and_eq_false_iff]
      exact ⟨h1, by
        by_cases e : j + 1 = i
        · exact Or.inr (fun q => h4 ⟨e, q⟩)
        · exact Or.inl e⟩))) hq)
