theorem r_iload_n {X : xCX} {cc : ByteArray} {own : String} {d pc : Nat} {lv : List (Option Value)} {st : List Value} {M : xMem} (C : xCk X cc own d) {q : Fin 4} {i : Nat} {x : Int32} (hd : decode cc pc = .ok (.iload_n q, 1)) (hi : (q : Nat) = i) (hv : lv[i]? = some (some (.int x))) (k : WW X (pc + 1) lv (.int x :: st) M) : WW X pc lv (st) M := by
  obtain ⟨G, p, e, R, s, m, args, below, meth, c, cells, slots, Q, nL⟩ := X
  obtain ⟨hx, hb, hml, hown, hts, hK, hSS, hbs, hcl, hsl, hfr, hlo⟩ := id C
  intro H locs ls hP hS hl
  exact lv_iload_n hx hb hd hi (xlh_at hl hv) (k H locs ls hP hS hl)
theorem r_iload {X : xCX} {cc : ByteArray} {own : String} {d pc : Nat} {lv : List (Option Value)} {st : List Value} {M : xMem} (C : xCk X cc own d) {i : Nat} {x : Int32} (hd : decode cc pc = .ok (.iload i, 2)) (hv : lv[i]? = some (some (.int x))) (k : WW X (pc + 2) lv (.int x :: st) M) : WW X pc lv (st) M := by
  obtain ⟨G, p, e, R, s, m, args, below, meth, c, cells, slots, Q, nL⟩ := X
  obtain ⟨hx, hb, hml, hown, hts, hK, hSS, hbs, hcl, hsl, hfr, hlo⟩ := id C
  intro H locs ls hP hS hl
  exact lv_iload hx hb hd (xlh_at hl hv) (k H locs ls hP hS hl)
theorem r_lload_n {X : xCX} {cc : ByteArray} {own : String} {d pc : Nat} {lv : List (Option Value)} {st : List Value} {M : xMem} (C : xCk X cc own d) {q : Fin 4} {i : Nat} {x : Int64} (hd : decode cc pc = .ok (.lload_n q, 1)) (hi : (q : Nat) = i) (hv : lv[i]? = some (some (.long x))) (k : WW X (pc + 1) lv (.long x :: st) M) : WW X pc lv (st) M := by
  obtain ⟨G, p, e, R, s, m, args, below, meth, c, cells, slots, Q, nL⟩ := X
  obtain ⟨hx, hb, hml, hown, hts, hK, hSS, hbs, hcl, hsl, hfr, hlo⟩ := id C
  intro H locs ls hP hS hl
  exact lv_lload_n hx hb hd hi (xlh_at hl hv) (k H locs ls hP hS hl)
theorem r_lload {X : xCX} {cc : ByteArray} {own : String} {d pc : Nat} {lv : List (Option Value)} {st : List Value} {M : xMem} (C : xCk X cc own d) {i : Nat} {x : Int64} (hd : decode cc pc = .ok (.lload i, 2)) (hv : lv[i]? = some (some (.long x))) (k : WW X (pc + 2) lv (.long x :: st) M) : WW X pc lv (st) M := by
  obtain ⟨G, p, e, R, s, m, args, below, meth, c, cells, slots, Q, nL⟩ := X
  obtain ⟨hx, hb, hml, hown, hts, hK, hSS, hbs, hcl, hsl, hfr, hlo⟩ := id C
  intro H locs ls hP hS hl
  exact lv_lload hx hb hd (xlh_at hl hv) (k H locs ls hP hS hl)
theorem r_aload_n {X : xCX} {cc : ByteArray} {own : String} {d pc : Nat} {lv : List (Option Value)} {st : List Value} {M : xMem} (C : xCk X cc own d) {q : Fin 4} {i a : Nat} (hd : decode cc pc = .ok (.aload_n q, 1)) (hi : (q : Nat) = i) (hv : lv[i]? = some (some (vr X.1 a))) (k : WW X (pc + 1) lv (vr X.1 a :: st) M) : WW X pc lv (st) M := by
  obtain ⟨G, p, e, R, s, m, args, below, meth, c, cells, slots, Q, nL⟩ := X
  obtain ⟨hx, hb, hml, hown, hts, hK, hSS, hbs, hcl, hsl, hfr, hlo⟩ := id C
  intro H locs ls hP hS hl
  exact lv_aload_n hx hb hd hi (xlh_at hl hv) (k H locs ls hP hS hl)
theorem r_aload {X : xCX} {cc : ByteArray} {own : String} {d pc : Nat} {lv : List (Option Value)} {st : List Value} {M : xMem} (C : xCk X cc own d) {i a : Nat} (hd : decode cc pc = .ok (.aload i, 2)) (hv : lv[i]? = some (some (vr X.1 a))) (k : WW X (pc + 2) lv (vr X.1 a :: st) M) : WW X pc lv (st) M := by
  obtain ⟨G, p, e, R, s, m, args, below, meth, c, cells, slots, Q, nL⟩ := X
  obtain ⟨hx, hb, hml, hown, hts, hK, hSS, hbs, hcl, hsl, hfr, hlo⟩ := id C
  intro H locs ls hP hS hl
  exact lv_aload hx hb hd (xlh_at hl hv) (k H locs ls hP hS hl)
theorem r_sload_n {X : xCX} {cc : ByteArray} {own : String} {d pc : Nat} {lv : List (Option Value)} {st : List Value} {M : xMem} (C : xCk X cc own d) {q : Fin 4} {i a : Nat} (hd : decode cc pc = .ok (.aload_n q, 1)) (hi : (q : Nat) = i) (hv : lv[i]? = some (some (vs X.1 a))) (k : WW X (pc + 1) lv (vs X.1 a :: st) M) : WW X pc lv (st) M := by
  obtain ⟨G, p, e, R, s, m, args, below, meth, c, cells, slots, Q, nL⟩ := X
  obtain ⟨hx, hb, hml, hown, hts, hK, hSS, hbs, hcl, hsl, hfr, hlo⟩ := id C
  intro H locs ls hP hS hl
  exact lv_aload_n hx hb hd hi (xlh_at hl hv) (k H locs ls hP hS hl)
theorem r_istore_n {X : xCX} {cc : ByteArray} {own : String} {d pc : Nat} {lv : List (Option Value)} {st : List Value} {M : xMem} (C : xCk X cc own d) {q : Fin 4} {i : Nat} {x : Int32} {lv' : List (Option Value)} (hd : decode cc pc = .ok (.istore_n q, 1)) (hi : (q : Nat) = i) (hn : i < X.2.2.2.2.2.2.2.2.2.2.2.2.2) (hv : xst lv i (.int x) = lv') (k : WW X (pc + 1) lv' (st) M) : WW X pc lv (.int x :: st) M := by
  obtain ⟨G, p, e, R, s, m, args, below, meth, c, cells, slots, Q, nL⟩ := X
  obtain ⟨hx, hb, hml, hown, hts, hK, hSS, hbs, hcl, hsl, hfr, hlo⟩ := id C
  intro H locs ls hP hS hl
  exact lv_istore_n (lv := xlp 0 lv) hx hb hd hi hl hn rfl (fun ls' hl' => k H locs ls' hP hS (xlh_sub hl' (fun j w h => by
    rw [← hv] at h
    exact (by
    rcases xst_at h with ⟨rfl, rfl⟩ | ⟨h1, h3, h4⟩
    · exact List.mem_cons_self
    · refine List.mem_cons_of_mem _ (List.mem_filter.mpr ⟨xlp_mem.mpr ⟨j, by omega, h3⟩, ?_⟩)
      simp only [Bool.and_eq_true, Bool.not_eq_true', beq_eq_false_iff_ne, ne_eq, Bool.and_eq_false_iff]
      exact ⟨h1, by
        by_cases e : j + 1 = i
        · exact Or.inr (fun q => h4 ⟨e, q⟩)
        · exact Or.inl e⟩))))
theorem r_istore {X : xCX} {cc : ByteArray} {own : String} {d pc : Nat} {lv : List (Option Value)} {st : List Value} {M : xMem} (C : xCk X cc own d)  {i : Nat} {x : Int32} {lv' : List (Option Value)} (hd : decode cc pc = .ok (.istore i, 2)) (hn : i < X.2.2.2.2.2.2.2.2.2.2.2.2.2) (hv : xst lv i (.int x) = lv') (k : WW X (pc + 2) lv' (st) M) : WW X pc lv (.int x :: st) M := by
  obtain ⟨G, p, e, R, s, m, args, below, meth, c, cells, slots, Q, nL⟩ := X
  obtain ⟨hx, hb, hml, hown, hts, hK, hSS, hbs, hcl, hsl, hfr, hlo⟩ := id C
  intro H locs ls hP hS hl
  exact lv_istore (lv := xlp 0 lv) hx hb hd hl hn rfl (fun ls' hl' => k H locs ls' hP hS (xlh_sub hl' (fun j w h => by
    rw [← hv] at h
    exact (by
    rcases xst_at h with ⟨rfl, rfl⟩ | ⟨h1, h3, h4⟩
    · exact List.mem_cons_self
    · refine List.mem_cons_of_mem _ (List.mem_filter.mpr ⟨xlp_mem.mpr ⟨j, by omega, h3⟩, ?_⟩)
      simp only [Bool.and_eq_true, Bool.not_eq_true', beq_eq_false_iff_ne, ne_eq, Bool.and_eq_false_iff]
      exact ⟨h1, by
        by_cases e : j + 1 = i
        · exact Or.inr (fun q => h4 ⟨e, q⟩)
        · exact Or.inl e⟩))))
theorem r_astore_n {X : xCX} {cc : ByteArray} {own : String} {d pc : Nat} {lv : List (Option Value)} {st : List Value} {M : xMem} (C : xCk X cc own d) {q : Fin 4} {i : Nat} {x : Nat} {lv' : List (Option Value)} (hd : decode cc pc = .ok (.astore_n q, 1)) (hi : (q : Nat) = i) (hn : i < X.2.2.2.2.2.2.2.2.2.2.2.2.2) (hv : xst lv i (vr X.1 x) = lv') (k : WW X (pc + 1) lv' (st) M) : WW X pc lv (vr X.1 x :: st) M := by
  obtain ⟨G, p, e, R, s, m, args, below, meth, c, cells, slots, Q, nL⟩ := X
  obtain ⟨hx, hb, hml, hown, hts, hK, hSS, hbs, hcl, hsl, hfr, hlo⟩ := id C
  intro H locs ls hP hS hl
  exact lv_astore_n (lv := xlp 0 lv) hx hb hd hi hl hn rfl (fun ls' hl' => k H locs ls' hP hS (xlh_sub hl' (fun j w h => by
    rw [← hv] at h
    exact (by
    rcases xst_at h with ⟨rfl, rfl⟩ | ⟨h1, h3, h4⟩
    · exact List.mem_cons_self
    · refine List.mem_cons_of_mem _ (List.mem_filter.mpr ⟨xlp_mem.mpr ⟨j, by omega, h3⟩, ?_⟩)
      simp only [Bool.and_eq_true, Bool.not_eq_true', beq_eq_false_iff_ne, ne_eq, Bool.and_eq_false_iff]
      exact ⟨h1, by
        by_cases e : j + 1 = i
        · exact Or.inr (fun q => h4 ⟨e, q⟩)
        · exact Or.inl e⟩))))
theorem r_astore {X : xCX} {cc : ByteArray} {own : String} {d pc : Nat} {lv : List (Option Value)} {st : List Value} {M : xMem} (C : xCk X cc own d)  {i : Nat} {x : Nat} {lv' : List (Option Value)} (hd : decode cc pc = .ok (.astore i, 2)) (hn : i < X.2.2.2.2.2.2.2.2.2.2.2.2.2) (hv : xst lv i (vr X.1 x) = lv') (k : WW X (pc + 2) lv' (st) M) : WW X pc lv (vr X.1 x :: st) M := by
  obtain ⟨G, p, e, R, s, m, args, below, meth, c, cells, slots, Q, nL⟩ := X
  obtain ⟨hx, hb, hml, hown, hts, hK, hSS, hbs, hcl, hsl, hfr, hlo⟩ := id C
  intro H locs ls hP hS hl
  exact lv_astore (lv := xlp 0 lv) hx hb hd hl hn rfl (fun ls' hl' => k H locs ls' hP hS (xlh_sub hl' (fun j w h => by
    rw [← hv] at h
    exact (by
    rcases xst_at h with ⟨rfl, rfl⟩ | ⟨h1, h3, h4⟩
    · exact List.mem_cons_self
    · refine List.mem_cons_of_mem _ (List.mem_filter.mpr ⟨xlp_mem.mpr ⟨j, by omega, h3⟩, ?_⟩)
      simp only [Bool.and_eq_true, Bool.not_eq_true', beq_eq_false_iff_ne, ne_eq, Bool.and_eq_false_iff]
      exact ⟨h1, by
        by_cases e : j + 1 = i
        · exact Or.inr (fun q => h4 ⟨e, q⟩)
        · exact Or.inl e⟩))))
theorem r_lstore_n {X : xCX} {cc : ByteArray} {own : String} {d pc : Nat} {lv : List (Option Value)} {st : List Value} {M : xMem} (C : xCk X cc own d) {q : Fin 4} {i : Nat} {x : Int64} {lv' : List (Option Value)} (hd : decode cc pc = .ok (.lstore_n q, 1)) (hi : (q : Nat) = i) (hn : i + 1 < X.2.2.2.2.2.2.2.2.2.2.2.2.2) (hv : xst2 lv i (.long x) = lv') (k : WW X (pc + 1) lv' (st) M) : WW X pc lv (.long x :: st) M := by
  obtain ⟨G, p, e, R, s, m, args, below, meth, c, cells, slots, Q, nL⟩ := X
  obtain ⟨hx, hb, hml, hown, hts, hK, hSS, hbs, hcl, hsl, hfr, hlo⟩ := id C
  intro H locs ls hP hS hl
  exact lv_lstore_n (lv := xlp 0 lv) hx hb hd hi hl hn rfl (fun ls' hl' => k H locs ls' hP hS (xlh_sub hl' (fun j w h => by
    rw [← hv] at h
    exact (by
    rcases xst2_at h with ⟨rfl, rfl⟩ | ⟨h1, h2, h3, h4⟩
    · exact List.mem_cons_self
    · refine List.mem_cons_of_mem _ (List.mem_filter.mpr ⟨xlp_mem.mpr ⟨j, by omega, h3⟩, ?_⟩)
      simp only [Bool.and_eq_true, Bool.not_eq_true', beq_eq_false_iff_ne, ne_eq, Bool.and_eq_false_iff]
      exact ⟨h1, h2, by
        by_cases e : j + 1 = i
        · exact Or.inr (fun q => h4 ⟨e, q⟩)
        · exact Or.inl e⟩))))
theorem r_lstore {X : xCX} {cc : ByteArray} {own : String} {d pc : Nat} {lv : List (Option Value)} {st : List Value} {M : xMem} (C : xCk X cc own d)  {i : Nat} {x : Int64} {lv' : List (Option Value)} (hd : decode cc pc = .ok (.lstore i, 2)) (hn : i + 1 < X.2.2.2.2.2.2.2.2.2.2.2.2.2) (hv : xst2 lv i (.long x) = lv') (k : WW X (pc + 2) lv' (st) M) : WW X pc lv (.long x :: st) M := by
  obtain ⟨G, p, e, R, s, m, args, below, meth, c, cells, slots, Q, nL⟩ := X
  obtain ⟨hx, hb, hml, hown, hts, hK, hSS, hbs, hcl, hsl, hfr, hlo⟩ := id C
  intro H locs ls hP hS hl
  exact lv_lstore (lv := xlp 0 lv) hx hb hd hl hn rfl (fun ls' hl' => k H locs ls' hP hS (xlh_sub hl' (fun j w h => by
    rw [← hv] at h
    exact (by
    rcases xst2_at h with ⟨rfl, rfl⟩ | ⟨h1, h2, h3, h4⟩
    · exact List.mem_cons_self
    · refine List.mem_cons_of_mem _ (List.mem_filter.mpr ⟨xlp_mem.mpr ⟨j, by omega, h3⟩, ?_⟩)
      simp only [Bool.and_eq_true, Bool.not_eq_true', beq_eq_false_iff_ne, ne_eq, Bool.and_eq_false_iff]
      exact ⟨h1, h2, by
        by_cases e : j + 1 = i
        · exact Or.inr (fun q => h4 ⟨e, q⟩)
        · exact Or.inl e⟩))))
theorem r_iinc {X : xCX} {cc : ByteArray} {own : String} {d pc : Nat} {lv : List (Option Value)} {st : List Value} {M : xMem} (C : xCk X cc own d) {i : Nat} {n : Int} {x v : Int32} {lv' : List (Option Value)} (hd : decode cc pc = .ok (.iinc i n, 3)) (hi : lv[i]? = some (some (.int x))) (hw : x + Int32.ofInt n = v) (hn : i < X.2.2.2.2.2.2.2.2.2.2.2.2.2) (hv : xst lv i (.int v) = lv') (k : WW X (pc + 3) lv' (st) M) : WW X pc lv (st) M := by
  obtain ⟨G, p, e, R, s, m, args, below, meth, c, cells, slots, Q, nL⟩ := X
  obtain ⟨hx, hb, hml, hown, hts, hK, hSS, hbs, hcl, hsl, hfr, hlo⟩ := id C
  intro H locs ls hP hS hl
  obtain ⟨q, hq⟩ := List.getElem?_of_mem (xlp_mem (n := 0) (q := (i, .int x)) |>.mpr ⟨i, by omega, hi⟩)
  exact lv_iinc (lv := xlp 0 lv) (k := q) hx hb hd hl hq hw hn rfl (fun ls' hl' => k H locs ls' hP hS (xlh_sub hl' (fun j w h => by
    rw [← hv] at h
    rcases xst_at h with ⟨rfl, rfl⟩ | ⟨h1, h3, h4⟩
    · exact List.mem_cons_self
    · refine List.mem_cons_of_mem _ (List.mem_filter.mpr ⟨xlp_mem.mpr ⟨j, by omega, h3⟩, ?_⟩)
      simp only [Bool.and_eq_true, Bool.not_eq_true', beq_eq_false_iff_ne, ne_eq, Bool.and_eq_false_iff]
      exact ⟨h1, by
        by_cases e : j + 1 = i
        · exact Or.inr (fun q => h4 ⟨e, q⟩)
        · exact Or.inl e⟩)))
theorem r_iconst {X : xCX} {cc : ByteArray} {own : String} {d pc : Nat} {lv : List (Option Value)} {st : List Value} {M : xMem} (C : xCk X cc own d) {n : Int} {v : Int32} (hd : decode cc pc = .ok (.iconst n, 1)) (hv : Int32.ofInt n = v) (k : WW X (pc + 1) lv (.int v :: st) M) : WW X pc lv (st) M := by
  obtain ⟨G, p, e, R, s, m, args, below, meth, c, cells, slots, Q, nL⟩ := X
  obtain ⟨hx, hb, hml, hown, hts, hK, hSS, hbs, hcl, hsl, hfr, hlo⟩ := id C
  intro H locs ls hP hS hl
  exact lv_iconst hx hb hd hv (k H locs ls hP hS hl)
theorem r_bipush {X : xCX} {cc : ByteArray} {own : String} {d pc : Nat} {lv : List (Option Value)} {st : List Value} {M : xMem} (C : xCk X cc own d) {n : Int} {v : Int32} (hd : decode cc pc = .ok (.bipush n, 2)) (hv : (Int8.ofInt n).toInt32 = v) (k : WW X (pc + 2) lv (.int v :: st) M) : WW X pc lv (st) M := by
  obtain ⟨G, p, e, R, s, m, args, below, meth, c, cells, slots, Q, nL⟩ := X
  obtain ⟨hx, hb, hml, hown, hts, hK, hSS, hbs, hcl, hsl, hfr, hlo⟩ := id C
  intro H locs ls hP hS hl
  exact lv_bipush hx hb hd hv (k H locs ls hP hS hl)
theorem r_sipush {X : xCX} {cc : ByteArray} {own : String} {d pc : Nat} {lv : List (Option Value)} {st : List Value} {M : xMem} (C : xCk X cc own d) {n : Int} {v : Int32} (hd : decode cc pc = .ok (.sipush n, 3)) (hv : (Int16.ofInt n).toInt32 = v) (k : WW X (pc + 3) lv (.int v :: st) M) : WW X pc lv (st) M := by
  obtain ⟨G, p, e, R, s, m, args, below, meth, c, cells, slots, Q, nL⟩ := X
  obtain ⟨hx, hb, hml, hown, hts, hK, hSS, hbs, hcl, hsl, hfr, hlo⟩ := id C
  intro H locs ls hP hS hl
  exact lv_sipush hx hb hd hv (k H locs ls hP hS hl)
theorem r_lconst {X : xCX} {cc : ByteArray} {own : String} {d pc : Nat} {lv : List (Option Value)} {st : List Value} {M : xMem} (C : xCk X cc own d) {n : Fin 2} {v : Int64} (hd : decode cc pc = .ok (.lconst n, 1)) (hv : Int64.ofNat (n : Nat) = v) (k : WW X (pc + 1) lv (.long v :: st) M) : WW X pc lv (st) M := by
  obtain ⟨G, p, e, R, s, m, args, below, meth, c, cells, slots, Q, nL⟩ := X
  obtain ⟨hx, hb, hml, hown, hts, hK, hSS, hbs, hcl, hsl, hfr, hlo⟩ := id C
  intro H locs ls hP hS hl
  exact lv_lconst hx hb hd hv (k H locs ls hP hS hl)
theorem r_ldc {X : xCX} {cc : ByteArray} {own : String} {d pc : Nat} {lv : List (Option Value)} {st : List Value} {M : xMem} (C : xCk X cc own d) {n : Nat} {v : Int32} (hw : Cond.constant own n v ∈ xTb) (hd : decode cc pc = .ok (.ldc n, 2)) (k : WW X (pc + 2) lv (.int v :: st) M) : WW X pc lv (st) M := by
  obtain ⟨G, p, e, R, s, m, args, below, meth, c, cells, slots, Q, nL⟩ := X
  obtain ⟨hx, hb, hml, hown, hts, hK, hSS, hbs, hcl, hsl, hfr, hlo⟩ := id C
  intro H locs ls hP hS hl
  exact lv_ldc hx hb hown (hts _ hw) hd (k H locs ls hP hS hl)
theorem r_ldc2 {X : xCX} {cc : ByteArray} {own : String} {d pc : Nat} {lv : List (Option Value)} {st : List Value} {M : xMem} (C : xCk X cc own d) {n : Nat} {v : Int64} (hw : Cond.constantLong own n v ∈ xTb) (hd : decode cc pc = .ok (.ldc2_w n, 3)) (k : WW X (pc + 3) lv (.long v :: st) M) : WW X pc lv (st) M := by
  obtain ⟨G, p, e, R, s, m, args, below, meth, c, cells, slots, Q, nL⟩ := X
  obtain ⟨hx, hb, hml, hown, hts, hK, hSS, hbs, hcl, hsl, hfr, hlo⟩ := id C
  intro H locs ls hP hS hl
  exact lv_ldc2 hx hb hown (hts _ hw) hd (k H locs ls hP hS hl)
theorem r_ldcS {X : xCX} {cc : ByteArray} {own : String} {d pc : Nat} {lv : List (Option Value)} {st : List Value} {M : xMem} (C : xCk X cc own d) {i : Nat} (hi : i < 30) (ho : (xso i).1 = own) (hd : decode cc pc = .ok (.ldc (xso i).2.1, 2)) (k : WW X (pc + 2) lv (vs X.1 i :: st) M) : WW X pc lv (st) M := by
  obtain ⟨G, p, e, R, s, m, args, below, meth, c, cells, slots, Q, nL⟩ := X
  obtain ⟨hx, hb, hml, hown, hts, hK, hSS, hbs, hcl, hsl, hfr, hlo⟩ := id C
  intro H locs ls hP hS hl
  exact va_ldcS hx hb (by rw [ho]; exact hown) (hSS.2.2.1 i hi) hd (k H locs ls hP hS hl)
theorem r_iadd {X : xCX} {cc : ByteArray} {own : String} {d pc : Nat} {lv : List (Option Value)} {st : List Value} {M : xMem} (C : xCk X cc own d) {x y : Int32} (hd : decode cc pc = .ok (.iadd, 1)) (k : WW X (pc + 1) lv (.int (x + y) :: st) M) : WW X pc lv (.int y :: .int x :: st) M := by
  obtain ⟨G, p, e, R, s, m, args, below, meth, c, cells, slots, Q, nL⟩ := X
  obtain ⟨hx, hb, hml, hown, hts, hK, hSS, hbs, hcl, hsl, hfr, hlo⟩ := id C
  intro H locs ls hP hS hl
  exact lv_iadd hx hb hd (k H locs ls hP hS hl)
theorem r_isub {X : xCX} {cc : ByteArray} {own : String} {d pc : Nat} {lv : List (Option Value)} {st : List Value} {M : xMem} (C : xCk X cc own d) {x y : Int32} (hd : decode cc pc = .ok (.isub, 1)) (k : WW X (pc + 1) lv (.int (x - y) :: st) M) : WW X pc lv (.int y :: .int x :: st) M := by
  obtain ⟨G, p, e, R, s, m, args, below, meth, c, cells, slots, Q, nL⟩ := X
  obtain ⟨hx, hb, hml, hown, hts, hK, hSS, hbs, hcl, hsl, hfr, hlo⟩ := id C
  intro H locs ls hP hS hl
  exact lv_isub hx hb hd (k H locs ls hP hS hl)
theorem r_imul {X : xCX} {cc : ByteArray} {own : String} {d pc : Nat} {lv : List (Option Value)} {st : List Value} {M : xMem} (C : xCk X cc own d) {x y : Int32} (hd : decode cc pc = .ok (.imul, 1)) (k : WW X (pc + 1) lv (.int (x * y) :: st) M) : WW X pc lv (.int y :: .int x :: st) M := by
  obtain ⟨G, p, e, R, s, m, args, below, meth, c, cells, slots, Q, nL⟩ := X
  obtain ⟨hx, hb, hml, hown, hts, hK, hSS, hbs, hcl, hsl, hfr, hlo⟩ := id C
  intro H locs ls hP hS hl
  exact lv_imul hx hb hd (k H locs ls hP hS hl)
theorem r_iand {X : xCX} {cc : ByteArray} {own : String} {d pc : Nat} {lv : List (Option Value)} {st : List Value} {M : xMem} (C : xCk X cc own d) {x y : Int32} (hd : decode cc pc = .ok (.iand, 1)) (k : WW X (pc + 1) lv (.int (x &&& y) :: st) M) : WW X pc lv (.int y :: .int x :: st) M := by
  obtain ⟨G, p, e, R, s, m, args, below, meth, c, cells, slots, Q, nL⟩ := X
  obtain ⟨hx, hb, hml, hown, hts, hK, hSS, hbs, hcl, hsl, hfr, hlo⟩ := id C
  intro H locs ls hP hS hl
  exact lv_iand hx hb hd (k H locs ls hP hS hl)
theorem r_ior {X : xCX} {cc : ByteArray} {own : String} {d pc : Nat} {lv : List (Option Value)} {st : List Value} {M : xMem} (C : xCk X cc own d) {x y : Int32} (hd : decode cc pc = .ok (.ior, 1)) (k : WW X (pc + 1) lv (.int (x ||| y) :: st) M) : WW X pc lv (.int y :: .int x :: st) M := by
  obtain ⟨G, p, e, R, s, m, args, below, meth, c, cells, slots, Q, nL⟩ := X
  obtain ⟨hx, hb, hml, hown, hts, hK, hSS, hbs, hcl, hsl, hfr, hlo⟩ := id C
  intro H locs ls hP hS hl
  exact lv_ior hx hb hd (k H locs ls hP hS hl)
theorem r_ixor {X : xCX} {cc : ByteArray} {own : String} {d pc : Nat} {lv : List (Option Value)} {st : List Value} {M : xMem} (C : xCk X cc own d) {x y : Int32} (hd : decode cc pc = .ok (.ixor, 1)) (k : WW X (pc + 1) lv (.int (x ^^^ y) :: st) M) : WW X pc lv (.int y :: .int x :: st) M := by
  obtain ⟨G, p, e, R, s, m, args, below, meth, c, cells, slots, Q, nL⟩ := X
  obtain ⟨hx, hb, hml, hown, hts, hK, hSS, hbs, hcl, hsl, hfr, hlo⟩ := id C
  intro H locs ls hP hS hl
  exact lv_ixor hx hb hd (k H locs ls hP hS hl)
theorem r_ishl {X : xCX} {cc : ByteArray} {own : String} {d pc : Nat} {lv : List (Option Value)} {st : List Value} {M : xMem} (C : xCk X cc own d) {x y : Int32} (hd : decode cc pc = .ok (.ishl, 1)) (k : WW X (pc + 1) lv (.int (x <<< (y &&& 31)) :: st) M) : WW X pc lv (.int y :: .int x :: st) M := by
  obtain ⟨G, p, e, R, s, m, args, below, meth, c, cells, slots, Q, nL⟩ := X
  obtain ⟨hx, hb, hml, hown, hts, hK, hSS, hbs, hcl, hsl, hfr, hlo⟩ := id C
  intro H locs ls hP hS hl
  exact lv_ishl hx hb hd (k H locs ls hP hS hl)
theorem r_ishr {X : xCX} {cc : ByteArray} {own : String} {d pc : Nat} {lv : List (Option Value)} {st : List Value} {M : xMem} (C : xCk X cc own d) {x y : Int32} (hd : decode cc pc = .ok (.ishr, 1)) (k : WW X (pc + 1) lv (.int (x >>> (y &&& 31)) :: st) M) : WW X pc lv (.int y :: .int x :: st) M := by
  obtain ⟨G, p, e, R, s, m, args, below, meth, c, cells, slots, Q, nL⟩ := X
  obtain ⟨hx, hb, hml, hown, hts, hK, hSS, hbs, hcl, hsl, hfr, hlo⟩ := id C
  intro H locs ls hP hS hl
  exact lv_ishr hx hb hd (k H locs ls hP hS hl)
theorem r_iushr {X : xCX} {cc : ByteArray} {own : String} {d pc : Nat} {lv : List (Option Value)} {st : List Value} {M : xMem} (C : xCk X cc own d) {x y : Int32} (hd : decode cc pc = .ok (.iushr, 1)) (k : WW X (pc + 1) lv (.int ((x.toUInt32 >>> (y.toUInt32 &&& Int32.toUInt32 31)).toInt32) :: st) M) : WW X pc lv (.int y :: .int x :: st) M := by
  obtain ⟨G, p, e, R, s, m, args, below, meth, c, cells, slots, Q, nL⟩ := X
  obtain ⟨hx, hb, hml, hown, hts, hK, hSS, hbs, hcl, hsl, hfr, hlo⟩ := id C
  intro H locs ls hP hS hl
  exact lv_iushr hx hb hd rfl (k H locs ls hP hS hl)
theorem r_ineg {X : xCX} {cc : ByteArray} {own : String} {d pc : Nat} {lv : List (Option Value)} {st : List Value} {M : xMem} (C : xCk X cc own d) {x : Int32} (hd : decode cc pc = .ok (.ineg, 1)) (k : WW X (pc + 1) lv (.int (-x) :: st) M) : WW X pc lv (.int x :: st) M := by
  obtain ⟨G, p, e, R, s, m, args, below, meth, c, cells, slots, Q, nL⟩ := X
  obtain ⟨hx, hb, hml, hown, hts, hK, hSS, hbs, hcl, hsl, hfr, hlo⟩ := id C
  intro H locs ls hP hS hl
  exact lv_ineg hx hb hd (k H locs ls hP hS hl)
theorem r_idiv {X : xCX} {cc : ByteArray} {own : String} {d pc : Nat} {lv : List (Option Value)} {st : List Value} {M : xMem} (C : xCk X cc own d) {x y : Int32} (hne : ¬ y = 0) (hd : decode cc pc = .ok (.idiv, 1)) (k : WW X (pc + 1) lv (.int (x / y) :: st) M) : WW X pc lv (.int y :: .int x :: st) M := by
  obtain ⟨G, p, e, R, s, m, args, below, meth, c, cells, slots, Q, nL⟩ := X
  obtain ⟨hx, hb, hml, hown, hts, hK, hSS, hbs, hcl, hsl, hfr, hlo⟩ := id C
  intro H locs ls hP hS hl
  exact lv_idiv hx hb hd hne (k H locs ls hP hS hl)
theorem r_irem {X : xCX} {cc : ByteArray} {own : String} {d pc : Nat} {lv : List (Option Value)} {st : List Value} {M : xMem} (C : xCk X cc own d) {x y : Int32} (hne : ¬ y = 0) (hd : decode cc pc = .ok (.irem, 1)) (k : WW X (pc + 1) lv (.int (x - x / y * y) :: st) M) : WW X pc lv (.int y :: .int x :: st) M := by
  obtain ⟨G, p, e, R, s, m, args, below, meth, c, cells, slots, Q, nL⟩ := X
  obtain ⟨hx, hb, hml, hown, hts, hK, hSS, hbs, hcl, hsl, hfr, hlo⟩ := id C
  intro H locs ls hP hS hl
  exact lv_irem hx hb hd hne (k H locs ls hP hS hl)
theorem r_ladd {X : xCX} {cc : ByteArray} {own : String} {d pc : Nat} {lv : List (Option Value)} {st : List Value} {M : xMem} (C : xCk X cc own d) {x y : Int64} (hd : decode cc pc = .ok (.ladd, 1)) (k : WW X (pc + 1) lv (.long (x + y) :: st) M) : WW X pc lv (.long y :: .long x :: st) M := by
  obtain ⟨G, p, e, R, s, m, args, below, meth, c, cells, slots, Q, nL⟩ := X
  obtain ⟨hx, hb, hml, hown, hts, hK, hSS, hbs, hcl, hsl, hfr, hlo⟩ := id C
  intro H locs ls hP hS hl
  exact lv_ladd hx hb hd (k H locs ls hP hS hl)
theorem r_lsub {X : xCX} {cc : ByteArray} {own : String} {d pc : Nat} {lv : List (Option Value)} {st : List Value} {M : xMem} (C : xCk X cc own d) {x y : Int64} (hd : decode cc pc = .ok (.lsub, 1)) (k : WW X (pc + 1) lv (.long (x - y) :: st) M) : WW X pc lv (.long y :: .long x :: st) M := by
  obtain ⟨G, p, e, R, s, m, args, below, meth, c, cells, slots, Q, nL⟩ := X
  obtain ⟨hx, hb, hml, hown, hts, hK, hSS, hbs, hcl, hsl, hfr, hlo⟩ := id C
  intro H locs ls hP hS hl
  exact lv_lsub hx hb hd (k H locs ls hP hS hl)
theorem r_lmul {X : xCX} {cc : ByteArray} {own : String} {d pc : Nat} {lv : List (Option Value)} {st : List Value} {M : xMem} (C : xCk X cc own d) {x y : Int64} (hd : decode cc pc = .ok (.lmul, 1)) (k : WW X (pc + 1) lv (.long (x * y) :: st) M) : WW X pc lv (.long y :: .long x :: st) M := by
  obtain ⟨G, p, e, R, s, m, args, below, meth, c, cells, slots, Q, nL⟩ := X
  obtain ⟨hx, hb, hml, hown, hts, hK, hSS, hbs, hcl, hsl, hfr, hlo⟩ := id C
  intro H locs ls hP hS hl
  exact lv_lmul hx hb hd (k H locs ls hP hS hl)
theorem r_lor {X : xCX} {cc : ByteArray} {own : String} {d pc : Nat} {lv : List (Option Value)} {st : List Value} {M : xMem} (C : xCk X cc own d) {x y : Int64} (hd : decode cc pc = .ok (.lor, 1)) (k : WW X (pc + 1) lv (.long (x ||| y) :: st) M) : WW X pc lv (.long y :: .long x :: st) M := by
  obtain ⟨G, p, e, R, s, m, args, below, meth, c, cells, slots, Q, nL⟩ := X
  obtain ⟨hx, hb, hml, hown, hts, hK, hSS, hbs, hcl, hsl, hfr, hlo⟩ := id C
  intro H locs ls hP hS hl
  exact lv_lor hx hb hd (k H locs ls hP hS hl)
theorem r_ldiv {X : xCX} {cc : ByteArray} {own : String} {d pc : Nat} {lv : List (Option Value)} {st : List Value} {M : xMem} (C : xCk X cc own d) {x y : Int64} (hne : ¬ y = 0) (hd : decode cc pc = .ok (.ldiv, 1)) (k : WW X (pc + 1) lv (.long (x / y) :: st) M) : WW X pc lv (.long y :: .long x :: st) M := by
  obtain ⟨G, p, e, R, s, m, args, below, meth, c, cells, slots, Q, nL⟩ := X
  obtain ⟨hx, hb, hml, hown, hts, hK, hSS, hbs, hcl, hsl, hfr, hlo⟩ := id C
  intro H locs ls hP hS hl
  exact lv_ldiv hx hb hd hne (k H locs ls hP hS hl)
theorem r_lrem {X : xCX} {cc : ByteArray} {own : String} {d pc : Nat} {lv : List (Option Value)} {st : List Value} {M : xMem} (C : xCk X cc own d) {x y : Int64} (hne : ¬ y = 0) (hd : decode cc pc = .ok (.lrem, 1)) (k : WW X (pc + 1) lv (.long (x - x / y * y) :: st) M) : WW X pc lv (.long y :: .long x :: st) M := by
  obtain ⟨G, p, e, R, s, m, args, below, meth, c, cells, slots, Q, nL⟩ := X
  obtain ⟨hx, hb, hml, hown, hts, hK, hSS, hbs, hcl, hsl, hfr, hlo⟩ := id C
  intro H locs ls hP hS hl
  exact lv_lrem hx hb hd hne (k H locs ls hP hS hl)
theorem r_lshl {X : xCX} {cc : ByteArray} {own : String} {d pc : Nat} {lv : List (Option Value)} {st : List Value} {M : xMem} (C : xCk X cc own d) {x : Int64} {y : Int32} (hd : decode cc pc = .ok (.lshl, 1)) (k : WW X (pc + 1) lv (.long (x <<< (y.toInt64 &&& 63)) :: st) M) : WW X pc lv (.int y :: .long x :: st) M := by
  obtain ⟨G, p, e, R, s, m, args, below, meth, c, cells, slots, Q, nL⟩ := X
  obtain ⟨hx, hb, hml, hown, hts, hK, hSS, hbs, hcl, hsl, hfr, hlo⟩ := id C
  intro H locs ls hP hS hl
  exact lv_lshl hx hb hd rfl (k H locs ls hP hS hl)
theorem r_lushr {X : xCX} {cc : ByteArray} {own : String} {d pc : Nat} {lv : List (Option Value)} {st : List Value} {M : xMem} (C : xCk X cc own d) {x : Int64} {y : Int32} (hd : decode cc pc = .ok (.lushr, 1)) (k : WW X (pc + 1) lv (.long ((x.toUInt64 >>> (y.toInt64.toUInt64 &&& Int64.toUInt64 63)).toInt64) :: st) M) : WW X pc lv (.int y :: .long x :: st) M := by
  obtain ⟨G, p, e, R, s, m, args, below, meth, c, cells, slots, Q, nL⟩ := X
  obtain ⟨hx, hb, hml, hown, hts, hK, hSS, hbs, hcl, hsl, hfr, hlo⟩ := id C
  intro H locs ls hP hS hl
  exact lv_lushr hx hb hd rfl (k H locs ls hP hS hl)
theorem r_lcmp {X : xCX} {cc : ByteArray} {own : String} {d pc : Nat} {lv : List (Option Value)} {st : List Value} {M : xMem} (C : xCk X cc own d) {x y : Int64} (hd : decode cc pc = .ok (.lcmp, 1)) (k : WW X (pc + 1) lv (.int (lg_cmp x y) :: st) M) : WW X pc lv (.long y :: .long x :: st) M := by
  obtain ⟨G, p, e, R, s, m, args, below, meth, c, cells, slots, Q, nL⟩ := X
  obtain ⟨hx, hb, hml, hown, hts, hK, hSS, hbs, hcl, hsl, hfr, hlo⟩ := id C
  intro H locs ls hP hS hl
  exact W.lcmp hx hb hd (k H locs ls hP hS hl)
theorem r_i2l {X : xCX} {cc : ByteArray} {own : String} {d pc : Nat} {lv : List (Option Value)} {st : List Value} {M : xMem} (C : xCk X cc own d) {x : Int32} (hd : decode cc pc = .ok (.i2l, 1)) (k : WW X (pc + 1) lv (.long x.toInt64 :: st) M) : WW X pc lv (.int x :: st) M := by
  obtain ⟨G, p, e, R, s, m, args, below, meth, c, cells, slots, Q, nL⟩ := X
  obtain ⟨hx, hb, hml, hown, hts, hK, hSS, hbs, hcl, hsl, hfr, hlo⟩ := id C
  intro H locs ls hP hS hl
  exact lv_i2l hx hb hd rfl (k H locs ls hP hS hl)
theorem r_l2i {X : xCX} {cc : ByteArray} {own : String} {d pc : Nat} {lv : List (Option Value)} {st : List Value} {M : xMem} (C : xCk X cc own d) {x : Int64} (hd : decode cc pc = .ok (.l2i, 1)) (k : WW X (pc + 1) lv (.int x.toInt32 :: st) M) : WW X pc lv (.long x :: st) M := by
  obtain ⟨G, p, e, R, s, m, args, below, meth, c, cells, slots, Q, nL⟩ := X
  obtain ⟨hx, hb, hml, hown, hts, hK, hSS, hbs, hcl, hsl, hfr, hlo⟩ := id C
  intro H locs ls hP hS hl
  exact lv_l2i hx hb hd rfl (k H locs ls hP hS hl)
theorem r_i2b {X : xCX} {cc : ByteArray} {own : String} {d pc : Nat} {lv : List (Option Value)} {st : List Value} {M : xMem} (C : xCk X cc own d) {x : Int32} (hd : decode cc pc = .ok (.i2b, 1)) (k : WW X (pc + 1) lv (.int x.toInt8.toInt32 :: st) M) : WW X pc lv (.int x :: st) M := by
  obtain ⟨G, p, e, R, s, m, args, below, meth, c, cells, slots, Q, nL⟩ := X
  obtain ⟨hx, hb, hml, hown, hts, hK, hSS, hbs, hcl, hsl, hfr, hlo⟩ := id C
  intro H locs ls hP hS hl
  exact lv_i2b hx hb hd rfl (k H locs ls hP hS hl)
theorem r_dup {X : xCX} {cc : ByteArray} {own : String} {d pc : Nat} {lv : List (Option Value)} {st : List Value} {M : xMem} (C : xCk X cc own d) {v : Value} (hv : v.category = 1) (hd : decode cc pc = .ok (.dup, 1)) (k : WW X (pc + 1) lv (v :: v :: st) M) : WW X pc lv (v :: st) M := by
  obtain ⟨G, p, e, R, s, m, args, below, meth, c, cells, slots, Q, nL⟩ := X
  obtain ⟨hx, hb, hml, hown, hts, hK, hSS, hbs, hcl, hsl, hfr, hlo⟩ := id C
  intro H locs ls hP hS hl
  exact lv_dup hx hb hd hv (k H locs ls hP hS hl)
theorem r_pop {X : xCX} {cc : ByteArray} {own : String} {d pc : Nat} {lv : List (Option Value)} {st : List Value} {M : xMem} (C : xCk X cc own d) {v : Value} (hv : v.category = 1) (hd : decode cc pc = .ok (.pop, 1)) (k : WW X (pc + 1) lv (st) M) : WW X pc lv (v :: st) M := by
  obtain ⟨G, p, e, R, s, m, args, below, meth, c, cells, slots, Q, nL⟩ := X
  obtain ⟨hx, hb, hml, hown, hts, hK, hSS, hbs, hcl, hsl, hfr, hlo⟩ := id C
  intro H locs ls hP hS hl
  exact lv_pop hx hb hd hv (k H locs ls hP hS hl)
theorem r_dup2 {X : xCX} {cc : ByteArray} {own : String} {d pc : Nat} {lv : List (Option Value)} {st : List Value} {M : xMem} (C : xCk X cc own d) {v w : Value} (hv : v.category = 1) (hw : w.category = 1) (hd : decode cc pc = .ok (.dup2, 1)) (k : WW X (pc + 1) lv (v :: w :: v :: w :: st) M) : WW X pc lv (v :: w :: st) M := by
  obtain ⟨G, p, e, R, s, m, args, below, meth, c, cells, slots, Q, nL⟩ := X
  obtain ⟨hx, hb, hml, hown, hts, hK, hSS, hbs, hcl, hsl, hfr, hlo⟩ := id C
  intro H locs ls hP hS hl
  exact lv_dup2_11 hx hb hd hv hw (k H locs ls hP hS hl)
theorem r_goto {X : xCX} {cc : ByteArray} {own : String} {d pc : Nat} {lv : List (Option Value)} {st : List Value} {M : xMem} {off : Int} {tgt : Nat} (C : xCk X cc own d) (hd : decode cc pc = .ok (.goto off, 3)) (ht : (pc : Int) + off = (tgt : Int)) (k : WW X tgt lv st M) : WW X pc lv st M := by
  obtain ⟨G, p, e, R, s, m, args, below, meth, c, cells, slots, Q, nL⟩ := X
  obtain ⟨hx, hb, hml, hown, hts, hK, hSS, hbs, hcl, hsl, hfr, hlo⟩ := id C
  intro H locs ls hP hS hl
  exact lv_goto hx hb hd ht (k H locs ls hP hS hl)
theorem r_if_eq {X : xCX} {cc : ByteArray} {own : String} {d pc : Nat} {lv : List (Option Value)} {st : List Value} {M : xMem} {x : Int32} {off : Int} {tgt : Nat} {β : Type} {A B : Option β} {r : β} (C : xCk X cc own d) (hd : decode cc pc = .ok (.ifCond .eq off, 3)) (ht : (pc : Int) + off = (tgt : Int)) (h : (if x = 0 then A else B) = some r) (kt : x = 0 → A = some r → WW X tgt lv st M) (kf : ¬ x = 0 → B = some r → WW X (pc + 3) lv st M) : WW X pc lv (.int x :: st) M := by
  obtain ⟨G, p, e, R, s, m, args, below, meth, c, cells, slots, Q, nL⟩ := X
  obtain ⟨hx, hb, hml, hown, hts, hK, hSS, hbs, hcl, hsl, hfr, hlo⟩ := id C
  intro H locs ls hP hS hl
  exact lv_if_eq hx hb hd ht (fun q => kt q (by first | (rw [if_pos q] at h; exact h) | (rw [if_neg q] at h; exact h)) H locs ls hP hS hl) (fun q => kf q (by first | (rw [if_pos q] at h; exact h) | (rw [if_neg q] at h; exact h)) H locs ls hP hS hl)
theorem r_if_ne {X : xCX} {cc : ByteArray} {own : String} {d pc : Nat} {lv : List (Option Value)} {st : List Value} {M : xMem} {x : Int32} {off : Int} {tgt : Nat} {β : Type} {A B : Option β} {r : β} (C : xCk X cc own d) (hd : decode cc pc = .ok (.ifCond .ne off, 3)) (ht : (pc : Int) + off = (tgt : Int)) (h : (if x = 0 then A else B) = some r) (kt : ¬ x = 0 → B = some r → WW X tgt lv st M) (kf : x = 0 → A = some r → WW X (pc + 3) lv st M) : WW X pc lv (.int x :: st) M := by
  obtain ⟨G, p, e, R, s, m, args, below, meth, c, cells, slots, Q, nL⟩ := X
  obtain ⟨hx, hb, hml, hown, hts, hK, hSS, hbs, hcl, hsl, hfr, hlo⟩ := id C
  intro H locs ls hP hS hl
  exact lv_if_ne hx hb hd ht (fun q => kt q (by first | (rw [if_pos q] at h; exact h) | (rw [if_neg q] at h; exact h)) H locs ls hP hS hl) (fun q => kf q (by first | (rw [if_pos q] at h; exact h) | (rw [if_neg q] at h; exact h)) H locs ls hP hS hl)
theorem r_if_lt {X : xCX} {cc : ByteArray} {own : String} {d pc : Nat} {lv : List (Option Value)} {st : List Value} {M : xMem} {x : Int32} {off : Int} {tgt : Nat} {β : Type} {A B : Option β} {r : β} (C : xCk X cc own d) (hd : decode cc pc = .ok (.ifCond .lt off, 3)) (ht : (pc : Int) + off = (tgt : Int)) (h : (if x < 0 then A else B) = some r) (kt : x < 0 → A = some r → WW X tgt lv st M) (kf : ¬ x < 0 → B = some r → WW X (pc + 3) lv st M) : WW X pc lv (.int x :: st) M := by
  obtain ⟨G, p, e, R, s, m, args, below, meth, c, cells, slots, Q, nL⟩ := X
  obtain ⟨hx, hb, hml, hown, hts, hK, hSS, hbs, hcl, hsl, hfr, hlo⟩ := id C
  intro H locs ls hP hS hl
  exact lv_if_lt hx hb hd ht (fun q => kt q (by first | (rw [if_pos q] at h; exact h) | (rw [if_neg q] at h; exact h)) H locs ls hP hS hl) (fun q => kf q (by first | (rw [if_pos q] at h; exact h) | (rw [if_neg q] at h; exact h)) H locs ls hP hS hl)
theorem r_if_ge {X : xCX} {cc : ByteArray} {own : String} {d pc : Nat} {lv : List (Option Value)} {st : List Value} {M : xMem} {x : Int32} {off : Int} {tgt : Nat} {β : Type} {A B : Option β} {r : β} (C : xCk X cc own d) (hd : decode cc pc = .ok (.ifCond .ge off, 3)) (ht : (pc : Int) + off = (tgt : Int)) (h : (if 0 ≤ x then A else B) = some r) (kt : 0 ≤ x → A = some r → WW X tgt lv st M) (kf : ¬ 0 ≤ x → B = some r → WW X (pc + 3) lv st M) : WW X pc lv (.int x :: st) M := by
  obtain ⟨G, p, e, R, s, m, args, below, meth, c, cells, slots, Q, nL⟩ := X
  obtain ⟨hx, hb, hml, hown, hts, hK, hSS, hbs, hcl, hsl, hfr, hlo⟩ := id C
  intro H locs ls hP hS hl
  exact lv_if_ge hx hb hd ht (fun q => kt q (by first | (rw [if_pos q] at h; exact h) | (rw [if_neg q] at h; exact h)) H locs ls hP hS hl) (fun q => kf q (by first | (rw [if_pos q] at h; exact h) | (rw [if_neg q] at h; exact h)) H locs ls hP hS hl)
theorem r_if_gt {X : xCX} {cc : ByteArray} {own : String} {d pc : Nat} {lv : List (Option Value)} {st : List Value} {M : xMem} {x : Int32} {off : Int} {tgt : Nat} {β : Type} {A B : Option β} {r : β} (C : xCk X cc own d) (hd : decode cc pc = .ok (.ifCond .gt off, 3)) (ht : (pc : Int) + off = (tgt : Int)) (h : (if 0 < x then A else B) = some r) (kt : 0 < x → A = some r → WW X tgt lv st M) (kf : ¬ 0 < x → B = some r → WW X (pc + 3) lv st M) : WW X pc lv (.int x :: st) M := by
  obtain ⟨G, p, e, R, s, m, args, below, meth, c, cells, slots, Q, nL⟩ := X
  obtain ⟨hx, hb, hml, hown, hts, hK, hSS, hbs, hcl, hsl, hfr, hlo⟩ := id C
  intro H locs ls hP hS hl
  exact lv_if_gt hx hb hd ht (fun q => kt q (by first | (rw [if_pos q] at h; exact h) | (rw [if_neg q] at h; exact h)) H locs ls hP hS hl) (fun q => kf q (by first | (rw [if_pos q] at h; exact h) | (rw [if_neg q] at h; exact h)) H locs ls hP hS hl)
theorem r_if_le {X : xCX} {cc : ByteArray} {own : String} {d pc : Nat} {lv : List (Option Value)} {st : List Value} {M : xMem} {x : Int32} {off : Int} {tgt : Nat} {β : Type} {A B : Option β} {r : β} (C : xCk X cc own d) (hd : decode cc pc = .ok (.ifCond .le off, 3)) (ht : (pc : Int) + off = (tgt : Int)) (h : (if x ≤ 0 then A else B) = some r) (kt : x ≤ 0 → A = some r → WW X tgt lv st M) (kf : ¬ x ≤ 0 → B = some r → WW X (pc + 3) lv st M) : WW X pc lv (.int x :: st) M := by
  obtain ⟨G, p, e, R, s, m, args, below, meth, c, cells, slots, Q, nL⟩ := X
  obtain ⟨hx, hb, hml, hown, hts, hK, hSS, hbs, hcl, hsl, hfr, hlo⟩ := id C
  intro H locs ls hP hS hl
  exact lv_if_le hx hb hd ht (fun q => kt q (by first | (rw [if_pos q] at h; exact h) | (rw [if_neg q] at h; exact h)) H locs ls hP hS hl) (fun q => kf q (by first | (rw [if_pos q] at h; exact h) | (rw [if_neg q] at h; exact h)) H locs ls hP hS hl)
theorem r_icmp_eq {X : xCX} {cc : ByteArray} {own : String} {d pc : Nat} {lv : List (Option Value)} {st : List Value} {M : xMem} {x y : Int32} {off : Int} {tgt : Nat} {β : Type} {A B : Option β} {r : β} (C : xCk X cc own d) (hd : decode cc pc = .ok (.if_icmp .eq off, 3)) (ht : (pc : Int) + off = (tgt : Int)) (h : (if x = y then A else B) = some r) (kt : x = y → A = some r → WW X tgt lv st M) (kf : ¬ x = y → B = some r → WW X (pc + 3) lv st M) : WW X pc lv (.int y :: .int x :: st) M := by
  obtain ⟨G, p, e, R, s, m, args, below, meth, c, cells, slots, Q, nL⟩ := X
  obtain ⟨hx, hb, hml, hown, hts, hK, hSS, hbs, hcl, hsl, hfr, hlo⟩ := id C
  intro H locs ls hP hS hl
  exact lv_icmp_eq hx hb hd ht (fun q => kt q (by first | (rw [if_pos q] at h; exact h) | (rw [if_neg q] at h; exact h)) H locs ls hP hS hl) (fun q => kf q (by first | (rw [if_pos q] at h; exact h) | (rw [if_neg q] at h; exact h)) H locs ls hP hS hl)
theorem r_icmp_ne {X : xCX} {cc : ByteArray} {own : String} {d pc : Nat} {lv : List (Option Value)} {st : List Value} {M : xMem} {x y : Int32} {off : Int} {tgt : Nat} {β : Type} {A B : Option β} {r : β} (C : xCk X cc own d) (hd : decode cc pc = .ok (.if_icmp .ne off, 3)) (ht : (pc : Int) + off = (tgt : Int)) (h : (if x = y then A else B) = some r) (kt : ¬ x = y → B = some r → WW X tgt lv st M) (kf : x = y → A = some r → WW X (pc + 3) lv st M) : WW X pc lv (.int y :: .int x :: st) M := by
  obtain ⟨G, p, e, R, s, m, args, below, meth, c, cells, slots, Q, nL⟩ := X
  obtain ⟨hx, hb, hml, hown, hts, hK, hSS, hbs, hcl, hsl, hfr, hlo⟩ := id C
  intro H locs ls hP hS hl
  exact lv_icmp_ne hx hb hd ht (fun q => kt q (by first | (rw [if_pos q] at h; exact h) | (rw [if_neg q] at h; exact h)) H locs ls hP hS hl) (fun q => kf q (by first | (rw [if_pos q] at h; exact h) | (rw [if_neg q] at h; exact h)) H locs ls hP hS hl)
theorem r_icmp_lt {X : xCX} {cc : ByteArray} {own : String} {d pc : Nat} {lv : List (Option Value)} {st : List Value} {M : xMem} {x y : Int32} {off : Int} {tgt : Nat} {β : Type} {A B : Option β} {r : β} (C : xCk X cc own d) (hd : decode cc pc = .ok (.if_icmp .lt off, 3)) (ht : (pc : Int) + off = (tgt : Int)) (h : (if x < y then A else B) = some r) (kt : x < y → A = some r → WW X tgt lv st M) (kf : ¬ x < y → B = some r → WW X (pc + 3) lv st M) : WW X pc lv (.int y :: .int x :: st) M := by
  obtain ⟨G, p, e, R, s, m, args, below, meth, c, cells, slots, Q, nL⟩ := X
  obtain ⟨hx, hb, hml, hown, hts, hK, hSS, hbs, hcl, hsl, hfr, hlo⟩ := id C
  intro H locs ls hP hS hl
  exact lv_icmp_lt hx hb hd ht (fun q => kt q (by first | (rw [if_pos q] at h; exact h) | (rw [if_neg q] at h; exact h)) H locs ls hP hS hl) (fun q => kf q (by first | (rw [if_pos q] at h; exact h) | (rw [if_neg q] at h; exact h)) H locs ls hP hS hl)
theorem r_icmp_ge {X : xCX} {cc : ByteArray} {own : String} {d pc : Nat} {lv : List (Option Value)} {st : List Value} {M : xMem} {x y : Int32} {off : Int} {tgt : Nat} {β : Type} {A B : Option β} {r : β} (C : xCk X cc own d) (hd : decode cc pc = .ok (.if_icmp .ge off, 3)) (ht : (pc : Int) + off = (tgt : Int)) (h : (if y ≤ x then A else B) = some r) (kt : y ≤ x → A = some r → WW X tgt lv st M) (kf : ¬ y ≤ x → B = some r → WW X (pc + 3) lv st M) : WW X pc lv (.int y :: .int x :: st) M := by
  obtain ⟨G, p, e, R, s, m, args, below, meth, c, cells, slots, Q, nL⟩ := X
  obtain ⟨hx, hb, hml, hown, hts, hK, hSS, hbs, hcl, hsl, hfr, hlo⟩ := id C
  intro H locs ls hP hS hl
  exact lv_icmp_ge hx hb hd ht (fun q => kt q (by first | (rw [if_pos q] at h; exact h) | (rw [if_neg q] at h; exact h)) H locs ls hP hS hl) (fun q => kf q (by first | (rw [if_pos q] at h; exact h) | (rw [if_neg q] at h; exact h)) H locs ls hP hS hl)
theorem r_icmp_gt {X : xCX} {cc : ByteArray} {own : String} {d pc : Nat} {lv : List (Option Value)} {st : List Value} {M : xMem} {x y : Int32} {off : Int} {tgt : Nat} {β : Type} {A B : Option β} {r : β} (C : xCk X cc own d) (hd : decode cc pc = .ok (.if_icmp .gt off, 3)) (ht : (pc : Int) + off = (tgt : Int)) (h : (if y < x then A else B) = some r) (kt : y < x → A = some r → WW X tgt lv st M) (kf : ¬ y < x → B = some r → WW X (pc + 3) lv st M) : WW X pc lv (.int y :: .int x :: st) M := by
  obtain ⟨G, p, e, R, s, m, args, below, meth, c, cells, slots, Q, nL⟩ := X
  obtain ⟨hx, hb, hml, hown, hts, hK, hSS, hbs, hcl, hsl, hfr, hlo⟩ := id C
  intro H locs ls hP hS hl
  exact lv_icmp_gt hx hb hd ht (fun q => kt q (by first | (rw [if_pos q] at h; exact h) | (rw [if_neg q] at h; exact h)) H locs ls hP hS hl) (fun q => kf q (by first | (rw [if_pos q] at h; exact h) | (rw [if_neg q] at h; exact h)) H locs ls hP hS hl)
theorem r_icmp_le {X : xCX} {cc : ByteArray} {own : String} {d pc : Nat} {lv : List (Option Value)} {st : List Value} {M : xMem} {x y : Int32} {off : Int} {tgt : Nat} {β : Type} {A B : Option β} {r : β} (C : xCk X cc own d) (hd : decode cc pc = .ok (.if_icmp .le off, 3)) (ht : (pc : Int) + off = (tgt : Int)) (h : (if x ≤ y then A else B) = some r) (kt : x ≤ y → A = some r → WW X tgt lv st M) (kf : ¬ x ≤ y → B = some r → WW X (pc + 3) lv st M) : WW X pc lv (.int y :: .int x :: st) M := by
  obtain ⟨G, p, e, R, s, m, args, below, meth, c, cells, slots, Q, nL⟩ := X
  obtain ⟨hx, hb, hml, hown, hts, hK, hSS, hbs, hcl, hsl, hfr, hlo⟩ := id C
  intro H locs ls hP hS hl
  exact lv_icmp_le hx hb hd ht (fun q => kt q (by first | (rw [if_pos q] at h; exact h) | (rw [if_neg q] at h; exact h)) H locs ls hP hS hl) (fun q => kf q (by first | (rw [if_pos q] at h; exact h) | (rw [if_neg q] at h; exact h)) H locs ls hP hS hl)
