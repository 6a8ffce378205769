/-! ===== the law's frame: rows for the script ===== -/
/-- the script lies below the first address -/
def xSc (X : xCX) (b L : Nat) (xs : Nat → Int32) : Prop :=
  match X with
  | (G, _, _, _, s, _, _, _, _, _, _, _, _, _) => va_X b L xs s s.heap ∧ b < s.heap.size ∧ ¬ xA G b
theorem r_xld_n {X : xCX} {cc : ByteArray} {own : String} {d pc : Nat} {lv : List (Option Value)} {st : List Value} {M : xMem} (C : xCk X cc own d) {q : Fin 4} {i : Nat} {v : Value} (hd : decode cc pc = .ok (.aload_n q, 1)) (hi : (q : Nat) = i) {b : Nat} (hb' : v = .ref b) (hv : lv[i]? = some (some v)) (k : WW X (pc + 1) lv (v :: st) M) : WW X pc lv st M := by
  obtain ⟨G, p, e, R, s, m, args, below, meth, c, cells, slots, Q, nL⟩ := X
  obtain ⟨hx, hb, hml, hown, hts, hK, hSS, hbs, hcl, hsl, hfr, hlo⟩ := id C
  subst hb'
  intro H locs ls hP hS hl
  exact lv_aload_n hx hb hd hi (xlh_at hl hv) (k H locs ls hP hS hl)
theorem r_sclen {X : xCX} {cc : ByteArray} {own : String} {d pc : Nat} {lv : List (Option Value)} {st : List Value} {M : xMem} (C : xCk X cc own d) {b L : Nat} {xs : Nat → Int32} (hS' : xSc X b L xs) (hd : decode cc pc = .ok (.arraylength, 1)) (k : WW X (pc + 1) lv (.int L.toInt32 :: st) M) : WW X pc lv (.ref b :: st) M := by
  obtain ⟨G, p, e, R, s, m, args, below, meth, c, cells, slots, Q, nL⟩ := X
  obtain ⟨hx, hb, hml, hown, hts, hK, hSS, hbs, hcl, hsl, hfr, hlo⟩ := id C
  obtain ⟨hX, hbl, hbA⟩ := hS'
  intro H locs ls hP hS hl
  exact va_slen hx hb hX hbl hbA hS hd (k H locs ls hP hS hl)
theorem r_scld {X : xCX} {cc : ByteArray} {own : String} {d pc : Nat} {lv : List (Option Value)} {st : List Value} {M : xMem} (C : xCk X cc own d) {b L : Nat} {xs : Nat → Int32} (hS' : xSc X b L xs) {i : Int32} (hin : vp_in i L) (hd : decode cc pc = .ok (.iaload, 1)) (k : WW X (pc + 1) lv (.int (xs i.toNatClampNeg) :: st) M) : WW X pc lv (.int i :: .ref b :: st) M := by
  obtain ⟨G, p, e, R, s, m, args, below, meth, c, cells, slots, Q, nL⟩ := X
  obtain ⟨hx, hb, hml, hown, hts, hK, hSS, hbs, hcl, hsl, hfr, hlo⟩ := id C
  obtain ⟨hX, hbl, hbA⟩ := hS'
  intro H locs ls hP hS hl
  exact va_sld hx hb hX hbl hbA hS hin hd (k H locs ls hP hS hl)
