def xFU : Nat := 40000
theorem r_lvE {X : xCX} {pc : Nat} {lv lv' : List (Option Value)} {st : List Value} {M : xMem} (h : lv = lv') (k : WW X pc lv' st M) : WW X pc lv st M := h ▸ k
theorem r_iincL {X : xCX} {cc : ByteArray} {own : String} {d pc : Nat} {lv : List (Option Value)} {st : List Value} {M : xMem} {i : Nat} {n : Int} {x c : Int32} {β : Type} {F : Int32 → Option β} {z : β} (C : xCk X cc own d) (hd : decode cc pc = .ok (.iinc i n, 3)) (hi : lv[i]? = some (some (.int x))) (hc : Int32.ofInt n = c) (hn : i < X.2.2.2.2.2.2.2.2.2.2.2.2.2) (h : xLt (x + c) F = some z) (k : ∀ v, F v = some z → WW X (pc + 3) (xst lv i (.int v)) st M) : WW X pc lv st M :=
  r_iinc C hd hi (by rw [hc]) hn rfl (k _ h)
theorem r_jn {α β : Type} {z : β} (P : α → Prop) {J : α} {F : α → Option β} {goal : Prop} (h : xLt J F = some z) (hJ : P J) (k : ∀ J', P J' → F J' = some z → goal) : goal := k J hJ h
theorem r_tb {x c : Int32} {β : Type} {A B : Option β} {z : β} {goal : Prop} (h : (if x = c then A else B) = some z) (k1 : x = c → A = some z → goal) (k2 : ¬ x = c → B = some z → goal) : goal := by
  by_cases e : x = c
  · rw [if_pos e] at h; exact k1 e h
  · rw [if_neg e] at h; exact k2 e h
theorem xtabout {x : Int32} (lo n : Nat) (h : ∀ k, lo ≤ k → k ≤ n → ¬ x = nI k) : x.toInt < (lo : Int) ∨ (n : Int) < x.toInt := by
  rcases Int.lt_or_le x.toInt lo with q | q
  · exact Or.inl q
  · rcases Int.lt_or_le (n : Int) x.toInt with q2 | q2
    · exact Or.inr q2
    · exfalso
      have hx : ¬ x < 0 := by rw [Int32.lt_iff_toInt_lt, Int32.toInt_zero]; omega
      obtain ⟨j, hj, rfl⟩ := nI_of hx
      rw [nI_toInt hj] at q2 q
      exact h j (by omega) (by omega) rfl
theorem xle_nil {l : List (Option Value)} : xle [] l := by cases l <;> trivial
theorem xle_none {r r' : List (Option Value)} {x : Option Value} (h : xle r r') : xle (none :: r) (x :: r') := h
theorem xle_some {r r' : List (Option Value)} {v w : Value} (h1 : v = w) (h : xle r r') : xle (some v :: r) (some w :: r') := ⟨h1, h⟩
theorem xin_lt {i : Int32} {n : Nat} (h : vp_in i n) : i.toNatClampNeg < n := Nat.not_le.mp fun q => h (Or.inr q)
theorem xkar {a K : Nat} (h : xkd a = K) (hK : 12 ≤ K ∧ K < 19) : 12 ≤ xkd a ∧ xkd a < 19 := h ▸ hK
theorem r_tabInE {X : xCX} {cc : ByteArray} {own : String} {d pc : Nat} {lv : List (Option Value)} {st : List Value} {M : xMem} {x c : Int32} {dflt lo hi off : Int} {offs : Array Int} {len tgt : Nat} (he : x = c) (C : xCk X cc own d) (hd : decode cc pc = .ok (.tableswitch dflt lo hi offs, len)) (h1 : ¬ c.toInt < lo) (h2 : ¬ hi < c.toInt) (ho : offs[(c.toInt - lo).toNat]? = some off) (ht : (pc : Int) + off = (tgt : Int)) (k : WW X tgt lv st M) : WW X pc lv (.int x :: st) M := by
  subst he
  exact r_tabIn C hd h1 h2 ho ht k
theorem xmm_max : Cond.static Lib.Math.max.name ∈ xTb ∧ Cond.initialized "java/lang/Math" ∈ xTb ∧ Cond.code Lib.Math.max.name Lib.Math.max.code 2 (some .int) ∈ xTb := ⟨(mJ9_max_7cf53).2.1, (mJ9_max_7cf53).2.2.1, (mJ9_max_7cf53).1⟩
theorem r_mmax {X : xCX} {cc : ByteArray} {own : String} {d pc : Nat} {lv : List (Option Value)} {st : List Value} {M : xMem} {idx : Nat} {x y : Int32} (C : xCk X cc own d) (LK : xLK own idx yJ9_max_7cf53) (hN : ∀ host, (own, idx, yJ9_max_7cf53, host) ∉ xNM) (h1 : 1 ≤ d) (hst : (st.map fun v => v.category).sum ≤ 8) (hd : decode cc pc = .ok (.invokestatic idx, 3)) (k : WW X (pc + 3) lv (.int (if x < y then y else x) :: st) M) : WW X pc lv (.int y :: .int x :: st) M := by
  obtain ⟨G, p, e, R, s, m, args, below, meth, c, cells, slots, Q, nL⟩ := X
  obtain ⟨hx, hb, hml, hown, hts, hK, hSS, hbs, hcl, hsl, hfr, hlo⟩ := id C
  intro H locs ls hP hS hl
  rcases LK with LK | ⟨host, LK⟩
  · exact va_mmax hx hb (by rw [hml]; exact hl.1.symm) hown (hts (.methodLink own idx Lib.Math.max.name) LK) (hts _ xmm_max.1) (hts _ xmm_max.2.1) (hts _ xmm_max.2.2) (by rw [hfr]; exact h1) (by omega) hcl hsl hd (k H locs ls hP hS hl)
  · exact absurd LK (hN host)
theorem xmm_min : Cond.static Lib.Math.min.name ∈ xTb ∧ Cond.initialized "java/lang/Math" ∈ xTb ∧ Cond.code Lib.Math.min.name Lib.Math.min.code 2 (some .int) ∈ xTb := ⟨(mJ9_min_7cf53).2.1, (mJ9_min_7cf53).2.2.1, (mJ9_min_7cf53).1⟩
theorem r_mmin {X : xCX} {cc : ByteArray} {own : String} {d pc : Nat} {lv : List (Option Value)} {st : List Value} {M : xMem} {idx : Nat} {x y : Int32} (C : xCk X cc own d) (LK : xLK own idx yJ9_min_7cf53) (hN : ∀ host, (own, idx, yJ9_min_7cf53, host) ∉ xNM) (h1 : 1 ≤ d) (hst : (st.map fun v => v.category).sum ≤ 8) (hd : decode cc pc = .ok (.invokestatic idx, 3)) (k : WW X (pc + 3) lv (.int (if y < x then y else x) :: st) M) : WW X pc lv (.int y :: .int x :: st) M := by
  obtain ⟨G, p, e, R, s, m, args, below, meth, c, cells, slots, Q, nL⟩ := X
  obtain ⟨hx, hb, hml, hown, hts, hK, hSS, hbs, hcl, hsl, hfr, hlo⟩ := id C
  intro H locs ls hP hS hl
  rcases LK with LK | ⟨host, LK⟩
  · exact va_mmin hx hb (by rw [hml]; exact hl.1.symm) hown (hts (.methodLink own idx Lib.Math.min.name) LK) (hts _ xmm_min.1) (hts _ xmm_min.2.1) (hts _ xmm_min.2.2) (by rw [hfr]; exact h1) (by omega) hcl hsl hd (k H locs ls hP hS hl)
  · exact absurd LK (hN host)
