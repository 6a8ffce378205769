/-! ===== a world that grows: fields, elements, the table, calls ===== -/
section
variable {X : xCX} {cc : ByteArray} {own : String} {d mc ms n pc nc ns : Nat} {lv : List (Option Value)} {st : List Value} {E0 L L' : List va_E}
/-- a step of the machine needs no more cells than were counted -/
theorem g_sz {p : Program} {l : Launch} {e : Env} {R : Room} {s : State} {m : MethodId} {args : Array Value} {below : List Frame} {meth : Method} {c : Code} {H : Heap} {locs : List Loc} {cells slots : Nat} {Q : State → Prop} {g : JFrame} (k : H.size ≤ s.heap.size + cells → W p l e R s m args below meth c H locs cells slots Q g) : W p l e R s m args below meth c H locs cells slots Q g := by
  intro T hT A
  have h := A.same.2.2.1
  exact k (by rw [← hT]; exact h) T hT A
theorem g_lo {G : xGX} {E : List va_E} {H : Heap} (hP : va_P (xD G) vwCl (gw (xbs G) E) H) (h : 0 < E.length) : xbs G + E.length ≤ H.size := by
  have h1 : E[E.length - 1]? = some (E[E.length - 1]'(by omega)) := List.getElem?_eq_getElem (by omega)
  have h2 : xbs G + (E.length - 1) < H.size := (hP _ _ (gw_at h1)).lt
  omega
theorem g_get (C : gCk X cc own d mc ms) (h0 : E0.length = n) {idx K j t i : Nat} {fin : Bool} {ty : FieldType} {fs : List Value} {v : Value} (F : xFK own idx K j t fin ty) (hi : L[i]? = some (.inr (K, fs))) (hv : fs[j]? = some v) (hd : decode cc pc = .ok (.getfield idx, 3)) (k : GW X E0 (pc + 3) lv (v :: st) L nc ns) : GW X E0 pc lv (vr X.1 (n + i) :: st) L nc ns := by
  obtain ⟨G, p, e, R, s, m, args, below, meth, c, cells, slots, Q, nL⟩ := X
  obtain ⟨⟨hx, hb, hml, hown, hts, hK, hSS, hbs, hcl, hsl, hfr, hlo⟩, hA, hmc, hms⟩ := id C
  obtain ⟨hC, hj, ht, Cs, T, ty0, hc, hin, hty, hnm, hd0, hfin, hlk⟩ := F
  intro H locs ls hP hz hS hl hq
  rcases hlk with hlk | ⟨host, hlk⟩
  · exact va_get (tys := xtys G) hx hb hts hin hown hK hP (n + i) (gw_at (gat h0 hi)) hc j hj (hts _ hlk) (fun _ h => h) hv hd (k H locs ls hP hz hS hl hq)
  · exact va_getN (tys := xtys G) hx hb hts hin hown hK hP (n + i) (gw_at (gat h0 hi)) hc j hj (va_Nw.use rfl (hSS.2.2.2.2.2 _ hlk)) (fun _ h => h) hv hd (k H locs ls hP hz hS hl hq)
/-- behind a write: the cell at n + i is another one -/
theorem g_wrote {G : xGX} {p : Program} {e : Env} {R : Room} {s : State} {m : MethodId} {args : Array Value} {below : List Frame} {meth : Method} {c : Code} {cells slots nL : Nat} {Q : State → Prop} {i : Nat} {en e0 : va_E} (h0 : E0.length = n) (hi : L[i]? = some e0) (hL : L.set i en = L') {ls : Array Slot} {H1 : Heap} {locs1 : List Loc} (hP : va_P (xD G) vwCl ((gw (xbs G) (E0 ++ L)).set (n + i) (xbs G + (n + i), en)) H1) (hS : va_S (xA G) s.heap H1 locs1) (hl : xlh ls nL lv) (hq : s.heap.size + nc = xbs G + (E0 ++ L).length) (k : GW (G, p, e, R, s, m, args, below, meth, c, cells, slots, Q, nL) E0 pc lv st L' nc ns) : W p G.1 e R s m args below meth c H1 locs1 nc ns Q (F0 m pc ls st) := by
  rw [gw_set, gset h0, hL] at hP
  have hlen : (E0 ++ L').length = (E0 ++ L).length := by subst hL; simp
  have hpos : 0 < (E0 ++ L').length := by
    have : i < L.length := (List.getElem?_eq_some_iff.mp hi).1
    rw [hlen, List.length_append]; omega
  refine g_sz (fun hz => ?_)
  have h2 := g_lo hP hpos
  exact k H1 locs1 ls hP (by omega) hS hl (by omega)
theorem g_put (C : gCk X cc own d mc ms) (h0 : E0.length = n) {idx K j t i : Nat} {ty : FieldType} {fs : List Value} {v : Value} (F : xFK own idx K j t false ty) (hi : L[i]? = some (.inr (K, fs))) (hn : narrow ty v = v) (hf : fits ty v = true) (hlen : fs.length = xnf K) (hd : decode cc pc = .ok (.putfield idx, 3)) (hL : L.set i (.inr (K, fs.set j v)) = L') (k : GW X E0 (pc + 3) lv st L' nc ns) : GW X E0 pc lv (v :: vr X.1 (n + i) :: st) L nc ns := by
  obtain ⟨G, p, e, R, s, m, args, below, meth, c, cells, slots, Q, nL⟩ := X
  obtain ⟨⟨hx, hb, hml, hown, hts, hK, hSS, hbs, hcl, hsl, hfr, hlo⟩, hA, hmc, hms⟩ := id C
  obtain ⟨hC, hj, ht, Cs, T, ty0, hc, hin, hty, hnm, hd0, hfin, hlk⟩ := F
  intro H locs ls hP hz hS hl hq
  rcases hlk with hlk | ⟨host, hlk⟩
  · exact va_put (tys := xtys G) hx hb hts hin ty0 hty hnm hown hK hP (gw_D G _) hS (n + i) (gw_at (gat h0 hi)) hc j hj (hts _ hlk) (fun _ h => h) hfin hd0 hn hf (by rw [hlen]; exact hj) hd (fun H1 locs1 h1 h2 h3 => g_wrote h0 hi hL h1 h3 hl hq k)
  · exact va_putN (tys := xtys G) hx hb hts hin ty0 hty hnm hown hK hP (gw_D G _) hS (n + i) (gw_at (gat h0 hi)) hc j hj (va_Nw.use rfl (hSS.2.2.2.2.2 _ hlk)) (fun _ h => h) hfin hd0 hn hf (by rw [hlen]; exact hj) hd (fun H1 locs1 h1 h2 h3 => g_wrote h0 hi hL h1 h3 hl hq k)
theorem g_putF (C : gCk X cc own d mc ms) {E9 : List va_E} (R0 : gRk X E9 mc ms) (h0 : E0.length = n) {idx K j t i : Nat} {ty : FieldType} {fs : List Value} {v : Value} (F : xFK own idx K j t true ty) (hown1 : ∀ (Cs : String) (T : u_T), vwCl[K]? = some (Cs, T, xnf K) → (T j).1 = own) (hnf : ∀ a b c host, (own, idx, a, b, c, host) ∉ xNF) (hi : L[i]? = some (.inr (K, fs))) (hn : narrow ty v = v) (hf : fits ty v = true) (hlen : fs.length = xnf K) (hd : decode cc pc = .ok (.putfield idx, 3)) (hL : L.set i (.inr (K, fs.set j v)) = L') (k : GW X E0 (pc + 3) lv st L' nc ns) : GW X E0 pc lv (v :: vr X.1 (n + i) :: st) L nc ns := by
  obtain ⟨G, p, e, R, s, m, args, below, meth, c, cells, slots, Q, nL⟩ := X
  obtain ⟨⟨hx, hb, hml, hown, hts, hK, hSS, hbs, hcl, hsl, hfr, hlo⟩, hA, hmc, hms⟩ := id C
  obtain ⟨hin0, hr, hlk0, hQ⟩ := R0
  obtain ⟨hC, hj, ht, Cs, T, ty0, hc, hin, hty, hnm, hd0, hfin, hlk⟩ := F
  intro H locs ls hP hz hS hl hq
  rcases hlk with hlk | ⟨host, hlk⟩
  · exact va_putF (tys := xtys G) hx hb hts hin ty0 hty hnm hown hK hP (gw_D G _) hS (n + i) (gw_at (gat h0 hi)) hc j hj (hts _ hlk) (fun _ h => h) hfin hin0 (hown1 _ _ hc) hd0 hn hf (by rw [hlen]; exact hj) hd (fun H1 locs1 h1 h2 h3 => g_wrote h0 hi hL h1 h3 hl hq k)
  · exact absurd hlk (hnf _ _ _ _)
theorem g_astq (C : gCk X cc own d mc ms) (h0 : E0.length = n) {K t0 i b N ci : Nat} {r : vw_C} {x : Int32} {f : Nat → Option Nat} {fs : List Value} (ht : (xtys X.1)[t0]? = some (xcy X.1 K, .object r.1)) (hc : vwCl[ci]? = some r) (hi : L[i]? = some (.inl (xcy X.1 K, N, .inr (.inr (.inr (.inr f)))))) (hb' : L[b]? = some (.inr (ci, fs))) (hin : vp_in x N) (hd : decode cc pc = .ok (.aastore, 1)) (hL : L.set i (.inl (xcy X.1 K, N, .inr (.inr (.inr (.inr (va_up f x.toNatClampNeg (some (xbs X.1 + (n + b))))))))) = L') (k : GW X E0 (pc + 1) lv st L' nc ns) : GW X E0 pc lv (vr X.1 (n + b) :: .int x :: vr X.1 (n + i) :: st) L nc ns := by
  obtain ⟨G, p, e, R, s, m, args, below, meth, c, cells, slots, Q, nL⟩ := X
  obtain ⟨⟨hx, hb, hml, hown, hts, hK, hSS, hbs, hcl, hsl, hfr, hlo⟩, hA, hmc, hms⟩ := id C
  intro H locs ls hP hz hS hl hq
  exact va_astq (tys := xtys G) hx hb hK hP (gw_D G _) hS (n + i) t0 (n + b) ci (gw_at (gat h0 hi)) ht (gw_at (gat h0 hb')) hc hin hd (fun H1 locs1 h1 h2 h3 => g_wrote h0 hi hL h1 h3 hl hq k)
/-- an array by its elements below its length -/
theorem g_arr (h0 : E0.length = n) {i N : Nat} {cA : ClassId} {f g : Nat → Option Nat} (hi : L[i]? = some (.inl (cA, N, .inr (.inr (.inr (.inr f)))))) (hfg : ∀ j, j < N → f j = g j) (hL : L.set i (.inl (cA, N, .inr (.inr (.inr (.inr g))))) = L') (k : GW X E0 pc lv st L' nc ns) : GW X E0 pc lv st L nc ns := by
  obtain ⟨G, p, e, R, s, m, args, below, meth, c, cells, slots, Q, nL⟩ := X
  intro H locs ls hP hz hS hl hq
  have hc : vp_cell cA (N, .inr (.inr (.inr (.inr g)))) = vp_cell cA (N, .inr (.inr (.inr (.inr f)))) := by
    rw [vp_cell_q, vp_cell_q]
    unfold arrV
    congr 1
    apply Array.ext
    · simp
    · intro j h1 h2
      simp only [Array.size_ofFn] at h1
      simp only [Array.getElem_ofFn]
      rw [hfg j h1]
  have hPn := hP _ _ (gw_at (gat h0 hi))
  have hP2 : va_P (xD G) vwCl ((gw (xbs G) (E0 ++ L)).set (n + i) (xbs G + (n + i), .inl (cA, N, .inr (.inr (.inr (.inr g)))))) H := by
    intro k q hk
    rw [List.getElem?_set] at hk
    by_cases e : n + i = k
    · subst e
      rw [if_pos rfl] at hk
      split at hk
      · cases hk
        show H[_]? = some (vp_cell _ _)
        rw [hc]
        exact hPn
      · cases hk
    · rw [if_neg e] at hk
      exact hP k q hk
  exact g_wrote h0 hi hL hP2 hS hl hq k
/-- the table -/
def gTab (G : xGX) (n : Nat) : List va_E := .inl (xcy G 18, 16, .inr (.inr (.inr (.inr (fun j => if j < 16 then some (xbs G + (n + 1 + j)) else none))))) :: List.replicate 16 (.inl (xcy G 13, 200, .inl (fun _ => 0)))
theorem g_multi (C : gCk X cc own d mc ms) (h0 : E0.length = n) {idx j : Nat} {x y : Int32} (hlk : Cond.classLink own idx "[[I" ∈ xTb) (hx0 : ¬ x < 0) (hy0 : ¬ y < 0) (hx1 : x.toNatClampNeg = 16) (hy1 : y.toNatClampNeg = 200) (hj : L.length = j) (h1 : Nat.ble (nc + 17) mc = true) (h2 : Nat.ble (ns + 3216) ms = true) (hd : decode cc pc = .ok (.multianewarray idx 2, 4)) (hL : L ++ gTab X.1 (n + j) = L') (k : GW X E0 (pc + 4) lv (vr X.1 (n + j) :: st) L' (nc + 17) (ns + 3216)) : GW X E0 pc lv (.int y :: .int x :: st) L nc ns := by
  obtain ⟨G, p, e, R, s, m, args, below, meth, c, cells, slots, Q, nL⟩ := X
  obtain ⟨⟨hx, hb, hml, hown, hts, hK, hSS, hbs, hcl, hsl, hfr, hlo⟩, hA, hmc, hms⟩ := id C
  obtain ⟨hA1, hA2, kA, kI, cE, a1, a2, a3, a4⟩ := id hA
  intro H locs ls hP hz hS hl hq
  have hz' : H.size = xbs G + (n + j) := hz.trans (by rw [gl h0 hj])
  have hfA : s.vm.findClass "[[I" = some (xcy G 18) := (hK.2 6 _ rfl).2
  refine mRow hx hb hown (hts _ hlk) hfA a1 a2 a3 a4 hx0 hy0 hx1 hy1 hd (by rw [hmc]; exact Nat.le_of_ble_eq_true h1) (by rw [hms]; exact Nat.le_of_ble_eq_true h2) (fun H1 locs' z1 o1 e1 e2 hlocs => ?_)
  subst hL
  have hlen : (E0 ++ (L ++ gTab G (n + j))).length = (E0 ++ L).length + 17 := by
    rw [← List.append_assoc, List.length_append (as := E0 ++ L)]; simp [gTab]
  have hP1 : va_P (xD G) vwCl (gw (xbs G) (E0 ++ (L ++ gTab G (n + j)))) H1 := by
    intro q en he
    obtain ⟨en', he', rfl⟩ := gw_inv he
    rw [← List.append_assoc] at he'
    by_cases hq : q < (E0 ++ L).length
    · rw [List.getElem?_append_left hq] at he'
      have hold := hP q _ (gw_at he')
      exact hold.kept (o1 _ hold.lt)
    · rw [List.getElem?_append_right (by omega), gl h0 hj] at he'
      rw [gl h0 hj] at hq
      obtain ⟨w, rfl⟩ : ∃ w, q = n + j + w := ⟨q - (n + j), by omega⟩
      rw [Nat.add_sub_cancel_left] at he'
      cases w with
      | zero =>
        cases he'
        show H1[xbs G + (n + j + 0)]? = some (vp_cell _ _)
        rw [vp_cell_q, Nat.add_zero, ← hz', e1]
        congr 1
        unfold mOut
        congr 1
        funext i
        by_cases hi : i < 16
        · rw [if_pos hi, if_pos hi, hz']; show Value.ref (xbs G + (n + j) + 1 + i) = Value.ref (xbs G + (n + j + 1 + i)); rw [show xbs G + (n + j) + 1 + i = xbs G + (n + j + 1 + i) by omega]
        · rw [if_neg hi, if_neg hi]; rfl
      | succ w =>
        have hw : (List.replicate 16 (Sum.inl (xcy G 13, 200, Sum.inl (fun _ => 0)) : va_E))[w]? = some en' := he'
        rw [List.getElem?_replicate] at hw
        split at hw
        · cases hw
          show H1[xbs G + (n + j + (w + 1))]? = some (vp_cell _ _)
          rw [show xbs G + (n + j + (w + 1)) = H.size + 1 + w by omega, e2 w (by assumption)]
          rfl
        · cases hw
  exact W.eq (g2 := F0 m (pc + 4) ls (vr G (n + j) :: st)) (by show _ = F0 m (pc + 4) ls (.ref (xbs G + (n + j)) :: st); rw [← hz']) (k H1 locs' ls hP1 (by show H1.size = xbs G + (E0 ++ (L ++ gTab G (n + j))).length; omega) ⟨Nat.le_trans hS.1 (by omega), fun x g1 g2 => (o1 x (Nat.lt_of_lt_of_le g1 hS.1)).trans (hS.2.1 x g1 g2), fun q hq => (hlocs q hq).elim (fun h => hS.2.2 q h) (fun h => by show xbs G ≤ q.base; rw [h]; omega)⟩ hl (by show s.heap.size + (nc + 17) = xbs G + (E0 ++ (L ++ gTab G (n + j))).length; omega))
/-- a constructor that can be called -/
def gMI (y : MethodName) (cc : ByteArray) (n np : Nat) : Prop := Cond.code y cc n none ∈ xTb ∧ Cond.instanceMethod y ∈ xTb ∧ Cond.initialized y.cls ∈ xTb ∧ (y.cls ≠ "java/lang/invoke/MethodHandle" ∧ y.cls ≠ "java/lang/invoke/VarHandle" ∧ (parseMethodDescriptor y.desc).map (fun d => d.parameters.length) = some np) ∧ n ≤ 19 ∧ y.name = "<init>"
theorem g_run {G : xGX} {p : Program} {l : Launch} {e : Env} {R : Room} {s : State} {m : MethodId} {args : Array Value} {below : List Frame} {meth : Method} {c : Code} {H : Heap} {locs : List Loc} {cells slots mc ms : Nat} {Q : State → Prop} {pc : Nat} {ls : Array Slot} {st0 rest : List Value} {E : List va_E} {a : Array Value}
    (hr : va_Run p l e R s m args below meth c H locs cells slots mc ms (F0 m pc ls st0) rest (gQQ G E a) (xA G)) (hS : va_S (xA G) s.heap H locs)
    (k : ∀ (H1 : Heap) (locs1 : List Loc), va_P (xD G) vwCl (gw (xbs G) E) H1 → H1.size = xbs G + E.length → va_S (xA G) s.heap H1 locs1 → W p l e R s m args below meth c H1 locs1 (cells + mc) (slots + ms) Q (F0 m (pc + 3) ls rest)) : W p l e R s m args below meth c H locs cells slots Q (F0 m pc ls st0) := by
  intro T hT X
  obtain ⟨v, st₀, t, T', L, h0, X', hL, e1, e2, ⟨⟨hv, hp, hsz⟩, hz, hk⟩, st⟩ := hr T hT X
  cases hv
  rw [h0] at hz hk
  obtain ⟨t2, a1, b1⟩ := k T'.heap (locs ++ L) (by rw [e1]; exact hp) (by rw [e1]; exact hsz)
    ⟨Nat.le_trans hS.1 (by rw [e1]; exact hz), fun q h1 h2 => by rw [e1, hk q (Nat.lt_of_lt_of_le h1 hS.1) h2]; exact hS.2.1 q h1 h2, fun q hq => by
      rcases List.mem_append.mp hq with h | h
      · exact hS.2.2 q h
      · exact hL q h⟩ T' rfl X'
  exact ⟨t2, st t2 a1, b1⟩
theorem g_call (C : gCk X cc own d mc ms) {y : MethodName} {cc' : ByteArray} {nl np d' mc' ms' idx b : Nat} {As : List Value} {L1 B : List va_E} {en : va_E} {st0 : List Value} (hM : gCt X.1 y cc' nl d' mc' ms' (vr X.1 b :: As) (E0 ++ L1 ++ [en]) (E0 ++ L1 ++ B)) (MI : gMI y cc' nl np) (LK : xLK own idx y) (hL1 : L1 ++ [en] = L) (hd' : d' + 1 ≤ d) (hnp : As.length = np) (hst : (st.map fun v => v.category).sum ≤ 8) (hs0 : st0 = As.reverse ++ vr X.1 b :: st) (hB : B.length = mc' + 1) (h1 : Nat.ble (nc + mc') mc = true) (h2 : Nat.ble (ns + ms') ms = true) (hd : decode cc pc = .ok (.invokespecial idx, 3)) (hL : L1 ++ B = L') (k : GW X E0 (pc + 3) lv st L' (nc + mc') (ns + ms')) : GW X E0 pc lv st0 L nc ns := by
  obtain ⟨G, p, e, R, s, m, args, below, meth, c, cells, slots, Q, nL⟩ := X
  obtain ⟨⟨hx, hb, hml, hown, hts, hK, hSS, hbs, hcl, hsl, hfr, hlo⟩, hA, hmc, hms⟩ := id C
  intro H locs ls hP hz hS hl hq
  subst hL1; subst hL
  obtain ⟨hcode, hinst, hini, hd9, hn19, hyn⟩ := MI
  have hRoom : (grm d' mc' ms').frames + 1 ≤ R.frames ∧ 8 + (nl + 11) + (grm d' mc' ms').locals ≤ R.locals := by
    simp only [grm]; omega
  rw [← List.append_assoc] at hP hz hq
  have hpre : PreS s H (va_Pc (vr G b :: As) (gHB G (E0 ++ L1 ++ [en]))) (.ref (xbs G + b) :: As) := ⟨gHB_blind, fun U hU hW => ⟨rfl, gHB_of hP hz hS hK hSS hA hU hW⟩⟩
  have hf : nc + mc' ≤ R.cells ∧ ns + ms' ≤ R.slots := ⟨by rw [hmc]; exact Nat.le_of_ble_eq_true h1, by rw [hms]; exact Nat.le_of_ble_eq_true h2⟩
  have hk : ∀ (H1 : Heap) (locs1 : List Loc), va_P (xD G) vwCl (gw (xbs G) (E0 ++ L1 ++ B)) H1 → H1.size = xbs G + (E0 ++ L1 ++ B).length → va_S (xA G) s.heap H1 locs1 → W p G.1 e R s m args below meth c H1 locs1 (nc + mc') (ns + ms') Q (F0 m (pc + 3) ls st) := fun H1 locs1 g1 g2 g3 => k H1 locs1 ls (by rw [← List.append_assoc]; exact g1) (by rw [← List.append_assoc]; exact g2) g3 hl (by
    rw [← List.append_assoc, List.length_append, hB]
    rw [List.length_append, List.length_singleton] at hq
    omega)
  rcases LK with LK | ⟨host, LK⟩
  · exact g_run (va_runI (As := As) (rest := st) ⟨hx, hb, hml, hown, hts⟩ hM ⟨callB_of np hts (xgoodIn hcode) rfl rfl rfl (hts _ hini) (hts _ LK) hd9 hRoom, hyn, hts _ hinst⟩ hpre rfl hnp hl.1 hs0 (lv_room hst) hd hf) hS hk
  · exact g_run (va_runIN (As := As) (rest := st) ⟨hx, hb, hml, hown, hts⟩ hM ⟨va_cnB np hts (xgoodIn hcode) rfl rfl rfl (hSS.2.2.2.2.1 _ LK) (hts _ hini) hd9 hRoom, hyn, hts _ hinst⟩ hpre rfl hnp hl.1 hs0 (lv_room hst) hd hf) hS hk
end
