/-! ===== undo ===== -/
theorem rowX_far {a : xTl} (h : tdOK a ∨ noT a) {j : Nat} (hj : 3235 ≤ j) : rowX a j = 0 := by
  rcases h with h | h
  · rw [rowX_td h]
    unfold rowT
    rw [row_far hj (RI.beg h.1) h.2]
    exact beg_0 (by omega) (by omega)
  · rw [rowX_no h]
theorem KC.okA {M : xMem} {a : xTl} {hs : List xTl} {tp : List Nat} {fk fp : Int32} {ou : List Nat} (h : KC M a hs tp fk fp ou) : tdOK a ∨ noT a := by
  rcases h.1.2 with q | q
  · exact Or.inl q.1
  · exact Or.inr q.1
theorem s_undo : STEP (fX10_undo 0) (fX11_undo 146) := by
  intro M hM
  obtain ⟨a, hs, tp, fk, fp, ou, hC, hR⟩ := id hM
  obtain ⟨t0, t1, l0, l1⟩ := ac_tab
  have hokA := hC.okA
  obtain ⟨c1, c2, c3, c4, c5, c6⟩ := hC
  obtain ⟨a1, a2, a3, a4, a5⟩ := id c2
  obtain ⟨r1, r2, ⟨α, r3, r3'⟩, ⟨r4, κ, r5, r6⟩, r7, r8, r9, r10⟩ := id hR
  by_cases hz : hs.length = 0
  · refine ⟨-1, M, M, ?_, ?_, hM⟩
    · unfold fX10_undo
      rw [x04, a1]
      exact sT (by rw [hz]; decide) rfl
    · unfold fX11_undo
      rw [r4]
      exact sT (by rw [hz]; decide) rfl
  · obtain ⟨n, hn⟩ : ∃ n, hs.length = n + 1 := ⟨hs.length - 1, by omega⟩
    have hx : hs[n]? = some hs[n] := List.getElem?_eq_getElem (by omega)
    generalize hs[n] = x at hx
    have hok : tdOK x ∨ noT x := a4 x (List.mem_of_getElem? hx)
    have hsp : hs = hs.dropLast ++ [x] := by
      have hne : hs ≠ [] := by intro e; rw [e] at hn; simp at hn
      have e1 := (List.dropLast_concat_getLast hne).symm
      have e2 : hs.getLast hne = x := by
        rw [List.getLast_eq_getElem]
        have : hs[hs.length - 1]? = some x := by rw [hn]; exact hx
        exact (List.getElem?_eq_some_iff.1 this).2
      rw [e2] at e1
      exact e1
    have hdl : hs.dropLast.length = n := by rw [List.length_dropLast, hn]; rfl
    have j1 : (hs ++ [a])[n]? = some x := by rw [List.getElem?_append_left (by omega)]; exact hx
    have j2 : (hs ++ [a])[n + 1]? = some a := by rw [← hn]; exact get_last
    have step5 := a5 n x a j1 j2
    -- the class: the latest act is forgotten
    have tb : ∀ b : Nat, b < 2 → M.1 65 n = nI b → fX0_takeBack 63 M = some (nI b, xwI M 63 2 (nI n)) := by
      intro b hb e
      unfold fX0_takeBack
      rw [a1, t1, l1]
      refine sF (eN0 (by omega) hz) ?_
      rw [eSub (by omega), show hs.length - 1 = n by omega]
      refine sLt ?_
      rw [xwI_at]
      refine sGb n rfl (by omega) (by decide) ?_
      rw [eCl (by omega), xwI_c (by decide), e]
      refine sGd ?_ rfl
      rcases (show b = 0 ∨ b = 1 by omega) with rfl | rfl
      · exact Or.inl (by decide)
      · exact Or.inr (by decide)
    have key : ∃ M', fX10_undo 0 M = some (nI n, M') ∧ CR M' x ∧ (∀ c, c < 6 ∨ 60 ≤ c → M'.1 c = (xwI M 63 2 (nI n)).1 c) ∧ (∀ c, c < 6 ∨ 60 ≤ c → M'.2.1 c = M.2.1 c) ∧ M'.2.2 = M.2.2 := by
      rcases step5 with ⟨e1, e2⟩ | ⟨e1, e2, e3⟩
      · have e2' : TaR (xwI M 63 2 (nI n)) (xfo M n) x := by
          have hp := xpm_lt M n
          rw [xfo_pm] at e2 ⊢
          exact e2.keep (fun c u v => xwI_c (by omega)) rfl
        have hne : 6 ≠ xfo M n := by rw [xfo_pm]; omega
        obtain ⟨M2, f2, k2, k3⟩ := t_copy kd6 (xkfoT M n) hne e2' (ok_len hok).1 (ok_len hok).2
        obtain ⟨M3, f3, k4, k5⟩ := m_replay k2 hok
        refine ⟨M3, ?_, k4, fun c hc => ?_, fun c hc => ?_, ?_⟩
        · unfold fX10_undo
          rw [x04, x02, m50, a1]
          refine sF (eN0 (by omega) hz) (sBn (tb 1 (by decide) e1) ?_)
          refine sJx M2 (fun J => ?_) ?_
          · refine sF (by decide) (sBn (a := xfo M n) (M := xwI M 63 2 (nI n)) ?_ ?_)
            · unfold fX0_former
              rw [t0, l0]
              refine sJw (nI n) (xwI M 63 2 (nI n)) (fun J => ?_) ?_
              · rw [xwI_at]
                exact sF (by rw [eLe (by decide) (by omega)]; omega) rfl
              · refine sGb n rfl (by omega) (by decide) ?_
                rw [eCl (by omega)]
                rfl
            · rw [f2, eBv]
          · rw [f3, eBv, k5.1 63 (by decide), k3.1 63 (by decide), xwI_at]
        · rw [k5.1 c (by omega), k3.1 c (by omega)]
        · rw [k5.2.1 c (by omega), k3.2.1 c (by omega)]
          rfl
        · rw [k5.2.2, k3.2.2]
          rfl
      · have c1' : TaR (xwI M 63 2 (nI n)) 6 a := c1.1.keep (fun c u v => xwI_c (by omega)) rfl
        obtain ⟨M2, f2, k2, k3⟩ := t_drop c1' e3 (ok_len hokA).2
        rw [← e2] at k2
        obtain ⟨M3, f3, k4, k5⟩ := m_replay k2 hok
        refine ⟨M3, ?_, k4, fun c hc => ?_, fun c hc => ?_, ?_⟩
        · unfold fX10_undo
          rw [x04, x02, m50, a1]
          refine sF (eN0 (by omega) hz) (sBn (tb 0 (by decide) e1) ?_)
          refine sJx M2 (fun J => ?_) ?_
          · refine sT (by decide) ?_
            rw [f2, eBv]
          · rw [f3, eBv, k5.1 63 (by decide), k3.1 63 (by decide), xwI_at]
        · rw [k5.1 c (by omega), k3.1 c (by omega)]
        · rw [k5.2.1 c (by omega), k3.2.1 c (by omega)]
          rfl
        · rw [k5.2.2, k3.2.2]
          rfl
    obtain ⟨M1, f1, k1, k2, k3, k4⟩ := key
    have lo : ∀ c, c < 6 → M1.1 c = M.1 c := fun c hc => by rw [k2 c (by omega), xwI_c (by omega)]
    have hi' : ∀ c, 64 ≤ c → M1.1 c = M.1 c := fun c hc => by rw [k2 c (by omega), xwI_c (by omega)]
    have hC1 : KC M1 x hs.dropLast tp fk fp ou := by
      refine ⟨k1, ⟨?_, by omega, ?_, fun y hy => a4 y ((List.dropLast_sublist hs).subset hy), ?_⟩, ?_, by rw [lo 0 (by decide)]; exact c4, by rw [lo 0 (by decide)]; exact c5, ?_⟩
      · rw [k2 63 (by decide), xwI_at, hdl]
      · intro i j hi hj e
        unfold xpm at e
        rw [k4] at e
        exact a3 i j hi hj e
      · rw [← hsp]
        intro j u v hu hv
        have hj : j + 1 < hs.length := (List.getElem?_eq_some_iff.1 hv).1
        have := a5 j u v (by rw [List.getElem?_append_left (by omega)]; exact hu) (by rw [List.getElem?_append_left (by omega)]; exact hv)
        have ep : xpm M1 j = xpm M j := by unfold xpm; rw [k4]
        rw [hi' 65 (by decide)]
        rcases this with ⟨e1, e2⟩ | e
        · refine Or.inl ⟨e1, ?_⟩
          rw [xfo_pm] at e2
          rw [xfo_pm, ep]
          exact e2.keep (fun c u v => hi' c (by omega)) (k3 _ (by omega))
        · exact Or.inr e
      · rw [lo 1 (by decide), lo 2 (by decide)]; exact c3
      · rw [lo 3 (by decide), lo 4 (by decide)]; exact c6
    have hR1 : KM M1 a hs tp fk fp ou := hR.fc ⟨fun c hc => hi' c (by omega), fun c hc => k3 c (by omega), by rw [k4]⟩
    obtain ⟨r1, r2, ⟨α, r3, r3'⟩, ⟨r4, κ, r5, r6⟩, r7, r8, r9, r10⟩ := hR1
    refine ⟨nI n, M1, xwQ (xwI M1 146 19 (nI n)) 147 (lf (rowX x)), f1, ?_, x, hs.dropLast, tp, fk, fp, ou, ?_, ?_⟩
    · unfold fX11_undo
      rw [r4]
      refine sF (eN0 (by omega) hz) ?_
      rw [eSub (by omega), show hs.length - 1 = n by omega]
      refine sLt ?_
      have E := e_undo_l21 (M := xwI M1 146 19 (nI n)) (ρ := rowX a) (κ := κ) (a := n) (by omega) r5 (xwI_at _ _ _ _) (fun (v6 : Int32) (M7 : xMem) => some ((M7.1 146 19), M7))
      have e0 : xwQ (xwI M1 146 19 (nI n)) 147 (lf (rowX a)) = xwI M1 146 19 (nI n) := (xwQ_of (M := xwI M1 146 19 (nI n)) r2).symm
      rw [e0] at E
      rw [E]
      have e3 : (fun j => if j < 3235 then κ (3235 * n + j) else rowX a j) = rowX x := by
        funext j
        by_cases q : j < 3235
        · rw [if_pos q]
          exact r6 n x hx j q
        · rw [if_neg q, rowX_far hokA (by omega), rowX_far hok (by omega)]
      rw [e3]
      show some ((xwI M1 146 19 (nI n)).1 146 19, _) = _
      rw [xwI_at]
    · refine hC1.keep (fun c hc => ?_) (fun c hc => ?_) rfl
      · show (xwI M1 146 19 (nI n)).1 c = _
        exact xwI_c (by omega)
      · rw [xwQ_ne (by omega)]
        rfl
    · have nn : ∀ j, j ≠ 19 → (xwI M1 146 19 (nI n)).1 146 j = M1.1 146 j := fun j hj => xwI_ne (Or.inr hj)
      refine ⟨r1, xwQ_at .., ⟨α, by rw [xwQ_ne (by decide)]; exact r3, r3'⟩, ⟨?_, κ, by rw [xwQ_ne (by decide)]; exact r5, fun j y hy => ?_⟩, ?_⟩
      · rw [xwQ_1, xwI_at, hdl]
      · refine r6 j y ?_
        have hj : j < hs.dropLast.length := (List.getElem?_eq_some_iff.1 hy).1
        rw [hsp, List.getElem?_append_left hj]
        exact hy
      · rw [xwQ_1, nn 11 (by decide), nn 17 (by decide), nn 18 (by decide), nn 22 (by decide), xwI_c (by decide), xwI_c (by decide)]
        exact ⟨r7, r8, r9, r10⟩
