/-! ===== the first memory ===== -/
theorem top_0 {M : xMem} (h8 : ∀ t, t < 2 → M.1 8 t = nI 0) (h10 : ∀ t, t < 2 → M.1 10 t = nI 0) (h6 : M.1 6 2 = nI 0) (h24 : M.1 24 5 = nI 0) (h122 : M.1 12 2 = nI 0) (h123 : M.1 12 3 = nI 0) (h63 : M.1 63 2 = nI 0) (hp : ∀ i j, i < 10 → j < 10 → xpm M i = xpm M j → i = j) (h1 : M.1 1 1 = nI 0) (h3 : M.1 3 1 = nI 0) (hw : M.2.2.1 = false) (h147 : M.2.1 147 = lf (fun _ => 0)) (h148 : M.2.1 148 = lf (fun _ => 0)) (h19 : M.1 146 19 = nI 0) (h151 : ∃ κ, M.2.1 151 = lf κ) (h11 : M.1 146 11 = nI 0) (h17 : M.1 146 17 = M.1 0 8) (h18 : M.1 146 18 = M.1 0 9) (h22 : M.1 146 22 = nI 0) : TOP M := by
  have hn : noT (N0, N0, []) := ⟨fun t ht => ⟨rfl, rfl⟩, rfl⟩
  have hA : TaR M 6 (N0, N0, []) := ⟨fun t ht => ⟨h8 t ht, h10 t ht, fun i x hi => by simp [N0] at hi⟩, h6, fun i l hi => by simp at hi⟩
  obtain ⟨κ, hκ⟩ := h151
  refine ⟨(N0, N0, []), [], [], M.1 0 8, M.1 0 9, [], ⟨⟨hA, Or.inr ⟨hn, h24, h122, h123⟩⟩, ⟨h63, by decide, hp, fun x hx => by simp at hx, fun j x y hx hy => by simp at hy⟩, ⟨h1, by decide, fun b hb => by simp at hb, fun j b hj => by simp at hj⟩, rfl, rfl, h3, by decide, fun b hb => by simp at hb, fun j b hj => by simp at hj⟩, hw, ?_, ⟨fun _ => 0, h148, fun _ _ => rfl⟩, ⟨h19, κ, hκ, fun j x hj => by simp at hj⟩, ⟨h11, fun j b hj => by simp at hj⟩, h17, h18, h22, fun j b hj => by simp at hj⟩
  have e : rowX (N0, N0, []) = fun _ => 0 := by
    unfold rowX
    exact if_pos rfl
  rw [e]
  exact h147
