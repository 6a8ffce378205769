/-! ===== what holds of a team in a row ===== -/
def cntR (ρ : Nat → Nat) (t : Nat) : Nat := sumR (fun i => if ρ (48 + 10 * t + i) = 2 then 0 else 1) (ρ (1 + t))
def TI (ρ : Nat → Nat) (t : Nat) : Prop :=
  7 ≤ ρ (1 + t) ∧ (qL ρ t).Nodup ∧ (∀ i, i < ρ (1 + t) → (ρ (48 + 10 * t + i) = 1 ↔ i ∈ qL ρ t)) ∧ (∀ x ∈ qL ρ t, x < ρ (1 + t)) ∧ cntR ρ t = 7 ∧ ∀ i, i < ρ (1 + t) → ρ (48 + 10 * t + i) ≠ 3 → ρ (68 + 10 * t + i) = 0
theorem nodup_le (p : Nat → Bool) : ∀ (n : Nat) (l : List Nat), l.Nodup → (∀ x ∈ l, x < n ∧ p x = true) → l.length ≤ sumR (fun i => if p i then 1 else 0) n := by
  intro n
  induction n with
  | zero =>
    intro l _ h
    cases l with
    | nil => simp
    | cons a r => exact absurd (h a List.mem_cons_self).1 (by omega)
  | succ n ih =>
    intro l hn h
    unfold sumR
    by_cases hm : n ∈ l
    · have hp := (h n hm).2
      have h1 := ih (l.erase n) (hn.erase n) (fun x hx => by
        have hx' := List.mem_of_mem_erase hx
        have hne : x ≠ n := fun q => by
          subst q
          exact absurd hx (List.Nodup.not_mem_erase hn)
        have := h x hx'
        exact ⟨by omega, this.2⟩)
      rw [List.length_erase_of_mem hm] at h1
      rw [if_pos hp]
      have : 0 < l.length := List.length_pos_of_mem hm
      omega
    · have h1 := ih l hn (fun x hx => by
        have hne : x ≠ n := fun q => hm (q ▸ hx)
        have := h x hx
        exact ⟨by omega, this.2⟩)
      split <;> omega
theorem cntR_eq (ρ : Nat → Nat) (t : Nat) : cntR ρ t = sumR (fun i => if (ρ (48 + 10 * t + i) != 2) then 1 else 0) (ρ (1 + t)) := by
  unfold cntR
  apply sumR_congr
  intro i _
  by_cases h : ρ (48 + 10 * t + i) = 2 <;> simp [h]
/-- different players who don't wait: at most seven -/
theorem TI.le7 {ρ : Nat → Nat} {t : Nat} (h : TI ρ t) {l : List Nat} (hn : l.Nodup) (hl : ∀ x ∈ l, x < ρ (1 + t) ∧ ρ (48 + 10 * t + x) ≠ 2) : l.length ≤ 7 := by
  have := nodup_le (fun i => ρ (48 + 10 * t + i) != 2) (ρ (1 + t)) l hn (fun x hx => ⟨(hl x hx).1, by simpa using (hl x hx).2⟩)
  rw [← cntR_eq, h.2.2.2.2.1] at this
  exact this
theorem TI.q7 {ρ : Nat → Nat} {t : Nat} (h : TI ρ t) : ρ (108 + t) ≤ 7 := by
  rw [← qL_len ρ t]
  refine h.le7 h.2.1 (fun x hx => ?_)
  have hx2 := h.2.2.2.1 x hx
  exact ⟨hx2, by rw [(h.2.2.1 x hx2).mpr hx]; decide⟩
/-- those who are out and others who are on: at most seven -/
theorem TI.q7' {ρ : Nat → Nat} {t : Nat} (h : TI ρ t) {l : List Nat} (hn : l.Nodup) (hl : ∀ x ∈ l, x < ρ (1 + t) ∧ ρ (48 + 10 * t + x) = 0) : ρ (108 + t) + l.length ≤ 7 := by
  rw [← qL_len ρ t, ← List.length_append]
  refine h.le7 (List.nodup_append.mpr ⟨h.2.1, hn, fun a ha b hb e => ?_⟩) (fun x hx => ?_)
  · subst e
    have h1 := (hl a hb)
    have h2 := (h.2.2.1 a h1.1).mpr ha
    omega
  · rcases List.mem_append.mp hx with q | q
    · have hx2 := h.2.2.2.1 x q
      exact ⟨hx2, by rw [(h.2.2.1 x hx2).mpr q]; decide⟩
    · exact ⟨(hl x q).1, by rw [(hl x q).2]; decide⟩
theorem TI.congr {ρ σ : Nat → Nat} {t : Nat} (h : TI ρ t) (hr : ρ (1 + t) ≤ 10) (e : ∀ j, j = 1 + t ∨ j = 108 + t ∨ (48 + 10 * t ≤ j ∧ j < 58 + 10 * t) ∨ (68 + 10 * t ≤ j ∧ j < 78 + 10 * t) ∨ (110 + 10 * t ≤ j ∧ j < 120 + 10 * t) → σ j = ρ j) : TI σ t := by
  have h7 := h.q7
  obtain ⟨a, b, c, d, f, g⟩ := h
  have e1 : σ (1 + t) = ρ (1 + t) := e _ (by omega)
  have eq : qL σ t = qL ρ t := qL_congr (e _ (by omega)) (fun j hj => e _ (by omega))
  refine ⟨by rw [e1]; exact a, by rw [eq]; exact b, fun i hi => ?_, fun x hx => ?_, ?_, fun i hi hi3 => ?_⟩
  · rw [e1] at hi
    rw [eq, e _ (by omega)]
    exact c i hi
  · rw [eq] at hx
    rw [e1]
    exact d x hx
  · rw [← f]
    unfold cntR
    rw [e1]
    exact sumR_congr (fun i hi => by rw [e _ (by omega)])
  · rw [e1] at hi
    rw [e _ (by omega)] at hi3
    rw [e _ (by omega)]
    exact g i hi hi3
theorem cnt_up {ρ : Nat → Nat} {t i v : Nat} (hi : i < ρ (1 + t)) (hv : v ≠ 2) (h : ρ (48 + 10 * t + i) ≠ 2) {σ : Nat → Nat} (e1 : σ (1 + t) = ρ (1 + t)) (e : ∀ j, j < ρ (1 + t) → σ (48 + 10 * t + j) = if j = i then v else ρ (48 + 10 * t + j)) : cntR σ t = cntR ρ t := by
  unfold cntR
  rw [e1]
  apply sumR_congr
  intro j hj
  rw [e j hj]
  by_cases q : j = i
  · subst q
    rw [if_pos rfl, if_neg hv, if_neg h]
  · rw [if_neg q]
theorem TI.out {ρ : Nat → Nat} {t i : Nat} (h : TI ρ t) (hR : RW ρ) (ht : t < 2) (hi : i < ρ (1 + t)) (h0 : ρ (48 + 10 * t + i) = 0) : TI (outR t i ρ) t := by
  have h7 := h.q7
  have hr := hR.m ht
  have hw0 := h.2.2.2.2.2 i hi (by omega)
  obtain ⟨a, b, c, d, f, g⟩ := h
  have e1 : outR t i ρ (1 + t) = ρ (1 + t) := outR_ne (by omega) (by omega) (by omega)
  have eq := qL_out (ρ := ρ) (i := i) ht (by omega) (by omega)
  have es : ∀ j, j < ρ (1 + t) → outR t i ρ (48 + 10 * t + j) = if j = i then 1 else ρ (48 + 10 * t + j) := fun j hj => by
    by_cases q : j = i
    · subst q
      rw [if_pos rfl]
      unfold outR
      rw [va_at_ne (by omega), va_at_ne (by omega), va_at_eq]
    · rw [if_neg q]
      exact outR_ne (by omega) (by omega) (by omega)
  have ew : ∀ j, j < ρ (1 + t) → outR t i ρ (68 + 10 * t + j) = ρ (68 + 10 * t + j) := fun j hj => outR_ne (by omega) (by omega) (by omega)
  have hni : i ∉ qL ρ t := fun q => by have := (c i hi).mpr q; omega
  refine ⟨by rw [e1]; exact a, ?_, fun j hj => ?_, fun x hx => ?_, ?_, fun j hj hj3 => ?_⟩
  · rw [eq]
    exact List.nodup_append.mpr ⟨b, by simp, fun x hx y hy e => hni (by rw [List.mem_singleton.mp hy] at e; rw [← e]; exact hx)⟩
  · rw [e1] at hj
    rw [es j hj, eq, List.mem_append, List.mem_singleton]
    by_cases q : j = i
    · rw [if_pos q]; simp [q]
    · rw [if_neg q, c j hj]; simp [q]
  · rw [eq] at hx
    rw [e1]
    rcases List.mem_append.mp hx with q | q
    · exact d x q
    · rw [List.mem_singleton.mp q]; exact hi
  · rw [← f]
    exact cnt_up hi (by decide) (by omega) e1 es
  · rw [e1] at hj
    rw [ew j hj]
    rw [es j hj] at hj3
    by_cases q : j = i
    · rw [q]; exact hw0
    · rw [if_neg q] at hj3
      exact g j hj hj3
theorem TI.back {ρ : Nat → Nat} {t : Nat} (h : TI ρ t) (hR : RW ρ) (ht : t < 2) : TI (backR t ρ) t := by
  by_cases h0 : ρ (108 + t) = 0
  · rw [backR_0 h0]; exact h
  · have h7 := h.q7
    have hr := hR.m ht
    have hq := hR.q ht
    obtain ⟨a, b, c, d, f, g⟩ := h
    obtain ⟨rest, hrest⟩ := qL_head h0
    have hx : ρ (110 + 10 * t) ∈ qL ρ t := by rw [hrest]; exact List.mem_cons_self
    have hxs := d _ hx
    have hx1 := (c _ hxs).mpr hx
    have e1 : backR t ρ (1 + t) = ρ (1 + t) := backR_ne hq (by omega) (by omega) (by omega)
    have eq := qL_back ht hq h0
    have es : ∀ j, j < ρ (1 + t) → backR t ρ (48 + 10 * t + j) = if j = ρ (110 + 10 * t) then 0 else ρ (48 + 10 * t + j) := fun j hj => by
      unfold backR
      rw [if_neg h0]
      by_cases q : j = ρ (110 + 10 * t)
      · rw [if_pos q, q, va_at_eq]
      · rw [if_neg q, va_at_ne (by omega), leaveR_lo ht (by omega)]
    have ew : ∀ j, j < ρ (1 + t) → backR t ρ (68 + 10 * t + j) = ρ (68 + 10 * t + j) := fun j hj => backR_ne hq (by omega) (by omega) (by omega)
    refine ⟨by rw [e1]; exact a, by rw [eq]; exact b.filter _, fun j hj => ?_, fun x hx' => ?_, ?_, fun j hj hj3 => ?_⟩
    · rw [e1] at hj
      rw [es j hj, eq, List.mem_filter]
      by_cases q : j = ρ (110 + 10 * t)
      · rw [if_pos q]; simp [q]
      · rw [if_neg q, c j hj]; simp [q]
    · rw [eq] at hx'
      rw [e1]
      exact d x (List.mem_filter.mp hx').1
    · rw [← f]
      exact cnt_up hxs (by decide) (by omega) e1 es
    · rw [e1] at hj
      rw [ew j hj]
      rw [es j hj] at hj3
      by_cases q : j = ρ (110 + 10 * t)
      · rw [q]; exact g _ hxs (by omega)
      · rw [if_neg q] at hj3
        exact g j hj hj3
