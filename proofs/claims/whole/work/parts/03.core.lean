/-! the heap behind both constructors: kinds, lengths, references; fields: 0 int, 1 long, 2 a reference -/
def xkdL : List Nat := [10, 6, 12, 6, 12, 2, 9, 5, 13, 13, 13, 14, 8, 16, 7, 13, 13, 13, 13, 7, 13, 13, 13, 13, 1, 18, 13, 13, 13, 13, 13, 13, 13, 13, 13, 13, 13, 13, 13, 13, 13, 13, 14, 13, 13, 13, 8, 16, 7, 13, 13, 13, 13, 7, 13, 13, 13, 13, 4, 13, 3, 4, 13, 0, 17, 15, 9, 5, 13, 13, 13, 14, 9, 5, 13, 13, 13, 14, 9, 5, 13, 13, 13, 14, 9, 5, 13, 13, 13, 14, 9, 5, 13, 13, 13, 14, 9, 5, 13, 13, 13, 14, 9, 5, 13, 13, 13, 14, 9, 5, 13, 13, 13, 14, 9, 5, 13, 13, 13, 14, 9, 5, 13, 13, 13, 14, 9, 5, 13, 13, 13, 14, 8, 16, 7, 13, 13, 13, 13, 7, 13, 13, 13, 13, 4, 13, 11, 14, 14, 13, 12, 14, 12, 12]
def xkd (k : Nat) : Nat := xkdL.getD k 99
def xlnL : List Nat := [0, 0, 2000, 0, 2064, 0, 0, 0, 2, 20, 2, 280, 0, 2, 0, 10, 10, 10, 10, 0, 10, 10, 10, 10, 0, 16, 200, 200, 200, 200, 200, 200, 200, 200, 200, 200, 200, 200, 200, 200, 200, 200, 200, 201, 160, 12, 0, 2, 0, 10, 10, 10, 10, 0, 10, 10, 10, 10, 0, 7, 0, 0, 7, 0, 10, 10, 0, 0, 2, 20, 2, 280, 0, 0, 2, 20, 2, 280, 0, 0, 2, 20, 2, 280, 0, 0, 2, 20, 2, 280, 0, 0, 2, 20, 2, 280, 0, 0, 2, 20, 2, 280, 0, 0, 2, 20, 2, 280, 0, 0, 2, 20, 2, 280, 0, 0, 2, 20, 2, 280, 0, 0, 2, 20, 2, 280, 0, 0, 2, 20, 2, 280, 0, 2, 0, 10, 10, 10, 10, 0, 10, 10, 10, 10, 0, 7, 0, 3235, 3235, 10, 2000, 32350, 2000, 100]
def xln (k : Nat) : Nat := xlnL.getD k 0
def xrfL : List (List Nat) := [[1, 3, 5, 60, 63, 126, 132, 144, 0, 0], [2, 0], [], [4, 0], [], [6, 12, 24, 46, 58], [7, 11, 0], [8, 9, 10], [], [], [], [], [13, 0, 0, 0, 0, 0, 0, 0, 0], [14, 19], [15, 16, 17, 18, 0, 0, 0, 0, 0, 0], [], [], [], [], [20, 21, 22, 23, 0, 0, 0, 0, 0, 0], [], [], [], [], [25, 42, 43, 44, 45, 0], [26, 27, 28, 29, 30, 31, 32, 33, 34, 35, 36, 37, 38, 39, 40, 41], [], [], [], [], [], [], [], [], [], [], [], [], [], [], [], [], [], [], [], [], [47, 0, 0, 0, 0, 0, 0, 0, 0], [48, 53], [49, 50, 51, 52, 0, 0, 0, 0, 0, 0], [], [], [], [], [54, 55, 56, 57, 0, 0, 0, 0, 0, 0], [], [], [], [], [0, 0, 0, 0, 0, 59], [], [1, 5, 61, 0, 0, 0, 0, 0, 0, 0], [0, 0, 0, 0, 0, 62], [], [64, 65, 0], [66, 72, 78, 84, 90, 96, 102, 108, 114, 120], [], [67, 71, 0], [68, 69, 70], [], [], [], [], [73, 77, 0], [74, 75, 76], [], [], [], [], [79, 83, 0], [80, 81, 82], [], [], [], [], [85, 89, 0], [86, 87, 88], [], [], [], [], [91, 95, 0], [92, 93, 94], [], [], [], [], [97, 101, 0], [98, 99, 100], [], [], [], [], [103, 107, 0], [104, 105, 106], [], [], [], [], [109, 113, 0], [110, 111, 112], [], [], [], [], [115, 119, 0], [116, 117, 118], [], [], [], [], [121, 125, 0], [122, 123, 124], [], [], [], [], [127, 131, 0], [128, 129, 130], [], [], [], [], [133, 0, 0, 0, 0, 0, 0, 0, 0], [134, 139], [135, 136, 137, 138, 0, 0, 0, 0, 0, 0], [], [], [], [], [140, 141, 142, 143, 0, 0, 0, 0, 0, 0], [], [], [], [], [0, 0, 0, 0, 0, 145], [], [0, 147, 148, 147, 0, 0, 0, 149, 0, 0, 150, 0, 0, 0, 0, 0, 0, 0, 0, 0, 151, 152, 0, 153, 0], [], [], [], [], [], [], []]
def xrf (k j : Nat) : Nat := (xrfL.getD k []).getD j 0
def xftL : List (List Nat) := [[2, 2, 0], [2, 2, 2, 2, 2, 0], [2, 2, 2, 2, 2], [2, 2, 2, 0, 0, 0, 1, 0, 0, 1], [0, 0, 0, 0, 0, 2], [2, 2, 2], [2, 0], [2, 2, 2, 2, 0, 0, 0, 0, 0, 0], [2, 0, 0, 0, 0, 0, 0, 0, 0], [2, 2, 0], [2, 2, 2, 2, 2, 2, 2, 2, 0, 0], [0, 2, 2, 2, 0, 0, 0, 2, 0, 0, 2, 0, 0, 0, 0, 0, 0, 0, 0, 0, 2, 2, 0, 2, 0]]
def xft (c j : Nat) : Nat := (xftL.getD c []).getD j 0
def xnf (c : Nat) : Nat := (xftL.getD c []).length
def xtgL : List (List Nat) := [[17, 15, 0], [18, 14, 13, 13, 13, 0], [9, 8, 1, 8, 4], [6, 2, 4, 0, 0, 0, 0, 0, 0, 0], [0, 0, 0, 0, 0, 13], [13, 13, 13], [12, 0], [13, 13, 13, 13, 0, 0, 0, 0, 0, 0], [16, 0, 0, 0, 0, 0, 0, 0, 0], [5, 14, 0], [6, 6, 2, 3, 0, 9, 8, 4, 0, 0], [0, 14, 14, 14, 0, 0, 0, 13, 0, 0, 12, 0, 0, 0, 0, 0, 0, 0, 0, 0, 14, 12, 0, 12, 0]]
def xtg (c j : Nat) : Nat := (xtgL.getD c []).getD j 0
/-! the string constants, by their places -/
def xsL : List (String × Nat × String) := [("RaidMat$Parser", 102, "team raid card change half review for won lost green yellow red empty touch bonus tackled out "), ("RaidMat$Match", 162, "raid "), ("RaidMat$Match", 204, " empty"), ("RaidMat$Match", 206, " touch"), ("RaidMat$Match", 202, " bonus"), ("RaidMat$Match", 208, " tackled"), ("RaidMat$Match", 210, " out"), ("RaidMatModel", 208, "team"), ("RaidMatModel", 210, "raid"), ("RaidMatModel", 212, "card"), ("RaidMatModel", 214, "change"), ("RaidMatModel", 216, "half"), ("RaidMatModel", 218, "review"), ("RaidMatModel", 220, "for"), ("RaidMatModel", 222, "won"), ("RaidMatModel", 224, "lost"), ("RaidMatModel", 226, "empty"), ("RaidMatModel", 228, "touch"), ("RaidMatModel", 230, "bonus"), ("RaidMatModel", 232, "tackled"), ("RaidMatModel", 234, "out"), ("RaidMatModel", 235, "green"), ("RaidMatModel", 237, "yellow"), ("RaidMatModel", 239, "red"), ("RaidMatModel", 427, "raid "), ("RaidMatModel", 432, " empty"), ("RaidMatModel", 434, " touch "), ("RaidMatModel", 436, " bonus"), ("RaidMatModel", 438, " tackled "), ("RaidMatModel", 440, " out")]
def xsB : List (List Nat) := [[116, 101, 97, 109, 32, 114, 97, 105, 100, 32, 99, 97, 114, 100, 32, 99, 104, 97, 110, 103, 101, 32, 104, 97, 108, 102, 32, 114, 101, 118, 105, 101, 119, 32, 102, 111, 114, 32, 119, 111, 110, 32, 108, 111, 115, 116, 32, 103, 114, 101, 101, 110, 32, 121, 101, 108, 108, 111, 119, 32, 114, 101, 100, 32, 101, 109, 112, 116, 121, 32, 116, 111, 117, 99, 104, 32, 98, 111, 110, 117, 115, 32, 116, 97, 99, 107, 108, 101, 100, 32, 111, 117, 116, 32], [114, 97, 105, 100, 32], [32, 101, 109, 112, 116, 121], [32, 116, 111, 117, 99, 104], [32, 98, 111, 110, 117, 115], [32, 116, 97, 99, 107, 108, 101, 100], [32, 111, 117, 116], [116, 101, 97, 109], [114, 97, 105, 100], [99, 97, 114, 100], [99, 104, 97, 110, 103, 101], [104, 97, 108, 102], [114, 101, 118, 105, 101, 119], [102, 111, 114], [119, 111, 110], [108, 111, 115, 116], [101, 109, 112, 116, 121], [116, 111, 117, 99, 104], [98, 111, 110, 117, 115], [116, 97, 99, 107, 108, 101, 100], [111, 117, 116], [103, 114, 101, 101, 110], [121, 101, 108, 108, 111, 119], [114, 101, 100], [114, 97, 105, 100, 32], [32, 101, 109, 112, 116, 121], [32, 116, 111, 117, 99, 104, 32], [32, 98, 111, 110, 117, 115], [32, 116, 97, 99, 107, 108, 101, 100, 32], [32, 111, 117, 116]]
def xsn (i : Nat) : Nat := (xsB.getD i []).length
def xsc (i j : Nat) : Int32 := nI ((xsB.getD i []).getD j 0)
def xso (i : Nat) : String × Nat × String := xsL.getD i ("", 0, "")
/-! the tables' words that a callee may take over -/
def xTb : List Cond := lw_tbl.filter goodWord
theorem xTb_of {w : Cond} (h : w ∈ lw_tbl) (g : goodWord w = true) : w ∈ xTb := List.mem_filter.mpr ⟨h, g⟩
theorem xTb_at {w : Cond} (i : Nat) (h : lw_tbl[i]? = some w) (g : goodWord w = true) : w ∈ xTb := xTb_of (List.mem_of_getElem? h) g
theorem xTb_c1 {w : Cond} (i : Nat) (h : tables_1_1[i]? = some w) (g : goodWord w = true) : w ∈ xTb := xTb_of (by
  have hm := List.mem_of_getElem? h
  unfold lw_tbl tables_1
  simp only [List.mem_append]
  exact Or.inr (Or.inl hm)) g
theorem xTb_c2 {w : Cond} (i : Nat) (h : tables_1_2[i]? = some w) (g : goodWord w = true) : w ∈ xTb := xTb_of (by
  have hm := List.mem_of_getElem? h
  unfold lw_tbl tables_1
  simp only [List.mem_append]
  exact Or.inr (Or.inr (Or.inl hm))) g
theorem xTb_c3 {w : Cond} (i : Nat) (h : tables_1_3[i]? = some w) (g : goodWord w = true) : w ∈ xTb := xTb_of (by
  have hm := List.mem_of_getElem? h
  unfold lw_tbl tables_1
  simp only [List.mem_append]
  exact Or.inr (Or.inr (Or.inr (Or.inl hm)))) g
theorem xTb_c4 {w : Cond} (i : Nat) (h : tables_1_4[i]? = some w) (g : goodWord w = true) : w ∈ xTb := xTb_of (by
  have hm := List.mem_of_getElem? h
  unfold lw_tbl tables_1
  simp only [List.mem_append]
  exact Or.inr (Or.inr (Or.inr (Or.inr (Or.inl hm))))) g
theorem xTb_c5 {w : Cond} (i : Nat) (h : tables_1_5[i]? = some w) (g : goodWord w = true) : w ∈ xTb := xTb_of (by
  have hm := List.mem_of_getElem? h
  unfold lw_tbl tables_1
  simp only [List.mem_append]
  exact Or.inr (Or.inr (Or.inr (Or.inr (Or.inr (Or.inl hm)))))) g
theorem xTb_c6 {w : Cond} (i : Nat) (h : tables_1_6[i]? = some w) (g : goodWord w = true) : w ∈ xTb := xTb_of (by
  have hm := List.mem_of_getElem? h
  unfold lw_tbl tables_1
  simp only [List.mem_append]
  exact Or.inr (Or.inr (Or.inr (Or.inr (Or.inr (Or.inr (Or.inl hm))))))) g
theorem xTb_c7 {w : Cond} (i : Nat) (h : tables_1_7[i]? = some w) (g : goodWord w = true) : w ∈ xTb := xTb_of (by
  have hm := List.mem_of_getElem? h
  unfold lw_tbl tables_1
  simp only [List.mem_append]
  exact Or.inr (Or.inr (Or.inr (Or.inr (Or.inr (Or.inr (Or.inr (Or.inl hm)))))))) g
theorem xTb_c8 {w : Cond} (i : Nat) (h : tables_1_8[i]? = some w) (g : goodWord w = true) : w ∈ xTb := xTb_of (by
  have hm := List.mem_of_getElem? h
  unfold lw_tbl tables_1
  simp only [List.mem_append]
  exact Or.inr (Or.inr (Or.inr (Or.inr (Or.inr (Or.inr (Or.inr (Or.inr (Or.inl hm))))))))) g
theorem xTb_c9 {w : Cond} (i : Nat) (h : tables_1_9[i]? = some w) (g : goodWord w = true) : w ∈ xTb := xTb_of (by
  have hm := List.mem_of_getElem? h
  unfold lw_tbl tables_1
  simp only [List.mem_append]
  exact Or.inr (Or.inr (Or.inr (Or.inr (Or.inr (Or.inr (Or.inr (Or.inr (Or.inr hm))))))))) g
theorem xTb_all {ws : List Cond} (ps : List Nat) (hp : ws = ps.filterMap (fun i => lw_tbl[i]?)) (h : ws.all goodWord = true) : ∀ w ∈ ws, w ∈ xTb := by
  intro w hw
  have h1 := List.all_eq_true.mp h w hw
  rw [hp] at hw
  obtain ⟨i, -, hi⟩ := List.mem_filterMap.mp hw
  exact xTb_at i hi h1
/-! the memory: ints and longs by cell and place; whether 'now' is 'aside'; which tale stands at which place of the acts -/
abbrev xMem : Type := (Nat → Nat → Int32) × (Nat → Nat → Int64) × Bool × (Nat → Nat)
def xwR (M : xMem) (k : Nat) (f : Nat → Int32) : xMem := (va_up M.1 k f, M.2)
def xwQ (M : xMem) (k : Nat) (f : Nat → Int64) : xMem := (M.1, va_up M.2.1 k f, M.2.2)
def xwI (M : xMem) (k j : Nat) (v : Int32) : xMem := xwR M k (upd (M.1 k) j v)
def xwL (M : xMem) (k j : Nat) (v : Int64) : xMem := xwQ M k (vp_updL (M.2.1 k) j v)
def xwW (M : xMem) (b : Bool) : xMem := (M.1, M.2.1, b, M.2.2.2)
def xwF (M : xMem) (j p : Nat) : xMem := (M.1, M.2.1, M.2.2.1, va_up M.2.2.2 j p)
def xnw (M : xMem) : Nat := bif M.2.2.1 then 148 else 147
def xfo (M : xMem) (j : Nat) : Nat := 66 + 6 * (M.2.2.2 j % 10)
def xrv (M : xMem) (k j : Nat) : Nat := if k = 146 ∧ j = 3 then xnw M else xrf k j
def xre (M : xMem) (k j : Nat) : Nat := if k = 64 then xfo M j else xrf k j
/-! what all methods share: the launch, the classes' numbers and slots, the arrays' classes, the first address, the strings -/
abbrev xGX : Type := Launch × (Nat → ClassId) × (Nat → Nat → Nat) × (Nat → ClassId) × Nat × (Nat → Nat) × (Nat → Nat)
def xbs (G : xGX) : Nat := G.2.2.2.2.1
def xD (G : xGX) : va_G := (G.2.1, G.2.2.1)
def xcy (G : xGX) (k : Nat) : ClassId := G.2.2.2.1 k
def xA (G : xGX) : Nat → Prop := fun q => xbs G ≤ q
def vr (G : xGX) (k : Nat) : Value := .ref (xbs G + k)
def vs (G : xGX) (n : Nat) : Value := .ref (G.2.2.2.2.2.1 n)
def xtys (G : xGX) : List (ClassId × FieldType) := [(xcy G 12, .byte), (xcy G 13, .int), (xcy G 14, .long), (xcy G 15, .boolean), (xcy G 16, .object RX7), (xcy G 17, .object RX9), (xcy G 18, .array .int)]
def xfv (G : xGX) (M : xMem) (k j t : Nat) : Value := if t = 0 then .int (M.1 k j) else if t = 1 then .long (M.2.1 k j) else vr G (xrv M k j)
def xfs (G : xGX) (M : xMem) (k C : Nat) : List Value := (List.range (xnf C)).map (fun j => xfv G M k j (xft C j))
def xel (G : xGX) (M : xMem) (k : Nat) : Nat → Option Nat := fun j => some (xbs G + xre M k j)
def xce (G : xGX) (M : xMem) (k : Nat) : va_E :=
  if xkd k < 12 then .inr (xkd k, xfs G M k (xkd k))
  else if xkd k = 14 then .inl (xcy G 14, xln k, .inr (.inl (M.2.1 k)))
  else if xkd k < 16 then .inl (xcy G (xkd k), xln k, .inl (M.1 k))
  else .inl (xcy G (xkd k), xln k, .inr (.inr (.inr (.inr (xel G M k)))))
def xwd (G : xGX) (M : xMem) : va_W := (List.range 154).map (fun k => (xbs G + k, xce G M k))
theorem xgetD {α : Type} (l : List α) (n : Nat) (d : α) (h : l.length ≤ n) : l.getD n d = d := by simp [List.getD, List.getElem?_eq_none h]
theorem xkd_lt {k : Nat} (h : xkd k ≠ 99) : k < 154 := by
  rcases Nat.lt_or_ge k 154 with q | q
  · exact q
  · exact absurd (show xkd k = 99 by unfold xkd; exact xgetD _ _ _ q) h
theorem xwd_at {G : xGX} {M : xMem} {k : Nat} (h : k < 154) : (xwd G M)[k]? = some (xbs G + k, xce G M k) := by
  unfold xwd
  rw [List.getElem?_map, List.getElem?_range h]
  rfl
theorem xwd_len (G : xGX) (M : xMem) : (xwd G M).length = 154 := by simp [xwd]
theorem xwd_D (G : xGX) (M : xMem) : va_D (xA G) (xwd G M) := by
  have key : ∀ (i : Nat) (p : Nat × va_E), (xwd G M)[i]? = some p → p.1 = xbs G + i := by
    intro i p h
    have hi : i < 154 := by have := (List.getElem?_eq_some_iff.mp h).1; rw [xwd_len] at this; exact this
    rw [xwd_at hi] at h
    cases h
    rfl
  refine ⟨fun i j p q hi hj h => ?_, fun k q h => ?_⟩
  · rw [key i p hi, key j q hj] at h; omega
  · rw [key k q h]; exact Nat.le_add_right _ _
theorem xwd_set {G : xGX} {M M' : xMem} {k : Nat} {e : va_E} (h : xce G M' k = e) (ho : ∀ j, j ≠ k → xce G M' j = xce G M j) : (xwd G M).set k (xbs G + k, e) = xwd G M' := by
  apply List.ext_getElem?
  intro i
  by_cases hi : i < 154
  · rw [List.getElem?_set, xwd_at hi, xwd_at hi]
    by_cases e1 : k = i
    · subst e1
      simp [xwd_len, hi, h]
    · simp [e1, ho i (fun q => e1 q.symm)]
  · have h1 : (xwd G M')[i]? = none := List.getElem?_eq_none (by rw [xwd_len]; omega)
    have h2 : ((xwd G M).set k (xbs G + k, e))[i]? = none := List.getElem?_eq_none (by rw [List.length_set, xwd_len]; omega)
    rw [h1, h2]
theorem xwd_obj {G : xGX} {M : xMem} {k C : Nat} (hk : xkd k = C) (hC : C < 12) : (xwd G M)[k]? = some (xbs G + k, .inr (C, xfs G M k C)) := by
  rw [xwd_at (xkd_lt (by omega))]
  subst hk
  simp [xce, hC]
theorem xwd_int {G : xGX} {M : xMem} {k K : Nat} (hk : xkd k = K) (hK : K = 12 ∨ K = 13 ∨ K = 15) : (xwd G M)[k]? = some (xbs G + k, .inl (xcy G K, xln k, .inl (M.1 k))) := by
  rw [xwd_at (xkd_lt (by omega))]
  subst hk
  rcases hK with h | h | h <;> simp [xce, h]
theorem xwd_lng {G : xGX} {M : xMem} {k : Nat} (hk : xkd k = 14) : (xwd G M)[k]? = some (xbs G + k, .inl (xcy G 14, xln k, .inr (.inl (M.2.1 k)))) := by
  rw [xwd_at (xkd_lt (by omega))]
  simp [xce, hk]
theorem xwd_ref {G : xGX} {M : xMem} {k K : Nat} (hk : xkd k = K) (hK : K = 16 ∨ K = 17 ∨ K = 18) : (xwd G M)[k]? = some (xbs G + k, .inl (xcy G K, xln k, .inr (.inr (.inr (.inr (xel G M k)))))) := by
  rw [xwd_at (xkd_lt (by omega))]
  subst hk
  rcases hK with h | h | h <;> simp [xce, h]
theorem xfs_get {G : xGX} {M : xMem} {k C j : Nat} (hj : j < xnf C) : (xfs G M k C)[j]? = some (xfv G M k j (xft C j)) := by
  unfold xfs
  rw [List.getElem?_map, List.getElem?_range hj]
  rfl
theorem xfs_len (G : xGX) (M : xMem) (k C : Nat) : (xfs G M k C).length = xnf C := by simp [xfs]
theorem xfs_set {G : xGX} {M M' : xMem} {k C j : Nat} {v : Value} (hv : xfv G M' k j (xft C j) = v) (ho : ∀ i, i ≠ j → xfv G M' k i (xft C i) = xfv G M k i (xft C i)) : (xfs G M k C).set j v = xfs G M' k C := by
  apply List.ext_getElem?
  intro i
  by_cases hi : i < xnf C
  · rw [List.getElem?_set, xfs_get hi, xfs_get hi]
    by_cases e1 : j = i
    · subst e1
      simp [xfs_len, hi, hv]
    · simp [e1, ho i (fun q => e1 q.symm)]
  · have h1 : (xfs G M' k C)[i]? = none := List.getElem?_eq_none (by rw [xfs_len]; omega)
    have h2 : ((xfs G M k C).set j v)[i]? = none := List.getElem?_eq_none (by rw [List.length_set, xfs_len]; omega)
    rw [h1, h2]
/-! a cell is as it was where the memory differs elsewhere -/
theorem xce_congr {G : xGX} {M M' : xMem} {k : Nat} (h1 : M'.1 k = M.1 k) (h2 : M'.2.1 k = M.2.1 k) (h3 : k ≠ 146 ∨ M'.2.2.1 = M.2.2.1) (h4 : k ≠ 64 ∨ M'.2.2.2 = M.2.2.2) : xce G M' k = xce G M k := by
  have hv : ∀ j t, xfv G M' k j t = xfv G M k j t := fun j t => by
    have : xrv M' k j = xrv M k j := by
      unfold xrv xnw
      rcases h3 with h | h
      · simp [h]
      · rw [h]
    simp only [xfv, h1, h2, this]
  have he : xel G M' k = xel G M k := by
    funext j
    unfold xel xre xfo
    rcases h4 with h | h
    · simp [h]
    · rw [h]
  simp only [xce, xfs, hv, h1, h2, he]
theorem xwd_wR {G : xGX} {M : xMem} {k : Nat} {f : Nat → Int32} {e : va_E} (h : xce G (xwR M k f) k = e) : (xwd G M).set k (xbs G + k, e) = xwd G (xwR M k f) :=
  xwd_set h (fun j hj => xce_congr (by simp [xwR, va_up, hj]) rfl (Or.inr rfl) (Or.inr rfl))
theorem xwd_wQ {G : xGX} {M : xMem} {k : Nat} {f : Nat → Int64} {e : va_E} (h : xce G (xwQ M k f) k = e) : (xwd G M).set k (xbs G + k, e) = xwd G (xwQ M k f) :=
  xwd_set h (fun j hj => xce_congr rfl (by simp [xwQ, va_up, hj]) (Or.inr rfl) (Or.inr rfl))
/-! kinds of what the fields and rows hold -/
theorem xtk0 : ∀ k, k < 154 → ∀ j, j < 25 → xkd k < 12 → xft (xkd k) j = 2 → xkd (xrf k j) = xtg (xkd k) j := by decide +kernel
theorem xft_lt {C j : Nat} (h : xft C j = 2) : j < 25 := by
  rcases Nat.lt_or_ge j 25 with q | q
  · exact q
  · have hl : ∀ C, C < 12 → (xftL.getD C []).length ≤ 25 := by decide +kernel
    have : xft C j = 0 := by
      unfold xft
      rcases Nat.lt_or_ge C 12 with c | c
      · exact xgetD _ _ _ (Nat.le_trans (hl C c) q)
      · rw [xgetD xftL C [] c]; rfl
    omega
theorem xtk {k C j K : Nat} (hk : xkd k = C) (hC : C < 12) (hf : xft C j = 2) (hg : xtg C j = K) : xkd (xrf k j) = K := by
  subst hk
  rw [xtk0 k (xkd_lt (by omega)) j (xft_lt hf) hC hf, hg]
theorem xk146 : ∀ k, k < 154 → xkd k = 11 → k = 146 := by decide +kernel
theorem xk11 {k : Nat} (h : xkd k = 11) : k = 146 := xk146 k (xkd_lt (by omega)) h
theorem xk64 : ∀ k, k < 154 → xkd k = 17 → k = 64 := by decide +kernel
theorem xk17 {k : Nat} (h : xkd k = 17) : k = 64 := xk64 k (xkd_lt (by omega)) h
theorem xknw (M : xMem) : xkd (xnw M) = 14 := by unfold xnw; cases M.2.2.1 <;> decide
theorem xlnw (M : xMem) : xln (xnw M) = 3235 := by unfold xnw; cases M.2.2.1 <;> decide
theorem xkfo0 : ∀ p, p < 10 → xkd (66 + 6 * p) = 9 := by decide +kernel
theorem xkfo (M : xMem) (j : Nat) : xkd (xfo M j) = 9 := xkfo0 _ (Nat.mod_lt _ (by decide))
theorem xke16 : ∀ k, k < 154 → xkd k = 16 → xln k = 2 ∧ xkd (xrf k 0) = 7 ∧ xkd (xrf k 1) = 7 := by decide +kernel
theorem xke18 : ∀ k, k < 154 → xkd k = 18 → xln k = 16 ∧ ∀ j, j < 16 → xkd (xrf k j) = 13 ∧ xln (xrf k j) = 200 := by decide +kernel
theorem xkeS {k j : Nat} (h : xkd k = 16) (hj : j < xln k) : xkd (xrf k j) = 7 := by
  obtain ⟨h1, h2, h3⟩ := xke16 k (xkd_lt (by omega)) h
  rw [h1] at hj
  rcases (show j = 0 ∨ j = 1 by omega) with rfl | rfl
  · exact h2
  · exact h3
theorem xkeI {k j : Nat} (h : xkd k = 18) (hj : j < xln k) : xkd (xrf k j) = 13 := by
  obtain ⟨h1, h2⟩ := xke18 k (xkd_lt (by omega)) h
  rw [h1] at hj
  exact (h2 j hj).1
/-! links to nest mates' members -/
def xNM : List (String × Nat × MethodName × String) := [(RX10, 23, yX2_init, "RaidMat"), (RX2, 11, yX9_init, "RaidMat"), (RX9, 11, yX5_init, "RaidMat"), (RX2, 20, yX8_init, "RaidMat"), (RX8, 11, yX7_init, "RaidMat"), (RX2, 27, yX1_init, "RaidMat"), (RX2, 37, yX4_init, "RaidMat"), (RX3, 11, yX4_init, "RaidMat"), (RX0, 25, yX9_init, "RaidMat"), (RX10, 46, yX9_init, "RaidMat"), (RX10, 53, yX8_init, "RaidMat"), (RX10, 60, yX4_init, "RaidMat"), (RX3, 160, yX10_isWithin, "RaidMat"), (RX10, 145, yX3_kindOf, "RaidMat")]
def xNF : List (String × Nat × String × String × String × String) := [(RX3, 145, "RaidMat$Roster", "names", "[I", "RaidMat")]
def xadK (G : xGX) : Nat → Nat := G.2.2.2.2.2.1
def xadV (G : xGX) : Nat → Nat := G.2.2.2.2.2.2
def xSS (G : xGX) (U : State) : Prop :=
  (∀ i, i < 30 → va_O "java/lang/String" (xadK G i) (xA G) U U.heap ∧ va_OF "java/lang/String" "coder" "B" (.int 0) (xadK G i) (xA G) U U.heap ∧ va_OF "java/lang/String" "value" "[B" (.ref (xadV G i)) (xadK G i) (xA G) U U.heap ∧ va_T .byte (xadV G i) (xsn i) (fun j => .int (xsc i j)) (xA G) U U.heap) ∧
  va_Z "java/lang/String" "COMPACT_STRINGS" "Z" (.int 1) (xA G) U U.heap ∧
  (∀ i, i < 30 → vk_R (xso i).1 (xso i).2.1 (xso i).2.2 (xadK G i) U) ∧
  va_Zq "jdk/internal/util/Preconditions" "SIOOBE_FORMATTER" "Ljava/util/function/BiFunction;" (xA G) U U.heap ∧
  (∀ q ∈ xNM, va_Nw (.methodLinkNest q.1 q.2.1 q.2.2.1 q.2.2.2) U) ∧ ∀ q ∈ xNF, va_Nw (.fieldLinkNest q.1 q.2.1 q.2.2.1 q.2.2.2.1 q.2.2.2.2.1 q.2.2.2.2.2) U
/-- what holds at a method's entry and at its end: the memory in the heap, the tables, the strings -/
def xHB (G : xGX) (M : xMem) (U : State) : Prop := va_P (xD G) vwCl (xwd G M) U.heap ∧ va_K (xD G) vwCl (xtys G) U ∧ xSS G U ∧ xbs G ≤ U.heap.size
theorem xSS_same {G : xGX} {u U : State} (hh : U.heap = u.heap) (hv : U.vm = u.vm) (h : xSS G u) : xSS G U := by
  have hA : u.vm.Alike U.vm := by rw [hv]; exact Vm.Alike.refl _
  obtain ⟨h1, h2, h3, h4, h5, h6⟩ := h
  refine ⟨fun i hi => ?_, ?_, fun i hi => vk_R.same hv (h3 i hi), ?_, fun q hq => va_Nw.same rfl hv.symm (h5 q hq), fun q hq => va_Nw.same rfl hv.symm (h6 q hq)⟩
  · obtain ⟨a, b, c, d⟩ := h1 i hi
    rw [hh]
    exact ⟨a.moved hA, b.moved hA, c.moved hA, d.moved hA⟩
  · rw [hh]; exact h2.moved hA
  · rw [hh]; exact h4.moved hA
theorem xSS_kept {G : xGX} {s U : State} (hW : s.WarmedH U.vm) (hq : ∀ a : Nat, a < s.heap.size → ¬ xA G a → U.heap[a]? = s.heap[a]?) (h : xSS G s) : xSS G U := by
  have hA : s.vm.Alike U.vm := hW.alike
  obtain ⟨h1, h2, h3, h4, h5, h6⟩ := h
  refine ⟨fun i hi => ?_, (h2.kept hq).moved hA, fun i hi => vk_R.warm hW (h3 i hi), (h4.kept hq).moved hA, fun q hq => va_Nw.warmM hW (h5 q hq), fun q hq => va_Nw.warmF hW (h6 q hq)⟩
  obtain ⟨a, b, c, d⟩ := h1 i hi
  exact ⟨(a.kept hq).moved hA, (b.kept hq).moved hA, (c.kept hq).moved hA, (d.kept hq).moved hA⟩
theorem xHB_blind {G : xGX} {M : xMem} {av : List Value} : FrameBlind (va_Pc av (xHB G M)) := by
  intro a U g mk h
  obtain ⟨h0, hP, hK, hS, hb⟩ := h
  exact ⟨h0, hP, va_K.moved (u := U) (U := U.calling g mk a) (Vm.Alike.refl U.vm) hK, xSS_same (u := U) (U := U.calling g mk a) rfl rfl hS, hb⟩
/-- the end of a method: its answer, the memory then, nothing below the first address changed -/
def xQQ (G : xGX) (res : Option Value × xMem) : Array Value → State → Outcome → State → Prop := fun _ st oc t => (oc = .returned res.1 ∧ va_P (xD G) vwCl (xwd G res.2) t.heap) ∧ va_F (xA G) st t
def xrm (d : Nat) : Room := { frames := d, cells := 0, slots := 0, locals := 38 * d }
def xws (y : MethodName) (cc : ByteArray) (n : Nat) (ret : Option FieldType) : List Cond := Cond.code y cc n ret :: xTb
/-- a method by its contract -/
def xCt (G : xGX) (y : MethodName) (cc : ByteArray) (n : Nat) (ret : Option FieldType) (d : Nat) (av : List Value) (M : xMem) (res : Option Value × xMem) : Prop :=
  Met G.1 y (xws y cc n ret) (xrm d) (va_Pc av (xHB G M)) (xQQ G res) 0 0 (xA G)
abbrev xCX : Type := xGX × Program × Env × Room × State × MethodId × Array Value × List Frame × Method × Code × Nat × Nat × (State → Prop) × Nat
/-- locals by their places -/
def xlp : Nat → List (Option Value) → List (Nat × Value)
  | _, [] => []
  | n, none :: r => xlp (n + 1) r
  | n, some v :: r => (n, v) :: xlp (n + 1) r
theorem xlp_mem {lv : List (Option Value)} : ∀ {n : Nat} {q : Nat × Value}, q ∈ xlp n lv ↔ ∃ i, q.1 = n + i ∧ lv[i]? = some (some q.2) := by
  induction lv with
  | nil => intro n q; simp [xlp]
  | cons a r ih =>
    intro n q
    cases a with
    | none =>
      simp only [xlp, ih]
      constructor
      · rintro ⟨i, h1, h2⟩; exact ⟨i + 1, by omega, by simpa using h2⟩
      · rintro ⟨i, h1, h2⟩
        cases i with
        | zero => simp at h2
        | succ i => exact ⟨i, by omega, by simpa using h2⟩
    | some v =>
      simp only [xlp, List.mem_cons, ih]
      constructor
      · rintro (h | ⟨i, h1, h2⟩)
        · exact ⟨0, by rw [h]; rfl, by rw [h]; rfl⟩
        · exact ⟨i + 1, by omega, by simpa using h2⟩
      · rintro ⟨i, h1, h2⟩
        cases i with
        | zero => left; simp at h2; exact Prod.ext (by simpa using h1) h2.symm
        | succ i => right; exact ⟨i, by omega, by simpa using h2⟩
def xlh (ls : Array Slot) (nL : Nat) (lv : List (Option Value)) : Prop := lv_has ls nL (xlp 0 lv)
theorem xlh_at {ls : Array Slot} {nL : Nat} {lv : List (Option Value)} (h : xlh ls nL lv) {i : Nat} {v : Value} (hi : lv[i]? = some (some v)) : ls[i]? = some (.val v) :=
  h.2.2 (i, v) (xlp_mem.mpr ⟨i, by omega, hi⟩)
theorem xlh_sub {ls : Array Slot} {nL : Nat} {l : List (Nat × Value)} {lv' : List (Option Value)} (h : lv_has ls nL l) (hs : ∀ i v, lv'[i]? = some (some v) → (i, v) ∈ l) : xlh ls nL lv' := by
  refine ⟨h.1, h.2.1, fun q hq => ?_⟩
  obtain ⟨i, h1, h2⟩ := xlp_mem.mp hq
  have : q = (i, q.2) := Prod.ext (by simpa using h1) rfl
  rw [this]
  exact h.2.2 (i, q.2) (hs i q.2 h2)
def xlong : Option Value → Bool
  | some v => v.category == 2
  | none => false
/-- what stands at a place is gone once the place behind it is written, if it is a long -/
def xclr (lv : List (Option Value)) : Nat → List (Option Value)
  | 0 => lv
  | j + 1 => bif xlong (lv.getD j none) then lv.set j none else lv
def xst (lv : List (Option Value)) (i : Nat) (v : Value) : List (Option Value) := (xclr lv i).set i (some v)
def xst2 (lv : List (Option Value)) (i : Nat) (v : Value) : List (Option Value) := ((xclr lv i).set (i + 1) none).set i (some v)
theorem xclr_at {lv : List (Option Value)} {i j : Nat} {w : Value} (h : (xclr lv i)[j]? = some (some w)) : lv[j]? = some (some w) ∧ ¬ (j + 1 = i ∧ w.category = 2) := by
  cases i with
  | zero => exact ⟨h, by omega⟩
  | succ i =>
    have hz : (bif xlong (lv.getD i none) then lv.set i none else lv)[j]? = some (some w) := h
    cases hb : xlong (lv.getD i none) with
    | false =>
      rw [hb, cond_false] at hz
      refine ⟨hz, fun ⟨e1, e2⟩ => ?_⟩
      have : j = i := by omega
      subst this
      have : lv.getD j none = some w := by simp [List.getD, hz]
      rw [this] at hb
      simp [xlong, e2] at hb
    | true =>
      rw [hb, cond_true, List.getElem?_set] at hz
      by_cases e : i = j
      · subst e
        by_cases hl : i < lv.length
        · simp [hl] at hz
        · simp [hl] at hz
      · rw [if_neg e] at hz
        exact ⟨hz, by omega⟩
theorem xst_at {lv : List (Option Value)} {i j : Nat} {v w : Value} (h : (xst lv i v)[j]? = some (some w)) : (j = i ∧ w = v) ∨ (j ≠ i ∧ lv[j]? = some (some w) ∧ ¬ (j + 1 = i ∧ w.category = 2)) := by
  unfold xst at h
  rw [List.getElem?_set] at h
  by_cases e : i = j
  · subst e
    by_cases hl : i < (xclr lv i).length
    · simp [hl] at h; exact Or.inl ⟨rfl, h.symm⟩
    · simp [hl] at h
  · rw [if_neg e] at h
    exact Or.inr ⟨fun q => e q.symm, xclr_at h⟩
theorem xst2_at {lv : List (Option Value)} {i j : Nat} {v w : Value} (h : (xst2 lv i v)[j]? = some (some w)) : (j = i ∧ w = v) ∨ (j ≠ i ∧ j ≠ i + 1 ∧ lv[j]? = some (some w) ∧ ¬ (j + 1 = i ∧ w.category = 2)) := by
  unfold xst2 at h
  rw [List.getElem?_set] at h
  by_cases e : i = j
  · subst e
    by_cases hl : i < (xclr lv i).length
    · simp [hl] at h; exact Or.inl ⟨rfl, h.symm⟩
    · simp [hl] at h
  · rw [if_neg e, List.getElem?_set] at h
    by_cases e2 : i + 1 = j
    · subst e2
      by_cases hl : i + 1 < (xclr lv i).length
      · simp [hl] at h
      · simp [hl] at h
    · rw [if_neg e2] at h
      exact Or.inr ⟨fun q => e q.symm, fun q => e2 q.symm, xclr_at h⟩
/-- the machine stands at a place of a method, with these locals, this stack, this memory, and comes to Q -/
def WW (X : xCX) (pc : Nat) (lv : List (Option Value)) (st : List Value) (M : xMem) : Prop :=
  match X with
  | (G, p, e, R, s, m, args, below, meth, c, cells, slots, Q, nL) => ∀ (H : Heap) (locs : List Loc) (ls : Array Slot), va_P (xD G) vwCl (xwd G M) H → va_S (xA G) s.heap H locs → xlh ls nL lv → W p G.1 e R s m args below meth c H locs cells slots Q (F0 m pc ls st)
/-- what holds of a method's code and its start -/
def xCk (X : xCX) (cc : ByteArray) (own : String) (d : Nat) : Prop :=
  match X with
  | (G, p, e, R, s, m, args, below, meth, c, cells, slots, Q, nL) => p.tables.exec = Jvm.exec ∧ c.code = cc ∧ c.maxLocals = nL ∧ s.vm.findClass own = some m.cls ∧ (∀ w ∈ xTb, w.before args s = true) ∧ va_K (xD G) vwCl (xtys G) s ∧ xSS G s ∧ xbs G ≤ s.heap.size ∧ cells ≤ R.cells ∧ slots ≤ R.slots ∧ R.frames = d ∧ R.locals = 38 * d
/-- its end -/
def xRk (X : xCX) (ret : Option FieldType) (res : Option Value × xMem) : Prop :=
  match X with
  | (G, p, e, R, s, m, args, below, meth, c, cells, slots, Q, nL) => meth.sig.returnType = ret ∧ meth.locks = false ∧ Q = MQ below (xQQ G res) args s cells slots (xA G)
def xGo (X : xCX) : xGX := X.1
def xLt {α β : Type} (a : α) (F : α → β) : β := F a
def xGd {β : Type} (P : Prop) [Decidable P] (F : Option β) : Option β := if P then F else none
theorem xGd_of {β : Type} {P : Prop} [Decidable P] {F : Option β} {r : β} (h : xGd P F = some r) : P ∧ F = some r := by
  unfold xGd at h
  by_cases hp : P
  · rw [if_pos hp] at h; exact ⟨hp, h⟩
  · rw [if_neg hp] at h; cases h
def xBn {α β : Type} (o : Option (α × xMem)) (F : α → xMem → Option β) : Option β := match o with
  | some (r, M) => F r M
  | none => none
def xBv {β : Type} (o : Option xMem) (F : xMem → Option β) : Option β := match o with
  | some M => F M
  | none => none
theorem xBn_of {α β : Type} {o : Option (α × xMem)} {F : α → xMem → Option β} {r : β} (h : xBn o F = some r) : ∃ a M, o = some (a, M) ∧ F a M = some r := by
  cases o with
  | none => cases h
  | some q => exact ⟨q.1, q.2, rfl, h⟩
theorem xBv_of {β : Type} {o : Option xMem} {F : xMem → Option β} {r : β} (h : xBv o F = some r) : ∃ M, o = some M ∧ F M = some r := by
  cases o with
  | none => cases h
  | some q => exact ⟨q, rfl, h⟩
