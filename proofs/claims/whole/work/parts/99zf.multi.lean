/-! ===== a table of ints: sixteen rows of two hundred ===== -/
def mOut (cA : ClassId) (h i : Nat) : Cell := arrV cA 16 (fun j => if j < i then .ref (h + 1 + j) else .null)
def mIn (cI : ClassId) : Cell := arrV cI 200 (fun _ => .int 0)
theorem mOut_put (cA : ClassId) (h i : Nat) : (mOut cA h i).setSlot i (.ref (h + 1 + i)) = mOut cA h (i + 1) := by
  unfold mOut
  rw [arrV_store]
  congr 1
  funext j
  unfold updV
  by_cases hj : j = i
  · subst hj; simp
  · simp only [hj, if_false]
    by_cases h2 : j < i
    · rw [if_pos h2, if_pos (by omega)]
    · rw [if_neg h2, if_neg (by omega)]
/-- the state with i of the rows made -/
def mSt (T : State) (cA cI : ClassId) : Nat → State
  | 0 => T.pushCell (mOut cA T.heap.size 0)
  | i + 1 => ((mSt T cA cI i).pushCell (mIn cI)).setCell T.heap.size (mOut cA T.heap.size (i + 1))
theorem mSt_top (T : State) (f : JFrame) (cA cI : ClassId) : ∀ i, mSt (T.setTop f) cA cI i = (mSt T cA cI i).setTop f
  | 0 => rfl
  | i + 1 => by
    show ((mSt (T.setTop f) cA cI i).pushCell (mIn cI)).setCell T.heap.size (mOut cA T.heap.size (i + 1)) = _
    rw [mSt_top T f cA cI i]
    rfl
theorem mSt_at (T : State) (cA cI : ClassId) : ∀ i, (mSt T cA cI i).heap.size = T.heap.size + 1 + i ∧ (mSt T cA cI i).heap[T.heap.size]? = some (mOut cA T.heap.size i) ∧ (mSt T cA cI i).vm = T.vm ∧ (mSt T cA cI i).slotsUsed = T.slotsUsed + 16 + i * 200 ∧ (∀ q, q < T.heap.size → (mSt T cA cI i).heap[q]? = T.heap[q]?) ∧ ∀ j, j < i → (mSt T cA cI i).heap[T.heap.size + 1 + j]? = some (mIn cI)
  | 0 => by
    refine ⟨by simp [mSt], by simp [mSt], rfl, by simp [mSt, mOut, arrV_size], fun q hq => ?_, fun j hj => by omega⟩
    exact State.heap_pushCell_of_lt T _ hq
  | i + 1 => by
    obtain ⟨h1, h2, h3, h4, h5, h6⟩ := mSt_at T cA cI i
    have hlt : T.heap.size < ((mSt T cA cI i).pushCell (mIn cI)).heap.size := by simp [h1]; omega
    refine ⟨?_, ?_, by simp [mSt, h3], ?_, fun q hq => ?_, fun j hj => ?_⟩
    · simp [mSt, State.setCell, h1]; omega
    · exact heapAt_setCell_self _ hlt
    · simp [mSt, h4, mIn, arrV_size, Nat.succ_mul]; omega
    · show (((mSt T cA cI i).pushCell (mIn cI)).setCell T.heap.size _).heap[q]? = _
      rw [heapAt_setCell_ne _ (show T.heap.size ≠ q by omega), State.heap_pushCell_of_lt (h := (show q < (mSt T cA cI i).heap.size by omega))]
      exact h5 q hq
    · show (((mSt T cA cI i).pushCell (mIn cI)).setCell T.heap.size _).heap[T.heap.size + 1 + j]? = _
      rw [heapAt_setCell_ne _ (show T.heap.size ≠ T.heap.size + 1 + j by omega)]
      by_cases hji : j < i
      · rw [State.heap_pushCell_of_lt (h := (show T.heap.size + 1 + j < (mSt T cA cI i).heap.size by omega))]
        exact h6 j hji
      · have : T.heap.size + 1 + j = (mSt T cA cI i).heap.size := by omega
        rw [this]
        simp
section
variable {p : Program} {l : Launch} {e : Env} {R : Room} {s : State} {m : MethodId} {args : Array Value} {below : List Frame} {meth : Method} {c : Code} {T : State} {locs : List Loc} {cells slots : Nat} {cA cI cE : ClassId}
theorem mSt_stand (X : Stand p l e R s m args below meth c T locs cells slots) : ∀ i, ∃ locs', Stand p l e R s m args below meth c (mSt T cA cI i) locs' (cells + 1 + i) (slots + 16 + i * 200) ∧ ∀ q ∈ locs', q ∈ locs ∨ q.base = T.heap.size
  | 0 => ⟨locs, by simpa [mSt, mOut, arrV_size] using X.pushed (mOut cA T.heap.size 0), fun q h => Or.inl h⟩
  | i + 1 => by
    obtain ⟨locs', X', hl⟩ := mSt_stand X i
    obtain ⟨h1, h2, -⟩ := mSt_at T cA cI i
    have hc : ((mSt T cA cI i).pushCell (mIn cI)).heap[T.heap.size]? = some (mOut cA T.heap.size i) := by rw [State.heap_pushCell_of_lt (h := (show T.heap.size < (mSt T cA cI i).heap.size by omega))]; exact h2
    have X2 := (X'.pushed (mIn cI)).stored hc i (.ref (T.heap.size + 1 + i))
    rw [mOut_put, show (mIn cI).slots.size = 200 from arrV_size _ _ _] at X2
    refine ⟨locs' ++ [⟨T.heap.size, i⟩], ?_, fun q hq => ?_⟩
    · rw [show cells + 1 + (i + 1) = cells + 1 + i + 1 by omega, show slots + 16 + (i + 1) * 200 = slots + 16 + i * 200 + 200 by omega]
      exact X2
    · rcases List.mem_append.mp hq with h | h
      · exact hl q h
      · rw [List.mem_singleton] at h; subst h; exact Or.inr rfl
theorem mArr {E : CtlPost} {d : Bool} {acts : List Action} {s : State} {cX cY : ClassId} {kX : Class} {ty : FieldType} {N : Nat} {v : Value} (hk : s.vm.classes[cX]? = some kX) (hkind : kX.kind = .array cY ty) (h1 : N ≤ e.platform.arrayLengthLimit) (h2 : N * componentBytes ty ≤ e.platform.maxHeapBytes) (hf : fits ty v = true) (hv : v.isDefault = true) {Q : Addr → Pre} (h3 : s.heap.size < e.platform.maxCells) (h4 : s.slotsUsed + N ≤ e.platform.maxSlots) (hq : Q s.heap.size d acts (s.pushCell (arrV cX N (fun _ => v)))) : wp (Jvm.newArray cX N v) Q E e d acts s := by
  have ha : allocActs (Array.replicate N v) s.heap.size acts = acts := by
    unfold allocActs
    rw [if_pos]
    rw [Array.all_replicate]
    split <;> simp [hv]
  have hfit : ∀ i w, (Array.replicate N v)[i]? = some w → s.fitsSlot cX .none i w = true := by
    intro i w hw
    rw [Array.getElem?_replicate] at hw
    split at hw
    · cases hw
      simp [State.fitsSlot, State.slotType?, hk, hkind, hf]
    · cases hw
  rw [← arrV_new] at hq
  simp only [Jvm.newArray, Jvm.arrayFits, wp_bind', W.ask, W.ite, Nat.not_lt.mpr h1, if_false, gt_iff_lt, wp_pure', W.theClass, hk, hkind, Nat.not_lt.mpr h2, W.alloc, W.stop, Option.some.injEq, exists_eq_left', Array.size_replicate, ha]
  rw [if_neg (by omega)]
  exact ⟨h3, h4, hfit, hq⟩
/-- the table is made -/
theorem mMake {E : CtlPost} {d : Bool} {acts : List Action} {s : State} {kA kI : Class} {n k : Int32} (hkA : s.vm.classes[cA]? = some kA) (hkindA : kA.kind = .array cI (.array .int)) (hkI : s.vm.classes[cI]? = some kI) (hkindI : kI.kind = .array cE .int) (hn0 : ¬ n < 0) (hk0 : ¬ k < 0) (hn : n.toNatClampNeg = 16) (hk : k.toNatClampNeg = 200) (h1 : 200 ≤ e.platform.arrayLengthLimit) (h2 : 800 ≤ e.platform.maxHeapBytes) (h3 : s.heap.size + 17 ≤ e.platform.maxCells) (h4 : s.slotsUsed + 3216 ≤ e.platform.maxSlots) {Q : Addr → Pre} (hq : ∀ d' acts', Q s.heap.size d' acts' (mSt s cA cI 16)) : wp (multianewarray.make cA [n, k]) Q E e d acts s := by
  have hfind : ([k].find? (· < 0)) = none := by simp [hk0]
  rw [multianewarray.make]
  simp only [wp_bind', W.ite, hn0, if_false, wp_pure', W.theClass, hkA, hkindA, Option.some.injEq, exists_eq_left']
  rw [hn]
  refine mArr hkA hkindA (by omega) (show 16 * 4 ≤ _ by omega) rfl rfl (by omega) (by omega) ?_
  simp only [hfind]
  rw [ite_self, wp_bind', Std.Legacy.Range.forIn_eq_forIn_range']
  show wp (forIn (List.range' 0 16 1) PUnit.unit _) _ E e d acts _
  refine wp_forIn_inv (fun r u => ∃ i, i ≤ 16 ∧ r = List.range' i (16 - i) ∧ u = mSt s cA cI i) _ _ ⟨0, by omega, rfl, rfl⟩ ?_ ?_
  · rintro x r u d' acts' Q' ⟨i, hi, hr, rfl⟩ hnext
    have hlt : i < 16 := by
      rcases Nat.lt_or_ge i 16 with h | h
      · exact h
      · rw [show 16 - i = 0 by omega] at hr; cases hr
    rw [show 16 - i = 16 - (i + 1) + 1 by omega, List.range'_succ] at hr
    obtain ⟨rfl, hr⟩ := List.cons.inj hr
    obtain ⟨g1, g2, g3, g4, -⟩ := mSt_at s cA cI x
    simp only [wp_bind']
    rw [multianewarray.make]
    simp only [wp_bind', W.ite, hk0, if_false, wp_pure', W.theClass, g3, hkI, hkindI, Option.some.injEq, exists_eq_left']
    rw [hk]
    refine mArr (by rw [g3]; exact hkI) hkindI h1 (show 200 * 4 ≤ _ by omega) rfl rfl (by rw [g1]; omega) (by rw [g4]; omega) ?_
    simp only [wp_bind', W.writeLoc, wp_pure']
    refine ⟨mOut cA s.heap.size x, by rw [State.heap_pushCell_of_lt (h := (show s.heap.size < (mSt s cA cI x).heap.size by omega))]; exact g2, by simp [mOut, arrV], by rw [show (mOut cA s.heap.size x).slots.size = 16 from arrV_size _ _ _]; exact hlt, ?_, hnext _ _ _ ⟨x + 1, hlt, hr, ?_⟩⟩
    · show State.fitsSlot _ cA .none x _ = true
      simp [State.fitsSlot, State.slotType?, g3, hkA, hkindA, fits]
    · rw [g1, mOut_put]; rfl
  · rintro u d' acts' ⟨i, hi, hr, rfl⟩
    have : i = 16 := by
      rcases Nat.lt_or_ge i 16 with h | h
      · rw [show 16 - i = 16 - (i + 1) + 1 by omega, List.range'_succ] at hr; cases hr
      · omega
    subst this
    simp only [wp_pure']
    exact hq _ _
variable {H : Heap} {Q : State → Prop}
theorem mRow {cc : ByteArray} (hexec : p.tables.exec = Jvm.exec) (hb : c.code = cc) {own : String} {index : Nat} (hown : s.vm.findClass own = some m.cls) (hclink : (Cond.classLink own index "[[I").before args s = true) {kA kI : Class} (hfA : s.vm.findClass "[[I" = some cA) (hkA : s.vm.classes[cA]? = some kA) (hkindA : kA.kind = .array cI (.array .int)) (hkI : s.vm.classes[cI]? = some kI) (hkindI : kI.kind = .array cE .int) {pc : Nat} {ls : Array Slot} {rest : List Value} {n k : Int32} (hn0 : ¬ n < 0) (hk0 : ¬ k < 0) (hn : n.toNatClampNeg = 16) (hk : k.toNatClampNeg = 200) (hdg : decode cc pc = .ok (.multianewarray index 2, 4)) (hcells : cells + 17 ≤ R.cells) (hslots : slots + 3216 ≤ R.slots)
    (kk : ∀ (H1 : Heap) (locs' : List Loc), H1.size = H.size + 17 → (∀ q, q < H.size → H1[q]? = H[q]?) → H1[H.size]? = some (mOut cA H.size 16) → (∀ j, j < 16 → H1[H.size + 1 + j]? = some (mIn cI)) → (∀ q ∈ locs', q ∈ locs ∨ q.base = H.size) → W p l e R s m args below meth c H1 locs' (cells + 17) (slots + 3216) Q (F0 m (pc + 4) ls (.ref H.size :: rest))) : W p l e R s m args below meth c H locs cells slots Q (F0 m pc ls (.int k :: .int n :: rest)) := by
  intro T hT X
  subst hT; subst hb
  have hpl : e.platform.magicAccessors = ({} : Platform).magicAccessors := by rw [X.admits.platform]
  obtain ⟨c0, hfc0, hcl⟩ := Cond.classLink_spec hown hclink e.platform hpl
  cases hfA.symm.trans hfc0
  obtain ⟨hg₁, hwarm₁, hready₁⟩ := State.classEntry (e := e) X.warmed hcl
  generalize T.vm.noted m.cls index (.cls cA) = vm₁ at hg₁ hwarm₁ hready₁
  have hal : s.vm.Alike vm₁ := hwarm₁.alike
  obtain ⟨kA₁, hkA₁, heA⟩ := hal.2.2 _ _ hkA
  obtain ⟨kI₁, hkI₁, heI⟩ := hal.2.2 _ _ hkI
  have hkindA₁ : kA₁.kind = .array cI (.array .int) := by rw [heA]; exact hkindA
  have hkindI₁ : kI₁.kind = .array cE .int := by rw [heI]; exact hkindI
  have X₁ := X.noted hwarm₁
  obtain ⟨hr1, hr2⟩ := X.roomAbove hcells hslots
  obtain ⟨locs', XF, hlocs⟩ := mSt_stand (cA := cA) (cI := cI) X₁ 16
  obtain ⟨g1, g2, g3, g4, g5, g6⟩ := mSt_at (T.setVm vm₁) cA cI 16
  obtain ⟨t, a1, b1⟩ := kk (mSt (T.setVm vm₁) cA cI 16).heap locs' g1 g5 g2 g6 hlocs (mSt (T.setVm vm₁) cA cI 16) rfl (by
    have e1 : cells + 1 + 16 = cells + 17 := by omega
    have e2 : slots + 16 + 16 * 200 = slots + 3216 := by omega
    rw [e1, e2] at XF
    exact XF)
  refine ⟨t, ?_, b1⟩
  have hl1 : 200 ≤ e.platform.arrayLengthLimit := by rw [Launch.admits_arrayLengthLimit X.admits]; decide
  have hl2 : 800 ≤ e.platform.maxHeapBytes := by rw [Launch.admits_maxHeapBytes X.admits]; decide
  jvm_step X.here [hexec, hdg]
  simp only [multianewarray.sem, wp_bind', W.resolveClassAt_links (State.method?_setTop (F0 m pc ls (.int k :: .int n :: rest)) X.here.top) hg₁]
  rw [W.popN, if_neg (by decide)]
  refine ⟨F0 m pc ls (.int k :: .int n :: rest), State.topJava?_setTop' (s := T.setVm vm₁) _ X.here.top, [.int n, .int k], rest, rfl, rfl, ?_⟩
  simp only [List.mapM_cons, List.mapM_nil, wp_bind', wp_pure']
  refine mMake (cE := cE) (cI := cI) hkA₁ hkindA₁ hkI₁ hkindI₁ hn0 hk0 hn hk hl1 hl2 (by show T.heap.size + 17 ≤ _; omega) (by show T.slotsUsed + 3216 ≤ _; omega) (fun d' acts' => ?_)
  have eS : ((T.setTop (F0 m pc ls (.int k :: .int n :: rest))).setVm vm₁).setTop { F0 m pc ls (.int k :: .int n :: rest) with stack := rest } = (T.setVm vm₁).setTop { F0 m pc ls (.int k :: .int n :: rest) with stack := rest } := by
    show ((T.setVm vm₁).setTop _).setTop _ = _
    rw [State.setTop_setTop]
  rw [eS, mSt_top]
  simp only [wp_bind', W.mark, W.pushRef, State.topJava?_setTop' _ XF.here.top, Option.some.injEq, exists_eq_left', State.setTop_setTop, State.heap_setTop]
  intro acts
  simp [jvm, XF.here.top]
  exact a1
end
