/-! making: rows of ints, n of m -/
def mO (c : ClassId) (n h i : Nat) : Cell := arrV c n (fun j => if j < i then .ref (h + 1 + j) else .null)
def mIn (c : ClassId) (m : Nat) : Cell := arrV c m (fun _ => .int 0)
def mS (s : State) (c1 c2 : ClassId) (n m : Nat) : Nat → State
  | 0 => s.pushCell (mO c1 n s.heap.size 0)
  | i + 1 => ((mS s c1 c2 n m i).pushCell (mIn c2 m)).setCell s.heap.size (mO c1 n s.heap.size (i + 1))
theorem mO_0 {c : ClassId} {n h : Nat} : ({ cls := c, slots := Array.replicate n .null, vm := .none } : Cell) = mO c n h 0 := by
  rw [arrV_new]
  unfold mO
  congr 1
theorem mO_1 {c : ClassId} {n h i : Nat} : (mO c n h i).setSlot i (.ref (h + 1 + i)) = mO c n h (i + 1) := by
  unfold mO
  rw [arrV_store]
  congr 1
  funext j
  unfold updV
  by_cases q : j = i
  · subst q; rw [if_pos rfl, if_pos (by omega)]
  · rw [if_neg q]
    show (if j < i then Value.ref (h + 1 + j) else Value.null) = _
    by_cases w : j < i
    · rw [if_pos w, if_pos (by omega)]
    · rw [if_neg w, if_neg (by omega)]
theorem mO_z {c : ClassId} {n h i : Nat} : (mO c n h i).slots.size = n := arrV_size _ _ _
theorem mIn_z {c : ClassId} {m : Nat} : (mIn c m).slots.size = m := arrV_size _ _ _
theorem mS_f (s : State) (c1 c2 : ClassId) (n m : Nat) : ∀ i, (mS s c1 c2 n m i).heap.size = s.heap.size + 1 + i ∧ (mS s c1 c2 n m i).heap[s.heap.size]? = some (mO c1 n s.heap.size i) ∧ (mS s c1 c2 n m i).vm = s.vm ∧ (mS s c1 c2 n m i).slotsUsed = s.slotsUsed + n + i * m := by
  intro i
  induction i with
  | zero =>
    have z := @mO_z c1 n s.heap.size 0
    exact ⟨by simp [mS], by simp [mS], rfl, by simp [mS, z]⟩
  | succ i ih =>
    obtain ⟨a, b, v, u⟩ := ih
    have hlt : s.heap.size < (mS s c1 c2 n m i).heap.size := by omega
    have hb' : ((mS s c1 c2 n m i).pushCell (mIn c2 m)).heap[s.heap.size]? = some (mO c1 n s.heap.size i) := by rw [State.heap_pushCell_of_lt (h := hlt)]; exact b
    have z := @mIn_z c2 m
    refine ⟨?_, State.heap_setCell_self hb', by simp [mS, v], ?_⟩
    · simp [mS, State.setCell, a]; omega
    · simp [mS, u, z, Nat.succ_mul]; omega
theorem mS_top (s : State) (f : JFrame) (c1 c2 : ClassId) (n m : Nat) : ∀ i, mS (s.setTop f) c1 c2 n m i = (mS s c1 c2 n m i).setTop f := by
  intro i
  induction i with
  | zero => rfl
  | succ i ih => simp only [mS, ih, State.heap_setTop, State.pushCell_setTop, State.setCell_setTop]
theorem mS_old (s : State) (c1 c2 : ClassId) (n m : Nat) {a : Addr} (ha : a < s.heap.size) : ∀ i, (mS s c1 c2 n m i).heap[a]? = s.heap[a]? := by
  intro i
  induction i with
  | zero => exact State.heap_pushCell_of_lt _ _ ha
  | succ i ih =>
    have f1 := (mS_f s c1 c2 n m i).1
    have hlt : a < (mS s c1 c2 n m i).heap.size := Nat.lt_of_lt_of_le ha (by rw [f1]; omega)
    rw [mS, State.heap_setCell_other (Nat.ne_of_gt ha), State.heap_pushCell_of_lt (h := hlt)]
    exact ih
theorem mS_row (s : State) (c1 c2 : ClassId) (n m : Nat) : ∀ i j, j < i → (mS s c1 c2 n m i).heap[s.heap.size + 1 + j]? = some (mIn c2 m) := by
  intro i
  induction i with
  | zero => intro j h; exact absurd h (Nat.not_lt_zero _)
  | succ i ih =>
    intro j h
    have f1 := (mS_f s c1 c2 n m i).1
    rw [mS, State.heap_setCell_other (show s.heap.size ≠ s.heap.size + 1 + j by omega)]
    by_cases q : j < i
    · have hlt : s.heap.size + 1 + j < (mS s c1 c2 n m i).heap.size := by rw [f1]; omega
      rw [State.heap_pushCell_of_lt (h := hlt)]
      exact ih j q
    · have e : j = i := by omega
      subst e
      rw [← f1]
      simp
section L99zm
variable {E : CtlPost} {e : Env} {dd : Bool} {acts : List Action} {s : State}
theorem mk_nw {c comp : ClassId} {k : Class} {type : FieldType} {len : Nat} {init : Value} (hk : s.vm.classes[c]? = some k) (hkind : k.kind = .array comp type) (h1 : ¬ len > e.platform.arrayLengthLimit) (h2 : ¬ len * componentBytes type > e.platform.maxHeapBytes) (hfit : fits type init = true) (hdef : init.isDefault = true) {Q : Addr → Pre} (h3 : s.heap.size < e.platform.maxCells) (h4 : s.slotsUsed + len ≤ e.platform.maxSlots) (hq : Q s.heap.size dd acts (s.pushCell { cls := c, slots := Array.replicate len init, vm := .none })) : wp (Jvm.newArray c len init) Q E e dd acts s := by
  have hf : ∀ i v, (Array.replicate len init)[i]? = some v → s.fitsSlot c .none i v = true := by
    intro i v hv
    rw [Array.getElem?_replicate] at hv
    split at hv
    · cases hv; simp [State.fitsSlot, State.slotType?, hk, hkind, hfit]
    · cases hv
  have hd : allocActs (Array.replicate len init) s.heap.size acts = acts := by
    have hall : ((Array.replicate len init).all (·.isDefault)) = true := by
      rw [Array.all_replicate]; split <;> simp [hdef]
    unfold allocActs; rw [if_pos hall]
  simp only [Jvm.newArray, Jvm.arrayFits, wp_bind', W.ask, W.ite, h1, if_false, wp_pure', W.theClass, hk, hkind, h2, W.alloc, W.stop, Option.some.injEq, exists_eq_left', Array.size_replicate, hd]
  rw [if_neg (by omega)]
  exact ⟨h3, h4, hf, hq⟩
theorem mk_row {c cc : ClassId} {k : Class} {m : Int32} (hk : s.vm.classes[c]? = some k) (hkind : k.kind = .array cc .int) (hm : ¬ m < 0) (h1 : ¬ m.toNatClampNeg > e.platform.arrayLengthLimit) (h2 : ¬ m.toNatClampNeg * componentBytes .int > e.platform.maxHeapBytes) (h3 : s.heap.size < e.platform.maxCells) (h4 : s.slotsUsed + m.toNatClampNeg ≤ e.platform.maxSlots) {Q : Addr → Pre} (hq : Q s.heap.size dd acts (s.pushCell (mIn c m.toNatClampNeg))) : wp (Jvm.Op.multianewarray.make c [m]) Q E e dd acts s := by
  rw [Jvm.Op.multianewarray.make]
  simp only [wp_bind', W.ite, hm, if_false, wp_pure', W.theClass, hk, hkind, Option.some.injEq, exists_eq_left']
  refine mk_nw hk hkind h1 h2 rfl rfl h3 h4 ?_
  have e1 : ({ cls := c, slots := Array.replicate m.toNatClampNeg (defaultValue .int), vm := .none } : Cell) = mIn c m.toNatClampNeg := arrV_new _ _ _
  rw [e1]
  exact hq
theorem mk_two {c c2 cc : ClassId} {k k2 : Class} {n m : Int32} (hk : s.vm.classes[c]? = some k) (hkind : k.kind = .array c2 (.array .int)) (hk2 : s.vm.classes[c2]? = some k2) (hkind2 : k2.kind = .array cc .int) (hn : ¬ n < 0) (hm : ¬ m < 0)
    (h1 : ¬ n.toNatClampNeg > e.platform.arrayLengthLimit) (h2 : ¬ n.toNatClampNeg * componentBytes (.array .int) > e.platform.maxHeapBytes) (h3 : ¬ m.toNatClampNeg > e.platform.arrayLengthLimit) (h4 : ¬ m.toNatClampNeg * componentBytes .int > e.platform.maxHeapBytes)
    (h5 : s.heap.size + 1 + n.toNatClampNeg ≤ e.platform.maxCells) (h6 : s.slotsUsed + n.toNatClampNeg + n.toNatClampNeg * m.toNatClampNeg ≤ e.platform.maxSlots)
    {Q : Addr → Pre} (hq : ∀ dd' acts', Q s.heap.size dd' acts' (mS s c c2 n.toNatClampNeg m.toNatClampNeg n.toNatClampNeg)) : wp (Jvm.Op.multianewarray.make c [n, m]) Q E e dd acts s := by
  have hfind : ([m].find? (· < 0)) = none := by simp [hm]
  rw [Jvm.Op.multianewarray.make]
  simp only [wp_bind', W.ite, hn, if_false, wp_pure', W.theClass, hk, hkind, Option.some.injEq, exists_eq_left']
  refine mk_nw hk hkind h1 h2 rfl rfl (by omega) (by have := Nat.zero_le (n.toNatClampNeg * m.toNatClampNeg); omega) ?_
  rw [mO_0 (h := s.heap.size)]
  simp only [hfind]
  rw [ite_self, wp_bind', Std.Legacy.Range.forIn_eq_forIn_range']
  have hsz : ([:n.toNatClampNeg] : Std.Legacy.Range).size = n.toNatClampNeg := by simp [Std.Legacy.Range.size]
  rw [hsz]
  show wp (forIn (List.range' 0 n.toNatClampNeg 1) PUnit.unit _) _ E e dd acts _
  refine wp_forIn_inv (fun rest s' => ∃ i, i ≤ n.toNatClampNeg ∧ rest = List.range' i (n.toNatClampNeg - i) ∧ s' = mS s c c2 n.toNatClampNeg m.toNatClampNeg i) _ _ ⟨0, Nat.zero_le _, rfl, rfl⟩ ?_ ?_
  · rintro x rest s' d' acts' Q' ⟨i, hi, hl, rfl⟩ hnext
    have hlt : i < n.toNatClampNeg := by
      by_cases q : i < n.toNatClampNeg
      · exact q
      · rw [show n.toNatClampNeg - i = 0 by omega] at hl; simp at hl
    rw [show n.toNatClampNeg - i = (n.toNatClampNeg - (i + 1)) + 1 by omega, List.range'_succ] at hl
    obtain ⟨rfl, hrest⟩ := List.cons.inj hl
    obtain ⟨f1, f2, f3, f4⟩ := mS_f s c c2 n.toNatClampNeg m.toNatClampNeg x
    have hmul : x * m.toNatClampNeg + m.toNatClampNeg ≤ n.toNatClampNeg * m.toNatClampNeg := by
      have := Nat.mul_le_mul_right m.toNatClampNeg (show x + 1 ≤ n.toNatClampNeg from hlt)
      rw [Nat.succ_mul] at this; exact this
    simp only [wp_bind']
    refine mk_row (by rw [f3]; exact hk2) hkind2 hm h3 h4 (by rw [f1]; omega) (by rw [f4]; omega) ?_
    have hlt0 : s.heap.size < (mS s c c2 n.toNatClampNeg m.toNatClampNeg x).heap.size := by rw [f1]; omega
    simp only [wp_bind', W.writeLoc, wp_pure']
    refine ⟨mO c n.toNatClampNeg s.heap.size x, by rw [State.heap_pushCell_of_lt (h := hlt0)]; exact f2, by simp [mO, arrV], by rw [mO_z]; exact hlt, ?_, hnext _ _ _ ⟨x + 1, hlt, hrest, ?_⟩⟩
    · simp [mO, arrV, State.fitsSlot, State.slotType?, f3, hk, hkind, fits]
    · rw [f1, mO_1]; rfl
  · rintro s' d' acts' ⟨i, hi, hl, rfl⟩
    have hiN : i = n.toNatClampNeg := by
      by_cases q : i < n.toNatClampNeg
      · rw [show n.toNatClampNeg - i = (n.toNatClampNeg - (i + 1)) + 1 by omega, List.range'_succ] at hl; cases hl
      · omega
    subst hiN
    simp only [wp_pure']
    exact hq _ _
end L99zm
