/-! making: rows of ints, the instruction -/
section L99zn
variable {p : Program} {l : Launch} {e : Env} {R : Room} {s : State} {m : MethodId} {args : Array Value} {below : List Frame} {meth : Method} {c : Code} {H : Heap} {locs : List Loc} {cells slots : Nat} {Q : State → Prop} {T : State}
theorem mS_st (X : Stand p l e R s m args below meth c T locs cells slots) (c1 c2 : ClassId) (n k : Nat) : ∀ i, Stand p l e R s m args below meth c (mS T c1 c2 n k i) (locs ++ (List.range i).map fun j => ⟨T.heap.size, j⟩) (cells + 1 + i) (slots + n + i * k) := by
  intro i
  induction i with
  | zero =>
    have h := X.pushed (mO c1 n T.heap.size 0)
    rw [mO_z] at h
    simpa [mS] using h
  | succ i ih =>
    obtain ⟨f1, f2, f3, f4⟩ := mS_f T c1 c2 n k i
    have hlt : T.heap.size < (mS T c1 c2 n k i).heap.size := by rw [f1]; omega
    have hc : ((mS T c1 c2 n k i).pushCell (mIn c2 k)).heap[T.heap.size]? = some (mO c1 n T.heap.size i) := by rw [State.heap_pushCell_of_lt (h := hlt)]; exact f2
    have h := (ih.pushed (mIn c2 k)).stored hc i (.ref (T.heap.size + 1 + i))
    rw [mIn_z, mO_1] at h
    have e2 : (locs ++ (List.range (i + 1)).map fun j => (⟨T.heap.size, j⟩ : Loc)) = (locs ++ (List.range i).map fun j => (⟨T.heap.size, j⟩ : Loc)) ++ [⟨T.heap.size, i⟩] := by simp [List.range_succ, List.append_assoc]
    have e3 : slots + n + (i + 1) * k = slots + n + i * k + k := by rw [Nat.succ_mul]; omega
    rw [e2, e3]
    exact h
theorem mk_W {cc : ByteArray} (hexec : p.tables.exec = Jvm.exec) (hb : c.code = cc) {own : String} {index : Nat} (hown : s.vm.findClass own = some m.cls) (hclink : (Cond.classLink own index "[[I").before args s = true) (hover : (Cond.arrayOver (.array .int)).before args s = true) (hK2 : ∃ c2 k2 c3, s.vm.findClass "[I" = some c2 ∧ s.vm.classes[c2]? = some k2 ∧ k2.kind = .array c3 .int)
    {g : JFrame} (hg : g.method = m) (hdg : decode cc g.pc = .ok (.multianewarray index 2, 4)) {n k : Int32} {rest : List Value} (hstack : g.stack = .int k :: .int n :: rest) (hn : ¬ n < 0) (hk : ¬ k < 0) (hb1 : n.toNatClampNeg * 4 ≤ 536870912) (hb2 : k.toNatClampNeg * 4 ≤ 536870912)
    (hcells : cells + (1 + n.toNatClampNeg) ≤ R.cells) (hslots : slots + (n.toNatClampNeg + n.toNatClampNeg * k.toNatClampNeg) ≤ R.slots)
    (kk : ∀ (c1 c2 : ClassId) (H1 : Heap), s.vm.findClass "[[I" = some c1 → s.vm.findClass "[I" = some c2 → H1.size = H.size + 1 + n.toNatClampNeg → H1[H.size]? = some (mO c1 n.toNatClampNeg H.size n.toNatClampNeg) → (∀ j, j < n.toNatClampNeg → H1[H.size + 1 + j]? = some (mIn c2 k.toNatClampNeg)) → (∀ q : Nat, q < H.size → H1[q]? = H[q]?) →
      W p l e R s m args below meth c H1 (locs ++ (List.range n.toNatClampNeg).map fun j => ⟨H.size, j⟩) (cells + 1 + n.toNatClampNeg) (slots + n.toNatClampNeg + n.toNatClampNeg * k.toNatClampNeg) Q { g with pc := g.pc + 4, stack := .ref H.size :: rest }) : W p l e R s m args below meth c H locs cells slots Q g := by
  intro T hT X
  subst hT; subst hb; subst hg
  have hpl : e.platform.magicAccessors = ({} : Platform).magicAccessors := by rw [X.admits.platform]
  obtain ⟨c2, c1, k1, hc2, hidx, hk1, hkind1, hname⟩ := arrayOverA_spec hover
  obtain ⟨c2', k2, c3, hc2', hk2, hkind2⟩ := hK2
  have e0 : c2' = c2 := Option.some.inj (hc2'.symm.trans hc2)
  subst e0
  obtain ⟨c0, hfc, hcl⟩ := Cond.classLink_spec hown hclink e.platform hpl
  have e1 : c0 = c1 := Option.some.inj (hfc.symm.trans hname)
  subst e1
  obtain ⟨hg₁, hwarm, hready⟩ := State.classEntry (e := e) X.warmed hcl
  generalize T.vm.noted g.method.cls index (.cls c0) = vm1 at hg₁ hwarm hready
  have hal : s.vm.Alike vm1 := hwarm.alike
  obtain ⟨k1', hk1', he1⟩ := hal.2.2 _ _ hk1
  obtain ⟨k2', hk2', he2⟩ := hal.2.2 _ _ hk2
  have hkind1' : k1'.kind = .array c2' (.array .int) := by rw [he1]; exact hkind1
  have hkind2' : k2'.kind = .array c3 .int := by rw [he2]; exact hkind2
  have X1 := X.noted hwarm
  obtain ⟨hr1, hr2⟩ := X.roomAbove hcells hslots
  have XF := mS_st X1 c0 c2' n.toNatClampNeg k.toNatClampNeg n.toNatClampNeg
  obtain ⟨f1, f2, f3, f4⟩ := mS_f (T.setVm vm1) c0 c2' n.toNatClampNeg k.toNatClampNeg n.toNatClampNeg
  obtain ⟨t', a1, b1⟩ := kk c0 c2' _ hfc hc2' f1 f2 (fun j hj => mS_row (T.setVm vm1) c0 c2' n.toNatClampNeg k.toNatClampNeg n.toNatClampNeg j hj) (fun q hq => mS_old (T.setVm vm1) c0 c2' n.toNatClampNeg k.toNatClampNeg hq n.toNatClampNeg) (mS (T.setVm vm1) c0 c2' n.toNatClampNeg k.toNatClampNeg n.toNatClampNeg) rfl XF
  refine ⟨t', ?_, b1⟩
  have hl1 : ¬ n.toNatClampNeg > e.platform.arrayLengthLimit := by rw [Launch.admits_arrayLengthLimit X.admits]; omega
  have hh1 : ¬ n.toNatClampNeg * componentBytes (.array .int) > e.platform.maxHeapBytes := by
    rw [Launch.admits_maxHeapBytes X.admits]; show ¬ n.toNatClampNeg * 4 > 536870912; omega
  have hl2 : ¬ k.toNatClampNeg > e.platform.arrayLengthLimit := by rw [Launch.admits_arrayLengthLimit X.admits]; omega
  have hh2 : ¬ k.toNatClampNeg * componentBytes .int > e.platform.maxHeapBytes := by
    rw [Launch.admits_maxHeapBytes X.admits]; show ¬ k.toNatClampNeg * 4 > 536870912; omega
  jvm_step X.here [hexec, hdg]
  simp only [Jvm.Op.multianewarray.sem, wp_bind', W.resolveClassAt_links (State.method?_setTop g X.here.top) hg₁]
  rw [W.popN, if_neg (by decide)]
  refine ⟨g, State.topJava?_setTop' (s := T.setVm vm1) g X.here.top, [.int n, .int k], rest, rfl, hstack, ?_⟩
  simp only [List.mapM_cons, List.mapM_nil, wp_bind', wp_pure']
  refine mk_two hk1' hkind1' hk2' hkind2' hn hk hl1 hh1 hl2 hh2 (by show T.heap.size + 1 + _ ≤ _; omega) (by show T.slotsUsed + _ + _ ≤ _; omega) (fun d' acts' => ?_)
  have eS : ((T.setTop g).setVm vm1).setTop { g with stack := rest } = (T.setVm vm1).setTop { g with stack := rest } := by
    show ((T.setVm vm1).setTop g).setTop _ = _
    rw [State.setTop_setTop]
  rw [eS, mS_top]
  simp only [wp_bind', W.mark, W.pushRef, State.topJava?_setTop' _ XF.here.top, Option.some.injEq, exists_eq_left', State.setTop_setTop, State.heap_setTop]
  intro acts
  simp [jvm, XF.here.top]
  exact a1
end L99zn
