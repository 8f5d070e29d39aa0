/-! Math, System.arraycopy, arrays of arrays, arrays of laws -/
section QN
variable {d MC MS y uc us pc : Nat} {ls : List (Option Value)} {st : List Value} {K : qK} {I : Nat → Nat → Int32} {L : Nat → Nat → Int64} {R : Nat → Nat → Option Nat} {sz : Nat} {Q : Option Value → qMem → Prop}

theorem x_mmax {idx : Nat} {a b : Int32} (hdg : decode (qc y) pc = .ok (.invokestatic idx, 3)) (w1 : Cond.methodLink (qcn (y / 1000)) idx Lib.Math.max.name ∈ qGW) (w2 : Cond.static Lib.Math.max.name ∈ qGW) (w3 : Cond.initialized "java/lang/Math" ∈ qGW) (w4 : Cond.code Lib.Math.max.name Lib.Math.max.code 2 (some .int) ∈ qGW) (hcs : (st.map fun v => v.category).sum ≤ 8) (h1 : uc ≤ MC) (h2 : us ≤ MS) (k2 : X (d + 1) MC MS y uc us (pc + 3) ls (.int (if a < b then b else a) :: st) (K, I, L, R, sz) Q) : X (d + 1) MC MS y uc us pc ls (.int b :: .int a :: st) (K, I, L, R, sz) Q := by
  intro p l e R0 s m args below meth c0 D cA b0 sa H locs lsr hC hl hH hS
  obtain ⟨hx, hb, hr0, hlk, hml, hown, hnm, hts, hR, hSs⟩ := hC
  have hcs2 := q_stackW (g := qg b0 sa) hcs
  exact va_mmax hx hb (by rw [hml]; exact hl.1.symm) hown (hts _ w1) (hts _ w2) (hts _ w3) (hts _ w4) (by have := hR.1; omega) (by have := hR.2.1; omega) (Nat.le_trans h1 hR.2.2.1) (Nat.le_trans h2 hR.2.2.2) hdg (k2 p l e R0 s m args below meth c0 D cA b0 sa H locs lsr ⟨hx, hb, hr0, hlk, hml, hown, hnm, hts, hR, hSs⟩ hl hH hS)
theorem x_mmin {idx : Nat} {a b : Int32} (hdg : decode (qc y) pc = .ok (.invokestatic idx, 3)) (w1 : Cond.methodLink (qcn (y / 1000)) idx Lib.Math.min.name ∈ qGW) (w2 : Cond.static Lib.Math.min.name ∈ qGW) (w3 : Cond.initialized "java/lang/Math" ∈ qGW) (w4 : Cond.code Lib.Math.min.name Lib.Math.min.code 2 (some .int) ∈ qGW) (hcs : (st.map fun v => v.category).sum ≤ 8) (h1 : uc ≤ MC) (h2 : us ≤ MS) (k2 : X (d + 1) MC MS y uc us (pc + 3) ls (.int (if b < a then b else a) :: st) (K, I, L, R, sz) Q) : X (d + 1) MC MS y uc us pc ls (.int b :: .int a :: st) (K, I, L, R, sz) Q := by
  intro p l e R0 s m args below meth c0 D cA b0 sa H locs lsr hC hl hH hS
  obtain ⟨hx, hb, hr0, hlk, hml, hown, hnm, hts, hR, hSs⟩ := hC
  have hcs2 := q_stackW (g := qg b0 sa) hcs
  exact va_mmin hx hb (by rw [hml]; exact hl.1.symm) hown (hts _ w1) (hts _ w2) (hts _ w3) (hts _ w4) (by have := hR.1; omega) (by have := hR.2.1; omega) (Nat.le_trans h1 hR.2.2.1) (Nat.le_trans h2 hR.2.2.2) hdg (k2 p l e R0 s m args below meth c0 D cA b0 sa H locs lsr ⟨hx, hb, hr0, hlk, hml, hown, hnm, hts, hR, hSs⟩ hl hH hS)
theorem x_mabs {idx : Nat} {a : Int32} (hdg : decode (qc y) pc = .ok (.invokestatic idx, 3)) (w1 : Cond.methodLink (qcn (y / 1000)) idx Lib.Math.abs.name ∈ qGW) (w2 : Cond.static Lib.Math.abs.name ∈ qGW) (w3 : Cond.initialized "java/lang/Math" ∈ qGW) (w4 : Cond.code Lib.Math.abs.name Lib.Math.abs.code 1 (some .int) ∈ qGW) (hcs : (st.map fun v => v.category).sum ≤ 8) (h1 : uc ≤ MC) (h2 : us ≤ MS) (k2 : X (d + 1) MC MS y uc us (pc + 3) ls (.int (if 0 ≤ a then a else 0 - a) :: st) (K, I, L, R, sz) Q) : X (d + 1) MC MS y uc us pc ls (.int a :: st) (K, I, L, R, sz) Q := by
  intro p l e R0 s m args below meth c0 D cA b0 sa H locs lsr hC hl hH hS
  obtain ⟨hx, hb, hr0, hlk, hml, hown, hnm, hts, hR, hSs⟩ := hC
  have hcs2 := q_stackW (g := qg b0 sa) hcs
  exact va_mabs hx hb (by rw [hml]; exact hl.1.symm) hown (hts _ w1) (hts _ w2) (hts _ w3) (hts _ w4) (by have := hR.1; omega) (by have := hR.2.1; omega) (Nat.le_trans h1 hR.2.2.1) (Nat.le_trans h2 hR.2.2.2) hdg (k2 p l e R0 s m args below meth c0 D cA b0 sa H locs lsr ⟨hx, hb, hr0, hlk, hml, hown, hnm, hts, hR, hSs⟩ hl hH hS)
theorem x_mmaxL {idx : Nat} {a b : Int64} (hdg : decode (qc y) pc = .ok (.invokestatic idx, 3)) (w1 : Cond.methodLink (qcn (y / 1000)) idx Lib.MathLoose.max_long.x ∈ qGW) (w2 : Cond.static Lib.MathLoose.max_long.x ∈ qGW) (w3 : Cond.initialized "java/lang/Math" ∈ qGW) (w4 : Cond.code Lib.MathLoose.max_long.x Lib.MathLoose.max_long.code 4 (some .long) ∈ qGW) (hcs : (st.map fun v => v.category).sum ≤ 8) (h1 : uc ≤ MC) (h2 : us ≤ MS) (k2 : X (d + 1) MC MS y uc us (pc + 3) ls (.long (if b < a then a else b) :: st) (K, I, L, R, sz) Q) : X (d + 1) MC MS y uc us pc ls (.long b :: .long a :: st) (K, I, L, R, sz) Q := by
  intro p l e R0 s m args below meth c0 D cA b0 sa H locs lsr hC hl hH hS
  obtain ⟨hx, hb, hr0, hlk, hml, hown, hnm, hts, hR, hSs⟩ := hC
  have hcs2 := q_stackW (g := qg b0 sa) hcs
  exact va_mmax_long hx hb (by rw [hml]; exact hl.1.symm) hown (hts _ w1) (hts _ w2) (hts _ w3) (hts _ w4) (by have := hR.1; omega) (by have := hR.2.1; omega) (Nat.le_trans h1 hR.2.2.1) (Nat.le_trans h2 hR.2.2.2) hdg (k2 p l e R0 s m args below meth c0 D cA b0 sa H locs lsr ⟨hx, hb, hr0, hlk, hml, hown, hnm, hts, hR, hSs⟩ hl hH hS)
theorem x_mminL {idx : Nat} {a b : Int64} (hdg : decode (qc y) pc = .ok (.invokestatic idx, 3)) (w1 : Cond.methodLink (qcn (y / 1000)) idx Lib.MathLoose.min_long.x ∈ qGW) (w2 : Cond.static Lib.MathLoose.min_long.x ∈ qGW) (w3 : Cond.initialized "java/lang/Math" ∈ qGW) (w4 : Cond.code Lib.MathLoose.min_long.x Lib.MathLoose.min_long.code 4 (some .long) ∈ qGW) (hcs : (st.map fun v => v.category).sum ≤ 8) (h1 : uc ≤ MC) (h2 : us ≤ MS) (k2 : X (d + 1) MC MS y uc us (pc + 3) ls (.long (if b < a then b else a) :: st) (K, I, L, R, sz) Q) : X (d + 1) MC MS y uc us pc ls (.long b :: .long a :: st) (K, I, L, R, sz) Q := by
  intro p l e R0 s m args below meth c0 D cA b0 sa H locs lsr hC hl hH hS
  obtain ⟨hx, hb, hr0, hlk, hml, hown, hnm, hts, hR, hSs⟩ := hC
  have hcs2 := q_stackW (g := qg b0 sa) hcs
  exact va_mmin_long hx hb (by rw [hml]; exact hl.1.symm) hown (hts _ w1) (hts _ w2) (hts _ w3) (hts _ w4) (by have := hR.1; omega) (by have := hR.2.1; omega) (Nat.le_trans h1 hR.2.2.1) (Nat.le_trans h2 hR.2.2.2) hdg (k2 p l e R0 s m args below meth c0 D cA b0 sa H locs lsr ⟨hx, hb, hr0, hlk, hml, hown, hnm, hts, hR, hSs⟩ hl hH hS)
theorem x_copy {idx i0 i1 n0 n1 : Nat} {sp dp n : Int32} (hdg : decode (qc y) pc = .ok (.invokestatic idx, 3)) (w1 : Cond.methodLink (qcn (y / 1000)) idx arraycopyName ∈ qGW) (w2 : Cond.native arraycopyName ∈ qGW) (w3 : Cond.static arraycopyName ∈ qGW) (w4 : Cond.initialized "java/lang/System" ∈ qGW) (hk0 : qAt K sz i0 (.inr (0, n0))) (hk1 : qAt K sz i1 (.inr (0, n1)))
    (h1 : ¬ sp < 0) (h2 : ¬ dp < 0) (h3 : ¬ n < 0) (h4 : sp.toNatClampNeg + n.toNatClampNeg ≤ n0) (h5 : dp.toNatClampNeg + n.toNatClampNeg ≤ n1) (hcs : (st.map fun v => v.category).sum ≤ 8)
    (k2 : X (d + 1) MC MS y uc us (pc + 3) ls st (K, va_up I i1 (va_cpy (I i0) (I i1) sp.toNatClampNeg dp.toNatClampNeg n.toNatClampNeg), L, R, sz) Q) : X (d + 1) MC MS y uc us pc ls (.int n :: .int dp :: .ref i1 :: .int sp :: .ref i0 :: st) (K, I, L, R, sz) Q := by
  intro p l e R0 s m args below meth c0 D cA b0 sa H locs lsr hC hl hH hS
  have hC' := hC
  obtain ⟨hx, hb, hr0, hlk, hml, hown, hnm, hts, hR, hSs⟩ := hC'
  have nn : ∀ z : Int32, ¬ z < 0 → z.toInt = (z.toNatClampNeg : Int) := by
    intro z hz
    have hz0 : (0 : Int) ≤ z.toInt := by
      have := Int32.not_lt.mp hz
      simpa using Int32.le_iff_toInt_le.mp this
    show z.toInt = ((z.toInt.toNat : Nat) : Int)
    omega
  have g0 : qg b0 sa i0 = b0 + i0 := qg_lo (Nat.lt_trans hk0.1 hH.2.1)
  have g1 : qg b0 sa i1 = b0 + i1 := qg_lo (Nat.lt_trans hk1.1 hH.2.1)
  have hc0 : H[qg b0 sa i0]? = some (vp_cell (cA 0) (n0, .inl (I i0))) := qH_at hH hk0.1 (qE_int hk0.2 (by decide)) 0 _ rfl
  have hc1 : H[qg b0 sa i1]? = some (vp_cell (cA 0) (n1, .inl (I i1))) := qH_at hH hk1.1 (qE_int hk1.2 (by decide)) 0 _ rfl
  obtain ⟨-, k0, hkk0, cm0, hk00⟩ := (hSs.1.2 0 _ rfl).1 n0 (fun j => .int (I i0 j))
  have hcs2 := q_stackW (g := qg b0 sa) hcs
  intro T hT X
  obtain ⟨vm', X', step⟩ := X.arraycopy hx hown (hts _ w1) (hts _ w2) (hts _ w3) (hts _ w4) (src := qg b0 sa i0) (dst := qg b0 sa i1) (cs := vp_cell (cA 0) (n0, .inl (I i0))) (cd := vp_cell (cA 0) (n1, .inl (I i1))) (srcPos := sp) (destPos := dp) (n := n) (by rw [hT]; exact hc0) (by rw [hT]; exact hc1)
    (fun _ h => by cases h) (fun _ h => by cases h) (fun h => by cases h) (fun h => by cases h) hkk0 hkk0 hk00 hk00 (by simp [refKind]) h1 h2 h3
    (by rw [nn sp h1, nn n h3]; show ¬ _ > ((arrV (cA 0) n0 (fun j => .int (I i0 j))).slots.size : Int); rw [arrV_size]; omega)
    (by rw [nn dp h2, nn n h3]; show ¬ _ > ((arrV (cA 0) n1 (fun j => .int (I i1 j))).slots.size : Int); rw [arrV_size]; omega)
    (fun vm₁ _ i hi => by
      have e : (vp_cell (cA 0) (n0, .inl (I i0))).slots.getD (sp.toNatClampNeg + i) .null = .int (I i0 (sp.toNatClampNeg + i)) := by
        show (arrV (cA 0) n0 (fun j => .int (I i0 j))).slots.getD _ _ = _
        rw [Array.getD_eq_getD_getElem?, arrV_read _ _ (by omega)]
        rfl
      refine ⟨?_, ?_⟩
      · rw [e]
        rfl
      · rw [e]
        exact trivial)
    (g := F0 m pc lsr (.int n :: .int dp :: .ref (qg b0 sa i1) :: .int sp :: .ref (qg b0 sa i0) :: st.map (qv (qg b0 sa)))) rfl (by rw [hml]; exact hl.1) (rest := st.map (qv (qg b0 sa))) rfl (by rw [hb]; exact hdg) (by have := hR.1; omega) (by show 2 * 0 + _ + (nativeFrameWords "java/lang/System" "arraycopy" 5 + 11) ≤ _; have h9 := hR.2.1; have h8 : nativeFrameWords "java/lang/System" "arraycopy" 5 ≤ 30 := (by decide +kernel); omega)
  have e1 : copied (vp_cell (cA 0) (n0, .inl (I i0))) (vp_cell (cA 0) (n1, .inl (I i1))) sp dp n = vp_cell (cA 0) (n1, .inl (va_cpy (I i0) (I i1) sp.toNatClampNeg dp.toNatClampNeg n.toNatClampNeg)) := va_copied (fun z => .int z) (cA 0) (cA 0) (I i0) (I i1) h4
  rw [e1] at X' step
  have hlt : qg b0 sa i1 < H.size := (Array.getElem?_eq_some_iff.mp hc1).1
  have hheap : ((T.setVm vm').setCell (qg b0 sa i1) (vp_cell (cA 0) (n1, .inl (va_cpy (I i0) (I i1) sp.toNatClampNeg dp.toNatClampNeg n.toNatClampNeg)))).heap = H.setIfInBounds (qg b0 sa i1) (vp_cell (cA 0) (n1, .inl (va_cpy (I i0) (I i1) sp.toNatClampNeg dp.toNatClampNeg n.toNatClampNeg))) := by rw [← hT]; rfl
  have oq : ∀ q : Nat, q ≠ qg b0 sa i1 → (H.setIfInBounds (qg b0 sa i1) (vp_cell (cA 0) (n1, .inl (va_cpy (I i0) (I i1) sp.toNatClampNeg dp.toNatClampNeg n.toNatClampNeg))))[q]? = H[q]? := fun q hq => by simp [Array.getElem?_setIfInBounds, Ne.symm hq]
  obtain ⟨t, a1, b1⟩ := k2 p l e R0 s m args below meth c0 D cA b0 sa (H.setIfInBounds (qg b0 sa i1) (vp_cell (cA 0) (n1, .inl (va_cpy (I i0) (I i1) sp.toNatClampNeg dp.toNatClampNeg n.toNatClampNeg)))) _ lsr hC hl
    (q_arr hH (i := i1) (cell := vp_cell (cA 0) (n1, .inl (va_cpy (I i0) (I i1) sp.toNatClampNeg dp.toNatClampNeg n.toNatClampNeg))) (by rw [← g1]; simp [Array.getElem?_setIfInBounds, hlt]) (by simp) (fun q hq => oq q (by rw [g1]; exact hq)) q_ne (fun _ _ => rfl) (fun x hx => by
      rw [qE_int hk1.2 (by decide)] at hx
      cases hx
      exact ⟨_, rfl, by simp [va_up]⟩))
    ⟨by simp; exact hS.1, fun q z1 z2 => by
      rw [oq q (fun e => z2 (by rw [e, g1]; exact Nat.le_add_right _ _))]
      exact hS.2.1 q z1 z2, fun q hq => by
      rcases List.mem_append.mp hq with h | h
      · exact hS.2.2 q h
      · obtain ⟨z, -, hz⟩ := List.mem_map.mp h
        rw [← hz]
        show b0 ≤ qg b0 sa i1
        rw [g1]
        exact Nat.le_add_right _ _⟩ _ hheap X'
  exact ⟨t, step t a1, b1⟩
/-- new int[n][k] -/
theorem x_mna {idx n k : Nat} {nn kk : Int32} (hdg : decode (qc y) pc = .ok (.multianewarray idx 2, 4)) (w1 : Cond.classLink (qcn (y / 1000)) idx "[[I" ∈ qGW) (w2 : Cond.arrayClass .int ∈ qGW) (hn0 : ¬ nn < 0) (hk0 : ¬ kk < 0) (hN : nn.toNatClampNeg = n) (hK : kk.toNatClampNeg = k) (hb1 : n * 4 ≤ 536870912) (hb2 : k * 4 ≤ 536870912) (h1 : uc + (1 + n) ≤ MC) (h2 : us + (n + n * k) ≤ MS) (h3 : sz + 1 + n < 1000000)
    (k2 : X d MC MS y (uc + 1 + n) (us + n + n * k) (pc + 4) ls (.ref sz :: st) ((fun j => if j = sz then .inr (4, n) else if sz < j ∧ j ≤ sz + n then .inr (0, k) else K j), (fun j => if sz < j ∧ j ≤ sz + n then (fun _ => 0) else I j), L, va_up R sz (fun j => if j < n then some (sz + 1 + j) else none), sz + 1 + n) Q) : X d MC MS y uc us pc ls (.int kk :: .int nn :: st) (K, I, L, R, sz) Q := by
  subst hN
  subst hK
  intro p l e R0 s m args below meth c0 D cA b0 sa H locs lsr hC hl hH hS
  have hC' := hC
  obtain ⟨hx, hb, hr0, hlk, hml, hown, hnm, hts, hR, hSs⟩ := hC'
  intro T hT Xs
  have hcy : s.vm.findClass (FieldType.array .int).toString = some (cA 0) := by
    have := (hSs.1.2 0 _ rfl).2
    exact this
  have hcz : s.vm.findClass ("[" ++ (FieldType.array .int).toString) = some (cA 4) := (hSs.1.2 4 _ rfl).2
  obtain ⟨vm₁, c4, comp, -, fA, fC, hO, -, X', step⟩ := Xs.multianewarray2F hx hown (ty := .int) (hts _ w1) (va_AOA.use hSs.2.2.2.2.1) (hts _ w2) (g := F0 m pc lsr (.int kk :: .int nn :: st.map (qv (qg b0 sa)))) rfl (by rw [hb]; exact hdg) rfl hn0 hk0 hb1 (by show kk.toNatClampNeg * 4 ≤ _; exact hb2) (by omega) rfl rfl (Nat.le_trans h1 hR.2.2.1) (Nat.le_trans h2 hR.2.2.2)
  cases Option.some.inj (hcy.symm.trans fC)
  cases Option.some.inj (hcz.symm.trans fA)
  generalize hF : Jvm.Free.Multi.fill (T.setVm vm₁) (cA 4) (cA 0) nn.toNatClampNeg kk.toNatClampNeg (defaultValue .int) nn.toNatClampNeg = F at X' step
  have hTh : (T.setVm vm₁).heap = H := hT
  obtain ⟨f1, f2, -, -⟩ := Jvm.Free.Multi.fill_facts (T.setVm vm₁) (cA 4) (cA 0) nn.toNatClampNeg kk.toNatClampNeg (defaultValue .int) nn.toNatClampNeg
  rw [hF, hTh] at f1 f2
  have hold : ∀ x : Nat, x < H.size → F.heap[x]? = H[x]? := fun x hx => by
    have := Jvm.Free.Multi.fill_old (T.setVm vm₁) (cA 4) (cA 0) nn.toNatClampNeg kk.toNatClampNeg (defaultValue .int) (a := x) (by rw [hTh]; exact hx) nn.toNatClampNeg
    rw [hF, hTh] at this
    exact this
  have hrow : ∀ j : Nat, j < nn.toNatClampNeg → F.heap[H.size + 1 + j]? = some (arrV (cA 0) kk.toNatClampNeg (fun _ => .int 0)) := fun j hj => by
    have := Jvm.Free.Multi.fill_inner (T.setVm vm₁) (cA 4) (cA 0) nn.toNatClampNeg kk.toNatClampNeg (defaultValue .int) nn.toNatClampNeg j hj
    rw [hF, hTh] at this
    rw [this]
    exact congrArg some (arrV_new (cA 0) kk.toNatClampNeg (.int 0))
  have hs : H.size = b0 + sz := hH.1
  have hg : qg b0 sa sz = b0 + sz := qg_lo hH.2.1
  obtain ⟨t, a1, b1⟩ := k2 p l e R0 s m args below meth c0 D cA b0 sa F.heap locs lsr hC hl (by
      refine ⟨by rw [f1, hs]; show _ = b0 + (sz + 1 + nn.toNatClampNeg); omega, h3, fun j hj x hx => ?_⟩
      have hj2 : j < sz + 1 + nn.toNatClampNeg := hj
      unfold qE at hx
      dsimp only at hx
      by_cases hjs : j = sz
      · subst hjs
        simp only [if_true, Nat.lt_irrefl, false_and, if_false, va_up] at hx
        cases hx
        show F.heap[b0 + j]? = some (vp_cell _ _)
        rw [← hs, f2, vp_cell_q, vr_outer]
        refine congrArg some (congrArg (arrV (cA 4) nn.toNatClampNeg) (funext fun i => ?_))
        rw [hs]
        by_cases hi : i < nn.toNatClampNeg
        · simp only [hi, if_true, Option.map_some, va_rf]
          rw [qg_lo (by omega : j + 1 + i < 1000000)]
          exact congrArg Value.ref (show (b0 + j + 1 + i : Nat) = b0 + (j + 1 + i) by omega)
        · simp only [hi, if_false, Option.map_none, va_rf]
      · rw [if_neg hjs] at hx
        by_cases hjr : sz < j ∧ j ≤ sz + nn.toNatClampNeg
        · rw [if_pos hjr] at hx
          simp only [Nat.zero_lt_succ, if_true, hjr] at hx
          cases hx
          show F.heap[b0 + j]? = some (vp_cell _ _)
          have := hrow (j - sz - 1) (by omega)
          rw [show H.size + 1 + (j - sz - 1) = b0 + j by omega] at this
          rw [this, vp_cell_i]
          simp [hjr]
        · rw [if_neg hjr] at hx
          have hjlt : j < sz := by omega
          have hx2 : qE cA (qg b0 sa) K I L R j = some x := by
            rw [← hx]
            unfold qE
            rw [if_neg hjr, q_ne j hjs]
          exact (hH.2.2 j hjlt x hx2).kept (hold _ (by show b0 + j < _; omega)))
    ⟨Nat.le_trans hS.1 (by rw [f1]; omega), fun x z1 z2 => (hold x (Nat.lt_of_lt_of_le z1 hS.1)).trans (hS.2.1 x z1 z2), hS.2.2⟩ F rfl X'
  refine ⟨t, step t ?_, b1⟩
  rw [show T.heap.size = b0 + sz by rw [hT, hs], ← hg]
  exact a1
theorem x_anewL {idx n : Nat} {nn : Int32} (hdg : decode (qc y) pc = .ok (.anewarray idx, 3)) (w1 : Cond.classLink (qcn (y / 1000)) idx "LastThanked$Law" ∈ qGW) (hn0 : ¬ nn < 0) (hN : nn.toNatClampNeg = n) (hby : n * 4 ≤ 536870912) (h1 : uc + 1 ≤ MC) (h2 : us + n ≤ MS) (h3 : sz + 1 < 1000000)
    (k2 : X d MC MS y (uc + 1) (us + n) (pc + 3) ls (.ref sz :: st) (va_up K sz (.inr (3, n)), I, L, va_up R sz (fun _ => none), sz + 1) Q) : X d MC MS y uc us pc ls (.int nn :: st) (K, I, L, R, sz) Q := by
  subst hN
  intro p l e R0 s m args below meth c0 D cA b0 sa H locs lsr hC hl hH hS
  have hC' := hC
  obtain ⟨hx, hb, hr0, hlk, hml, hown, hnm, hts, hR, hSs⟩ := hC'
  have hg : qg b0 sa sz = b0 + sz := qg_lo hH.2.1
  refine W.anew hx hb hown (hts _ w1) (va_AO.use hSs.2.2.2.1) rfl hdg rfl hn0 hby (Nat.le_trans h1 hR.2.2.1) (Nat.le_trans h2 hR.2.2.2) fun c3 kA comp g1 g2 g3 g4 => ?_
  obtain ⟨kA', comp', z1, z2, z3, z4⟩ := (hSs.1.2 3 _ rfl).2
  cases Option.some.inj (z4.symm.trans g1)
  have hsz : (H.push ({ cls := cA 3, slots := Array.replicate nn.toNatClampNeg .null, vm := .none } : Cell)).size = H.size + 1 := by simp
  have oq : ∀ q, q < H.size → (H.push ({ cls := cA 3, slots := Array.replicate nn.toNatClampNeg .null, vm := .none } : Cell))[q]? = H[q]? := fun q hq => by rw [Array.getElem?_push_lt hq, Array.getElem?_eq_getElem hq]
  have hq := k2 p l e R0 s m args below meth c0 D cA b0 sa _ locs lsr hC hl (qH_push hH h3 hsz oq (fun j hj => by unfold qE; dsimp only; rw [q_ne j hj, q_ne j hj]) (fun x hx => by
    rw [qE_ref (t := 3) (n := nn.toNatClampNeg) (by simp [va_up]) (by decide) (by decide)] at hx
    cases hx
    show (H.push _)[b0 + sz]? = some (vp_cell _ _)
    rw [← hH.1, Array.getElem?_push_size, vp_cell_q, arrV_new]
    refine congrArg some (congrArg (arrV (cA 3) nn.toNatClampNeg) (funext fun i => ?_))
    simp [va_up, va_rf])) (q_newS hS hsz oq)
  rw [show H.size = qg b0 sa sz by rw [hH.1, hg]]
  exact hq
theorem x_aastL {i n a : Nat} {j : Int32} (hdg : decode (qc y) pc = .ok (.aastore, 1)) (hk : qAt K sz i (.inr (3, n))) (ha : qAt K sz a (.inl 3)) (hin : vp_in j n) (k2 : X d MC MS y uc us (pc + 1) ls st (K, I, L, va_up R i (va_up (R i) j.toNatClampNeg (some a)), sz) Q) : X d MC MS y uc us pc ls (.ref a :: .int j :: .ref i :: st) (K, I, L, R, sz) Q := by
  intro p l e R0 s m args below meth c0 D cA b0 sa H locs lsr hC hl hH hS
  have hSs := hC.2.2.2.2.2.2.2.2.2
  have hlt : j.toNatClampNeg < n := Nat.not_le.mp fun q => hin (Or.inr q)
  have h0 : ¬ j < 0 := fun q => hin (Or.inl q)
  have hP := qH_at hH hk.1 (qE_ref hk.2 (by decide) (by decide))
  have hPv := qH_at hH ha.1 (qE_obj ha.2)
  have hg : qg b0 sa i = b0 + i := qg_lo (Nat.lt_trans hk.1 hH.2.1)
  obtain ⟨r', hr', cellV, g1, g2, g3, -⟩ := hPv 0 _ rfl
  have hcls := (hSs.1.1 3 _ rfl).2
  obtain ⟨kA, comp, z1, z2, z3, -⟩ := (hSs.1.2 3 _ rfl).2
  have hcomp : comp = D.1 3 := Option.some.inj (z3.symm.trans hcls.1)
  subst hcomp
  obtain ⟨kC, hkC, -⟩ := hcls.2
  refine W.aast hC.1 hC.2.1 (hP 0 _ rfl) (fun q h => by cases h) (fun h => by cases h) z1 z2 rfl hkC ⟨h0, by show _ < (arrV _ _ _).slots.size; rw [arrV_size]; exact hlt⟩ g1 (fun q h => by rw [g3] at h; cases h) (by rw [g2]; exact hkC) (by rw [g2]; exact va_assign hcls) rfl rfl hdg fun H1 e1 z oq => ?_
  rw [hg] at e1
  refine k2 p l e R0 s m args below meth c0 D cA b0 sa H1 _ lsr hC hl (qH_step hH z (i := i) (fun q hq => oq q (by show q ≠ qg b0 sa i; rw [hg]; exact hq)) (fun j2 hj2 => by unfold qE; dsimp only; rw [q_ne j2 hj2]) (fun x hx => ?_)) (hS.put z oq (by show b0 ≤ qg b0 sa i; rw [hg]; exact Nat.le_add_right _ _))
  rw [qE_ref hk.2 (by decide) (by decide)] at hx
  cases hx
  show H1[b0 + i]? = some (vp_cell _ _)
  rw [e1]
  rw [vp_cell_q, vp_cell_q, arrV_store]
  refine congrArg some (congrArg (arrV (cA 3) n) (funext fun q => ?_))
  by_cases hq : q = j.toNatClampNeg
  · subst hq
    simp [updV, va_up, va_rf]
  · simp [updV, va_up, hq]
end QN
