/-! calls -/
def qRm (d MC MS : Nat) : Room := { frames := d, cells := MC, slots := MS, locals := 64 * d }
def qWs (z : Nat) : List Cond := Cond.code (qn z) (qc z) (qml z) (qr z) :: qGW
def qpush : Option Value → List Value → List Value := fun r st => match r with
  | none => st
  | some v => v :: st
theorem lg_sl_qv (g : Nat → Nat) (av : List Value) : (lg_sl (av.map (qv g))).length = (lg_sl av).length := by
  induction av with
  | nil => rfl
  | cons v t ih =>
    simp only [lg_sl, List.map_cons, List.flatMap_cons, List.length_append, qv_cat] at ih ⊢
    by_cases h : v.category = 2 <;> simp [h, ih]
theorem qH_calling {D : va_G} {cA : Nat → ClassId} {g : Nat → Nat} {b0 : Nat} {K : qK} {I : Nat → Nat → Int32} {L : Nat → Nat → Int64} {R : Nat → Nat → Option Nat} {sz : Nat} {U : State} {f : JFrame} {mk : MethodId} {a : Array Value} (h : qH D cA g b0 K I L R sz U.heap) : qH D cA g b0 K I L R sz (U.calling f mk a).heap := h
theorem qT_tr {b0 : Nat} {sa : Nat → Nat} {s U : State} (ha : s.vm.Alike U.vm) (hr : ∀ (own tx : String) (k a : Nat), vk_R own k tx a s → vk_R own k tx a U) (hh : ∀ a : Nat, a < b0 → U.heap[a]? = s.heap[a]?) (h : qT b0 sa s) : qT b0 sa U := by
  obtain ⟨h1, h2, h3, h4, h5⟩ := h
  refine ⟨(h1.moved ha).kept (fun a _ hb => hh a (by omega)), hr _ _ _ _ h2, hr _ _ _ _ h3, hr _ _ _ _ h4, (h5.moved ha).kept (fun a _ hb => hh a (by omega))⟩
theorem qS_moved {D : va_G} {cA : Nat → ClassId} {b0 : Nat} {sa : Nat → Nat} {s U : State} (hW : s.WarmedH U.vm) (hb : b0 ≤ U.heap.size) (hh : ∀ a : Nat, a < b0 → U.heap[a]? = s.heap[a]?) (h : qS D cA b0 sa s) : qS D cA b0 sa U := by
  obtain ⟨h1, h2, h3, h4, h5, h6⟩ := h
  refine ⟨h1.moved hW.alike, hb, fun w hw => ?_, h4.moved hW.alike, ?_, qT_tr hW.alike (fun _ _ _ _ => vk_R.warm hW) hh h6⟩
  · have hz := h3 w hw
    simp only [qNw, List.mem_cons, List.mem_nil_iff, or_false] at hw
    rcases hw with rfl | rfl | rfl | rfl | rfl | rfl | rfl | rfl | rfl <;> exact va_Nw.warmM hW hz
  · exact va_AOA.moved hW.alike h5
theorem qS_same {D : va_G} {cA : Nat → ClassId} {b0 : Nat} {sa : Nat → Nat} {s U : State} (hv : s.vm = U.vm) (hb : b0 ≤ U.heap.size) (hh : ∀ a : Nat, a < b0 → U.heap[a]? = s.heap[a]?) (h : qS D cA b0 sa s) : qS D cA b0 sa U := by
  obtain ⟨h1, h2, h3, h4, h5, h6⟩ := h
  have ha : s.vm.Alike U.vm := by rw [hv]; exact Vm.Alike.refl _
  refine ⟨h1.moved ha, hb, fun w hw => ?_, h4.moved ha, va_AOA.moved ha h5, qT_tr ha (fun _ _ _ _ => vk_R.same hv.symm) hh h6⟩
  have hz := h3 w hw
  simp only [qNw, List.mem_cons, List.mem_nil_iff, or_false] at hw
  rcases hw with rfl | rfl | rfl | rfl | rfl | rfl | rfl | rfl | rfl <;> exact va_Nw.same rfl hv hz
theorem q_met {d MC MS z : Nat} {av : List Value} {K : qK} {I : Nat → Nat → Int32} {L : Nat → Nat → Int64} {R : Nat → Nat → Option Nat} {sz : Nat} {Q : Option Value → qMem → Prop} (hz : plainName (qn z).cls = true) (hcls : (qn z).cls = qcn (z / 1000)) (hlen : (lg_sl av).length ≤ qml z)
    (h : X d MC MS z 0 0 0 (qent (qml z) av) [] (K, I, L, R, sz) Q) (l : Launch) (D : va_G) (cA : Nat → ClassId) (b0 : Nat) (sa : Nat → Nat) :
    Met l (qn z) (qWs z) (qRm d MC MS) (va_Pc (av.map (qv (qg b0 sa))) (fun U => qS D cA b0 sa U ∧ qH D cA (qg b0 sa) b0 K I L R sz U.heap)) (qQ D cA b0 sa Q) MC MS (fun q => b0 ≤ q) := by
  refine Met.ofW (cc := qc z) (maxL := qml z) (ret := qr z) hz rfl ?_
  intro p e s m args below meth c s₁ B hml hv
  obtain ⟨rfl, hSs, hHs⟩ := hv
  have hts := atoms_spec (ws := qWs z) B.pre
  have hl := q_entry (g := qg b0 sa) (av := av) (n := qml z) (by rw [lg_sl_qv]; exact hlen)
  rw [lg_entry_eq]
  exact h p l e _ s m _ below meth c D cA b0 sa s.heap [] _ ⟨B.exec, B.bytes, B.returns, B.notSynchronized, hml, by rw [← hcls]; exact findClass_of_methodNamed B.named, (name_of_methodNamed B.named B.method).1, fun w hw => hts w (List.mem_cons_of_mem _ hw), ⟨Nat.le_refl _, Nat.le_refl _, Nat.le_refl _, Nat.le_refl _⟩, hSs⟩ hl hHs va_S.rf
/-- words of a call that every kind wants: z is called with n arguments -/
def qCb (z n : Nat) : Prop := plainName (qn z).cls = true ∧ (qn z).cls = qcn (z / 1000) ∧ qml z ≤ 45 ∧ Cond.code (qn z) (qc z) (qml z) (qr z) ∈ qGW ∧ Cond.initialized (qn z).cls ∈ qGW ∧ ((qn z).cls ≠ "java/lang/invoke/MethodHandle" ∧ (qn z).cls ≠ "java/lang/invoke/VarHandle") ∧ (parseMethodDescriptor (qn z).desc).map (fun d => d.parameters.length) = some n
def qCv (o idx z c n : Nat) : Prop := qCb z n ∧ (∃ (C : String) (T : u_T) (N : Nat), vwCl[c]? = some (C, T, N) ∧ Cond.selects C (qn z) (qn z) ∈ qGW) ∧ Cond.methodLink (qcn o) idx (qn z) ∈ qGW ∧ Cond.instanceMethod (qn z) ∈ qGW
def qCu (o idx z c n : Nat) (x : MethodName) : Prop := qCb z n ∧ (∃ (C : String) (T : u_T) (N : Nat), vwCl[c]? = some (C, T, N) ∧ Cond.selects C x (qn z) ∈ qGW) ∧ Cond.methodLink (qcn o) idx x ∈ qGW ∧ Cond.instanceMethod (qn z) ∈ qGW ∧ Cond.sameMethod x.cls (qn z).cls x.name x.desc ∈ qGW ∧ x.name = (qn z).name ∧ x.desc = (qn z).desc
def qCs (o idx z n : Nat) : Prop := qCb z n ∧ Cond.methodLink (qcn o) idx (qn z) ∈ qGW ∧ Cond.static (qn z) ∈ qGW
def qCi (o idx z n : Nat) : Prop := qCb z n ∧ Cond.methodLink (qcn o) idx (qn z) ∈ qGW ∧ Cond.instanceMethod (qn z) ∈ qGW ∧ (qn z).name = "<init>"
def qCn (o idx z n : Nat) : Prop := qCb z n ∧ Cond.methodLinkNest (qcn o) idx (qn z) "LastThanked" ∈ qNw ∧ Cond.instanceMethod (qn z) ∈ qGW ∧ (qn z).name = "<init>"
section QCALL
variable {d MC MS y uc us pc : Nat} {ls : List (Option Value)} {st : List Value} {K : qK} {I : Nat → Nat → Int32} {L : Nat → Nat → Int64} {R : Nat → Nat → Option Nat} {sz : Nat} {Q : Option Value → qMem → Prop}
theorem q_stackW {g : Nat → Nat} {rest : List Value} (h : (rest.map fun v => v.category).sum ≤ 8) : ((rest.map (qv g)).map fun v => v.category).sum ≤ 8 := by
  rw [List.map_map]
  rw [show ((fun v : Value => v.category) ∘ qv g) = (fun v : Value => v.category) from funext fun v => qv_cat g v]
  exact h
/-- behind a call -/
theorem q_back {p : Program} {l : Launch} {e : Env} {R0 : Room} {s : State} {m : MethodId} {args : Array Value} {below : List Frame} {meth : Method} {c0 : Code} {H : Heap} {locs : List Loc} {cells slots mc ms : Nat} {Q0 : State → Prop} {D : va_G} {cA : Nat → ClassId} {b0 : Nat} {sa : Nat → Nat} {lsr : Array Slot} {rest st0 : List Value} {a : Array Value} {Q' : Option Value → qMem → Prop}
    (hr : va_Run p l e R0 s m args below meth c0 H locs cells slots mc ms (F0 m pc lsr st0) rest (qQ D cA b0 sa Q' a) (fun q => b0 ≤ q)) (hS : va_S (fun q => b0 ≤ q) s.heap H locs)
    (kk : ∀ (r : Option Value) (M : qMem) (H1 : Heap) (locs1 : List Loc), Q' r M → qH D cA (qg b0 sa) b0 M.1 M.2.1 M.2.2.1 M.2.2.2.1 M.2.2.2.2 H1 → va_S (fun q => b0 ≤ q) s.heap H1 locs1 → W p l e R0 s m args below meth c0 H1 locs1 (cells + mc) (slots + ms) Q0 (F0 m (pc + 3) lsr (qpush (r.map (qv (qg b0 sa))) rest))) : W p l e R0 s m args below meth c0 H locs cells slots Q0 (F0 m pc lsr st0) := by
  intro T hT X
  obtain ⟨v, st₀, t, T', L, h0, X', hL, e1, e2, ⟨⟨r, M, hv, hq, hm⟩, hz, hk⟩, st⟩ := hr T hT X
  rw [h0] at hz hk
  have hv2 : v = r.map (qv (qg b0 sa)) := by cases hv; rfl
  subst hv2
  obtain ⟨t2, a1, b1⟩ := kk r M T'.heap (locs ++ L) hq (by rw [e1]; exact hm)
    ⟨Nat.le_trans hS.1 (by rw [e1]; exact hz), fun q h1 h2 => by rw [e1, hk q (Nat.lt_of_lt_of_le h1 hS.1) h2]; exact hS.2.1 q h1 h2, fun q hq => by
      rcases List.mem_append.mp hq with h | h
      · exact hS.2.2 q h
      · exact hL q h⟩ T' rfl X'
  refine ⟨t2, st t2 ?_, b1⟩
  cases r <;> exact a1
theorem q_pre {p : Program} {R0 : Room} {s : State} {m : MethodId} {args : Array Value} {meth : Method} {c0 : Code} {H : Heap} {locs : List Loc} {D : va_G} {cA : Nat → ClassId} {b0 : Nat} {sa : Nat → Nat} {av : List Value} (hC : qC p R0 s m args meth c0 d MC MS y D cA b0 sa) (hH : qH D cA (qg b0 sa) b0 K I L R sz H) (hS : va_S (fun q => b0 ≤ q) s.heap H locs) :
    PreS s H (va_Pc (av.map (qv (qg b0 sa))) (fun U => qS D cA b0 sa U ∧ qH D cA (qg b0 sa) b0 K I L R sz U.heap)) (av.map (qv (qg b0 sa))) := by
  obtain ⟨-, -, -, -, -, -, -, -, -, hSs⟩ := hC
  refine ⟨fun a U g mk q => ⟨q.1, qS_same (s := U) (U := U.calling g mk a) rfl (by show b0 ≤ U.heap.size; exact q.2.1.2.1) (fun _ _ => rfl) q.2.1, q.2.2⟩, fun U hU hW => ⟨rfl, qS_moved hW (by rw [hU]; exact Nat.le_trans hSs.2.1 hS.1) (fun a ha => by rw [hU]; exact hS.2.1 a (Nat.lt_of_lt_of_le ha hSs.2.1) (by show ¬ b0 ≤ a; omega)) hSs, by rw [hU]; exact hH⟩⟩
theorem q_recv {p : Program} {R0 : Room} {s : State} {m : MethodId} {args : Array Value} {meth : Method} {c0 : Code} {H : Heap} {D : va_G} {cA : Nat → ClassId} {b0 : Nat} {sa : Nat → Nat} {i c : Nat} {C : String} {T : u_T} {N : Nat} (hC : qC p R0 s m args meth c0 d MC MS y D cA b0 sa) (hH : qH D cA (qg b0 sa) b0 K I L R sz H) (hk : qAt K sz i (.inl c)) (hc : vwCl[c]? = some (C, T, N)) :
    ∃ cellB : Cell, H[qg b0 sa i]? = some cellB ∧ cellB.vm.isStatics = false ∧ s.vm.findClass C = some cellB.cls :=
  va_recv (qS_K hC.2.2.2.2.2.2.2.2.2) (qH_at hH hk.1 (qE_obj hk.2)) hc (q0 := 0) rfl
theorem q_cb {R0 : Room} {s : State} {args : Array Value} {own : String} {idx z n MCz MSz : Nat} (hb : qCb z n) (hts : ∀ w ∈ qGW, w.before args s = true) (hl : Cond.methodLink own idx (qn z) ∈ qGW) (hR : d + 1 ≤ R0.frames ∧ 64 * (d + 1) ≤ R0.locals) : CallB R0 s args own idx (qn z) (qc z) (qml z) (qr z) (qWs z) (qRm d MCz MSz) MCz MSz n := by
  obtain ⟨-, -, h45, hco, hin, hmh, hn⟩ := hb
  refine callB_of (Ts := qGW) (ws' := qGW) n hts (fun w hw => ?_) rfl rfl rfl (hts _ hin) (hts _ hl) ⟨hmh.1, hmh.2, hn⟩ ⟨hR.1, by show 8 + (qml z + 11) + 64 * d ≤ _; omega⟩
  rcases List.mem_cons.mp hw with rfl | hw
  · exact ⟨hco, qGW_good hco⟩
  · exact ⟨hw, qGW_good hw⟩
theorem q_fix {p : Program} {R0 : Room} {s : State} {m : MethodId} {args : Array Value} {meth : Method} {c0 : Code} {D : va_G} {cA : Nat → ClassId} {b0 : Nat} {sa : Nat → Nat} (hC : qC p R0 s m args meth c0 d MC MS y D cA b0 sa) : CallFix p m c0 (qc y) (qml y) s args qGW (qcn (y / 1000)) := ⟨hC.1, hC.2.1, hC.2.2.2.2.1, hC.2.2.2.2.2.1, hC.2.2.2.2.2.2.2.1⟩
theorem x_callV {idx z c n i MCz MSz : Nat} {As rest : List Value} (hdg : decode (qc y) pc = .ok (.invokevirtual idx, 3)) (hw : qCv (y / 1000) idx z c n) (hk : qAt K sz i (.inl c)) (hst : st = As.reverse ++ .ref i :: rest) (hn : As.length = n) (hcs : (rest.map fun v => v.category).sum ≤ 8) (hlen : (lg_sl (.ref i :: As)).length ≤ qml z) (h1 : uc + MCz ≤ MC) (h2 : us + MSz ≤ MS)
    (k2 : X d MCz MSz z 0 0 0 (qent (qml z) (.ref i :: As)) [] (K, I, L, R, sz) (fun r M => X (d + 1) MC MS y (uc + MCz) (us + MSz) (pc + 3) ls (qpush r rest) M Q)) : X (d + 1) MC MS y uc us pc ls st (K, I, L, R, sz) Q := by
  intro p l e R0 s m args below meth c0 D cA b0 sa H locs lsr hC hl hH hS
  obtain ⟨hb, ⟨C, T, N, hc, hsel⟩, hlk, hin⟩ := hw
  have hts := hC.2.2.2.2.2.2.2.1
  have hR := hC.2.2.2.2.2.2.2.2.1
  have hM := q_met hb.1 hb.2.1 hlen k2 l D cA b0 sa
  have hpre := q_pre (av := .ref i :: As) hC hH hS
  refine q_back (va_runV (As := As.map (qv (qg b0 sa))) (rest := rest.map (qv (qg b0 sa))) (q_fix hC) hM ⟨q_cb hb hts hlk ⟨hR.1, hR.2.1⟩, hts _ hin, hts _ hsel⟩ ⟨hpre.1, q_recv hC hH hk hc, hpre.2⟩ rfl (by rw [List.length_map]; exact hn) hl.1 (by rw [hst]; simp [qv]) (by show 2 * 0 + _ ≤ 8; rw [Nat.mul_zero, Nat.zero_add]; exact q_stackW hcs) hdg ⟨Nat.le_trans h1 hR.2.2.1, Nat.le_trans h2 hR.2.2.2⟩) hS (fun r M H1 locs1 hq g1 g2 => ?_)
  have := hq p l e R0 s m args below meth c0 D cA b0 sa H1 locs1 lsr hC hl g1 g2
  cases r <;> exact this
theorem x_callU {idx z c n i MCz MSz : Nat} {x : MethodName} {As rest : List Value} (hdg : decode (qc y) pc = .ok (.invokevirtual idx, 3)) (hw : qCu (y / 1000) idx z c n x) (hk : qAt K sz i (.inl c)) (hst : st = As.reverse ++ .ref i :: rest) (hn : As.length = n) (hcs : (rest.map fun v => v.category).sum ≤ 8) (hlen : (lg_sl (.ref i :: As)).length ≤ qml z) (h1 : uc + MCz ≤ MC) (h2 : us + MSz ≤ MS)
    (k2 : X d MCz MSz z 0 0 0 (qent (qml z) (.ref i :: As)) [] (K, I, L, R, sz) (fun r M => X (d + 1) MC MS y (uc + MCz) (us + MSz) (pc + 3) ls (qpush r rest) M Q)) : X (d + 1) MC MS y uc us pc ls st (K, I, L, R, sz) Q := by
  intro p l e R0 s m args below meth c0 D cA b0 sa H locs lsr hC hl hH hS
  obtain ⟨hb, ⟨C, T, N, hc, hsel⟩, hlk, hin, hsm, hxn, hxd⟩ := hw
  have hts := hC.2.2.2.2.2.2.2.1
  have hR := hC.2.2.2.2.2.2.2.2.1
  have hM := q_met hb.1 hb.2.1 hlen k2 l D cA b0 sa
  have hpre := q_pre (av := .ref i :: As) hC hH hS
  have hyx : qn z = ⟨(qn z).cls, x.name, x.desc⟩ := by rw [hxn, hxd]
  have hcb := hb
  obtain ⟨-, -, h45, hco, hini, hmh, hnn⟩ := hcb
  have hG : GoodIn qGW (qWs z) := fun w hw => by
    rcases List.mem_cons.mp hw with rfl | hw
    · exact ⟨hco, qGW_good hco⟩
    · exact ⟨hw, qGW_good hw⟩
  have hCU : va_CU R0 s args (qcn (y / 1000)) C (qn z).cls idx x (qn z) (qc z) (qml z) (qr z) (qWs z) (qRm d MCz MSz) MCz MSz n := by
    refine ⟨⟨rfl, rfl, hR.1, by show 8 + (qml z + 11) + 64 * d ≤ _; have := hR.2.1; omega, pay_in hts hG, List.mem_cons_self⟩, hts _ hco, hts _ hini, hmh, fun sig h => ?_, hts _ hlk, hts _ hsm, by rw [← hyx]; exact va_Decl.of (hts _ hin) (hts _ hco), hts _ hsel, hts _ hin⟩
    rw [hxd] at h
    rw [h] at hnn
    exact (Option.some.inj hnn).symm
  refine q_back (va_runU (As := As.map (qv (qg b0 sa))) (rest := rest.map (qv (qg b0 sa))) (q_fix hC) hM hCU ⟨hpre.1, q_recv hC hH hk hc, hpre.2⟩ rfl (by rw [List.length_map]; exact hn) hl.1 (by rw [hst]; simp [qv]) (by show 2 * 0 + _ ≤ 8; rw [Nat.mul_zero, Nat.zero_add]; exact q_stackW hcs) hdg ⟨Nat.le_trans h1 hR.2.2.1, Nat.le_trans h2 hR.2.2.2⟩) hS (fun r M H1 locs1 hq g1 g2 => ?_)
  have := hq p l e R0 s m args below meth c0 D cA b0 sa H1 locs1 lsr hC hl g1 g2
  cases r <;> exact this
theorem x_callS {idx z n MCz MSz : Nat} {As rest : List Value} (hdg : decode (qc y) pc = .ok (.invokestatic idx, 3)) (hw : qCs (y / 1000) idx z n) (hst : st = As.reverse ++ rest) (hn : As.length = n) (hcs : (rest.map fun v => v.category).sum ≤ 8) (hlen : (lg_sl As).length ≤ qml z) (h1 : uc + MCz ≤ MC) (h2 : us + MSz ≤ MS)
    (k2 : X d MCz MSz z 0 0 0 (qent (qml z) As) [] (K, I, L, R, sz) (fun r M => X (d + 1) MC MS y (uc + MCz) (us + MSz) (pc + 3) ls (qpush r rest) M Q)) : X (d + 1) MC MS y uc us pc ls st (K, I, L, R, sz) Q := by
  intro p l e R0 s m args below meth c0 D cA b0 sa H locs lsr hC hl hH hS
  obtain ⟨hb, hlk, hstc⟩ := hw
  have hts := hC.2.2.2.2.2.2.2.1
  have hR := hC.2.2.2.2.2.2.2.2.1
  have hM := q_met hb.1 hb.2.1 hlen k2 l D cA b0 sa
  have hpre := q_pre (av := As) hC hH hS
  refine q_back (va_runS (As := As.map (qv (qg b0 sa))) (rest := rest.map (qv (qg b0 sa))) (q_fix hC) hM ⟨q_cb hb hts hlk ⟨hR.1, hR.2.1⟩, hts _ hstc⟩ hpre rfl (by rw [List.length_map]; exact hn) hl.1 (by rw [hst]; simp [qv]) (by show 2 * 0 + _ ≤ 8; rw [Nat.mul_zero, Nat.zero_add]; exact q_stackW hcs) hdg ⟨Nat.le_trans h1 hR.2.2.1, Nat.le_trans h2 hR.2.2.2⟩) hS (fun r M H1 locs1 hq g1 g2 => ?_)
  have := hq p l e R0 s m args below meth c0 D cA b0 sa H1 locs1 lsr hC hl g1 g2
  cases r <;> exact this
theorem x_callI {idx z n i MCz MSz : Nat} {As rest : List Value} (hdg : decode (qc y) pc = .ok (.invokespecial idx, 3)) (hw : qCi (y / 1000) idx z n) (hrz : qr z = none) (hst : st = As.reverse ++ .ref i :: rest) (hn : As.length = n) (hcs : (rest.map fun v => v.category).sum ≤ 8) (hlen : (lg_sl (.ref i :: As)).length ≤ qml z) (h1 : uc + MCz ≤ MC) (h2 : us + MSz ≤ MS)
    (k2 : X d MCz MSz z 0 0 0 (qent (qml z) (.ref i :: As)) [] (K, I, L, R, sz) (fun r M => X (d + 1) MC MS y (uc + MCz) (us + MSz) (pc + 3) ls (qpush r rest) M Q)) : X (d + 1) MC MS y uc us pc ls st (K, I, L, R, sz) Q := by
  intro p l e R0 s m args below meth c0 D cA b0 sa H locs lsr hC hl hH hS
  obtain ⟨hb, hlk, hin, hnm⟩ := hw
  have hts := hC.2.2.2.2.2.2.2.1
  have hR := hC.2.2.2.2.2.2.2.2.1
  have hM := q_met hb.1 hb.2.1 hlen k2 l D cA b0 sa
  have hpre := q_pre (av := .ref i :: As) hC hH hS
  refine q_back (va_runI (As := As.map (qv (qg b0 sa))) (rest := rest.map (qv (qg b0 sa))) (q_fix hC) hM ⟨hrz ▸ q_cb hb hts hlk ⟨hR.1, hR.2.1⟩, hnm, hts _ hin⟩ hpre rfl (by rw [List.length_map]; exact hn) hl.1 (by rw [hst]; simp [qv]) (by show 2 * 0 + _ ≤ 8; rw [Nat.mul_zero, Nat.zero_add]; exact q_stackW hcs) hdg ⟨Nat.le_trans h1 hR.2.2.1, Nat.le_trans h2 hR.2.2.2⟩) hS (fun r M H1 locs1 hq g1 g2 => ?_)
  have := hq p l e R0 s m args below meth c0 D cA b0 sa H1 locs1 lsr hC hl g1 g2
  cases r <;> exact this
theorem x_callN {idx z n i MCz MSz : Nat} {As rest : List Value} (hdg : decode (qc y) pc = .ok (.invokespecial idx, 3)) (hw : qCn (y / 1000) idx z n) (hrz : qr z = none) (hst : st = As.reverse ++ .ref i :: rest) (hn : As.length = n) (hcs : (rest.map fun v => v.category).sum ≤ 8) (hlen : (lg_sl (.ref i :: As)).length ≤ qml z) (h1 : uc + MCz ≤ MC) (h2 : us + MSz ≤ MS)
    (k2 : X d MCz MSz z 0 0 0 (qent (qml z) (.ref i :: As)) [] (K, I, L, R, sz) (fun r M => X (d + 1) MC MS y (uc + MCz) (us + MSz) (pc + 3) ls (qpush r rest) M Q)) : X (d + 1) MC MS y uc us pc ls st (K, I, L, R, sz) Q := by
  intro p l e R0 s m args below meth c0 D cA b0 sa H locs lsr hC hl hH hS
  obtain ⟨hb, hlk, hin, hnm⟩ := hw
  have hts := hC.2.2.2.2.2.2.2.1
  have hR := hC.2.2.2.2.2.2.2.2.1
  have hSs := hC.2.2.2.2.2.2.2.2.2
  have hM := q_met hb.1 hb.2.1 hlen k2 l D cA b0 sa
  have hpre := q_pre (av := .ref i :: As) hC hH hS
  have hcb := hb
  obtain ⟨-, -, h45, hco, hini, hmh, hnn⟩ := hcb
  have hG : GoodIn qGW (qWs z) := fun w hw => by
    rcases List.mem_cons.mp hw with rfl | hw
    · exact ⟨hco, qGW_good hco⟩
    · exact ⟨hw, qGW_good hw⟩
  have hCN : va_CN R0 s args (qcn (y / 1000)) idx (qn z) "LastThanked" (qc z) (qml z) (qr z) (qWs z) (qRm d MCz MSz) MCz MSz n :=
    va_cnB (Ts := qGW) (ws' := qGW) n hts hG rfl rfl rfl (hSs.2.2.1 _ hlk) (hts _ hini) ⟨hmh.1, hmh.2, hnn⟩ ⟨hR.1, by show 8 + (qml z + 11) + 64 * d ≤ _; have := hR.2.1; omega⟩
  refine q_back (va_runIN (As := As.map (qv (qg b0 sa))) (rest := rest.map (qv (qg b0 sa))) (q_fix hC) hM ⟨hrz ▸ hCN, hnm, hts _ hin⟩ hpre rfl (by rw [List.length_map]; exact hn) hl.1 (by rw [hst]; simp [qv]) (by show 2 * 0 + _ ≤ 8; rw [Nat.mul_zero, Nat.zero_add]; exact q_stackW hcs) hdg ⟨Nat.le_trans h1 hR.2.2.1, Nat.le_trans h2 hR.2.2.2⟩) hS (fun r M H1 locs1 hq g1 g2 => ?_)
  have := hq p l e R0 s m args below meth c0 D cA b0 sa H1 locs1 lsr hC hl g1 g2
  cases r <;> exact this
theorem x_obj {idx i : Nat} {rest : List Value} (hdg : decode (qc y) pc = .ok (.invokespecial idx, 3)) (w1 : Cond.methodLink (qcn (y / 1000)) idx objectInit ∈ qGW) (w2 : Cond.instanceMethod objectInit ∈ qGW) (w3 : Cond.code objectInit ⟨#[0xb1]⟩ 1 none ∈ qGW) (hcs : (rest.map fun v => v.category).sum ≤ 8) (k2 : X (d + 1) MC MS y uc us (pc + 3) ls rest (K, I, L, R, sz) Q) : X (d + 1) MC MS y uc us pc ls (.ref i :: rest) (K, I, L, R, sz) Q := by
  intro p l e R0 s m args below meth c0 D cA b0 sa H locs lsr hC hl hH hS
  obtain ⟨hx, hb, hr0, hlk, hml, hown, hnm, hts, hR, hSs⟩ := hC
  have hcs2 := q_stackW (g := qg b0 sa) hcs
  exact W.objInit hx hb hown (hts _ w1) (hts _ w2) (hts _ w3) rfl (by rw [hml]; exact hl.1) rfl hdg (by have := hR.1; omega) (by have h9 := hR.2.1; have h8 : JFrame.monitorRoom (F0 m pc lsr (List.map (qv (qg b0 sa)) (Value.ref i :: rest))) = 0 := rfl; omega) (k2 p l e R0 s m args below meth c0 D cA b0 sa H locs lsr ⟨hx, hb, hr0, hlk, hml, hown, hnm, hts, hR, hSs⟩ hl hH hS)
theorem x_ldcI {idx : Nat} {v : Int32} (hdg : decode (qc y) pc = .ok (.ldc idx, 2)) (w : Cond.constant (qcn (y / 1000)) idx v ∈ qGW) (k2 : X d MC MS y uc us (pc + 2) ls (.int v :: st) (K, I, L, R, sz) Q) : X d MC MS y uc us pc ls st (K, I, L, R, sz) Q := by
  intro p l e R0 s m args below meth c0 D cA b0 sa H locs lsr hC hl hH hS
  exact lv_ldc hC.1 hC.2.1 hC.2.2.2.2.2.1 (hC.2.2.2.2.2.2.2.1 _ w) hdg (k2 p l e R0 s m args below meth c0 D cA b0 sa H locs lsr hC hl hH hS)
theorem x_ldcW {idx : Nat} {v : Int32} (hdg : decode (qc y) pc = .ok (.ldc_w idx, 3)) (w : Cond.constant (qcn (y / 1000)) idx v ∈ qGW) (k2 : X d MC MS y uc us (pc + 3) ls (.int v :: st) (K, I, L, R, sz) Q) : X d MC MS y uc us pc ls st (K, I, L, R, sz) Q := by
  intro p l e R0 s m args below meth c0 D cA b0 sa H locs lsr hC hl hH hS
  exact lv_ldcw hC.1 hC.2.1 hC.2.2.2.2.2.1 (hC.2.2.2.2.2.2.2.1 _ w) hdg (k2 p l e R0 s m args below meth c0 D cA b0 sa H locs lsr hC hl hH hS)
theorem x_ldc2 {idx : Nat} {v : Int64} (hdg : decode (qc y) pc = .ok (.ldc2_w idx, 3)) (w : Cond.constantLong (qcn (y / 1000)) idx v ∈ qGW) (k2 : X d MC MS y uc us (pc + 3) ls (.long v :: st) (K, I, L, R, sz) Q) : X d MC MS y uc us pc ls st (K, I, L, R, sz) Q := by
  intro p l e R0 s m args below meth c0 D cA b0 sa H locs lsr hC hl hH hS
  exact lv_ldc2 hC.1 hC.2.1 hC.2.2.2.2.2.1 (hC.2.2.2.2.2.2.2.1 _ w) hdg (k2 p l e R0 s m args below meth c0 D cA b0 sa H locs lsr hC hl hH hS)
end QCALL
