/-! what a frame that may throw needs; calls with any end -/
def zN : List Cond := [.castable "java/util/NoSuchElementException" "java/util/NoSuchElementException", .declares ⟨"java/lang/RuntimeException", "<init>", "()V"⟩, .declares ⟨"java/lang/Exception", "<init>", "()V"⟩, .declares ⟨"java/lang/Throwable", "<init>", "()V"⟩]
def zE (b0 : Nat) (l : Launch) (U : State) : Prop := l.stackTraces = false ∧ vx_Zq Bundle.tN "UNASSIGNED_STACK" Bundle.steD (fun q => b0 ≤ q) U U.heap ∧ vx_Zq Bundle.tN "SUPPRESSED_SENTINEL" Bundle.listD (fun q => b0 ≤ q) U U.heap ∧ ∀ w ∈ zN, va_Nw w U
theorem zN_warm {s U : State} (hW : s.WarmedH U.vm) (h : ∀ w ∈ zN, va_Nw w s) : ∀ w ∈ zN, va_Nw w U := by
  intro w hw
  have hz := h w hw
  simp only [zN, List.mem_cons, List.mem_nil_iff, or_false] at hw
  rcases hw with rfl | rfl | rfl | rfl
  · exact va_Nw.warmC hW hz
  · exact va_Nw.warmD hW hz
  · exact va_Nw.warmD hW hz
  · exact va_Nw.warmD hW hz
theorem zN_same {s U : State} (hv : s.vm = U.vm) (h : ∀ w ∈ zN, va_Nw w s) : ∀ w ∈ zN, va_Nw w U := by
  intro w hw
  have hz := h w hw
  simp only [zN, List.mem_cons, List.mem_nil_iff, or_false] at hw
  rcases hw with rfl | rfl | rfl | rfl <;> exact va_Nw.same rfl hv hz
theorem zE_pre {b0 : Nat} {l : Launch} {s U : State} {H : Heap} {locs : List Loc} (hZ : zE b0 l s) (hS : va_S (fun q => b0 ≤ q) s.heap H locs) (hU : U.heap = H) (hW : s.WarmedH U.vm) : zE b0 l U :=
  ⟨hZ.1, by rw [hU]; exact vx_Zq.moved hW.alike (hZ.2.1.kept hS.2.1), by rw [hU]; exact vx_Zq.moved hW.alike (hZ.2.2.1.kept hS.2.1), zN_warm hW hZ.2.2.2⟩
theorem zE_calling {b0 : Nat} {l : Launch} {U : State} {f : JFrame} {mk : MethodId} {a : Array Value} (h : zE b0 l U) : zE b0 l (U.calling f mk a) :=
  ⟨h.1, vx_Zq.moved (Vm.Alike.refl _) h.2.1, vx_Zq.moved (Vm.Alike.refl _) h.2.2.1, zN_same (s := U) (U := U.calling f mk a) rfl h.2.2.2⟩
section L99sz
variable {d MC MS y uc us pc : Nat} {K : qK} {I : Nat → Nat → Int32} {L : Nat → Nat → Int64} {R : Nat → Nat → Option Nat} {sz : Nat}
/-- a call of a method that returns, with any end behind it -/
theorem w_callV {p : Program} {l : Launch} {e : Env} {R0 : Room} {s : State} {m : MethodId} {args : Array Value} {below : List Frame} {meth : Method} {c0 : Code} {D : va_G} {cA : Nat → ClassId} {b0 : Nat} {sa : Nat → Nat} {H : Heap} {locs : List Loc} {lsr : Array Slot} {ls : List (Option Value)} {Q0 : State → Prop} {Q' : Option Value → qMem → Prop}
    (hC : qC p R0 s m args meth c0 (d + 1) MC MS y D cA b0 sa) (hl : lv_has lsr (qml y) (qlp (qg b0 sa) 0 ls)) (hH : qH D cA (qg b0 sa) b0 K I L R sz H) (hS : va_S (fun q => b0 ≤ q) s.heap H locs)
    {idx z c n i MCz MSz : Nat} {As rest : List Value} (hdg : decode (qc y) pc = .ok (.invokevirtual idx, 3)) (hw : qCv (y / 1000) idx z c n) (hk : qAt K sz i (.inl c)) (hn : As.length = n) (hcs : (rest.map fun v => v.category).sum ≤ 8) (hlen : (lg_sl (.ref i :: As)).length ≤ qml z) (h1 : uc + MCz ≤ MC) (h2 : us + MSz ≤ MS)
    (k2 : X d MCz MSz z 0 0 0 (qent (qml z) (.ref i :: As)) [] (K, I, L, R, sz) Q')
    (kk : ∀ (r : Option Value) (M : qMem) (H1 : Heap) (locs1 : List Loc), Q' r M → qH D cA (qg b0 sa) b0 M.1 M.2.1 M.2.2.1 M.2.2.2.1 M.2.2.2.2 H1 → va_S (fun q => b0 ≤ q) s.heap H1 locs1 → W p l e R0 s m args below meth c0 H1 locs1 (uc + MCz) (us + MSz) Q0 (F0 m (pc + 3) lsr (qpush (r.map (qv (qg b0 sa))) (rest.map (qv (qg b0 sa)))))) :
    W p l e R0 s m args below meth c0 H locs uc us Q0 (F0 m pc lsr ((As.reverse ++ .ref i :: rest).map (qv (qg b0 sa)))) := by
  obtain ⟨hb, ⟨C, T, N, hc, hsel⟩, hlk, hin⟩ := hw
  have hts := hC.2.2.2.2.2.2.2.1
  have hR := hC.2.2.2.2.2.2.2.2.1
  have hM := q_met hb.1 hb.2.1 hlen k2 l D cA b0 sa
  have hpre := q_pre (av := .ref i :: As) hC hH hS
  exact q_back (va_runV (As := As.map (qv (qg b0 sa))) (rest := rest.map (qv (qg b0 sa))) (q_fix hC) hM ⟨q_cb hb hts hlk ⟨hR.1, hR.2.1⟩, hts _ hin, hts _ hsel⟩ ⟨hpre.1, q_recv hC hH hk hc, hpre.2⟩ rfl (by rw [List.length_map]; exact hn) hl.1 (by simp [qv]) (by show 2 * 0 + _ ≤ 8; rw [Nat.mul_zero, Nat.zero_add]; exact q_stackW hcs) hdg ⟨Nat.le_trans h1 hR.2.2.1, Nat.le_trans h2 hR.2.2.2⟩) hS kk
/-- behind a call that may throw -/
theorem q_backX {p : Program} {l : Launch} {e : Env} {R0 : Room} {s : State} {m : MethodId} {args : Array Value} {below : List Frame} {meth : Method} {c0 : Code} {H : Heap} {locs : List Loc} {cells slots mc ms : Nat} {Q0 : State → Prop} {D : va_G} {cA : Nat → ClassId} {b0 : Nat} {sa : Nat → Nat} {lsr : Array Slot} {rest st0 : List Value} {a : Array Value} {Q' : Option Value → qMem → Prop} {XC : String → State → State → Prop}
    (hr : vx_Run p l e R0 s m args below meth c0 H locs cells slots mc ms (F0 m pc lsr st0) rest (qQ D cA b0 sa Q' a) XC (fun q => b0 ≤ q)) (hS : va_S (fun q => b0 ≤ q) s.heap H locs)
    (kk : ∀ (r : Option Value) (M : qMem) (H1 : Heap) (locs1 : List Loc), Q' r M → qH D cA (qg b0 sa) b0 M.1 M.2.1 M.2.2.1 M.2.2.2.1 M.2.2.2.2 H1 → va_S (fun q => b0 ≤ q) s.heap H1 locs1 → W p l e R0 s m args below meth c0 H1 locs1 (cells + mc) (slots + ms) Q0 (F0 m (pc + 3) lsr (qpush (r.map (qv (qg b0 sa))) rest)))
    (kx : ∀ (E : String) (ce : Cell) (q9 : Addr) (st₀ t : State) (H1 : Heap) (L : List Loc), st₀.heap = H → t.heap = H1 → XC E st₀ t → H1[q9]? = some ce → ce.vm = .none → s.vm.findClass E = some ce.cls → H1.size ≤ s.heap.size + (cells + mc) → (∀ z ∈ L, b0 ≤ z.base) → vx_W p l e R0 s m args below meth c0 H1 (locs ++ L) (cells + mc) (slots + ms) Q0 (F0 m pc lsr rest) q9) : W p l e R0 s m args below meth c0 H locs cells slots Q0 (F0 m pc lsr st0) := by
  intro T hT X
  rcases hr T hT X with ⟨v, st₀, t, T', L, h0, X', hL, e1, e2, ⟨⟨r, M, hv, hq, hm⟩, hz, hk⟩, st⟩ | ⟨q, st₀, t, T', L, E, ce, h0, X', hL, e1, e2, hx, hce, hcv, hcl, st⟩
  · rw [h0] at hz hk
    have hv2 : v = r.map (qv (qg b0 sa)) := by cases hv; rfl
    subst hv2
    obtain ⟨t2, a1, b1⟩ := kk r M T'.heap (locs ++ L) hq (by rw [e1]; exact hm)
      ⟨Nat.le_trans hS.1 (by rw [e1]; exact hz), fun q h1 h2 => by rw [e1, hk q (Nat.lt_of_lt_of_le h1 hS.1) h2]; exact hS.2.1 q h1 h2, fun q hq => by
        rcases List.mem_append.mp hq with h | h
        · exact hS.2.2 q h
        · exact hL q h⟩ T' rfl X'
    refine ⟨t2, st t2 ?_, b1⟩
    cases r <;> exact a1
  · obtain ⟨t2, a1, b1⟩ := kx E ce q st₀ t T'.heap L h0 e1.symm hx (by rw [e1]; exact hce) hcv hcl X'.heapSize hL T' rfl X'
    exact ⟨t2, st.trans a1, b1⟩
end L99sz
