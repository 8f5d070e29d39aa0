/-! reading the memory -/
/-- what is known of a class of things -/
def qCl (ci : Nat) (C : String) (T : u_T) (N : Nat) (ty : Nat → FieldType) : Prop :=
  vwCl[ci]? = some (C, T, N) ∧ (∀ w ∈ u_ws C T N, w ∈ qGW) ∧ (∀ k, k < N → parseFieldDescriptor (T k).2.2.1 = some (ty k)) ∧ (∀ a, a < N → ∀ b, b < N → a ≠ b → (T a).2.1 ≠ (T b).2.1) ∧ (qfl ci).length = N ∧ ∀ k, k < N → (qfl ci)[k]? = some (!(ty k == .int || ty k == .boolean))
/-- field k of things of class ci, as the class number o spells it at idx; w 1: not final, 2: final and its own -/
def qFo (o idx ci k w : Nat) (ty : FieldType) : Prop :=
  ∃ (C : String) (T : u_T) (N : Nat) (tyf : Nat → FieldType) (ref : String), qCl ci C T N tyf ∧ k < N ∧ Cond.fieldLink (qcn o) idx ref (T k).2.1 (T k).2.2.1 ∈ qGW ∧ (ref = (T k).1 ∨ Cond.sameField ref (T k).1 (T k).2.1 (T k).2.2.1 ∈ qGW) ∧ tyf k = ty ∧ (w = 1 → (T k).2.2.2 = false) ∧ (w = 2 → (T k).2.2.2 = true ∧ (T k).1 = qcn o)
def qAt (K : qK) (sz i : Nat) (k : Nat ⊕ (Nat × Nat)) : Prop := i < sz ∧ K i = k
theorem qH_at {D : va_G} {cA : Nat → ClassId} {sa : Nat → Nat} {b0 : Nat} {K : qK} {I : Nat → Nat → Int32} {L : Nat → Nat → Int64} {R : Nat → Nat → Option Nat} {sz : Nat} {H : Heap} {i : Nat} {e : va_E}
    (h : qH D cA (qg b0 sa) b0 K I L R sz H) (hi : i < sz) (he : qE cA (qg b0 sa) K I L R i = some e) : va_P D vwCl [(qg b0 sa i, e)] H := by
  intro k q hk
  have h0 : k < 1 := (List.getElem?_eq_some_iff.mp hk).1
  rw [show k = 0 by omega] at hk
  cases hk
  rw [qg_lo (Nat.lt_trans hi h.2.1)]
  exact h.2.2 i hi e he
theorem qH_step {D : va_G} {cA : Nat → ClassId} {g : Nat → Nat} {b0 : Nat} {K : qK} {I I' : Nat → Nat → Int32} {L L' : Nat → Nat → Int64} {R R' : Nat → Nat → Option Nat} {sz : Nat} {H H1 : Heap} {i : Nat}
    (h : qH D cA g b0 K I L R sz H) (z : H1.size = H.size) (oq : ∀ q, q ≠ b0 + i → H1[q]? = H[q]?) (hoth : ∀ j, j ≠ i → qE cA g K I' L' R' j = qE cA g K I L R j) (hnew : ∀ e, qE cA g K I' L' R' i = some e → va_at D vwCl (b0 + i, e) H1) : qH D cA g b0 K I' L' R' sz H1 := by
  refine ⟨z.trans h.1, h.2.1, fun j hj e he => ?_⟩
  by_cases hji : j = i
  · subst hji
    exact hnew e he
  · rw [hoth j hji] at he
    exact (h.2.2 j hj e he).kept (oq _ (by show b0 + j ≠ b0 + i; omega))
theorem qE_obj {cA : Nat → ClassId} {g : Nat → Nat} {K : qK} {I : Nat → Nat → Int32} {L : Nat → Nat → Int64} {R : Nat → Nat → Option Nat} {i c : Nat} (h : K i = .inl c) : qE cA g K I L R i = some (.inr (c, qfs g (I i) (R i) 0 (qfl c))) := by simp only [qE, h]
theorem qE_int {cA : Nat → ClassId} {g : Nat → Nat} {K : qK} {I : Nat → Nat → Int32} {L : Nat → Nat → Int64} {R : Nat → Nat → Option Nat} {i t n : Nat} (h : K i = .inr (t, n)) (ht : t < 2) : qE cA g K I L R i = some (.inl (cA t, n, .inl (I i))) := by simp only [qE, h, ht, if_true]
theorem qE_long {cA : Nat → ClassId} {g : Nat → Nat} {K : qK} {I : Nat → Nat → Int32} {L : Nat → Nat → Int64} {R : Nat → Nat → Option Nat} {i n : Nat} (h : K i = .inr (2, n)) : qE cA g K I L R i = some (.inl (cA 2, n, .inr (.inl (L i)))) := by simp [qE, h]
theorem qE_ref {cA : Nat → ClassId} {g : Nat → Nat} {K : qK} {I : Nat → Nat → Int32} {L : Nat → Nat → Int64} {R : Nat → Nat → Option Nat} {i t n : Nat} (h : K i = .inr (t, n)) (h1 : 2 < t) (h2 : t < 5) : qE cA g K I L R i = some (.inl (cA t, n, .inr (.inr (.inr (.inr (fun j => (R i j).map g)))))) := by
  have a : ¬ t < 2 := by omega
  have b : ¬ t = 2 := by omega
  simp only [qE, h, a, b, h2, if_true, if_false]
theorem qS_K {D : va_G} {cA : Nat → ClassId} {b0 : Nat} {sa : Nat → Nat} {U : State} (h : qS D cA b0 sa U) : va_K D vwCl (qtys cA) U := h.1
section QY
variable {d MC MS y uc us pc : Nat} {ls : List (Option Value)} {st : List Value} {K : qK} {I : Nat → Nat → Int32} {L : Nat → Nat → Int64} {R : Nat → Nat → Option Nat} {sz : Nat} {Q : Option Value → qMem → Prop}
theorem q_same {args : Array Value} {s : State} {ref : String} {T : u_T} {k : Nat} (hts : ∀ w ∈ qGW, w.before args s = true) (h : ref = (T k).1 ∨ Cond.sameField ref (T k).1 (T k).2.1 (T k).2.2.1 ∈ qGW) : ∀ x, s.fieldFound? (T k).1 (T k).2.1 (T k).2.2.1 = some x → s.fieldFound? ref (T k).2.1 (T k).2.2.1 = some x := by
  intro x hx
  rcases h with rfl | h
  · exact hx
  · exact u_same (hts _ h) x hx
theorem x_getI {idx i c k : Nat} {w : Nat} {ty : FieldType} (hdg : decode (qc y) pc = .ok (.getfield idx, 3)) (hf : qFo (y / 1000) idx c k w ty) (hk : qAt K sz i (.inl c)) (ht : (ty == .int || ty == .boolean) = true) (k2 : X d MC MS y uc us (pc + 3) ls (.int (I i k) :: st) (K, I, L, R, sz) Q) : X d MC MS y uc us pc ls (.ref i :: st) (K, I, L, R, sz) Q := by
  intro p l e R0 s m args below meth c0 D cA b0 sa H locs lsr hC hl hH hS
  have hC' := hC
  obtain ⟨hx, hb, hr, hlk, hml, hown, hnm, hts, hR, hSs⟩ := hC'
  obtain ⟨C, T, N, tyf, ref, ⟨hc, hin, hty, hnd, hlen, hfl⟩, hkN, hlink, hsame, hte, -⟩ := hf
  have hP := qH_at hH hk.1 (qE_obj hk.2)
  have hv : (qfs (qg b0 sa) (I i) (R i) 0 (qfl c))[k]? = some (.int (I i k)) := by
    rw [qfs_get, hfl k hkN, hte, ht]
    simp
  exact va_get hx hb hts hin hown hSs.1 hP 0 rfl hc k hkN (hts _ hlink) (q_same hts hsame) hv hdg (k2 p l e R0 s m args below meth c0 D cA b0 sa H locs lsr hC hl hH hS)
theorem x_getR {idx i c k r : Nat} {w : Nat} {ty : FieldType} (hdg : decode (qc y) pc = .ok (.getfield idx, 3)) (hf : qFo (y / 1000) idx c k w ty) (hk : qAt K sz i (.inl c)) (ht : (ty == .int || ty == .boolean) = false) (hr : R i k = some r) (k2 : X d MC MS y uc us (pc + 3) ls (.ref r :: st) (K, I, L, R, sz) Q) : X d MC MS y uc us pc ls (.ref i :: st) (K, I, L, R, sz) Q := by
  intro p l e R0 s m args below meth c0 D cA b0 sa H locs lsr hC hl hH hS
  have hC' := hC
  obtain ⟨hx, hb, hr0, hlk, hml, hown, hnm, hts, hR, hSs⟩ := hC'
  obtain ⟨C, T, N, tyf, ref, ⟨hc, hin, hty, hnd, hlen, hfl⟩, hkN, hlink, hsame, hte, -⟩ := hf
  have hP := qH_at hH hk.1 (qE_obj hk.2)
  have hv : (qfs (qg b0 sa) (I i) (R i) 0 (qfl c))[k]? = some (.ref (qg b0 sa r)) := by
    rw [qfs_get, hfl k hkN, hte, ht]
    simp [hr, va_rf]
  exact va_get hx hb hts hin hown hSs.1 hP 0 rfl hc k hkN (hts _ hlink) (q_same hts hsame) hv hdg (k2 p l e R0 s m args below meth c0 D cA b0 sa H locs lsr hC hl hH hS)
theorem x_getN {idx i c k : Nat} {w : Nat} {ty : FieldType} (hdg : decode (qc y) pc = .ok (.getfield idx, 3)) (hf : qFo (y / 1000) idx c k w ty) (hk : qAt K sz i (.inl c)) (ht : (ty == .int || ty == .boolean) = false) (hr : R i k = none) (k2 : X d MC MS y uc us (pc + 3) ls (.null :: st) (K, I, L, R, sz) Q) : X d MC MS y uc us pc ls (.ref i :: st) (K, I, L, R, sz) Q := by
  intro p l e R0 s m args below meth c0 D cA b0 sa H locs lsr hC hl hH hS
  have hC' := hC
  obtain ⟨hx, hb, hr0, hlk, hml, hown, hnm, hts, hR, hSs⟩ := hC'
  obtain ⟨C, T, N, tyf, ref, ⟨hc, hin, hty, hnd, hlen, hfl⟩, hkN, hlink, hsame, hte, -⟩ := hf
  have hP := qH_at hH hk.1 (qE_obj hk.2)
  have hv : (qfs (qg b0 sa) (I i) (R i) 0 (qfl c))[k]? = some .null := by
    rw [qfs_get, hfl k hkN, hte, ht]
    simp [hr, va_rf]
  exact va_get hx hb hts hin hown hSs.1 hP 0 rfl hc k hkN (hts _ hlink) (q_same hts hsame) hv hdg (k2 p l e R0 s m args below meth c0 D cA b0 sa H locs lsr hC hl hH hS)
/-- a field is written: an object cell over the new values -/
theorem q_put {p : Program} {l : Launch} {e : Env} {R0 : Room} {s : State} {m : MethodId} {args : Array Value} {below : List Frame} {meth : Method} {c0 : Code} {H : Heap} {locs : List Loc} {cells slots : Nat} {Q0 : State → Prop} {D : va_G} {cA : Nat → ClassId} {b0 : Nat} {sa : Nat → Nat} {lsr : Array Slot} {rest : List Value}
    {I' : Nat → Nat → Int32} {R' : Nat → Nat → Option Nat} {idx i c k : Nat} {w : Nat} {ty : FieldType} {v : Value} (hC : qC p R0 s m args meth c0 d MC MS y D cA b0 sa) (hH : qH D cA (qg b0 sa) b0 K I L R sz H) (hS : va_S (fun q => b0 ≤ q) s.heap H locs)
    (hdg : decode (qc y) pc = .ok (.putfield idx, 3)) (hf : qFo (y / 1000) idx c k w ty) (hfi : w = 1 ∨ (w = 2 ∧ (qn y).name = "<init>")) (hk : qAt K sz i (.inl c)) (hn : narrow ty v = v) (hfit : fits ty v = true)
    (hset : (qfs (qg b0 sa) (I i) (R i) 0 (qfl c)).set k v = qfs (qg b0 sa) (I' i) (R' i) 0 (qfl c)) (hI : ∀ j, j ≠ i → I' j = I j) (hR : ∀ j, j ≠ i → R' j = R j)
    (kk : ∀ (H1 : Heap) (locs1 : List Loc), qH D cA (qg b0 sa) b0 K I' L R' sz H1 → va_S (fun q => b0 ≤ q) s.heap H1 locs1 → W p l e R0 s m args below meth c0 H1 locs1 cells slots Q0 (F0 m (pc + 3) lsr rest)) : W p l e R0 s m args below meth c0 H locs cells slots Q0 (F0 m pc lsr (v :: .ref (qg b0 sa i) :: rest)) := by
  obtain ⟨hx, hb, hr0, hlk, hml, hown, hnm, hts, hR0, hSs⟩ := hC
  obtain ⟨C, T, N, tyf, ref, ⟨hc, hin, hty, hnd, hlen, hfl⟩, hkN, hlink, hsame, hte, hfin, hdecl⟩ := hf
  have hK := hSs.1
  have hap := va_apart (own := qcn (y / 1000)) hts hin tyf hty hnd hK hc
  obtain ⟨r, h1, cell, q1, q2, q3, q4⟩ := hH.2.2 i hk.1 _ (qE_obj hk.2)
  have hr : r = (C, T, N) := Option.some.inj (h1.symm.trans hc)
  subst hr
  obtain ⟨hSl, hfc, kC, hkC, hkind⟩ := hK.1 c _ hc
  obtain ⟨cf, kf, fi, f, hi, hsl⟩ := hSl k hkN
  have hlay := hts _ (hin _ (u_in_lay hkN))
  have hst := (u_facts hfc hkC (u_lays hts hin hkN) hi).1
  have hd : parseFieldDescriptor (T k).2.2.1 = some ty := by rw [hty k hkN, hte]
  have hg : qg b0 sa i = b0 + i := qg_lo (Nat.lt_trans hk.1 hH.2.1)
  have fin2 : ∀ H' : Heap, H'[b0 + i]? = some (cell.setSlot (D.2 c k) v) → H'.size = H.size → (∀ q, q ≠ b0 + i → H'[q]? = H[q]?) → qH D cA (qg b0 sa) b0 K I' L R' sz H' ∧ va_S (fun q => b0 ≤ q) s.heap H' (locs ++ [⟨b0 + i, D.2 c k⟩]) := by
    intro H' e1 e2 e3
    refine ⟨qH_step hH e2 e3 (fun j hj => by unfold qE; rw [hI j hj, hR j hj]) (fun e' he' => ?_), hS.put e2 e3 (Nat.le_add_right _ _)⟩
    rw [qE_obj hk.2] at he'
    cases he'
    refine ⟨_, hc, t_OB.to (V := updV (vp_V (qfs (qg b0 sa) (I i) (R i) 0 (qfl c))) k v) ⟨_, e1, q2, q3, t_set q4 hap hkN v⟩ (fun j hj => ?_)⟩
    rw [← hset]
    exact vp_updV_set (by rw [qfs_len, hlen]; exact hkN) v j
  rw [hg]
  unfold u_lay at hlay
  rcases hfi with hw | ⟨hw, hini⟩
  · rw [if_neg (by rw [hfin hw]; decide)] at hlay
    have h6 := u_store hfc hkC hkind hlay hi hd hn hfit
    refine W.putK hx hb (f := f) ⟨hown, hts _ hlink, ⟨_, _, _, q_same hts hsame _ hi⟩, hst⟩ (by rw [q2]; exact h6) q1 q3 (by rw [hsl]; exact k2_hasslot (q4 k hkN)) rfl rfl hdg fun H' e1 e2 e3 => ?_
    rw [hsl] at e1 ⊢
    obtain ⟨g1, g2⟩ := fin2 H' e1 e2 e3
    exact kk H' _ g1 g2
  · rw [if_pos (hdecl hw).1] at hlay
    have hcf : m.cls = cf := by
      obtain ⟨_, _, c', _, _, _, -, -, hf', -, -, -, hown2, -⟩ := Cond.laysFinal_spec hlay
      have e1 : c' = cf := by have := hi.symm.trans hf'; simp at this; exact this.1.symm
      rw [(hdecl hw).2] at hown2
      rw [← e1]; exact Option.some.inj (hown.symm.trans hown2)
    have h6 := u_fits hfc hkC hkind (Or.inr hlay) hi hd hn hfit
    refine W.putFinK hx hb hown (hts _ hlink) (q_same hts hsame _ hi) hst hcf (hnm.trans hini) (by rw [q2]; exact h6) q1 q3 (by rw [hsl]; exact k2_hasslot (q4 k hkN)) rfl rfl hdg fun H' e1 e2 e3 => ?_
    rw [hsl] at e1 ⊢
    obtain ⟨g1, g2⟩ := fin2 H' e1 e2 e3
    exact kk H' _ g1 g2
theorem q_ne {α : Type} {f : Nat → α} {i : Nat} {v : α} : ∀ j, j ≠ i → va_up f i v j = f j := fun j h => by simp [va_up, h]
theorem x_putI {idx i c k : Nat} {w : Nat} {a : Int32} (hdg : decode (qc y) pc = .ok (.putfield idx, 3)) (hf : qFo (y / 1000) idx c k w .int) (hfi : w = 1 ∨ (w = 2 ∧ (qn y).name = "<init>")) (hk : qAt K sz i (.inl c)) (k2 : X d MC MS y uc us (pc + 3) ls st (K, va_up I i (upd (I i) k a), L, R, sz) Q) : X d MC MS y uc us pc ls (.int a :: .ref i :: st) (K, I, L, R, sz) Q := by
  intro p l e R0 s m args below meth c0 D cA b0 sa H locs lsr hC hl hH hS
  have hb : (qfl c)[k]? = some false := by
    obtain ⟨C, T, N, tyf, ref, ⟨hc, hin, hty, hnd, hlen, hfl⟩, hkN, hlink, hsame, hte, -⟩ := hf
    rw [hfl k hkN, hte]; rfl
  exact q_put hC hH hS hdg hf hfi hk (v := .int a) rfl rfl (by rw [qfs_setI _ _ _ _ _ hb]; simp [va_up]) q_ne (fun _ _ => rfl) (fun H1 locs1 g1 g2 => k2 p l e R0 s m args below meth c0 D cA b0 sa H1 locs1 lsr hC hl g1 g2)
theorem x_putZ {idx i c k : Nat} {w : Nat} {a : Int32} (hdg : decode (qc y) pc = .ok (.putfield idx, 3)) (hf : qFo (y / 1000) idx c k w .boolean) (hfi : w = 1 ∨ (w = 2 ∧ (qn y).name = "<init>")) (hk : qAt K sz i (.inl c)) (ha : a = 0 ∨ a = 1) (k2 : X d MC MS y uc us (pc + 3) ls st (K, va_up I i (upd (I i) k a), L, R, sz) Q) : X d MC MS y uc us pc ls (.int a :: .ref i :: st) (K, I, L, R, sz) Q := by
  intro p l e R0 s m args below meth c0 D cA b0 sa H locs lsr hC hl hH hS
  have hb : (qfl c)[k]? = some false := by
    obtain ⟨C, T, N, tyf, ref, ⟨hc, hin, hty, hnd, hlen, hfl⟩, hkN, hlink, hsame, hte, -⟩ := hf
    rw [hfl k hkN, hte]; rfl
  exact q_put hC hH hS hdg hf hfi hk (v := .int a) (by rcases ha with rfl | rfl <;> rfl) (by rcases ha with rfl | rfl <;> rfl) (by rw [qfs_setI _ _ _ _ _ hb]; simp [va_up]) q_ne (fun _ _ => rfl) (fun H1 locs1 g1 g2 => k2 p l e R0 s m args below meth c0 D cA b0 sa H1 locs1 lsr hC hl g1 g2)
theorem x_putR {idx i c k a : Nat} {w : Nat} {ty : FieldType} (hdg : decode (qc y) pc = .ok (.putfield idx, 3)) (hf : qFo (y / 1000) idx c k w ty) (hfi : w = 1 ∨ (w = 2 ∧ (qn y).name = "<init>")) (hk : qAt K sz i (.inl c)) (ht : (ty == .int || ty == .boolean) = false) (hn : narrow ty (.ref 0) = .ref 0 ∧ ∀ q, narrow ty (.ref q) = .ref q ∧ fits ty (.ref q) = true) (k2 : X d MC MS y uc us (pc + 3) ls st (K, I, L, va_up R i (va_up (R i) k (some a)), sz) Q) : X d MC MS y uc us pc ls (.ref a :: .ref i :: st) (K, I, L, R, sz) Q := by
  intro p l e R0 s m args below meth c0 D cA b0 sa H locs lsr hC hl hH hS
  have hb : (qfl c)[k]? = some true := by
    obtain ⟨C, T, N, tyf, ref, ⟨hc, hin, hty, hnd, hlen, hfl⟩, hkN, hlink, hsame, hte, -⟩ := hf
    rw [hfl k hkN, hte, ht]; rfl
  exact q_put hC hH hS hdg hf hfi hk (v := .ref (qg b0 sa a)) (hn.2 _).1 (hn.2 _).2 (by rw [show Value.ref (qg b0 sa a) = va_rf ((some a).map (qg b0 sa)) from rfl, qfs_setR _ _ _ _ _ hb]; simp [va_up]) (fun _ _ => rfl) q_ne (fun H1 locs1 g1 g2 => k2 p l e R0 s m args below meth c0 D cA b0 sa H1 locs1 lsr hC hl g1 g2)
end QY
