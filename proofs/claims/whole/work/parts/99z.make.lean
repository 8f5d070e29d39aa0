/-! making: arrays of laws, of rows; what stands in them -/
section L99z
variable {d MC MS y uc us pc : Nat} {ls : List (Option Value)} {st : List Value} {K : qK} {I : Nat → Nat → Int32} {L : Nat → Nat → Int64} {R : Nat → Nat → Option Nat} {sz : Nat} {Q : Option Value → qMem → Prop}
theorem x_newQ {idx n : Nat} {nn : Int32} (hdg : decode (qc y) pc = .ok (.anewarray idx, 3)) (hw : Cond.classLink (qcn (y / 1000)) idx "LastThanked$Law" ∈ qGW) (hnn : ¬ nn < 0) (hn : nn.toNatClampNeg = n) (hby : n * 4 ≤ 536870912) (h1 : uc + 1 ≤ MC) (h2 : us + n ≤ MS) (h3 : sz + 1 < 1000000)
    (k2 : X d MC MS y (uc + 1) (us + n) (pc + 3) ls (.ref sz :: st) (va_up K sz (.inr (3, n)), va_up I sz (fun _ => 0), L, va_up R sz (fun _ => none), sz + 1) Q) : X d MC MS y uc us pc ls (.int nn :: st) (K, I, L, R, sz) Q := by
  intro p l e R0 s m args below meth c0 D cA b0 sa H locs lsr hC hl hH hS
  have hC' := hC
  obtain ⟨hx, hb, hr0, hlk, hml, hown, hnm, hts, hR0, hSs⟩ := hC'
  subst hn
  refine W.anew hx hb hown (hts _ hw) (va_AO.use hSs.2.2.2.1) rfl hdg rfl hnn hby (Nat.le_trans h1 hR0.2.2.1) (Nat.le_trans h2 hR0.2.2.2) (fun c kA comp f1 f2 f3 f4 => ?_)
  obtain ⟨kA', comp', r1, r2, r3, r4⟩ := ((qS_K hSs).2 3 _ rfl).2
  have hc : c = cA 3 := Option.some.inj (f1.symm.trans r4)
  subst hc
  generalize hH1 : H.push ({ cls := cA 3, slots := Array.replicate nn.toNatClampNeg .null, vm := .none } : Cell) = H1
  have z1 : H1.size = H.size + 1 := by rw [← hH1, Array.size_push]
  have e1 : H1[H.size]? = some (arrV (cA 3) nn.toNatClampNeg (fun _ => .null)) := by rw [← hH1, Array.getElem?_push_size, ← arrV_new]
  have o1 : ∀ q : Nat, q < H.size → H1[q]? = H[q]? := fun q hq => by rw [← hH1, Array.getElem?_push, if_neg (Nat.ne_of_lt hq)]
  have hg : qg b0 sa sz = H.size := by rw [hH.1]; exact qg_lo hH.2.1
  have hq := k2 p l e R0 s m args below meth c0 D cA b0 sa H1 locs lsr hC hl (qH_push hH h3 z1 o1 (fun j hj => by unfold qE; dsimp only; rw [q_ne j hj, q_ne j hj, q_ne j hj]) (fun x hx => ?_)) (q_newS hS z1 o1)
  · rw [show (Value.ref sz :: st).map (qv (qg b0 sa)) = .ref H.size :: st.map (qv (qg b0 sa)) by rw [List.map_cons, ← hg]; rfl] at hq
    exact hq
  · rw [qE_ref (t := 3) (n := nn.toNatClampNeg) (by simp [va_up]) (by decide) (by decide)] at hx
    cases hx
    show H1[b0 + sz]? = some (vp_cell (cA 3) _)
    rw [← hH.1, e1, vp_cell_q]
    congr 2
    funext j
    simp [va_up, va_rf]
theorem q_arrR {cA : Nat → ClassId} {g : Nat → Nat} {D : va_G} {b0 : Nat} {R' : Nat → Nat → Option Nat} {i : Nat} {H H1 : Heap} {cell : Cell} (h : qH D cA g b0 K I L R sz H) (e1 : H1[b0 + i]? = some cell) (z : H1.size = H.size) (oq : ∀ q, q ≠ b0 + i → H1[q]? = H[q]?) (hR : ∀ j, j ≠ i → R' j = R j) (hn : ∀ e, qE cA g K I L R' i = some e → ∃ a, e = .inl a ∧ cell = vp_cell a.1 a.2) : qH D cA g b0 K I L R' sz H1 := by
  refine ⟨z.trans h.1, h.2.1, fun j hj e he => ?_⟩
  by_cases hji : j = i
  · subst hji
    obtain ⟨a, rfl, hc⟩ := hn e he
    show H1[b0 + j]? = some (vp_cell a.1 a.2)
    rw [← hc]; exact e1
  · have := h.2.2 j hj e (by rw [← he]; unfold qE; rw [hR j hji])
    exact this.kept (oq _ (by omega))
theorem x_aastQ {i n v : Nat} {j : Int32} (hdg : decode (qc y) pc = .ok (.aastore, 1)) (hk : qAt K sz i (.inr (3, n))) (hv : qAt K sz v (.inl 3)) (hin : vp_in j n) (k2 : X d MC MS y uc us (pc + 1) ls st (K, I, L, va_up R i (va_up (R i) j.toNatClampNeg (some v)), sz) Q) : X d MC MS y uc us pc ls (.ref v :: .int j :: .ref i :: st) (K, I, L, R, sz) Q := by
  intro p l e R0 s m args below meth c0 D cA b0 sa H locs lsr hC hl hH hS
  have hP := qH_at hH hk.1 (qE_ref hk.2 (by decide) (by decide))
  have hg : qg b0 sa i = b0 + i := qg_lo (Nat.lt_trans hk.1 hH.2.1)
  obtain ⟨cellV, g1, g3, g2⟩ := q_recv hC hH hv (C := "LastThanked$Law") rfl
  obtain ⟨kA, comp, k1, k2', k3, -⟩ := ((qS_K hC.2.2.2.2.2.2.2.2.2).2 3 _ rfl).2
  obtain ⟨kE, hkE, -⟩ := Vm.findClass_spec k3
  obtain ⟨kC, hkC, -⟩ := Vm.findClass_spec g2
  refine W.aast hC.1 hC.2.1 (hP 0 _ rfl) (fun q h => by cases h) (fun h => by cases h) k1 k2' rfl hkE ⟨fun q => hin (Or.inl q), by show _ < (arrV _ _ _).slots.size; rw [arrV_size]; exact Nat.not_le.mp (fun q => hin (Or.inr q))⟩ g1 (fun q h => by rw [h] at g3; cases g3) hkC (vb_asgS _ _ k3 g2) rfl rfl hdg fun H1 e1 z oq => ?_
  rw [hg] at e1
  refine k2 p l e R0 s m args below meth c0 D cA b0 sa H1 _ lsr hC hl (q_arrR hH e1 z (fun q hq => oq q (by show q ≠ qg b0 sa i; rw [hg]; exact hq)) q_ne (fun x hx => ?_)) (hS.put z oq (by show b0 ≤ qg b0 sa i; rw [hg]; exact Nat.le_add_right _ _))
  rw [qE_ref hk.2 (by decide) (by decide)] at hx
  cases hx
  refine ⟨_, rfl, ?_⟩
  rw [vp_cell_q, vp_cell_q, arrV_store]
  congr 2
  funext q
  by_cases hq : q = j.toNatClampNeg
  · subst hq
    simp [updV, va_up, va_rf]
  · simp [updV, va_up, hq]
end L99z
