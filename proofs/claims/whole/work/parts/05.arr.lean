/-! arrays, things made, calls, returns -/
section QA
variable {d MC MS y uc us pc : Nat} {ls : List (Option Value)} {st : List Value} {K : qK} {I : Nat → Nat → Int32} {L : Nat → Nat → Int64} {R : Nat → Nat → Option Nat} {sz : Nat} {Q : Option Value → qMem → Prop}
theorem x_iald {i n : Nat} {j : Int32} (hdg : decode (qc y) pc = .ok (.iaload, 1)) (hk : qAt K sz i (.inr (0, n))) (hin : vp_in j n) (k2 : X d MC MS y uc us (pc + 1) ls (.int (I i j.toNatClampNeg) :: st) (K, I, L, R, sz) Q) : X d MC MS y uc us pc ls (.int j :: .ref i :: st) (K, I, L, R, sz) Q := fun p l e R0 s m args below meth c0 D cA b0 sa H locs lsr hC hl hH hS => va_iald hC.1 hC.2.1 (qS_K hC.2.2.2.2.2.2.2.2.2) (qH_at hH hk.1 (qE_int hk.2 (by decide))) 0 0 rfl rfl hin hdg (k2 p l e R0 s m args below meth c0 D cA b0 sa H locs lsr hC hl hH hS)
theorem x_zald {i n : Nat} {j : Int32} (hdg : decode (qc y) pc = .ok (.baload, 1)) (hk : qAt K sz i (.inr (1, n))) (hin : vp_in j n) (k2 : X d MC MS y uc us (pc + 1) ls (.int (I i j.toNatClampNeg) :: st) (K, I, L, R, sz) Q) : X d MC MS y uc us pc ls (.int j :: .ref i :: st) (K, I, L, R, sz) Q := fun p l e R0 s m args below meth c0 D cA b0 sa H locs lsr hC hl hH hS => va_zald hC.1 hC.2.1 (qS_K hC.2.2.2.2.2.2.2.2.2) (qH_at hH hk.1 (qE_int hk.2 (by decide))) 0 1 rfl rfl hin hdg (k2 p l e R0 s m args below meth c0 D cA b0 sa H locs lsr hC hl hH hS)
theorem x_lald {i n : Nat} {j : Int32} (hdg : decode (qc y) pc = .ok (.laload, 1)) (hk : qAt K sz i (.inr (2, n))) (hin : vp_in j n) (k2 : X d MC MS y uc us (pc + 1) ls (.long (L i j.toNatClampNeg) :: st) (K, I, L, R, sz) Q) : X d MC MS y uc us pc ls (.int j :: .ref i :: st) (K, I, L, R, sz) Q := fun p l e R0 s m args below meth c0 D cA b0 sa H locs lsr hC hl hH hS => va_lald hC.1 hC.2.1 (qS_K hC.2.2.2.2.2.2.2.2.2) (qH_at hH hk.1 (qE_long hk.2)) 0 2 rfl rfl hin hdg (k2 p l e R0 s m args below meth c0 D cA b0 sa H locs lsr hC hl hH hS)
theorem x_aald {i n r : Nat} {j : Int32} (hdg : decode (qc y) pc = .ok (.aaload, 1)) (hk : qAt K sz i (.inr (4, n))) (hin : vp_in j n) (hr : R i j.toNatClampNeg = some r) (k2 : X d MC MS y uc us (pc + 1) ls (.ref r :: st) (K, I, L, R, sz) Q) : X d MC MS y uc us pc ls (.int j :: .ref i :: st) (K, I, L, R, sz) Q := by
  intro p l e R0 s m args below meth c0 D cA b0 sa H locs lsr hC hl hH hS
  have hlt : j.toNatClampNeg < n := Nat.not_le.mp fun q => hin (Or.inr q)
  have hP := qH_at hH hk.1 (qE_ref hk.2 (by decide) (by decide))
  exact W.aald (v := .ref (qg b0 sa r)) (ty := .array .int) hC.1 hC.2.1 (hP 0 _ rfl) (((qS_K hC.2.2.2.2.2.2.2.2.2).2 4 _ rfl).1 n (fun j => va_rf ((R i j).map (qg b0 sa)))) rfl (fun q => by cases q) (by show ¬ (j < 0 ∨ (arrV _ _ _).slots.size ≤ _); rw [arrV_size]; exact hin) (by show (arrV _ _ _).slots[_]? = _; rw [arrV_read _ _ hlt]; show some (va_rf ((R i j.toNatClampNeg).map (qg b0 sa))) = _; rw [hr]; rfl) rfl rfl hdg (k2 p l e R0 s m args below meth c0 D cA b0 sa H locs lsr hC hl hH hS)
theorem x_aaldL {i n r : Nat} {j : Int32} (hdg : decode (qc y) pc = .ok (.aaload, 1)) (hk : qAt K sz i (.inr (3, n))) (hin : vp_in j n) (hr : R i j.toNatClampNeg = some r) (k2 : X d MC MS y uc us (pc + 1) ls (.ref r :: st) (K, I, L, R, sz) Q) : X d MC MS y uc us pc ls (.int j :: .ref i :: st) (K, I, L, R, sz) Q := by
  intro p l e R0 s m args below meth c0 D cA b0 sa H locs lsr hC hl hH hS
  have hlt : j.toNatClampNeg < n := Nat.not_le.mp fun q => hin (Or.inr q)
  have hP := qH_at hH hk.1 (qE_ref hk.2 (by decide) (by decide))
  exact W.aald (v := .ref (qg b0 sa r)) (ty := .object "LastThanked$Law") hC.1 hC.2.1 (hP 0 _ rfl) (((qS_K hC.2.2.2.2.2.2.2.2.2).2 3 _ rfl).1 n (fun j => va_rf ((R i j).map (qg b0 sa)))) rfl (fun q => by cases q) (by show ¬ (j < 0 ∨ (arrV _ _ _).slots.size ≤ _); rw [arrV_size]; exact hin) (by show (arrV _ _ _).slots[_]? = _; rw [arrV_read _ _ hlt]; show some (va_rf ((R i j.toNatClampNeg).map (qg b0 sa))) = _; rw [hr]; rfl) rfl rfl hdg (k2 p l e R0 s m args below meth c0 D cA b0 sa H locs lsr hC hl hH hS)
theorem x_alenI {i n : Nat} (hdg : decode (qc y) pc = .ok (.arraylength, 1)) (hk : qAt K sz i (.inr (0, n))) (k2 : X d MC MS y uc us (pc + 1) ls (.int (Int32.ofNat n) :: st) (K, I, L, R, sz) Q) : X d MC MS y uc us pc ls (.ref i :: st) (K, I, L, R, sz) Q := fun p l e R0 s m args below meth c0 D cA b0 sa H locs lsr hC hl hH hS => va_alen hC.1 hC.2.1 (qS_K hC.2.2.2.2.2.2.2.2.2) (qH_at hH hk.1 (qE_int hk.2 (by decide))) 0 0 rfl rfl rfl hdg (k2 p l e R0 s m args below meth c0 D cA b0 sa H locs lsr hC hl hH hS)
/-- an array's place is written -/
theorem q_arr {cA : Nat → ClassId} {g : Nat → Nat} {D : va_G} {b0 : Nat} {I' : Nat → Nat → Int32} {L' : Nat → Nat → Int64} {i : Nat} {H H1 : Heap} {cell : Cell} (h : qH D cA g b0 K I L R sz H) (e1 : H1[b0 + i]? = some cell) (z : H1.size = H.size) (oq : ∀ q, q ≠ b0 + i → H1[q]? = H[q]?) (hI : ∀ j, j ≠ i → I' j = I j) (hL : ∀ j, j ≠ i → L' j = L j) (hn : ∀ e, qE cA g K I' L' R i = some e → ∃ a, e = .inl a ∧ cell = vp_cell a.1 a.2) : qH D cA g b0 K I' L' R sz H1 := by
  refine qH_step h z oq (fun j hj => by unfold qE; rw [hI j hj, hL j hj]) (fun e he => ?_)
  obtain ⟨a, rfl, hc⟩ := hn e he
  show H1[b0 + i]? = some (vp_cell a.1 a.2)
  rw [e1, hc]
theorem x_iast {i n : Nat} {j a : Int32} (hdg : decode (qc y) pc = .ok (.iastore, 1)) (hk : qAt K sz i (.inr (0, n))) (hin : vp_in j n) (k2 : X d MC MS y uc us (pc + 1) ls st (K, va_up I i (upd (I i) j.toNatClampNeg a), L, R, sz) Q) : X d MC MS y uc us pc ls (.int a :: .int j :: .ref i :: st) (K, I, L, R, sz) Q := by
  intro p l e R0 s m args below meth c0 D cA b0 sa H locs lsr hC hl hH hS
  have hP := qH_at hH hk.1 (qE_int hk.2 (by decide))
  have hg : qg b0 sa i = b0 + i := qg_lo (Nat.lt_trans hk.1 hH.2.1)
  refine W.iast hC.1 hC.2.1 (hP 0 _ rfl) (((qS_K hC.2.2.2.2.2.2.2.2.2).2 0 _ rfl).1 n (fun j => .int (I i j))) (fun q => by cases q) (by show ¬ (j < 0 ∨ (arrV _ _ _).slots.size ≤ _); rw [arrV_size]; exact hin) rfl rfl hdg fun H1 e1 z oq => ?_
  rw [hg] at e1
  refine k2 p l e R0 s m args below meth c0 D cA b0 sa H1 _ lsr hC hl (q_arr hH e1 z (fun q hq => oq q (by show q ≠ qg b0 sa i; rw [hg]; exact hq)) q_ne (fun _ _ => rfl) (fun x hx => ?_)) (hS.put z oq (by show b0 ≤ qg b0 sa i; rw [hg]; exact Nat.le_add_right _ _))
  rw [qE_int hk.2 (by decide)] at hx
  cases hx
  refine ⟨_, rfl, ?_⟩
  rw [vp_cell_i, vp_cell_i, arrV_store]
  congr 2
  funext q
  by_cases hq : q = j.toNatClampNeg
  · subst hq
    simp [updV, upd, va_up]
  · simp [updV, upd, va_up, hq]
theorem x_zast {i n : Nat} {j a : Int32} (hdg : decode (qc y) pc = .ok (.bastore, 1)) (hk : qAt K sz i (.inr (1, n))) (hin : vp_in j n) (ha : a = 0 ∨ a = 1) (k2 : X d MC MS y uc us (pc + 1) ls st (K, va_up I i (upd (I i) j.toNatClampNeg a), L, R, sz) Q) : X d MC MS y uc us pc ls (.int a :: .int j :: .ref i :: st) (K, I, L, R, sz) Q := by
  intro p l e R0 s m args below meth c0 D cA b0 sa H locs lsr hC hl hH hS
  have hP := qH_at hH hk.1 (qE_int hk.2 (by decide))
  have hg : qg b0 sa i = b0 + i := qg_lo (Nat.lt_trans hk.1 hH.2.1)
  have hna : narrow .boolean (.int a) = .int a := by rcases ha with rfl | rfl <;> rfl
  refine W.zast hC.1 hC.2.1 (hP 0 _ rfl) (((qS_K hC.2.2.2.2.2.2.2.2.2).2 1 _ rfl).1 n (fun j => .int (I i j))) (fun q => by cases q) (by show ¬ (j < 0 ∨ (arrV _ _ _).slots.size ≤ _); rw [arrV_size]; exact hin) rfl rfl hdg fun H1 e1 z oq => ?_
  rw [hg] at e1
  rw [hna] at e1
  refine k2 p l e R0 s m args below meth c0 D cA b0 sa H1 _ lsr hC hl (q_arr hH e1 z (fun q hq => oq q (by show q ≠ qg b0 sa i; rw [hg]; exact hq)) q_ne (fun _ _ => rfl) (fun x hx => ?_)) (hS.put z oq (by show b0 ≤ qg b0 sa i; rw [hg]; exact Nat.le_add_right _ _))
  rw [qE_int hk.2 (by decide)] at hx
  cases hx
  refine ⟨_, rfl, ?_⟩
  rw [vp_cell_i, vp_cell_i, arrV_store]
  congr 2
  funext q
  by_cases hq : q = j.toNatClampNeg
  · subst hq
    simp [updV, upd, va_up]
  · simp [updV, upd, va_up, hq]
theorem x_last {i n : Nat} {j : Int32} {a : Int64} (hdg : decode (qc y) pc = .ok (.lastore, 1)) (hk : qAt K sz i (.inr (2, n))) (hin : vp_in j n) (k2 : X d MC MS y uc us (pc + 1) ls st (K, I, va_up L i (vp_updL (L i) j.toNatClampNeg a), R, sz) Q) : X d MC MS y uc us pc ls (.long a :: .int j :: .ref i :: st) (K, I, L, R, sz) Q := by
  intro p l e R0 s m args below meth c0 D cA b0 sa H locs lsr hC hl hH hS
  have hP := qH_at hH hk.1 (qE_long hk.2)
  have hg : qg b0 sa i = b0 + i := qg_lo (Nat.lt_trans hk.1 hH.2.1)
  refine W.last hC.1 hC.2.1 (hP 0 _ rfl) (((qS_K hC.2.2.2.2.2.2.2.2.2).2 2 _ rfl).1 n (fun j => .long (L i j))) (fun q => by cases q) (by show ¬ (j < 0 ∨ (arrV _ _ _).slots.size ≤ _); rw [arrV_size]; exact hin) rfl rfl hdg fun H1 e1 z oq => ?_
  rw [hg] at e1
  refine k2 p l e R0 s m args below meth c0 D cA b0 sa H1 _ lsr hC hl (q_arr hH e1 z (fun q hq => oq q (by show q ≠ qg b0 sa i; rw [hg]; exact hq)) (fun _ _ => rfl) q_ne (fun x hx => ?_)) (hS.put z oq (by show b0 ≤ qg b0 sa i; rw [hg]; exact Nat.le_add_right _ _))
  rw [qE_long hk.2] at hx
  cases hx
  refine ⟨_, rfl, ?_⟩
  rw [vp_cell_l, vp_cell_l, arrV_store]
  congr 2
  funext q
  by_cases hq : q = j.toNatClampNeg
  · subst hq
    simp [updV, vp_updL, va_up]
  · simp [updV, vp_updL, va_up, hq]
/-- a thing made: the memory with one more -/
theorem qH_push {D : va_G} {cA : Nat → ClassId} {g : Nat → Nat} {b0 : Nat} {K' : qK} {I' : Nat → Nat → Int32} {L' : Nat → Nat → Int64} {R' : Nat → Nat → Option Nat} {H H1 : Heap}
    (h : qH D cA g b0 K I L R sz H) (hlt : sz + 1 < 1000000) (z : H1.size = H.size + 1) (oq : ∀ q, q < H.size → H1[q]? = H[q]?) (hoth : ∀ j, j ≠ sz → qE cA g K' I' L' R' j = qE cA g K I L R j) (hnew : ∀ e, qE cA g K' I' L' R' sz = some e → va_at D vwCl (b0 + sz, e) H1) : qH D cA g b0 K' I' L' R' (sz + 1) H1 := by
  refine ⟨by rw [z, h.1]; omega, hlt, fun j hj e he => ?_⟩
  by_cases hji : j = sz
  · subst hji
    exact hnew e he
  · rw [hoth j hji] at he
    exact (h.2.2 j (by omega) e he).kept (oq _ (by show b0 + j < _; rw [h.1]; omega))
theorem q_newS {A : Nat → Prop} {H0 H H1 : Heap} {locs : List Loc} (hS : va_S A H0 H locs) (z : H1.size = H.size + 1) (oq : ∀ q, q < H.size → H1[q]? = H[q]?) : va_S A H0 H1 locs := ⟨Nat.le_trans hS.1 (by omega), fun x h1 h2 => (oq x (Nat.lt_of_lt_of_le h1 hS.1)).trans (hS.2.1 x h1 h2), hS.2.2⟩
/-- new C -/
def qNo (o idx c : Nat) (C : String) (T : u_T) (N : Nat) (ty : Nat → FieldType) : Prop :=
  qCl c C T N ty ∧ (∀ k, k < N → defaultValue (ty k) = if (ty k == .int || ty k == .boolean) then .int 0 else .null) ∧ Cond.classLink (qcn o) idx C ∈ qGW ∧ Cond.instantiable C N ∈ qGW ∧ Cond.initialized C ∈ qGW
theorem x_new {idx c N : Nat} {C : String} {T : u_T} {ty : Nat → FieldType} (hdg : decode (qc y) pc = .ok (.new idx, 3)) (hn : qNo (y / 1000) idx c C T N ty) (h1 : uc + 1 ≤ MC) (h2 : us + N ≤ MS) (h3 : sz + 1 < 1000000)
    (k2 : X d MC MS y (uc + 1) (us + N) (pc + 3) ls (.ref sz :: st) (va_up K sz (.inl c), va_up I sz (fun _ => 0), L, va_up R sz (fun _ => none), sz + 1) Q) : X d MC MS y uc us pc ls st (K, I, L, R, sz) Q := by
  intro p l e R0 s m args below meth c0 D cA b0 sa H locs lsr hC hl hH hS
  have hC' := hC
  obtain ⟨hx, hb, hr0, hlk, hml, hown, hnm, hts, hR, hSs⟩ := hC'
  obtain ⟨⟨hc, hin, hty, hnd, hlen, hfl⟩, hdv, w1, w2, w3⟩ := hn
  have hKn := hSs.1.1 c _ hc
  have hg : qg b0 sa sz = b0 + sz := qg_lo hH.2.1
  refine W.newcK hx hb hown (hts _ w1) (hts _ w2) (hts _ w3) rfl hdg (Nat.le_trans h1 hR.2.2.1) (Nat.le_trans h2 hR.2.2.2) hKn.2.1 hH.1 fun H1 kC hkC e1 z1 o1 => ?_
  rw [← hH.1] at e1 z1 o1
  have hq := k2 p l e R0 s m args below meth c0 D cA b0 sa H1 locs lsr hC hl (qH_push hH h3 z1 o1 (fun j hj => by unfold qE; dsimp only; rw [q_ne j hj, q_ne j hj, q_ne j hj]) (fun x hx => ?_)) (q_newS hS z1 o1)
  · rw [show (Value.ref sz :: st).map (qv (qg b0 sa)) = .ref (b0 + sz) :: st.map (qv (qg b0 sa)) by rw [List.map_cons, ← hg]; rfl] at hq
    exact hq
  · rw [qE_obj (c := c) (by simp [va_up])] at hx
    cases hx
    rw [hH.1] at e1
    refine ⟨_, hc, (u_born ty hts hin hKn hkC e1 hty).to (fun k hk => ?_)⟩
    rw [vp_V, List.getD_eq_getElem?_getD, qfs_get, hfl k hk, hdv k hk]
    by_cases hb : (ty k == .int || ty k == .boolean) = true
    · simp [hb, va_up]
    · simp only [Bool.not_eq_true] at hb
      simp [hb, va_up, va_rf]
/-- new int[n], boolean[n], long[n] -/
theorem q_newa {p : Program} {l : Launch} {e : Env} {R0 : Room} {s : State} {m : MethodId} {args : Array Value} {below : List Frame} {meth : Method} {c0 : Code} {H : Heap} {locs : List Loc} {cells slots : Nat} {Q0 : State → Prop} {D : va_G} {cA : Nat → ClassId} {b0 : Nat} {sa : Nat → Nat} {lsr : Array Slot} {rest : List Value} {atype : ArrayType} {t n : Nat} {nn : Int32}
    {I' : Nat → Nat → Int32} {L' : Nat → Nat → Int64} (hC : qC p R0 s m args meth c0 d MC MS y D cA b0 sa) (hH : qH D cA (qg b0 sa) b0 K I L R sz H) (hS : va_S (fun q => b0 ≤ q) s.heap H locs)
    (hdg : decode (qc y) pc = .ok (.newarray atype, 2)) (hw : Cond.arrayClass (newarray.typeOf atype) ∈ qGW) (hnn : ¬ nn < 0) (hn : nn.toNatClampNeg = n) (hby : n * componentBytes (newarray.typeOf atype) ≤ 536870912) (h1 : cells + 1 ≤ MC) (h2 : slots + n ≤ MS) (h3 : sz + 1 < 1000000)
    (hty : (qtys cA)[t]? = some (cA t, newarray.typeOf atype)) (hcA : ∀ c, s.vm.findClass ("[" ++ (newarray.typeOf atype).toString) = some c → c = cA t)
    (hcell : ∀ x, qE cA (qg b0 sa) (va_up K sz (.inr (t, n))) I' L' R sz = some x → ∃ a, x = .inl (cA t, a) ∧ vp_cell (cA t) a = arrV (cA t) n (fun _ => defaultValue (newarray.typeOf atype))) (hI : ∀ j, j ≠ sz → I' j = I j) (hL : ∀ j, j ≠ sz → L' j = L j)
    (kk : ∀ (H1 : Heap), qH D cA (qg b0 sa) b0 (va_up K sz (.inr (t, n))) I' L' R (sz + 1) H1 → va_S (fun q => b0 ≤ q) s.heap H1 locs → W p l e R0 s m args below meth c0 H1 locs (cells + 1) (slots + n) Q0 (F0 m (pc + 2) lsr (.ref (qg b0 sa sz) :: rest))) : W p l e R0 s m args below meth c0 H locs cells slots Q0 (F0 m pc lsr (.int nn :: rest)) := by
  obtain ⟨hx, hb, hr0, hlk, hml, hown, hnm, hts, hR0, hSs⟩ := hC
  refine va_newaK hx hb (hts _ hw) rfl hdg rfl hnn hn hby (Nat.le_trans h1 hR0.2.2.1) (Nat.le_trans h2 hR0.2.2.2) hH.1 fun H1 c e1 z1 o1 hAr hNm => ?_
  rw [← hH.1] at e1 z1 o1
  cases hcA c hNm
  rw [show b0 + sz = qg b0 sa sz from (qg_lo hH.2.1).symm]
  refine kk H1 (qH_push hH h3 z1 o1 (fun j hj => by unfold qE; rw [q_ne j hj, hI j hj, hL j hj]) (fun x hx => ?_)) (q_newS hS z1 o1)
  obtain ⟨a, rfl, ha⟩ := hcell x hx
  show H1[b0 + sz]? = some (vp_cell (cA t) a)
  rw [ha, ← hH.1]
  exact e1
theorem q_cls {D : va_G} {cA : Nat → ClassId} {s : State} {t : Nat} {ty : FieldType} (hK : va_K D vwCl (qtys cA) s) (ht : (qtys cA)[t]? = some (cA t, ty)) (hr : ∀ C, ty ≠ .object C) : ∀ c, s.vm.findClass ("[" ++ ty.toString) = some c → c = cA t := by
  intro c hc
  have h := (hK.2 t _ ht).2
  unfold va_RA at h
  cases ty <;> first | exact absurd rfl (hr _) | exact Option.some.inj (hc.symm.trans h)
theorem x_newI {n : Nat} {nn : Int32} (hdg : decode (qc y) pc = .ok (.newarray .int, 2)) (hw : Cond.arrayClass .int ∈ qGW) (hnn : ¬ nn < 0) (hn : nn.toNatClampNeg = n) (hby : n * 4 ≤ 536870912) (h1 : uc + 1 ≤ MC) (h2 : us + n ≤ MS) (h3 : sz + 1 < 1000000)
    (k2 : X d MC MS y (uc + 1) (us + n) (pc + 2) ls (.ref sz :: st) (va_up K sz (.inr (0, n)), va_up I sz (fun _ => 0), L, R, sz + 1) Q) : X d MC MS y uc us pc ls (.int nn :: st) (K, I, L, R, sz) Q := by
  intro p l e R0 s m args below meth c0 D cA b0 sa H locs lsr hC hl hH hS
  refine q_newa (I' := va_up I sz (fun _ => 0)) (L' := L) (t := 0) (n := n) hC hH hS hdg hw hnn hn hby h1 h2 h3 rfl (q_cls (qS_K hC.2.2.2.2.2.2.2.2.2) rfl (fun C h => by cases h)) (fun x hx => ?_) q_ne (fun _ _ => rfl) (fun H1 g1 g2 => k2 p l e R0 s m args below meth c0 D cA b0 sa H1 locs lsr hC hl g1 g2)
  rw [qE_int (t := 0) (n := n) (by simp [va_up]) (by decide)] at hx
  cases hx
  exact ⟨_, rfl, by rw [vp_cell_i]; simp [va_up]; rfl⟩
theorem x_newZ {n : Nat} {nn : Int32} (hdg : decode (qc y) pc = .ok (.newarray .boolean, 2)) (hw : Cond.arrayClass .boolean ∈ qGW) (hnn : ¬ nn < 0) (hn : nn.toNatClampNeg = n) (hby : n * 1 ≤ 536870912) (h1 : uc + 1 ≤ MC) (h2 : us + n ≤ MS) (h3 : sz + 1 < 1000000)
    (k2 : X d MC MS y (uc + 1) (us + n) (pc + 2) ls (.ref sz :: st) (va_up K sz (.inr (1, n)), va_up I sz (fun _ => 0), L, R, sz + 1) Q) : X d MC MS y uc us pc ls (.int nn :: st) (K, I, L, R, sz) Q := by
  intro p l e R0 s m args below meth c0 D cA b0 sa H locs lsr hC hl hH hS
  refine q_newa (I' := va_up I sz (fun _ => 0)) (L' := L) (t := 1) (n := n) hC hH hS hdg hw hnn hn hby h1 h2 h3 rfl (q_cls (qS_K hC.2.2.2.2.2.2.2.2.2) rfl (fun C h => by cases h)) (fun x hx => ?_) q_ne (fun _ _ => rfl) (fun H1 g1 g2 => k2 p l e R0 s m args below meth c0 D cA b0 sa H1 locs lsr hC hl g1 g2)
  rw [qE_int (t := 1) (n := n) (by simp [va_up]) (by decide)] at hx
  cases hx
  exact ⟨_, rfl, by rw [vp_cell_i]; simp [va_up]; rfl⟩
theorem x_newL {n : Nat} {nn : Int32} (hdg : decode (qc y) pc = .ok (.newarray .long, 2)) (hw : Cond.arrayClass .long ∈ qGW) (hnn : ¬ nn < 0) (hn : nn.toNatClampNeg = n) (hby : n * 8 ≤ 536870912) (h1 : uc + 1 ≤ MC) (h2 : us + n ≤ MS) (h3 : sz + 1 < 1000000)
    (k2 : X d MC MS y (uc + 1) (us + n) (pc + 2) ls (.ref sz :: st) (va_up K sz (.inr (2, n)), I, va_up L sz (fun _ => 0), R, sz + 1) Q) : X d MC MS y uc us pc ls (.int nn :: st) (K, I, L, R, sz) Q := by
  intro p l e R0 s m args below meth c0 D cA b0 sa H locs lsr hC hl hH hS
  refine q_newa (I' := I) (L' := va_up L sz (fun _ => 0)) (t := 2) (n := n) hC hH hS hdg hw hnn hn hby h1 h2 h3 rfl (q_cls (qS_K hC.2.2.2.2.2.2.2.2.2) rfl (fun C h => by cases h)) (fun x hx => ?_) (fun _ _ => rfl) q_ne (fun H1 g1 g2 => k2 p l e R0 s m args below meth c0 D cA b0 sa H1 locs lsr hC hl g1 g2)
  rw [qE_long (n := n) (by simp [va_up])] at hx
  cases hx
  exact ⟨_, rfl, by rw [vp_cell_l]; simp [va_up]; rfl⟩
/-! returns -/
theorem q_end {D : va_G} {cA : Nat → ClassId} {b0 : Nat} {sa : Nat → Nat} {a : Array Value} {s : State} {H : Heap} {locs : List Loc} {r : Option Value} (hH : qH D cA (qg b0 sa) b0 K I L R sz H) (hS : va_S (fun q => b0 ≤ q) s.heap H locs) (hq : Q r (K, I, L, R, sz)) : ∀ t : State, t.heap = H → s.WarmedH t.vm → qQ D cA b0 sa Q a s (.returned (r.map (qv (qg b0 sa)))) t := fun t ht _ => ⟨⟨r, _, rfl, hq, by rw [ht]; exact hH⟩, hS.F ht⟩
theorem x_iret {a : Int32} (hdg : decode (qc y) pc = .ok (.ireturn, 1)) (hr : qr y = some .int) (h1 : uc ≤ MC) (h2 : us ≤ MS) (hq : Q (some (.int a)) (K, I, L, R, sz)) : X d MC MS y uc us pc ls [.int a] (K, I, L, R, sz) Q := by
  intro p l e R0 s m args below meth c0 D cA b0 sa H locs lsr hC hl hH hS
  exact W.widen h1 h2 (W.iret hC.1 hC.2.1 (hC.2.2.1.trans hr) (q_end (r := some (.int a)) hH hS hq) hS.2.2 hdg hC.2.2.2.1)
theorem x_zret {a : Int32} (hdg : decode (qc y) pc = .ok (.ireturn, 1)) (hr : qr y = some .boolean) (ha : a = 0 ∨ a = 1) (h1 : uc ≤ MC) (h2 : us ≤ MS) (hq : Q (some (.int a)) (K, I, L, R, sz)) : X d MC MS y uc us pc ls [.int a] (K, I, L, R, sz) Q := by
  intro p l e R0 s m args below meth c0 D cA b0 sa H locs lsr hC hl hH hS
  exact W.widen h1 h2 (W.zret hC.1 hC.2.1 (hC.2.2.1.trans hr) (by rcases ha with rfl | rfl <;> rfl) (q_end (r := some (.int a)) hH hS hq) hS.2.2 hdg hC.2.2.2.1)
theorem x_lret {a : Int64} (hdg : decode (qc y) pc = .ok (.lreturn, 1)) (hr : qr y = some .long) (h1 : uc ≤ MC) (h2 : us ≤ MS) (hq : Q (some (.long a)) (K, I, L, R, sz)) : X d MC MS y uc us pc ls [.long a] (K, I, L, R, sz) Q := by
  intro p l e R0 s m args below meth c0 D cA b0 sa H locs lsr hC hl hH hS
  exact W.widen h1 h2 (W.lret hC.1 hC.2.1 (hC.2.2.1.trans hr) (q_end (r := some (.long a)) hH hS hq) hS.2.2 hdg hC.2.2.2.1)
theorem x_vret (hdg : decode (qc y) pc = .ok (.return_, 1)) (hr : qr y = none) (h1 : uc ≤ MC) (h2 : us ≤ MS) (hq : Q none (K, I, L, R, sz)) : X d MC MS y uc us pc ls [] (K, I, L, R, sz) Q := by
  intro p l e R0 s m args below meth c0 D cA b0 sa H locs lsr hC hl hH hS
  exact W.widen h1 h2 (W.vret hC.1 hC.2.1 (hC.2.2.1.trans hr) (q_end (r := none) hH hS hq) hS.2.2 hdg hC.2.2.2.1)
theorem x_aret {a : Nat} {C : String} (hdg : decode (qc y) pc = .ok (.areturn, 1)) (hr : qr y = some (.object C)) (h1 : uc ≤ MC) (h2 : us ≤ MS) (hq : Q (some (.ref a)) (K, I, L, R, sz)) : X d MC MS y uc us pc ls [.ref a] (K, I, L, R, sz) Q := by
  intro p l e R0 s m args below meth c0 D cA b0 sa H locs lsr hC hl hH hS
  exact W.widen h1 h2 (W.aret hC.1 hC.2.1 (hC.2.2.1.trans hr) (Or.inl ⟨_, rfl⟩) (Or.inr ⟨_, rfl⟩) (q_end (r := some (.ref a)) hH hS hq) hS.2.2 hdg hC.2.2.2.1)
theorem x_nret {C : String} (hdg : decode (qc y) pc = .ok (.areturn, 1)) (hr : qr y = some (.object C)) (h1 : uc ≤ MC) (h2 : us ≤ MS) (hq : Q (some .null) (K, I, L, R, sz)) : X d MC MS y uc us pc ls [.null] (K, I, L, R, sz) Q := by
  intro p l e R0 s m args below meth c0 D cA b0 sa H locs lsr hC hl hH hS
  exact W.widen h1 h2 (W.aret hC.1 hC.2.1 (hC.2.2.1.trans hr) (Or.inl ⟨_, rfl⟩) (Or.inl rfl) (q_end (r := some .null) hH hS hq) hS.2.2 hdg hC.2.2.2.1)
end QA
