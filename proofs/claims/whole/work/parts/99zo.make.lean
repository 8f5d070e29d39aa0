/-! making: rows of ints, over the memory -/
def nwK (K : qK) (sz n k : Nat) : qK := fun j => if j = sz then .inr (4, n) else if sz < j ∧ j ≤ sz + n then .inr (0, k) else K j
def nwI (I : Nat → Nat → Int32) (sz n : Nat) : Nat → Nat → Int32 := fun j => if sz ≤ j ∧ j ≤ sz + n then (fun _ => 0) else I j
def nwR (R : Nat → Nat → Option Nat) (sz n : Nat) : Nat → Nat → Option Nat := fun j => if j = sz then (fun i => if i < n then some (sz + 1 + i) else none) else R j
section L99zo
variable {d MC MS y uc us pc : Nat} {ls : List (Option Value)} {st : List Value} {K : qK} {I : Nat → Nat → Int32} {L : Nat → Nat → Int64} {R : Nat → Nat → Option Nat} {sz : Nat} {Q : Option Value → qMem → Prop}
theorem x_newM {idx n k : Nat} {nn kn : Int32} (hdg : decode (qc y) pc = .ok (.multianewarray idx 2, 4)) (hw : Cond.classLink (qcn (y / 1000)) idx "[[I" ∈ qGW) (hnn : ¬ nn < 0) (hkk : ¬ kn < 0) (hn : nn.toNatClampNeg = n) (hk : kn.toNatClampNeg = k) (hb1 : n * 4 ≤ 536870912) (hb2 : k * 4 ≤ 536870912) (h1 : uc + (1 + n) ≤ MC) (h2 : us + (n + n * k) ≤ MS) (h3 : sz + 1 + n < 1000000)
    (k2 : X d MC MS y (uc + 1 + n) (us + n + n * k) (pc + 4) ls (.ref sz :: st) (nwK K sz n k, nwI I sz n, L, nwR R sz n, sz + 1 + n) Q) : X d MC MS y uc us pc ls (.int kn :: .int nn :: st) (K, I, L, R, sz) Q := by
  intro p l e R0 s m args below meth c0 D cA b0 sa H locs lsr hC hl hH hS
  have hC' := hC
  obtain ⟨hx, hb, hr0, hlk, hml, hown, hnm, hts, hR0, hSs⟩ := hC'
  subst hn; subst hk
  obtain ⟨c2', k2', c3', q1, q2, q3⟩ := Cond.arrayClass_spec (hts _ qa_int)
  have hg : qg b0 sa sz = H.size := by rw [hH.1]; exact qg_lo hH.2.1
  refine mk_W hx hb hown (hts _ hw) (show (Cond.arrayOver (.array .int)).before args s = true from hSs.2.2.2.2.1) ⟨c2', k2', c3', q1, q2, q3⟩ rfl hdg rfl hnn hkk hb1 hb2 (Nat.le_trans h1 hR0.2.2.1) (Nat.le_trans h2 hR0.2.2.2) (fun c1 c2 H1 f1 f2 z1 e1 er o1 => ?_)
  have r4 : s.vm.findClass "[[I" = some (cA 4) := ((qS_K hSs).2 4 _ rfl).2
  have r0 : s.vm.findClass "[I" = some (cA 0) := ((qS_K hSs).2 0 _ rfl).2
  have hc1 : c1 = cA 4 := Option.some.inj (f1.symm.trans r4)
  have hc2 : c2 = cA 0 := Option.some.inj (f2.symm.trans r0)
  subst hc1; subst hc2
  have hsz : H.size = b0 + sz := hH.1
  have hH1 : qH D cA (qg b0 sa) b0 (nwK K sz nn.toNatClampNeg kn.toNatClampNeg) (nwI I sz nn.toNatClampNeg) L (nwR R sz nn.toNatClampNeg) (sz + 1 + nn.toNatClampNeg) H1 := by
    refine ⟨by rw [z1, hsz]; omega, h3, fun i hi x hx => ?_⟩
    by_cases a : i < sz
    · have hx' : qE cA (qg b0 sa) K I L R i = some x := by
        rw [← hx]
        unfold qE nwK nwI nwR
        rw [if_neg (show ¬ i = sz by omega), if_neg (show ¬ (sz < i ∧ i ≤ sz + nn.toNatClampNeg) by omega), if_neg (show ¬ (sz ≤ i ∧ i ≤ sz + nn.toNatClampNeg) by omega), if_neg (show ¬ i = sz by omega)]
      exact (hH.2.2 i a x hx').kept (o1 _ (by show b0 + i < _; omega))
    · by_cases b : i = sz
      · subst b
        rw [qE_ref (t := 4) (n := nn.toNatClampNeg) (by unfold nwK; rw [if_pos rfl]) (by decide) (by decide)] at hx
        cases hx
        show H1[b0 + i]? = some (vp_cell (cA 4) _)
        rw [← hsz, e1, vp_cell_q]
        unfold mO
        congr 2
        funext j
        show _ = va_rf ((nwR R i nn.toNatClampNeg i j).map (qg b0 sa))
        unfold nwR
        rw [if_pos rfl]
        by_cases w : j < nn.toNatClampNeg
        · rw [if_pos w, if_pos w]
          show Value.ref (H.size + 1 + j) = Value.ref (qg b0 sa (i + 1 + j))
          rw [qg_lo (show i + 1 + j < 1000000 by omega)]
          exact congrArg Value.ref (show H.size + 1 + j = b0 + (i + 1 + j) by omega)
        · rw [if_neg w, if_neg w]; rfl
      · rw [qE_int (t := 0) (n := kn.toNatClampNeg) (by unfold nwK; rw [if_neg b, if_pos (by omega)]) (by decide)] at hx
        cases hx
        show H1[b0 + i]? = some (vp_cell (cA 0) _)
        have := er (i - sz - 1) (by omega)
        rw [show H.size + 1 + (i - sz - 1) = b0 + i by omega] at this
        rw [this, vp_cell_i]
        unfold mIn
        congr 2
        funext j
        show _ = Value.int (nwI I sz nn.toNatClampNeg i j)
        unfold nwI
        rw [if_pos (by omega)]
  have hS1 : va_S (fun q => b0 ≤ q) s.heap H1 (locs ++ (List.range nn.toNatClampNeg).map fun j => ⟨H.size, j⟩) := by
    refine ⟨Nat.le_trans hS.1 (by omega), fun x a b => (o1 x (Nat.lt_of_lt_of_le a hS.1)).trans (hS.2.1 x a b), fun q hq => ?_⟩
    rcases List.mem_append.mp hq with h | h
    · exact hS.2.2 q h
    · obtain ⟨j, -, rfl⟩ := List.mem_map.mp h
      show b0 ≤ H.size
      omega
  have hq := k2 p l e R0 s m args below meth c0 D cA b0 sa H1 _ lsr hC hl hH1 hS1
  rw [show (Value.ref sz :: st).map (qv (qg b0 sa)) = .ref H.size :: st.map (qv (qg b0 sa)) by rw [List.map_cons, ← hg]; rfl] at hq
  exact hq
end L99zo
