/-! the start: what the tables and the Statement give at the law's entry -/
theorem lw_at {w : Cond} (i : Nat) (h : (lw_tbl[i]? == some w) = true) : w ∈ lw_tbl := List.mem_of_getElem? (i := i) (by simpa using h)
section L99zt
variable {s : State} {args : Array Value}
theorem ws_cls (hts : ∀ w ∈ qGW, w.before args s = true) : ∀ (k : Nat) (q : vw_C), vwCl[k]? = some q → ∃ (cC : ClassId) (iS : Nat → Nat), u_Kn s q.1 q.2.1 q.2.2 cC iS := by
  intro k q hq
  match k, hq with
  | 0, hq => cases hq; exact u_known (n := 9) hts qcl0.2.1 (hts _ (qGW_at 971 (by decide +kernel) (by decide +kernel)))
  | 1, hq => cases hq; exact u_known (n := 7) hts qcl1.2.1 (hts _ (qGW_at 167 (by decide +kernel) (by decide +kernel)))
  | 2, hq => cases hq; exact u_known (n := 3) hts qcl2.2.1 (hts _ (qGW_at 158 (by decide +kernel) (by decide +kernel)))
  | 3, hq => cases hq; exact u_known (n := 4) hts qcl3.2.1 (hts _ (qGW_at 260 (by decide +kernel) (by decide +kernel)))
  | 4, hq => cases hq; exact u_known (n := 4) hts qcl4.2.1 (hts _ (qGW_at 240 (by decide +kernel) (by decide +kernel)))
  | 5, hq => cases hq; exact u_known (n := 3) hts qcl5.2.1 (hts _ (qGW_at 332 (by decide +kernel) (by decide +kernel)))
  | 6, hq => cases hq; exact u_known (n := 14) hts qcl6.2.1 (hts _ (qGW_at 857 (by decide +kernel) (by decide +kernel)))
  | 7, hq => cases hq; exact u_known (n := 2) hts qcl7.2.1 (hts _ (qGW_at 317 (by decide +kernel) (by decide +kernel)))
  | 8, hq => cases hq; exact u_known (n := 2) hts qcl8.2.1 (hts _ (qGW_at 141 (by decide +kernel) (by decide +kernel)))
  | 9, hq => cases hq; exact u_known (n := 7) hts qcl9.2.1 (hts _ (qGW_at 279 (by decide +kernel) (by decide +kernel)))
  | 10, hq => cases hq; exact u_known (n := 18) hts qcl10.2.1 (hts _ (qGW_at 133 (by decide +kernel) (by decide +kernel)))
  | 11, hq => cases hq; exact u_known (n := 61) hts qcl11.2.1 (hts _ (qGW_at 1242 (by decide +kernel) (by decide +kernel)))
  | k + 12, hq => simp [vwCl] at hq
theorem ws_D (hts : ∀ w ∈ qGW, w.before args s = true) : ∃ D : va_G, ∀ (k : Nat) (q : vw_C), vwCl[k]? = some q → u_Kn s q.1 q.2.1 q.2.2 (D.1 k) (D.2 k) := by
  have h := ws_cls hts
  obtain ⟨c0, i0, -⟩ := h 0 _ rfl
  have h2 : ∀ k : Nat, ∃ (cC : ClassId) (iS : Nat → Nat), ∀ q : vw_C, vwCl[k]? = some q → u_Kn s q.1 q.2.1 q.2.2 cC iS := by
    intro k
    cases e : vwCl[k]? with
    | none => exact ⟨c0, i0, fun q hq => by cases hq⟩
    | some q =>
      obtain ⟨a, b, g⟩ := h k q e
      exact ⟨a, b, fun q' hq => by cases hq; exact g⟩
  exact ⟨(fun k => (h2 k).choose, fun k => (h2 k).choose_spec.choose), fun k q hq => (h2 k).choose_spec.choose_spec q hq⟩
theorem ws_arr {ty : FieldType} (h : (Cond.arrayClass ty).before args s = true) : ∃ c : ClassId, ArrOfT s c ty ∧ s.vm.findClass ("[" ++ ty.toString) = some c := by
  obtain ⟨c, k, comp, h1, h2, h3⟩ := Cond.arrayClass_spec (show (Cond.arrayClass ty).holds args s none s [] = true from h)
  exact ⟨c, fun N z => ⟨(fun k h => by cases h), k, h2, comp, h3⟩, h1⟩
theorem ws_obj {C : String} (h : (Cond.arrayOver (.object C)).before args s = true) : ∃ c : ClassId, ArrOfT s c (.object C) ∧ va_RA s c (.object C) := by
  obtain ⟨comp, c, k, h1, -, h3, h4, h5⟩ := Cond.arrayOver_spec (show (Cond.arrayOver (.object C)).holds args s none s [] = true from h)
  exact ⟨c, fun N z => ⟨(fun k h => by cases h), k, h3, comp, h4⟩, k, comp, h3, h4, h1, h5⟩
theorem ws_row {ty : FieldType} (h : (Cond.arrayOver (.array ty)).before args s = true) : ∃ c : ClassId, ArrOfT s c (.array ty) ∧ s.vm.findClass ("[" ++ (FieldType.array ty).toString) = some c := by
  obtain ⟨comp, c, k, -, h3, h4, h5⟩ := Cond.arrayOver_specA (show (Cond.arrayOver (.array ty)).holds args s none s [] = true from h)
  exact ⟨c, fun N z => ⟨(fun k h => by cases h), k, h3, comp, h4⟩, h5⟩
theorem ws_K (hts : ∀ w ∈ lw_tbl, w.before args s = true) : ∃ (D : va_G) (cA : Nat → ClassId), va_K D vwCl (qtys cA) s := by
  obtain ⟨D, hD⟩ := ws_D (fun w hw => hts w (List.mem_filter.mp hw).1)
  obtain ⟨c0, a0, b0⟩ := ws_arr (ty := .int) (hts _ (lw_at 156 (by decide +kernel)))
  obtain ⟨c1, a1, b1⟩ := ws_arr (ty := .boolean) (hts _ (lw_at 315 (by decide +kernel)))
  obtain ⟨c2, a2, b2⟩ := ws_arr (ty := .long) (hts _ (lw_at 330 (by decide +kernel)))
  obtain ⟨c3, a3, b3⟩ := ws_obj (C := "LastThanked$Law") (hts _ (lw_at 259 (by decide +kernel)))
  obtain ⟨c4, a4, b4⟩ := ws_row (ty := .int) (hts _ (lw_at 173 (by decide +kernel)))
  refine ⟨D, fun k => match k with | 0 => c0 | 1 => c1 | 2 => c2 | 3 => c3 | _ => c4, hD, fun k q hq => ?_⟩
  match k, hq with
  | 0, hq => cases hq; exact ⟨a0, b0⟩
  | 1, hq => cases hq; exact ⟨a1, b1⟩
  | 2, hq => cases hq; exact ⟨a2, b2⟩
  | 3, hq => cases hq; exact ⟨a3, b3⟩
  | 4, hq => cases hq; exact ⟨a4, b4⟩
  | k + 5, hq => simp [qtys] at hq
theorem ws_N (hts : ∀ w ∈ lw_tbl, w.before args s = true) : ∀ w ∈ qNw, va_Nw w s := by
  have h : ∀ w ∈ qNw, w ∈ lw_tbl ∧ w.onTables = true := by decide +kernel
  intro w hw
  exact va_Nw.of (h w hw).2 (hts w (h w hw).1)
theorem ws_zN (hts : ∀ w ∈ lw_tbl, w.before args s = true) : ∀ w ∈ zN, va_Nw w s := by
  have h : ∀ w ∈ zN, w ∈ lw_tbl ∧ w.onTables = true := by decide +kernel
  intro w hw
  exact va_Nw.of (h w hw).2 (hts w (h w hw).1)
def wsTm (i : Nat) : Term := .string "LastThanked$HouseReader" ([52, 65, 73].getD i 0)
theorem ws_tx (hs : ∀ c ∈ flatC (Jvm.Cond.and given_1 narrow_1), c.before args s = true) {A : Nat → Prop} (hA : ∀ a : Nat, a < s.heap.size → ¬ A a) :
    ∃ adK adV : Nat → Nat, vk_S 3 [3, 1, 4] [[97, 111, 119], [97], [114, 104, 110, 112]] adK adV A s s.heap ∧ ∀ i : Nat, i < 3 → (wsTm i).eval args s none [] s = some (.ref (adK i)) := by
  refine vk_Sof (tm := wsTm) ?_ ?_ ?_ ?_ ?_ ?_ ?_ hA
  · intro i hi; rcases (show i = 0 ∨ i = 1 ∨ i = 2 by omega) with rfl | rfl | rfl <;> decide
  · intro i hi; rcases (show i = 0 ∨ i = 1 ∨ i = 2 by omega) with rfl | rfl | rfl <;> exact hs _ (by decide +kernel)
  · intro i hi; rcases (show i = 0 ∨ i = 1 ∨ i = 2 by omega) with rfl | rfl | rfl <;> exact hs _ (by decide +kernel)
  · intro i hi; rcases (show i = 0 ∨ i = 1 ∨ i = 2 by omega) with rfl | rfl | rfl <;> exact hs _ (by decide +kernel)
  · intro i hi; rcases (show i = 0 ∨ i = 1 ∨ i = 2 by omega) with rfl | rfl | rfl <;> exact hs _ (by decide +kernel)
  · intro i hi j hj
    rcases (show i = 0 ∨ i = 1 ∨ i = 2 by omega) with rfl | rfl | rfl
    · rcases (show j = 0 ∨ j = 1 ∨ j = 2 by have : j < 3 := hj; omega) with rfl | rfl | rfl <;> exact hs _ (by decide +kernel)
    · rcases (show j = 0 by have : j < 1 := hj; omega) with rfl; exact hs _ (by decide +kernel)
    · rcases (show j = 0 ∨ j = 1 ∨ j = 2 ∨ j = 3 by have : j < 4 := hj; omega) with rfl | rfl | rfl | rfl <;> exact hs _ (by decide +kernel)
  · intro i j hi hj hij
    rcases (show (i = 0 ∧ j = 1) ∨ (i = 0 ∧ j = 2) ∨ (i = 1 ∧ j = 2) ∨ (i = 1 ∧ j = 0) ∨ (i = 2 ∧ j = 0) ∨ (i = 2 ∧ j = 1) by omega) with ⟨rfl, rfl⟩ | ⟨rfl, rfl⟩ | ⟨rfl, rfl⟩ | ⟨rfl, rfl⟩ | ⟨rfl, rfl⟩ | ⟨rfl, rfl⟩
    · exact Or.inl (hs _ (by decide +kernel))
    · exact Or.inl (hs _ (by decide +kernel))
    · exact Or.inl (hs _ (by decide +kernel))
    · exact Or.inr (hs _ (by decide +kernel))
    · exact Or.inr (hs _ (by decide +kernel))
    · exact Or.inr (hs _ (by decide +kernel))
def wsSa (adK adV : Nat → Nat) (b : Nat) : Nat → Nat := fun j => if j < 3 then adK j else if j < 6 then adV (j - 3) else b
theorem ws_S {A : Nat → Prop} {adK adV : Nat → Nat} {b : Nat} {U : State} {H : Heap} (h : vk_S 3 [3, 1, 4] [[97, 111, 119], [97], [114, 104, 110, 112]] adK adV A U H) : vk_S 3 [3, 1, 4] [[97, 111, 119], [97], [114, 104, 110, 112]] (wsSa adK adV b) (fun j => wsSa adK adV b (3 + j)) A U H := by
  have e1 : ∀ i, i < 3 → wsSa adK adV b i = adK i := fun i hi => if_pos hi
  have e2 : ∀ i, i < 3 → wsSa adK adV b (3 + i) = adV i := fun i hi => by
    unfold wsSa
    rw [if_neg (by omega), if_pos (by omega), show 3 + i - 3 = i by omega]
  refine ⟨fun i hi => ?_, fun i j hi hj e => h.2 i j hi hj (by rw [e1 i hi, e1 j hj] at e; exact e)⟩
  show va_O _ (wsSa adK adV b i) A U H ∧ va_OF _ _ _ _ (wsSa adK adV b i) A U H ∧ va_OF _ _ _ (.ref (wsSa adK adV b (3 + i))) (wsSa adK adV b i) A U H ∧ va_T .byte (wsSa adK adV b (3 + i)) _ _ A U H
  rw [e1 i hi, e2 i hi]
  exact h.1 i hi
theorem ws_qT {b : Nat} (hts : ∀ w ∈ lw_tbl, w.before args s = true) (hs : ∀ c ∈ flatC (Jvm.Cond.and given_1 narrow_1), c.before args s = true) : ∃ sa : Nat → Nat, sa 6 = b ∧ qT s.heap.size sa s := by
  have hA : ∀ a : Nat, a < s.heap.size → ¬ (fun q => s.heap.size ≤ q) a := fun a ha => Nat.not_le.mpr ha
  obtain ⟨adK, adV, h1, h2⟩ := ws_tx hs hA
  refine ⟨wsSa adK adV b, rfl, ws_S h1, ?_, ?_, ?_, ?_⟩
  · exact vk_R.of (A := args) (hts _ (lw_at 463 (by decide +kernel))) (h2 0 (by decide))
  · exact vk_R.of (A := args) (hts _ (lw_at 562 (by decide +kernel))) (h2 1 (by decide))
  · exact vk_R.of (A := args) (hts _ (lw_at 563 (by decide +kernel))) (h2 2 (by decide))
  · exact va_Zof (args := args) (hts _ (lw_at 477 (by decide +kernel))) (hts _ (lw_at 118 (by decide +kernel))) (va_eqi (hs _ (by decide +kernel))) hA
theorem ws_zE {l : Launch} (hflags : l.flags = flags0) (hts : ∀ w ∈ lw_tbl, w.before args s = true) (hs : ∀ c ∈ flatC (Jvm.Cond.and given_1 narrow_1), c.before args s = true) : zE s.heap.size l s := by
  have hA : ∀ a : Nat, a < s.heap.size → ¬ (fun q => s.heap.size ≤ q) a := fun a ha => Nat.not_le.mpr ha
  refine ⟨?_, ?_, ?_, ws_zN hts⟩
  · unfold Launch.stackTraces
    rw [hflags]
    decide +kernel
  · exact vx_Zqof (args := args) (hts _ (lw_at 1207 (by decide +kernel))) (hts _ (lw_at 125 (by decide +kernel))) (hs _ (by decide +kernel)) hA
  · exact vx_Zqof (args := args) (hts _ (lw_at 1209 (by decide +kernel))) (hts _ (lw_at 125 (by decide +kernel))) (hs _ (by decide +kernel)) hA
theorem ws_zA {b nA : Nat} {aF : Nat → Int32} (h : va_X b nA aF s s.heap) (hb : b < s.heap.size) : va_T .int b nA (fun j => .int (aF j)) (fun q => s.heap.size ≤ q) s s.heap := by
  obtain ⟨scr, h1, h2, h3, h4, h5⟩ := h
  exact ⟨scr, h1, h2, h3, Nat.le_of_eq h4.symm, by rw [h4], h5, Nat.not_le.mpr hb⟩
end L99zt
