/-! THE ABSTRACT LAYER. A memory of numbered things: K the kinds, I ints (fields and array places), L longs, R references, sz how many there are. Thing i lies at b0 + i. X: the judgement of a frame over it. -/
def qfl : Nat → List Bool := fun c => match c with
  | 0 => [false, false, true, true, true, true, false, false, false]
  | 1 => [false, false, false, false, true, true, true]
  | 2 => [true, false, true]
  | 3 => [true, false, true, false]
  | 4 => [true, false, true, false]
  | 5 => [true, true, false]
  | 6 => [true, true, true, false, false, false, false, false, false, false, false, false, false, false]
  | 7 => [true, true]
  | 8 => [true, false]
  | 9 => [true, true, true, true, true, false, false]
  | 10 => [true, true, true, true, true, false, false, false, false, true, true, true, true, false, true, true, true, true]
  | 11 => [false, true, false, false, false, false, true, true, true, true, true, true, true, false, false, true, true, true, true, false, false, false, false, false, false, false, false, false, false, false, true, true, true, false, false, true, true, false, true, true, true, false, false, false, true, true, true, false, false, false, true, true, true, true, true, true, true, true, true, false, false]
  | _ => []
def qv (g : Nat → Nat) : Value → Value := fun v => match v with
  | .ref a => .ref (g a)
  | w => w
def qfs (g : Nat → Nat) (I : Nat → Int32) (R : Nat → Option Nat) : Nat → List Bool → List Value
  | _, [] => []
  | k, b :: t => (if b then va_rf ((R k).map g) else .int (I k)) :: qfs g I R (k + 1) t
theorem qfs_len (g : Nat → Nat) (I : Nat → Int32) (R : Nat → Option Nat) : ∀ (l : List Bool) (k : Nat), (qfs g I R k l).length = l.length
  | [], _ => rfl
  | _ :: t, k => by simp only [qfs, List.length_cons, qfs_len g I R t (k + 1)]
theorem qfs_get (g : Nat → Nat) (I : Nat → Int32) (R : Nat → Option Nat) : ∀ (l : List Bool) (n k : Nat), (qfs g I R n l)[k]? = (l[k]?).map (fun b => if b then va_rf ((R (n + k)).map g) else .int (I (n + k)))
  | [], _, _ => by simp [qfs]
  | b :: t, n, 0 => by simp [qfs]
  | b :: t, n, k + 1 => by
    simp only [qfs, List.getElem?_cons_succ]
    rw [qfs_get g I R t (n + 1) k, show n + 1 + k = n + (k + 1) by omega]
theorem qfs_setI (g : Nat → Nat) (I : Nat → Int32) (R : Nat → Option Nat) (l : List Bool) {k : Nat} (x : Int32) (h : l[k]? = some false) : (qfs g I R 0 l).set k (.int x) = qfs g (upd I k x) R 0 l := by
  apply List.ext_getElem?
  intro j
  by_cases hj : j = k
  · subst hj
    have hl : j < (qfs g I R 0 l).length := by rw [qfs_len]; exact (List.getElem?_eq_some_iff.mp h).1
    rw [List.getElem?_set_self hl, qfs_get, h]
    simp [upd]
  · rw [List.getElem?_set_ne (Ne.symm hj), qfs_get, qfs_get]
    simp [upd, hj]
theorem qfs_setR (g : Nat → Nat) (I : Nat → Int32) (R : Nat → Option Nat) (l : List Bool) {k : Nat} (x : Option Nat) (h : l[k]? = some true) : (qfs g I R 0 l).set k (va_rf (x.map g)) = qfs g I (va_up R k x) 0 l := by
  apply List.ext_getElem?
  intro j
  by_cases hj : j = k
  · subst hj
    have hl : j < (qfs g I R 0 l).length := by rw [qfs_len]; exact (List.getElem?_eq_some_iff.mp h).1
    rw [List.getElem?_set_self hl, qfs_get, h]
    simp [va_up]
  · rw [List.getElem?_set_ne (Ne.symm hj), qfs_get, qfs_get]
    simp [va_up, hj]
abbrev qK : Type := Nat → Nat ⊕ (Nat × Nat)
abbrev qMem : Type := qK × (Nat → Nat → Int32) × (Nat → Nat → Int64) × (Nat → Nat → Option Nat) × Nat
/-- what the thing i is in the heap; kinds: .inl c an object of class c; .inr (t, n) an array of n: 0 int, 1 boolean, 2 long, 3 Law, 4 int[]; others: nothing is said of it -/
def qE (cA : Nat → ClassId) (g : Nat → Nat) (K : qK) (I : Nat → Nat → Int32) (L : Nat → Nat → Int64) (R : Nat → Nat → Option Nat) (i : Nat) : Option va_E :=
  match K i with
  | .inl c => some (.inr (c, qfs g (I i) (R i) 0 (qfl c)))
  | .inr (t, n) => if t < 2 then some (.inl (cA t, n, .inl (I i))) else if t = 2 then some (.inl (cA 2, n, .inr (.inl (L i)))) else if t < 5 then some (.inl (cA t, n, .inr (.inr (.inr (.inr (fun j => (R i j).map g)))))) else none
def qg (b0 : Nat) (sa : Nat → Nat) : Nat → Nat := fun i => if i < 1000000 then b0 + i else sa (i - 1000000)
theorem qg_lo {b0 : Nat} {sa : Nat → Nat} {i : Nat} (h : i < 1000000) : qg b0 sa i = b0 + i := if_pos h
def qtys (cA : Nat → ClassId) : List (ClassId × FieldType) := [(cA 0, .int), (cA 1, .boolean), (cA 2, .long), (cA 3, .object "LastThanked$Law"), (cA 4, .array .int)]
def qH (D : va_G) (cA : Nat → ClassId) (g : Nat → Nat) (b0 : Nat) (K : qK) (I : Nat → Nat → Int32) (L : Nat → Nat → Int64) (R : Nat → Nat → Option Nat) (sz : Nat) (H : Heap) : Prop :=
  H.size = b0 + sz ∧ sz < 1000000 ∧ ∀ i, i < sz → ∀ e, qE cA g K I L R i = some e → va_at D vwCl (b0 + i, e) H
def qGW : List Cond := lw_tbl.filter goodWord
theorem qGW_of {w : Cond} (h : w ∈ lw_tbl) (hg : goodWord w = true) : w ∈ qGW := List.mem_filter.mpr ⟨h, hg⟩
theorem qGW_at {w : Cond} (i : Nat) (h : (lw_tbl[i]? == some w) = true) (hg : goodWord w = true) : w ∈ qGW := qGW_of (List.mem_of_getElem? (i := i) (by simpa using h)) hg
theorem qGW_good {w : Cond} (h : w ∈ qGW) : (w.onTables && w.keeps) = true ∨ ∃ ty, w = .arrayClass ty := good_of_word (List.mem_filter.mp h).2

/-! locals by their places -/
def qlp (g : Nat → Nat) : Nat → List (Option Value) → List (Nat × Value)
  | _, [] => []
  | n, none :: t => qlp g (n + 1) t
  | n, some v :: t => (n, qv g v) :: qlp g (n + 1) t
theorem qlp_mem (g : Nat → Nat) : ∀ (l : List (Option Value)) (n : Nat) (q : Nat × Value), q ∈ qlp g n l ↔ ∃ j w, l[j]? = some (some w) ∧ q = (n + j, qv g w)
  | [], n, q => by simp [qlp]
  | none :: t, n, q => by
    rw [qlp, qlp_mem g t (n + 1) q]
    constructor
    · rintro ⟨j, w, h, rfl⟩
      exact ⟨j + 1, w, by simpa using h, by rw [show n + 1 + j = n + (j + 1) by omega]⟩
    · rintro ⟨j, w, h, rfl⟩
      cases j with
      | zero => simp at h
      | succ j => exact ⟨j, w, by simpa using h, by rw [show n + 1 + j = n + (j + 1) by omega]⟩
  | some v :: t, n, q => by
    rw [qlp, List.mem_cons, qlp_mem g t (n + 1) q]
    constructor
    · rintro (rfl | ⟨j, w, h, rfl⟩)
      · exact ⟨0, v, by simp, by simp⟩
      · exact ⟨j + 1, w, by simpa using h, by rw [show n + 1 + j = n + (j + 1) by omega]⟩
    · rintro ⟨j, w, h, rfl⟩
      cases j with
      | zero =>
        simp at h
        subst h
        exact Or.inl (by simp)
      | succ j => exact Or.inr ⟨j, w, by simpa using h, by rw [show n + 1 + j = n + (j + 1) by omega]⟩
theorem qv_cat (g : Nat → Nat) (v : Value) : (qv g v).category = v.category := by cases v <;> rfl
theorem q_ld {g : Nat → Nat} {ls : Array Slot} {nL i : Nat} {l : List (Option Value)} {v : Value} (h : lv_has ls nL (qlp g 0 l)) (hi : l[i]? = some (some v)) : ls[i]? = some (.val (qv g v)) := by
  have := h.2.2 (i, qv g v) ((qlp_mem g l 0 _).mpr ⟨i, v, hi, by simp⟩)
  exact this
/-- a local of category 2 is not there -/
def qnc : Option Value → Bool := fun o => match o with
  | some (.long _) => false
  | some (.double _) => false
  | _ => true
theorem qnc_cat {v : Value} (h : qnc (some v) = true) : ¬ v.category = 2 := by cases v <;> simp_all [qnc, Value.category]
/-- the local at i is set to v (of category 1); the one ahead isn't of category 2 -/
theorem q_st1 {g : Nat → Nat} {ls : Array Slot} {nL i : Nat} {l l' : List (Option Value)} {v : Value} (h : lv_has ls nL ((i, qv g v) :: (qlp g 0 l).filter (fun q => !(q.1 == i) && !(q.1 + 1 == i && q.2.category == 2)))) (hp : ∀ j w, j + 1 = i → l[j]? = some (some w) → ¬ w.category = 2) (hl : l.set i (some v) = l') : lv_has ls nL (qlp g 0 l') := by
  subst hl
  refine ⟨h.1, h.2.1, fun q hq => ?_⟩
  obtain ⟨j, w, hj, rfl⟩ := (qlp_mem g _ 0 _).mp hq
  by_cases hji : j = i
  · subst hji
    have hl := (List.getElem?_eq_some_iff.mp hj).1
    rw [List.length_set] at hl
    rw [List.getElem?_set_self hl] at hj
    cases hj
    exact h.2.2 _ (by simp)
  · rw [List.getElem?_set_ne (Ne.symm hji)] at hj
    refine h.2.2 _ (List.mem_cons_of_mem _ (List.mem_filter.mpr ⟨(qlp_mem g l 0 _).mpr ⟨j, w, hj, rfl⟩, ?_⟩))
    have h1 : ¬ (0 + j = i) := by omega
    simp only [Bool.and_eq_true, Bool.not_eq_true', beq_eq_false_iff_ne, ne_eq, Bool.and_eq_false_iff, qv_cat]
    refine ⟨h1, ?_⟩
    by_cases h2 : j + 1 = i
    · exact Or.inr (hp j w h2 hj)
    · exact Or.inl (by omega)
theorem q_st2 {g : Nat → Nat} {ls : Array Slot} {nL i : Nat} {l l' : List (Option Value)} {v : Value} (h : lv_has ls nL ((i, qv g v) :: (qlp g 0 l).filter (fun q => !(q.1 == i) && (!(q.1 == i + 1) && !(q.1 + 1 == i && q.2.category == 2))))) (hp : ∀ j w, j + 1 = i → l[j]? = some (some w) → ¬ w.category = 2) (hl : (l.set i (some v)).set (i + 1) none = l') : lv_has ls nL (qlp g 0 l') := by
  subst hl
  refine ⟨h.1, h.2.1, fun q hq => ?_⟩
  obtain ⟨j, w, hj, rfl⟩ := (qlp_mem g _ 0 _).mp hq
  by_cases hj1 : j = i + 1
  · subst hj1
    have hl := (List.getElem?_eq_some_iff.mp hj).1
    rw [List.length_set] at hl
    rw [List.getElem?_set_self hl] at hj
    cases hj
  rw [List.getElem?_set_ne (Ne.symm hj1)] at hj
  by_cases hji : j = i
  · subst hji
    have hl := (List.getElem?_eq_some_iff.mp hj).1
    rw [List.length_set] at hl
    rw [List.getElem?_set_self hl] at hj
    cases hj
    exact h.2.2 _ (by simp)
  · rw [List.getElem?_set_ne (Ne.symm hji)] at hj
    refine h.2.2 _ (List.mem_cons_of_mem _ (List.mem_filter.mpr ⟨(qlp_mem g l 0 _).mpr ⟨j, w, hj, rfl⟩, ?_⟩))
    have h1 : ¬ (0 + j = i) := by omega
    have h3 : ¬ (0 + j = i + 1) := by omega
    simp only [Bool.and_eq_true, Bool.not_eq_true', beq_eq_false_iff_ne, ne_eq, Bool.and_eq_false_iff, qv_cat]
    refine ⟨h1, h3, ?_⟩
    by_cases h2 : j + 1 = i
    · exact Or.inr (hp j w h2 hj)
    · exact Or.inl (by omega)
/-- the locals at a method's entry -/
def qent : Nat → List Value → List (Option Value)
  | n, [] => List.replicate n none
  | n, v :: t => if v.category = 2 then some v :: none :: qent (n - 2) t else some v :: qent (n - 1) t
theorem qent_sub (g : Nat → Nat) : ∀ (av : List Value) (n i : Nat) (q : Nat × Value), q ∈ qlp g i (qent n av) → q ∈ lv_args i (av.map (qv g))
  | [], n, i, q, h => by
    obtain ⟨j, w, hj, -⟩ := (qlp_mem g _ i q).mp h
    simp only [qent] at hj
    have := List.eq_of_mem_replicate (List.mem_of_getElem? hj)
    cases this
  | v :: t, n, i, q, h => by
    simp only [List.map_cons, lv_args, qv_cat]
    by_cases hc : v.category = 2
    · simp only [qent, hc, if_true, qlp] at h
      simp only [hc, if_true]
      rcases List.mem_cons.mp h with rfl | h
      · simp
      · exact List.mem_cons_of_mem _ (qent_sub g t (n - 2) (i + 1 + 1) q h)
    · simp only [qent, hc, if_false, qlp] at h
      simp only [hc, if_false]
      rcases List.mem_cons.mp h with rfl | h
      · simp
      · exact List.mem_cons_of_mem _ (qent_sub g t (n - 1) (i + 1) q h)
theorem q_entry {g : Nat → Nat} {av : List Value} {n : Nat} (h : (lg_sl (av.map (qv g))).length ≤ n) : lv_has ((lg_sl (av.map (qv g)) ++ List.replicate (n - (lg_sl (av.map (qv g))).length) Slot.unset).toArray) n (qlp g 0 (qent n av)) := by
  have h1 := lv_entry (av.map (qv g)) h
  exact ⟨h1.1, h1.2.1, fun q hq => h1.2.2 q (qent_sub g av n 0 q hq)⟩

/-! the judgement -/
abbrev qqM : Type := MethodName × ByteArray × Nat × Option FieldType
def qMT0 : List qqM := [(yX0_init, cX0_init, 1, none), (yX0_play, cX0_play, 7, none), (yX0_begin, cX0_begin, 4, none), (yX0_moreOf, cX0_moreOf, 5, (some .int)), (yX0_ownerOf, cX0_ownerOf, 3, (some .int)), (yX0_turnBack, cX0_turnBack, 10, none), (yX0_takeBest, cX0_takeBest, 6, none), (yX0_takeBetter, cX0_takeBetter, 5, none), (yX0_takeThanks, cX0_takeThanks, 6, none), (yX0_takeWorth, cX0_takeWorth, 4, none), (yX0_canThank, cX0_canThank, 4, (some .boolean)), (yX0_first, cX0_first, 5, none), (yX0_prefer, cX0_prefer, 3, none)]
def qMT1 : List qqM := [(yX1_init, cX1_init, 1, none), (yX1_clear, cX1_clear, 2, none), (yX1_become, cX1_become, 3, none), (yX1_isWhole, cX1_isWhole, 2, (some .boolean)), (yX1_may, cX1_may, 3, (some .boolean)), (yX1_mayAll, cX1_mayAll, 4, (some .boolean))]
def qMT2 : List qqM := [(yX2_init, cX2_init, 2, none), (yX2_readHouse, cX2_readHouse, 3, (some .boolean)), (yX2_clause, cX2_clause, 2, (some .boolean)), (yX2_items, cX2_items, 8, (some .boolean)), (yX2_lowest, cX2_lowest, 1, (some .int)), (yX2_highest, cX2_highest, 2, (some .int))]
def qMT3 : List qqM := [(yX3_init, cX3_init, 1, none), (yX3_become, cX3_become, 3, none), (yX3_worth, cX3_worth, 9, (some .int)), (yX3_init, cX3_init, 1, none), (yX3_operate, cX3_operate, 4, none), (yX3_reckon, cX3_reckon, 7, (some .int)), (yX3_push, cX3_push, 2, none), (yX3_pop, cX3_pop, 1, (some .int))]
def qMT4 : List qqM := [(yX4_init, cX4_init, 2, none), (yX4_readLaw, cX4_readLaw, 2, (some .boolean)), (yX4_clause, cX4_clause, 2, (some .boolean)), (yX4_init, cX4_init, 2, none), (yX4_guarded, cX4_guarded, 1, (some .boolean)), (yX4_condition, cX4_condition, 2, (some .boolean)), (yX4_moreTruths, cX4_moreTruths, 3, (some .boolean)), (yX4_truth, cX4_truth, 2, (some .boolean)), (yX4_moreUnits, cX4_moreUnits, 3, (some .boolean)), (yX4_unit, cX4_unit, 3, (some .boolean)), (yX4_comparison, cX4_comparison, 3, (some .boolean)), (yX4_sum, cX4_sum, 4, (some .boolean)), (yX4_term, cX4_term, 4, (some .boolean)), (yX4_atom, cX4_atom, 4, (some .boolean)), (yX4_isLetter, cX4_isLetter, 1, (some .boolean)), (yX4_isComparison, cX4_isComparison, 1, (some .boolean)), (yX4_emit, cX4_emit, 2, (some .boolean))]
def qMT5 : List qqM := [(yX5_init, cX5_init, 1, none), (yX5_look, cX5_look, 8, none), (yX5_headOf, cX5_headOf, 4, (some .int)), (yX5_steps, cX5_steps, 4, (some .int)), (yX5_step, cX5_step, 5, (some .int)), (yX5_goesBy, cX5_goesBy, 5, (some .boolean)), (yX5_heldBy, cX5_heldBy, 4, (some .int)), (yX5_holdsAllWith, cX5_holdsAllWith, 4, (some .boolean)), (yX5_isServant, cX5_isServant, 1, (some .boolean))]
def qMT6 : List qqM := [(yX6_init, cX6_init, 1, none), (yX6_minutes, cX6_minutes, 6, (some .int)), (yX6_thanksThen, cX6_thanksThen, 5, (some .int)), (yX6_thanksAtAll, cX6_thanksAtAll, 5, (some .int)), (yX6_leastCost, cX6_leastCost, 9, (some .int)), (yX6_begin, cX6_begin, 3, none), (yX6_unpack, cX6_unpack, 5, none), (yX6_reach, cX6_reach, 7, none), (yX6_thankOneMore, cX6_thankOneMore, 5, none), (yX6_doOneMore, cX6_doOneMore, 6, none), (yX6_doWith, cX6_doWith, 8, none)]
def qMT7 : List qqM := [(yX7_init, cX7_init, 2, none), (yX7_next, cX7_next, 1, (some .int)), (yX7_pass, cX7_pass, 2, (some .boolean)), (yX7_isDigit, cX7_isDigit, 1, (some .boolean)), (yX7_number, cX7_number, 6, (some .int))]
def qMT8 : List qqM := [(yX8_init, cX8_init, 1, none), (yX8_clear, cX8_clear, 2, none), (yX8_become, cX8_become, 2, none), (yX8_waysOf, cX8_waysOf, 7, (some .long)), (yX8_waysOneLonger, cX8_waysOneLonger, 7, (some .long)), (yX8_lastThankers, cX8_lastThankers, 4, (some .int)), (yX8_thankers, cX8_thankers, 4, (some .int)), (yX8_meetsAllSeen, cX8_meetsAllSeen, 5, (some .boolean))]
def qMT9 : List qqM := [(yX9_init, cX9_init, 1, none), (yX9_put, cX9_put, 4, none), (yX9_signAt, cX9_signAt, 2, (some .int))]
def qMT10 : List qqM := [(yX10_init, cX10_init, 1, none), (yX10_clear, cX10_clear, 1, none), (yX10_become, cX10_become, 2, none), (yX10_append, cX10_append, 4, none), (yX10_dropLatest, cX10_dropLatest, 1, none), (yX10_latest, cX10_latest, 1, (some .int)), (yX10_judgeRest, cX10_judgeRest, 3, none), (yX10_judgeWithout, cX10_judgeWithout, 6, none), (yX10_wouldCount, cX10_wouldCount, 8, (some .boolean)), (yX10_nextChange, cX10_nextChange, 5, (some .int))]
def qMT11 : List qqM := [(yX11_init, cX11_init, 1, none), (yX11_feed, cX11_feed, 7, (some .int)), (yX11_end, cX11_end, 2, (some .boolean)), (yX11_fault, cX11_fault, 2, (some .int)), (yX11_text, cX11_text, 2, (some .int)), (yX11_servant, cX11_servant, 3, (some .int)), (yX11_master, cX11_master, 2, (some .int)), (yX11_task, cX11_task, 3, (some .int)), (yX11_set, cX11_set, 3, (some .boolean)), (yX11_thank, cX11_thank, 4, (some .int)), (yX11_counted, cX11_counted, 2, (some .int)), (yX11_undo, cX11_undo, 1, (some .int)), (yX11_leans, cX11_leans, 3, (some .int)), (yX11_head, cX11_head, 3, (some .int)), (yX11_holds, cX11_holds, 3, (some .int)), (yX11_leads, cX11_leads, 5, (some .int)), (yX11_longest, cX11_longest, 7, (some .int)), (yX11_one, cX11_one, 8, (some .int)), (yX11_cut, cX11_cut, 9, (some .int)), (yX11_wages, cX11_wages, 6, (some .int)), (yX11_plan, cX11_plan, 4, (some .int)), (yX11_bars, cX11_bars, 7, (some .int)), (yX11_stolen, cX11_stolen, 3, (some .int)), (yX11_ruin, cX11_ruin, 7, (some .int)), (yX11_rivals, cX11_rivals, 5, (some .int)), (yX11_see, cX11_see, 3, (some .boolean)), (yX11_rows, cX11_rows, 2, (some .long)), (yX11_fewest, cX11_fewest, 4, (some .int)), (yX11_day, cX11_day, 10, (some .int)), (yX11_path, cX11_path, 5, (some .int)), (yX11_all, cX11_all, 7, (some .int)), (yX11_changes, cX11_changes, 8, (some .int)), (yX11_swing, cX11_swing, 7, (some .int)), (yX11_apart, cX11_apart, 10, (some .int)), (yX11_loyal, cX11_loyal, 8, (some .int)), (yX11_image, cX11_image, 1, (some .int)), (yX11_back, cX11_back, 1, (some .int)), (yX11_count, cX11_count, 2, (some .int)), (yX11_hasHouse, cX11_hasHouse, 1, (some .boolean)), (yX11_isServant, cX11_isServant, 2, (some .boolean)), (yX11_isMaster, cX11_isMaster, 2, (some .boolean)), (yX11_isHalf, cX11_isHalf, 1, (some .boolean)), (yX11_isSpan, cX11_isSpan, 2, (some .boolean)), (yX11_heldLaw, cX11_heldLaw, 1, (some (.object "LastThanked$Law"))), (yX11_lookAt, cX11_lookAt, 2, none), (yX11_heldAfter, cX11_heldAfter, 6, (some .int)), (yX11_tallyMinutes, cX11_tallyMinutes, 8, none), (yX11_headsTurnedWithout, cX11_headsTurnedWithout, 5, (some .int)), (yX11_canPlan, cX11_canPlan, 1, (some .boolean)), (yX11_askedPlanner, cX11_askedPlanner, 1, (some (.object "LastThanked$Planner"))), (yX11_reachesEach, cX11_reachesEach, 5, (some .boolean)), (yX11_draw, cX11_draw, 3, (some .int)), (yX11_bytesIn, cX11_bytesIn, 3, (some .int))]
def qMT12 : List qqM := [(yX12_in, cX12_in, 3, (some .boolean)), (yX12_has, cX12_has, 2, (some .boolean)), (yX12_init, cX12_init, 2, none), (yX12_thrown, cX12_thrown, 1, (some .int)), (yX12_byteOf, cX12_byteOf, 7, (some .int)), (yX12_feed, cX12_feed, 9, (some .int)), (yX12_end, cX12_end, 2, (some .boolean)), (yX12_here, cX12_here, 1, (some .int)), (yX12_look, cX12_look, 1, (some .int)), (yX12_bad, cX12_bad, 1, none), (yX12_isDigit, cX12_isDigit, 1, (some .boolean)), (yX12_put, cX12_put, 3, none), (yX12_letterOf, cX12_letterOf, 1, (some .int)), (yX12_opens, cX12_opens, 1, none), (yX12_closes, cX12_closes, 2, none), (yX12_plainNumber, cX12_plainNumber, 3, (some .int)), (yX12_atom, cX12_atom, 2, none), (yX12_term, cX12_term, 2, none), (yX12_sum, cX12_sum, 2, none), (yX12_isSign, cX12_isSign, 1, (some .boolean)), (yX12_compare, cX12_compare, 2, none), (yX12_unit, cX12_unit, 2, none), (yX12_goOnAnd, cX12_goOnAnd, 1, none), (yX12_goOnOr, cX12_goOnOr, 1, none), (yX12_condition, cX12_condition, 1, none), (yX12_clause, cX12_clause, 3, none), (yX12_open, cX12_open, 2, none), (yX12_atEnd, cX12_atEnd, 1, (some .int)), (yX12_readLaw, cX12_readLaw, 2, (some .int)), (yX12_bounded, cX12_bounded, 2, (some .int)), (yX12_worked, cX12_worked, 5, (some .int)), (yX12_workOut, cX12_workOut, 6, (some .int)), (yX12_worthOf, cX12_worthOf, 3, (some .int)), (yX12_servantAt, cX12_servantAt, 2, (some .int)), (yX12_masterAt, cX12_masterAt, 1, (some .int)), (yX12_taskAt, cX12_taskAt, 2, (some .int)), (yX12_number, cX12_number, 4, (some .int)), (yX12_placeOf, cX12_placeOf, 3, (some .int)), (yX12_highest, cX12_highest, 3, (some .int)), (yX12_usual, cX12_usual, 2, none), (yX12_clauseText, cX12_clauseText, 4, none), (yX12_areTold, cX12_areTold, 2, (some .boolean)), (yX12_readHouse, cX12_readHouse, 1, (some .int)), (yX12_fault, cX12_fault, 2, (some .int)), (yX12_takeHouse, cX12_takeHouse, 2, (some .int)), (yX12_text, cX12_text, 2, (some .int)), (yX12_isServant, cX12_isServant, 2, (some .boolean)), (yX12_isMaster, cX12_isMaster, 2, (some .boolean)), (yX12_may, cX12_may, 3, (some .boolean)), (yX12_servant, cX12_servant, 3, (some .int)), (yX12_master, cX12_master, 2, (some .int)), (yX12_task, cX12_task, 3, (some .int)), (yX12_set, cX12_set, 3, (some .boolean)), (yX12_thank, cX12_thank, 5, (some .int)), (yX12_isCounted, cX12_isCounted, 5, (some .boolean)), (yX12_counted, cX12_counted, 2, (some .int)), (yX12_undo, cX12_undo, 1, (some .int)), (yX12_countAll, cX12_countAll, 2, none), (yX12_lay, cX12_lay, 4, none), (yX12_layNow, cX12_layNow, 2, none), (yX12_steps, cX12_steps, 4, (some .int)), (yX12_behind, cX12_behind, 5, (some .int)), (yX12_headOf, cX12_headOf, 2, (some .int)), (yX12_heldBy, cX12_heldBy, 4, (some .int)), (yX12_leans, cX12_leans, 3, (some .int)), (yX12_head, cX12_head, 3, (some .int)), (yX12_holds, cX12_holds, 3, (some .int)), (yX12_leads, cX12_leads, 7, (some .int)), (yX12_longest, cX12_longest, 5, (some .int)), (yX12_bestThanks, cX12_bestThanks, 9, (some .int)), (yX12_one, cX12_one, 5, (some .int)), (yX12_cut, cX12_cut, 6, (some .int)), (yX12_isSpan, cX12_isSpan, 2, (some .boolean)), (yX12_wages, cX12_wages, 7, (some .int)), (yX12_packed, cX12_packed, 3, (some .int)), (yX12_unpack, cX12_unpack, 4, none), (yX12_start, cX12_start, 3, (some .int)), (yX12_handsFor, cX12_handsFor, 6, (some .int)), (yX12_way, cX12_way, 3, none), (yX12_open_, cX12_open_, 9, none), (yX12_planOf, cX12_planOf, 8, none), (yX12_reach, cX12_reach, 5, (some .boolean)), (yX12_fewestThanks, cX12_fewestThanks, 6, (some .int)), (yX12_isFew, cX12_isFew, 1, (some .boolean)), (yX12_plan, cX12_plan, 3, (some .int)), (yX12_bars, cX12_bars, 6, (some .int)), (yX12_stolen, cX12_stolen, 3, (some .int)), (yX12_ruin, cX12_ruin, 6, (some .int)), (yX12_spotOf, cX12_spotOf, 3, (some .int)), (yX12_bestTurn, cX12_bestTurn, 11, (some .int)), (yX12_rivals, cX12_rivals, 12, (some .int)), (yX12_see, cX12_see, 3, (some .boolean)), (yX12_isSeen, cX12_isSeen, 4, (some .boolean)), (yX12_rows, cX12_rows, 6, (some .long)), (yX12_fewest, cX12_fewest, 7, (some .int)), (yX12_day, cX12_day, 8, (some .int)), (yX12_path, cX12_path, 5, (some .int)), (yX12_all, cX12_all, 6, (some .int)), (yX12_holdsAllBy, cX12_holdsAllBy, 6, (some .boolean)), (yX12_changes, cX12_changes, 7, (some .int)), (yX12_swing, cX12_swing, 8, (some .int)), (yX12_apart, cX12_apart, 9, (some .int)), (yX12_loyal, cX12_loyal, 8, (some .int)), (yX12_image, cX12_image, 2, (some .int)), (yX12_back, cX12_back, 2, (some .int)), (yX12_count, cX12_count, 2, (some .int))]
def qMT13 : List qqM := [(yL_law, cL_law, 7, some .boolean), (yL_servant, cL_servant, 5, some .int)]
def qMT14 : List qqM := [(yJ6_bitCount_0f7a4, cJ6_bitCount_0f7a4, 1, some .int)]
def qMT15 : List qqM := [(yJ0_length_8abf5, cJ0_length_8abf5, 1, (some .int)), (yJ0_coder_7d493, cJ0_coder_7d493, 1, (some .byte)), (yJ0_isLatin1_aae02, cJ0_isLatin1_aae02, 1, (some .boolean)), (yJ0_indexOf_0f7a4, cJ0_indexOf_0f7a4, 2, (some .int)), (yJ0_indexOf_7cf53, cJ0_indexOf_7cf53, 3, (some .int))]
def qMT16 : List qqM := [(yJ1_canEncode_9a6ad, cJ1_canEncode_9a6ad, 1, (some .boolean)), (yJ1_indexOf_4cfef, cJ1_indexOf_4cfef, 4, (some .int)), (yJ1_indexOfChar_4cfef, cJ1_indexOfChar_4cfef, 6, (some .int))]
def qMT : List (List qqM) := [qMT0, qMT1, qMT2, qMT3, qMT4, qMT5, qMT6, qMT7, qMT8, qMT9, qMT10, qMT11, qMT12, qMT13, qMT14, qMT15, qMT16]
def qM (y : Nat) : qqM := (qMT.getD (y / 1000) []).getD (y % 1000) (yL_law, cL_law, 7, some .boolean)
/-- the class of a method, by its number -/
def qcn (k : Nat) : String := match k with
  | 0 => RX0
  | 1 => RX1
  | 2 => RX2
  | 3 => RX3
  | 4 => RX4
  | 5 => RX5
  | 6 => RX6
  | 7 => RX7
  | 8 => RX8
  | 9 => RX9
  | 10 => RX10
  | 11 => RX11
  | 12 => RX12
  | 14 => RJ6
  | 15 => RJ0
  | 16 => RJ1
  | _ => RL
def qn (y : Nat) : MethodName := (qM y).1
def qc (y : Nat) : ByteArray := (qM y).2.1
def qml (y : Nat) : Nat := (qM y).2.2.1
def qr (y : Nat) : Option FieldType := (qM y).2.2.2
/-- what is known of a state beside the memory: classes and array classes, and words that aren't 'good' -/
def qNw : List Cond := [.methodLinkNest "LastThanked" 9 ⟨"LastThanked$Tape", "<init>", "()V"⟩ "LastThanked", .methodLinkNest "LastThanked$HouseReader" 11 ⟨"LastThanked$House", "<init>", "()V"⟩ "LastThanked", .methodLinkNest "LastThanked" 34 ⟨"LastThanked$House", "<init>", "()V"⟩ "LastThanked", .methodLinkNest "LastThanked" 41 ⟨"LastThanked$Law", "<init>", "()V"⟩ "LastThanked", .methodLinkNest "LastThanked" 52 ⟨"LastThanked$Thanks", "<init>", "()V"⟩ "LastThanked", .methodLinkNest "LastThanked" 59 ⟨"LastThanked$Seen", "<init>", "()V"⟩ "LastThanked", .methodLinkNest "LastThanked" 72 ⟨"LastThanked$Moment", "<init>", "()V"⟩ "LastThanked", .methodLinkNest "LastThanked" 344 ⟨"LastThanked$Planner", "<init>", "()V"⟩ "LastThanked", .methodLinkNest "LastThanked" 257 ⟨"LastThanked$Duel", "<init>", "()V"⟩ "LastThanked"]
/-- the three texts of the class: their places, what they hold -/
def qT (b0 : Nat) (sa : Nat → Nat) (U : State) : Prop := vk_S 3 [3, 1, 4] [[97, 111, 119], [97], [114, 104, 110, 112]] sa (fun j => sa (3 + j)) (fun q => b0 ≤ q) U U.heap ∧ vk_R "LastThanked$HouseReader" 52 "aow" (sa 0) U ∧ vk_R "LastThanked$HouseReader" 65 "a" (sa 1) U ∧ vk_R "LastThanked$HouseReader" 73 "\x72hnp" (sa 2) U ∧ va_Z "java/lang/String" "COMPACT_STRINGS" "Z" (.int 1) (fun q => b0 ≤ q) U U.heap
def qS (D : va_G) (cA : Nat → ClassId) (b0 : Nat) (sa : Nat → Nat) (U : State) : Prop := va_K D vwCl (qtys cA) U ∧ b0 ≤ U.heap.size ∧ (∀ w ∈ qNw, va_Nw w U) ∧ va_AO "LastThanked$Law" U ∧ va_AOA .int U ∧ qT b0 sa U
def qC (p : Program) (R0 : Room) (s : State) (m : MethodId) (args : Array Value) (meth : Method) (c : Code) (d MC MS y : Nat) (D : va_G) (cA : Nat → ClassId) (b0 : Nat) (sa : Nat → Nat) : Prop :=
  p.tables.exec = Jvm.exec ∧ c.code = qc y ∧ meth.sig.returnType = qr y ∧ meth.locks = false ∧ c.maxLocals = qml y ∧ s.vm.findClass (qcn (y / 1000)) = some m.cls ∧ meth.name = (qn y).name ∧ (∀ w ∈ qGW, w.before args s = true) ∧
  (d ≤ R0.frames ∧ 64 * d ≤ R0.locals ∧ MC ≤ R0.cells ∧ MS ≤ R0.slots) ∧ qS D cA b0 sa s
def qQ (D : va_G) (cA : Nat → ClassId) (b0 : Nat) (sa : Nat → Nat) (Q : Option Value → qMem → Prop) : Array Value → State → Outcome → State → Prop := fun _ st oc t =>
  (∃ (r : Option Value) (M : qMem), oc = .returned (r.map (qv (qg b0 sa))) ∧ Q r M ∧ qH D cA (qg b0 sa) b0 M.1 M.2.1 M.2.2.1 M.2.2.2.1 M.2.2.2.2 t.heap) ∧ va_F (fun q => b0 ≤ q) st t
/-- from the frame at pc of the method y, with locals ls and stack st over the memory M, at most d frames deep, uc of MC cells and us of MS slots being used, y returns r over M' with Q r M' -/
def X (d MC MS y uc us pc : Nat) (ls : List (Option Value)) (st : List Value) (M : qMem) (Q : Option Value → qMem → Prop) : Prop :=
  ∀ (p : Program) (l : Launch) (e : Env) (R0 : Room) (s : State) (m : MethodId) (args : Array Value) (below : List Frame) (meth : Method) (c : Code) (D : va_G) (cA : Nat → ClassId) (b0 : Nat) (sa : Nat → Nat) (H : Heap) (locs : List Loc) (lsr : Array Slot),
    qC p R0 s m args meth c d MC MS y D cA b0 sa → lv_has lsr (qml y) (qlp (qg b0 sa) 0 ls) → qH D cA (qg b0 sa) b0 M.1 M.2.1 M.2.2.1 M.2.2.2.1 M.2.2.2.2 H → va_S (fun q => b0 ≤ q) s.heap H locs →
    W p l e R0 s m args below meth c H locs uc us (MQ below (qQ D cA b0 sa Q) args s MC MS (fun q => b0 ≤ q)) (F0 m pc lsr (st.map (qv (qg b0 sa))))
section QX
variable {d MC MS y uc us pc : Nat} {ls : List (Option Value)} {st : List Value} {M : qMem} {Q : Option Value → qMem → Prop}

theorem x_iconst {n : Int} {v : Int32} (hdg : decode (qc y) pc = .ok (.iconst n, 1)) (hv : Int32.ofInt n = v) (k : X d MC MS y uc us (pc + 1) ls (.int v :: st) M Q) : X d MC MS y uc us pc ls (st) M Q := fun p l e R0 s m args below meth c D cA b0 sa H locs lsr hC hl hH hS => lv_iconst hC.1 hC.2.1 hdg hv (k p l e R0 s m args below meth c D cA b0 sa H locs lsr hC hl hH hS)
theorem x_bipush {n : Int} {v : Int32} (hdg : decode (qc y) pc = .ok (.bipush n, 2)) (hv : (Int8.ofInt n).toInt32 = v) (k : X d MC MS y uc us (pc + 2) ls (.int v :: st) M Q) : X d MC MS y uc us pc ls (st) M Q := fun p l e R0 s m args below meth c D cA b0 sa H locs lsr hC hl hH hS => lv_bipush hC.1 hC.2.1 hdg hv (k p l e R0 s m args below meth c D cA b0 sa H locs lsr hC hl hH hS)
theorem x_sipush {n : Int} {v : Int32} (hdg : decode (qc y) pc = .ok (.sipush n, 3)) (hv : (Int16.ofInt n).toInt32 = v) (k : X d MC MS y uc us (pc + 3) ls (.int v :: st) M Q) : X d MC MS y uc us pc ls (st) M Q := fun p l e R0 s m args below meth c D cA b0 sa H locs lsr hC hl hH hS => lv_sipush hC.1 hC.2.1 hdg hv (k p l e R0 s m args below meth c D cA b0 sa H locs lsr hC hl hH hS)
theorem x_lconst {n : Fin 2} {v : Int64} (hdg : decode (qc y) pc = .ok (.lconst n, 1)) (hv : Int64.ofNat (n : Nat) = v) (k : X d MC MS y uc us (pc + 1) ls (.long v :: st) M Q) : X d MC MS y uc us pc ls (st) M Q := fun p l e R0 s m args below meth c D cA b0 sa H locs lsr hC hl hH hS => lv_lconst hC.1 hC.2.1 hdg hv (k p l e R0 s m args below meth c D cA b0 sa H locs lsr hC hl hH hS)
theorem x_null (hdg : decode (qc y) pc = .ok (.aconst_null, 1)) (k : X d MC MS y uc us (pc + 1) ls (.null :: st) M Q) : X d MC MS y uc us pc ls (st) M Q := fun p l e R0 s m args below meth c D cA b0 sa H locs lsr hC hl hH hS => lv_null hC.1 hC.2.1 hdg (k p l e R0 s m args below meth c D cA b0 sa H locs lsr hC hl hH hS)
theorem x_iadd {a b : Int32} (hdg : decode (qc y) pc = .ok (.iadd, 1)) (k : X d MC MS y uc us (pc + 1) ls (.int (a + b) :: st) M Q) : X d MC MS y uc us pc ls (.int b :: .int a :: st) M Q := fun p l e R0 s m args below meth c D cA b0 sa H locs lsr hC hl hH hS => lv_iadd hC.1 hC.2.1 hdg (k p l e R0 s m args below meth c D cA b0 sa H locs lsr hC hl hH hS)
theorem x_isub {a b : Int32} (hdg : decode (qc y) pc = .ok (.isub, 1)) (k : X d MC MS y uc us (pc + 1) ls (.int (a - b) :: st) M Q) : X d MC MS y uc us pc ls (.int b :: .int a :: st) M Q := fun p l e R0 s m args below meth c D cA b0 sa H locs lsr hC hl hH hS => lv_isub hC.1 hC.2.1 hdg (k p l e R0 s m args below meth c D cA b0 sa H locs lsr hC hl hH hS)
theorem x_imul {a b : Int32} (hdg : decode (qc y) pc = .ok (.imul, 1)) (k : X d MC MS y uc us (pc + 1) ls (.int (a * b) :: st) M Q) : X d MC MS y uc us pc ls (.int b :: .int a :: st) M Q := fun p l e R0 s m args below meth c D cA b0 sa H locs lsr hC hl hH hS => lv_imul hC.1 hC.2.1 hdg (k p l e R0 s m args below meth c D cA b0 sa H locs lsr hC hl hH hS)
theorem x_iand {a b : Int32} (hdg : decode (qc y) pc = .ok (.iand, 1)) (k : X d MC MS y uc us (pc + 1) ls (.int (a &&& b) :: st) M Q) : X d MC MS y uc us pc ls (.int b :: .int a :: st) M Q := fun p l e R0 s m args below meth c D cA b0 sa H locs lsr hC hl hH hS => lv_iand hC.1 hC.2.1 hdg (k p l e R0 s m args below meth c D cA b0 sa H locs lsr hC hl hH hS)
theorem x_ior {a b : Int32} (hdg : decode (qc y) pc = .ok (.ior, 1)) (k : X d MC MS y uc us (pc + 1) ls (.int (a ||| b) :: st) M Q) : X d MC MS y uc us pc ls (.int b :: .int a :: st) M Q := fun p l e R0 s m args below meth c D cA b0 sa H locs lsr hC hl hH hS => lv_ior hC.1 hC.2.1 hdg (k p l e R0 s m args below meth c D cA b0 sa H locs lsr hC hl hH hS)
theorem x_ixor {a b : Int32} (hdg : decode (qc y) pc = .ok (.ixor, 1)) (k : X d MC MS y uc us (pc + 1) ls (.int (a ^^^ b) :: st) M Q) : X d MC MS y uc us pc ls (.int b :: .int a :: st) M Q := fun p l e R0 s m args below meth c D cA b0 sa H locs lsr hC hl hH hS => lv_ixor hC.1 hC.2.1 hdg (k p l e R0 s m args below meth c D cA b0 sa H locs lsr hC hl hH hS)
theorem x_ishl {a b : Int32} (hdg : decode (qc y) pc = .ok (.ishl, 1)) (k : X d MC MS y uc us (pc + 1) ls (.int (a <<< (b &&& 31)) :: st) M Q) : X d MC MS y uc us pc ls (.int b :: .int a :: st) M Q := fun p l e R0 s m args below meth c D cA b0 sa H locs lsr hC hl hH hS => lv_ishl hC.1 hC.2.1 hdg (k p l e R0 s m args below meth c D cA b0 sa H locs lsr hC hl hH hS)
theorem x_ishr {a b : Int32} (hdg : decode (qc y) pc = .ok (.ishr, 1)) (k : X d MC MS y uc us (pc + 1) ls (.int (a >>> (b &&& 31)) :: st) M Q) : X d MC MS y uc us pc ls (.int b :: .int a :: st) M Q := fun p l e R0 s m args below meth c D cA b0 sa H locs lsr hC hl hH hS => lv_ishr hC.1 hC.2.1 hdg (k p l e R0 s m args below meth c D cA b0 sa H locs lsr hC hl hH hS)
theorem x_idiv {a b : Int32} (hdg : decode (qc y) pc = .ok (.idiv, 1)) (hne : ¬ b = 0) (k : X d MC MS y uc us (pc + 1) ls (.int (a / b) :: st) M Q) : X d MC MS y uc us pc ls (.int b :: .int a :: st) M Q := fun p l e R0 s m args below meth c D cA b0 sa H locs lsr hC hl hH hS => lv_idiv hC.1 hC.2.1 hdg hne (k p l e R0 s m args below meth c D cA b0 sa H locs lsr hC hl hH hS)
theorem x_irem {a b : Int32} (hdg : decode (qc y) pc = .ok (.irem, 1)) (hne : ¬ b = 0) (k : X d MC MS y uc us (pc + 1) ls (.int (a - a / b * b) :: st) M Q) : X d MC MS y uc us pc ls (.int b :: .int a :: st) M Q := fun p l e R0 s m args below meth c D cA b0 sa H locs lsr hC hl hH hS => lv_irem hC.1 hC.2.1 hdg hne (k p l e R0 s m args below meth c D cA b0 sa H locs lsr hC hl hH hS)
theorem x_ineg {a : Int32} (hdg : decode (qc y) pc = .ok (.ineg, 1)) (k : X d MC MS y uc us (pc + 1) ls (.int (-a) :: st) M Q) : X d MC MS y uc us pc ls (.int a :: st) M Q := fun p l e R0 s m args below meth c D cA b0 sa H locs lsr hC hl hH hS => lv_ineg hC.1 hC.2.1 hdg (k p l e R0 s m args below meth c D cA b0 sa H locs lsr hC hl hH hS)
theorem x_iushr {a b : Int32} (hdg : decode (qc y) pc = .ok (.iushr, 1)) (k : X d MC MS y uc us (pc + 1) ls (.int ((a.toUInt32 >>> (b.toUInt32 &&& Int32.toUInt32 31)).toInt32) :: st) M Q) : X d MC MS y uc us pc ls (.int b :: .int a :: st) M Q := fun p l e R0 s m args below meth c D cA b0 sa H locs lsr hC hl hH hS => lv_iushr hC.1 hC.2.1 hdg rfl (k p l e R0 s m args below meth c D cA b0 sa H locs lsr hC hl hH hS)
theorem x_ladd {a b : Int64} (hdg : decode (qc y) pc = .ok (.ladd, 1)) (k : X d MC MS y uc us (pc + 1) ls (.long (a + b) :: st) M Q) : X d MC MS y uc us pc ls (.long b :: .long a :: st) M Q := fun p l e R0 s m args below meth c D cA b0 sa H locs lsr hC hl hH hS => lv_ladd hC.1 hC.2.1 hdg (k p l e R0 s m args below meth c D cA b0 sa H locs lsr hC hl hH hS)
theorem x_lsub {a b : Int64} (hdg : decode (qc y) pc = .ok (.lsub, 1)) (k : X d MC MS y uc us (pc + 1) ls (.long (a - b) :: st) M Q) : X d MC MS y uc us pc ls (.long b :: .long a :: st) M Q := fun p l e R0 s m args below meth c D cA b0 sa H locs lsr hC hl hH hS => lv_lsub hC.1 hC.2.1 hdg (k p l e R0 s m args below meth c D cA b0 sa H locs lsr hC hl hH hS)
theorem x_lmul {a b : Int64} (hdg : decode (qc y) pc = .ok (.lmul, 1)) (k : X d MC MS y uc us (pc + 1) ls (.long (a * b) :: st) M Q) : X d MC MS y uc us pc ls (.long b :: .long a :: st) M Q := fun p l e R0 s m args below meth c D cA b0 sa H locs lsr hC hl hH hS => lv_lmul hC.1 hC.2.1 hdg (k p l e R0 s m args below meth c D cA b0 sa H locs lsr hC hl hH hS)
theorem x_land {a b : Int64} (hdg : decode (qc y) pc = .ok (.land, 1)) (k : X d MC MS y uc us (pc + 1) ls (.long (a &&& b) :: st) M Q) : X d MC MS y uc us pc ls (.long b :: .long a :: st) M Q := fun p l e R0 s m args below meth c D cA b0 sa H locs lsr hC hl hH hS => lv_land hC.1 hC.2.1 hdg (k p l e R0 s m args below meth c D cA b0 sa H locs lsr hC hl hH hS)
theorem x_lor {a b : Int64} (hdg : decode (qc y) pc = .ok (.lor, 1)) (k : X d MC MS y uc us (pc + 1) ls (.long (a ||| b) :: st) M Q) : X d MC MS y uc us pc ls (.long b :: .long a :: st) M Q := fun p l e R0 s m args below meth c D cA b0 sa H locs lsr hC hl hH hS => lv_lor hC.1 hC.2.1 hdg (k p l e R0 s m args below meth c D cA b0 sa H locs lsr hC hl hH hS)
theorem x_ldiv {a b : Int64} (hdg : decode (qc y) pc = .ok (.ldiv, 1)) (hne : ¬ b = 0) (k : X d MC MS y uc us (pc + 1) ls (.long (a / b) :: st) M Q) : X d MC MS y uc us pc ls (.long b :: .long a :: st) M Q := fun p l e R0 s m args below meth c D cA b0 sa H locs lsr hC hl hH hS => lv_ldiv hC.1 hC.2.1 hdg hne (k p l e R0 s m args below meth c D cA b0 sa H locs lsr hC hl hH hS)
theorem x_lrem {a b : Int64} (hdg : decode (qc y) pc = .ok (.lrem, 1)) (hne : ¬ b = 0) (k : X d MC MS y uc us (pc + 1) ls (.long (a - a / b * b) :: st) M Q) : X d MC MS y uc us pc ls (.long b :: .long a :: st) M Q := fun p l e R0 s m args below meth c D cA b0 sa H locs lsr hC hl hH hS => lv_lrem hC.1 hC.2.1 hdg hne (k p l e R0 s m args below meth c D cA b0 sa H locs lsr hC hl hH hS)
theorem x_lushr {a : Int64} {b : Int32} (hdg : decode (qc y) pc = .ok (.lushr, 1)) (k : X d MC MS y uc us (pc + 1) ls (.long ((a.toUInt64 >>> (b.toInt64.toUInt64 &&& Int64.toUInt64 63)).toInt64) :: st) M Q) : X d MC MS y uc us pc ls (.int b :: .long a :: st) M Q := fun p l e R0 s m args below meth c D cA b0 sa H locs lsr hC hl hH hS => lv_lushr hC.1 hC.2.1 hdg rfl (k p l e R0 s m args below meth c D cA b0 sa H locs lsr hC hl hH hS)
theorem x_lshl {a : Int64} {b : Int32} (hdg : decode (qc y) pc = .ok (.lshl, 1)) (k : X d MC MS y uc us (pc + 1) ls (.long (a <<< (b.toInt64 &&& 63)) :: st) M Q) : X d MC MS y uc us pc ls (.int b :: .long a :: st) M Q := fun p l e R0 s m args below meth c D cA b0 sa H locs lsr hC hl hH hS => lv_lshl hC.1 hC.2.1 hdg rfl (k p l e R0 s m args below meth c D cA b0 sa H locs lsr hC hl hH hS)
theorem x_lcmp {a b : Int64} (hdg : decode (qc y) pc = .ok (.lcmp, 1)) (k : X d MC MS y uc us (pc + 1) ls (.int (lg_cmp a b) :: st) M Q) : X d MC MS y uc us pc ls (.long b :: .long a :: st) M Q := fun p l e R0 s m args below meth c D cA b0 sa H locs lsr hC hl hH hS => W.lcmp hC.1 hC.2.1 hdg (k p l e R0 s m args below meth c D cA b0 sa H locs lsr hC hl hH hS)
theorem x_i2l {a : Int32} (hdg : decode (qc y) pc = .ok (.i2l, 1)) (k : X d MC MS y uc us (pc + 1) ls (.long a.toInt64 :: st) M Q) : X d MC MS y uc us pc ls (.int a :: st) M Q := fun p l e R0 s m args below meth c D cA b0 sa H locs lsr hC hl hH hS => lv_i2l hC.1 hC.2.1 hdg rfl (k p l e R0 s m args below meth c D cA b0 sa H locs lsr hC hl hH hS)
theorem x_l2i {a : Int64} (hdg : decode (qc y) pc = .ok (.l2i, 1)) (k : X d MC MS y uc us (pc + 1) ls (.int a.toInt32 :: st) M Q) : X d MC MS y uc us pc ls (.long a :: st) M Q := fun p l e R0 s m args below meth c D cA b0 sa H locs lsr hC hl hH hS => lv_l2i hC.1 hC.2.1 hdg rfl (k p l e R0 s m args below meth c D cA b0 sa H locs lsr hC hl hH hS)
theorem x_i2c {a : Int32} (hdg : decode (qc y) pc = .ok (.i2c, 1)) (k : X d MC MS y uc us (pc + 1) ls (.int (a.toUInt32 % 65536).toInt32 :: st) M Q) : X d MC MS y uc us pc ls (.int a :: st) M Q := fun p l e R0 s m args below meth c D cA b0 sa H locs lsr hC hl hH hS => lv_i2c hC.1 hC.2.1 hdg rfl (k p l e R0 s m args below meth c D cA b0 sa H locs lsr hC hl hH hS)
theorem x_dup {a : Value} (hdg : decode (qc y) pc = .ok (.dup, 1)) (ha : a.category = 1) (k : X d MC MS y uc us (pc + 1) ls (a :: a :: st) M Q) : X d MC MS y uc us pc ls (a :: st) M Q := fun p l e R0 s m args below meth c D cA b0 sa H locs lsr hC hl hH hS => lv_dup hC.1 hC.2.1 hdg ((qv_cat _ _).trans ha) (k p l e R0 s m args below meth c D cA b0 sa H locs lsr hC hl hH hS)
theorem x_dup2 {a b : Value} (hdg : decode (qc y) pc = .ok (.dup2, 1)) (ha : a.category = 1) (hb : b.category = 1) (k : X d MC MS y uc us (pc + 1) ls (a :: b :: a :: b :: st) M Q) : X d MC MS y uc us pc ls (a :: b :: st) M Q := fun p l e R0 s m args below meth c D cA b0 sa H locs lsr hC hl hH hS => lv_dup2_11 hC.1 hC.2.1 hdg ((qv_cat _ _).trans ha) ((qv_cat _ _).trans hb) (k p l e R0 s m args below meth c D cA b0 sa H locs lsr hC hl hH hS)
theorem x_ifeq {a : Int32} {off : Int} {tgt : Nat} (hdg : decode (qc y) pc = .ok (.ifCond .eq off, 3)) (ht : (pc : Int) + off = (tgt : Int)) (kt : a = 0 → X d MC MS y uc us tgt ls st M Q) (kf : ¬ a = 0 → X d MC MS y uc us (pc + 3) ls st M Q) : X d MC MS y uc us pc ls (.int a :: st) M Q := fun p l e R0 s m args below meth c D cA b0 sa H locs lsr hC hl hH hS => lv_if_eq hC.1 hC.2.1 hdg ht (fun h => kt h p l e R0 s m args below meth c D cA b0 sa H locs lsr hC hl hH hS) (fun h => kf h p l e R0 s m args below meth c D cA b0 sa H locs lsr hC hl hH hS)
theorem x_ifne {a : Int32} {off : Int} {tgt : Nat} (hdg : decode (qc y) pc = .ok (.ifCond .ne off, 3)) (ht : (pc : Int) + off = (tgt : Int)) (kt : ¬ a = 0 → X d MC MS y uc us tgt ls st M Q) (kf : a = 0 → X d MC MS y uc us (pc + 3) ls st M Q) : X d MC MS y uc us pc ls (.int a :: st) M Q := fun p l e R0 s m args below meth c D cA b0 sa H locs lsr hC hl hH hS => lv_if_ne hC.1 hC.2.1 hdg ht (fun h => kt h p l e R0 s m args below meth c D cA b0 sa H locs lsr hC hl hH hS) (fun h => kf h p l e R0 s m args below meth c D cA b0 sa H locs lsr hC hl hH hS)
theorem x_iflt {a : Int32} {off : Int} {tgt : Nat} (hdg : decode (qc y) pc = .ok (.ifCond .lt off, 3)) (ht : (pc : Int) + off = (tgt : Int)) (kt : a < 0 → X d MC MS y uc us tgt ls st M Q) (kf : ¬ a < 0 → X d MC MS y uc us (pc + 3) ls st M Q) : X d MC MS y uc us pc ls (.int a :: st) M Q := fun p l e R0 s m args below meth c D cA b0 sa H locs lsr hC hl hH hS => lv_if_lt hC.1 hC.2.1 hdg ht (fun h => kt h p l e R0 s m args below meth c D cA b0 sa H locs lsr hC hl hH hS) (fun h => kf h p l e R0 s m args below meth c D cA b0 sa H locs lsr hC hl hH hS)
theorem x_ifge {a : Int32} {off : Int} {tgt : Nat} (hdg : decode (qc y) pc = .ok (.ifCond .ge off, 3)) (ht : (pc : Int) + off = (tgt : Int)) (kt : 0 ≤ a → X d MC MS y uc us tgt ls st M Q) (kf : ¬ 0 ≤ a → X d MC MS y uc us (pc + 3) ls st M Q) : X d MC MS y uc us pc ls (.int a :: st) M Q := fun p l e R0 s m args below meth c D cA b0 sa H locs lsr hC hl hH hS => lv_if_ge hC.1 hC.2.1 hdg ht (fun h => kt h p l e R0 s m args below meth c D cA b0 sa H locs lsr hC hl hH hS) (fun h => kf h p l e R0 s m args below meth c D cA b0 sa H locs lsr hC hl hH hS)
theorem x_ifgt {a : Int32} {off : Int} {tgt : Nat} (hdg : decode (qc y) pc = .ok (.ifCond .gt off, 3)) (ht : (pc : Int) + off = (tgt : Int)) (kt : 0 < a → X d MC MS y uc us tgt ls st M Q) (kf : ¬ 0 < a → X d MC MS y uc us (pc + 3) ls st M Q) : X d MC MS y uc us pc ls (.int a :: st) M Q := fun p l e R0 s m args below meth c D cA b0 sa H locs lsr hC hl hH hS => lv_if_gt hC.1 hC.2.1 hdg ht (fun h => kt h p l e R0 s m args below meth c D cA b0 sa H locs lsr hC hl hH hS) (fun h => kf h p l e R0 s m args below meth c D cA b0 sa H locs lsr hC hl hH hS)
theorem x_ifle {a : Int32} {off : Int} {tgt : Nat} (hdg : decode (qc y) pc = .ok (.ifCond .le off, 3)) (ht : (pc : Int) + off = (tgt : Int)) (kt : a ≤ 0 → X d MC MS y uc us tgt ls st M Q) (kf : ¬ a ≤ 0 → X d MC MS y uc us (pc + 3) ls st M Q) : X d MC MS y uc us pc ls (.int a :: st) M Q := fun p l e R0 s m args below meth c D cA b0 sa H locs lsr hC hl hH hS => lv_if_le hC.1 hC.2.1 hdg ht (fun h => kt h p l e R0 s m args below meth c D cA b0 sa H locs lsr hC hl hH hS) (fun h => kf h p l e R0 s m args below meth c D cA b0 sa H locs lsr hC hl hH hS)
theorem x_icmpeq {a b : Int32} {off : Int} {tgt : Nat} (hdg : decode (qc y) pc = .ok (.if_icmp .eq off, 3)) (ht : (pc : Int) + off = (tgt : Int)) (kt : a = b → X d MC MS y uc us tgt ls st M Q) (kf : ¬ a = b → X d MC MS y uc us (pc + 3) ls st M Q) : X d MC MS y uc us pc ls (.int b :: .int a :: st) M Q := fun p l e R0 s m args below meth c D cA b0 sa H locs lsr hC hl hH hS => lv_icmp_eq hC.1 hC.2.1 hdg ht (fun h => kt h p l e R0 s m args below meth c D cA b0 sa H locs lsr hC hl hH hS) (fun h => kf h p l e R0 s m args below meth c D cA b0 sa H locs lsr hC hl hH hS)
theorem x_icmpne {a b : Int32} {off : Int} {tgt : Nat} (hdg : decode (qc y) pc = .ok (.if_icmp .ne off, 3)) (ht : (pc : Int) + off = (tgt : Int)) (kt : ¬ a = b → X d MC MS y uc us tgt ls st M Q) (kf : a = b → X d MC MS y uc us (pc + 3) ls st M Q) : X d MC MS y uc us pc ls (.int b :: .int a :: st) M Q := fun p l e R0 s m args below meth c D cA b0 sa H locs lsr hC hl hH hS => lv_icmp_ne hC.1 hC.2.1 hdg ht (fun h => kt h p l e R0 s m args below meth c D cA b0 sa H locs lsr hC hl hH hS) (fun h => kf h p l e R0 s m args below meth c D cA b0 sa H locs lsr hC hl hH hS)
theorem x_icmplt {a b : Int32} {off : Int} {tgt : Nat} (hdg : decode (qc y) pc = .ok (.if_icmp .lt off, 3)) (ht : (pc : Int) + off = (tgt : Int)) (kt : a < b → X d MC MS y uc us tgt ls st M Q) (kf : ¬ a < b → X d MC MS y uc us (pc + 3) ls st M Q) : X d MC MS y uc us pc ls (.int b :: .int a :: st) M Q := fun p l e R0 s m args below meth c D cA b0 sa H locs lsr hC hl hH hS => lv_icmp_lt hC.1 hC.2.1 hdg ht (fun h => kt h p l e R0 s m args below meth c D cA b0 sa H locs lsr hC hl hH hS) (fun h => kf h p l e R0 s m args below meth c D cA b0 sa H locs lsr hC hl hH hS)
theorem x_icmpge {a b : Int32} {off : Int} {tgt : Nat} (hdg : decode (qc y) pc = .ok (.if_icmp .ge off, 3)) (ht : (pc : Int) + off = (tgt : Int)) (kt : b ≤ a → X d MC MS y uc us tgt ls st M Q) (kf : ¬ b ≤ a → X d MC MS y uc us (pc + 3) ls st M Q) : X d MC MS y uc us pc ls (.int b :: .int a :: st) M Q := fun p l e R0 s m args below meth c D cA b0 sa H locs lsr hC hl hH hS => lv_icmp_ge hC.1 hC.2.1 hdg ht (fun h => kt h p l e R0 s m args below meth c D cA b0 sa H locs lsr hC hl hH hS) (fun h => kf h p l e R0 s m args below meth c D cA b0 sa H locs lsr hC hl hH hS)
theorem x_icmpgt {a b : Int32} {off : Int} {tgt : Nat} (hdg : decode (qc y) pc = .ok (.if_icmp .gt off, 3)) (ht : (pc : Int) + off = (tgt : Int)) (kt : b < a → X d MC MS y uc us tgt ls st M Q) (kf : ¬ b < a → X d MC MS y uc us (pc + 3) ls st M Q) : X d MC MS y uc us pc ls (.int b :: .int a :: st) M Q := fun p l e R0 s m args below meth c D cA b0 sa H locs lsr hC hl hH hS => lv_icmp_gt hC.1 hC.2.1 hdg ht (fun h => kt h p l e R0 s m args below meth c D cA b0 sa H locs lsr hC hl hH hS) (fun h => kf h p l e R0 s m args below meth c D cA b0 sa H locs lsr hC hl hH hS)
theorem x_icmple {a b : Int32} {off : Int} {tgt : Nat} (hdg : decode (qc y) pc = .ok (.if_icmp .le off, 3)) (ht : (pc : Int) + off = (tgt : Int)) (kt : a ≤ b → X d MC MS y uc us tgt ls st M Q) (kf : ¬ a ≤ b → X d MC MS y uc us (pc + 3) ls st M Q) : X d MC MS y uc us pc ls (.int b :: .int a :: st) M Q := fun p l e R0 s m args below meth c D cA b0 sa H locs lsr hC hl hH hS => lv_icmp_le hC.1 hC.2.1 hdg ht (fun h => kt h p l e R0 s m args below meth c D cA b0 sa H locs lsr hC hl hH hS) (fun h => kf h p l e R0 s m args below meth c D cA b0 sa H locs lsr hC hl hH hS)
theorem x_goto {off : Int} {tgt : Nat} (hdg : decode (qc y) pc = .ok (.goto off, 3)) (ht : (pc : Int) + off = (tgt : Int)) (k : X d MC MS y uc us tgt ls st M Q) : X d MC MS y uc us pc ls st M Q := fun p l e R0 s m args below meth c D cA b0 sa H locs lsr hC hl hH hS => lv_goto hC.1 hC.2.1 hdg ht (k p l e R0 s m args below meth c D cA b0 sa H locs lsr hC hl hH hS)
theorem x_ifnonnull {a : Nat} {off : Int} {tgt : Nat} (hdg : decode (qc y) pc = .ok (.ifnonnull off, 3)) (ht : (pc : Int) + off = (tgt : Int)) (k : X d MC MS y uc us tgt ls st M Q) : X d MC MS y uc us pc ls (.ref a :: st) M Q := fun p l e R0 s m args below meth c D cA b0 sa H locs lsr hC hl hH hS => lv_ifnonnull hC.1 hC.2.1 hdg ht (k p l e R0 s m args below meth c D cA b0 sa H locs lsr hC hl hH hS)
theorem x_ifnonnullN {off : Int} (hdg : decode (qc y) pc = .ok (.ifnonnull off, 3)) (k : X d MC MS y uc us (pc + 3) ls st M Q) : X d MC MS y uc us pc ls (.null :: st) M Q := fun p l e R0 s m args below meth c D cA b0 sa H locs lsr hC hl hH hS => lv_ifnonnullN hC.1 hC.2.1 hdg (k p l e R0 s m args below meth c D cA b0 sa H locs lsr hC hl hH hS)
theorem x_tableIn {dflt lo hi : Int} {offs : Array Int} {len : Nat} {x : Int32} {off : Int} {tgt : Nat} (hdg : decode (qc y) pc = .ok (.tableswitch dflt lo hi offs, len)) (h1 : ¬ x.toInt < lo) (h2 : ¬ hi < x.toInt) (ho : offs[(x.toInt - lo).toNat]? = some off) (ht : (pc : Int) + off = (tgt : Int)) (k : X d MC MS y uc us tgt ls st M Q) : X d MC MS y uc us pc ls (.int x :: st) M Q := fun p l e R0 s m args below meth c D cA b0 sa H locs lsr hC hl hH hS => lv_tableIn hC.1 hC.2.1 hdg h1 h2 ho ht (k p l e R0 s m args below meth c D cA b0 sa H locs lsr hC hl hH hS)
theorem x_tableOut {dflt lo hi : Int} {offs : Array Int} {len : Nat} {x : Int32} {tgt : Nat} (hdg : decode (qc y) pc = .ok (.tableswitch dflt lo hi offs, len)) (h : x.toInt < lo ∨ hi < x.toInt) (ht : (pc : Int) + dflt = (tgt : Int)) (k : X d MC MS y uc us tgt ls st M Q) : X d MC MS y uc us pc ls (.int x :: st) M Q := fun p l e R0 s m args below meth c D cA b0 sa H locs lsr hC hl hH hS => lv_tableOut hC.1 hC.2.1 hdg h ht (k p l e R0 s m args below meth c D cA b0 sa H locs lsr hC hl hH hS)
theorem x_lookup {dflt : Int} {ps : Array (Int × Int)} {len : Nat} {x : Int32} {off : Int} {tgt : Nat} (hdg : decode (qc y) pc = .ok (.lookupswitch dflt ps, len)) (hp : (ps.toList.zip (ps.toList.drop 1)).all (fun (a, next) => a.1 < next.1) = true) (ho : Op.lookupswitch.offset ps.toList dflt x.toInt = off) (ht : (pc : Int) + off = (tgt : Int)) (k : X d MC MS y uc us tgt ls st M Q) : X d MC MS y uc us pc ls (.int x :: st) M Q := fun p l e R0 s m args below meth c D cA b0 sa H locs lsr hC hl hH hS => lv_lookup hC.1 hC.2.1 hdg hp ho ht (k p l e R0 s m args below meth c D cA b0 sa H locs lsr hC hl hH hS)
theorem x_top {e : Int32} (k : ∀ x, x = e → X d MC MS y uc us pc ls (.int x :: st) M Q) : X d MC MS y uc us pc ls (.int e :: st) M Q := k e rfl
theorem x_topL {e : Int64} (k : ∀ x, x = e → X d MC MS y uc us pc ls (.long x :: st) M Q) : X d MC MS y uc us pc ls (.long e :: st) M Q := k e rfl
theorem x_eqv {e e2 : Int32} (he : e = e2) (k : X d MC MS y uc us pc ls (.int e2 :: st) M Q) : X d MC MS y uc us pc ls (.int e :: st) M Q := he ▸ k
theorem x_ild_n {k : Fin 4} {i : Nat} {a : Int32} (hdg : decode (qc y) pc = .ok (.iload_n k, 1)) (hi : (k : Nat) = i) (h : ls[i]? = some (some (.int a))) (k2 : X d MC MS y uc us (pc + 1) ls (.int a :: st) M Q) : X d MC MS y uc us pc ls st M Q := fun p l e R0 s m args below meth c D cA b0 sa H locs lsr hC hl hH hS => lv_iload_n hC.1 hC.2.1 hdg hi (q_ld hl h) (k2 p l e R0 s m args below meth c D cA b0 sa H locs lsr hC hl hH hS)
theorem x_ild_g {i : Nat} {a : Int32} (hdg : decode (qc y) pc = .ok (.iload i, 2)) (h : ls[i]? = some (some (.int a))) (k2 : X d MC MS y uc us (pc + 2) ls (.int a :: st) M Q) : X d MC MS y uc us pc ls st M Q := fun p l e R0 s m args below meth c D cA b0 sa H locs lsr hC hl hH hS => lv_iload hC.1 hC.2.1 hdg (q_ld hl h) (k2 p l e R0 s m args below meth c D cA b0 sa H locs lsr hC hl hH hS)
theorem x_lld_n {k : Fin 4} {i : Nat} {a : Int64} (hdg : decode (qc y) pc = .ok (.lload_n k, 1)) (hi : (k : Nat) = i) (h : ls[i]? = some (some (.long a))) (k2 : X d MC MS y uc us (pc + 1) ls (.long a :: st) M Q) : X d MC MS y uc us pc ls st M Q := fun p l e R0 s m args below meth c D cA b0 sa H locs lsr hC hl hH hS => lv_lload_n hC.1 hC.2.1 hdg hi (q_ld hl h) (k2 p l e R0 s m args below meth c D cA b0 sa H locs lsr hC hl hH hS)
theorem x_lld_g {i : Nat} {a : Int64} (hdg : decode (qc y) pc = .ok (.lload i, 2)) (h : ls[i]? = some (some (.long a))) (k2 : X d MC MS y uc us (pc + 2) ls (.long a :: st) M Q) : X d MC MS y uc us pc ls st M Q := fun p l e R0 s m args below meth c D cA b0 sa H locs lsr hC hl hH hS => lv_lload hC.1 hC.2.1 hdg (q_ld hl h) (k2 p l e R0 s m args below meth c D cA b0 sa H locs lsr hC hl hH hS)
theorem x_ald_n {k : Fin 4} {i a : Nat} (hdg : decode (qc y) pc = .ok (.aload_n k, 1)) (hi : (k : Nat) = i) (h : ls[i]? = some (some (.ref a))) (k2 : X d MC MS y uc us (pc + 1) ls (.ref a :: st) M Q) : X d MC MS y uc us pc ls st M Q := fun p l e R0 s m args below meth c D cA b0 sa H locs lsr hC hl hH hS => lv_aload_n hC.1 hC.2.1 hdg hi (q_ld hl h) (k2 p l e R0 s m args below meth c D cA b0 sa H locs lsr hC hl hH hS)
theorem x_ald_g {i a : Nat} (hdg : decode (qc y) pc = .ok (.aload i, 2)) (h : ls[i]? = some (some (.ref a))) (k2 : X d MC MS y uc us (pc + 2) ls (.ref a :: st) M Q) : X d MC MS y uc us pc ls st M Q := fun p l e R0 s m args below meth c D cA b0 sa H locs lsr hC hl hH hS => lv_aload hC.1 hC.2.1 hdg (q_ld hl h) (k2 p l e R0 s m args below meth c D cA b0 sa H locs lsr hC hl hH hS)
theorem x_ist_n {k : Fin 4} {i : Nat} {a : Int32} {ls2 : List (Option Value)} (hdg : decode (qc y) pc = .ok (.istore_n k, 1)) (hi : (k : Nat) = i) (hn : i < qml y) (hp : ∀ j w, j + 1 = i → ls[j]? = some (some w) → ¬ w.category = 2) (h2 : ls.set i (some (.int a)) = ls2) (k2 : X d MC MS y uc us (pc + 1) ls2 st M Q) : X d MC MS y uc us pc ls (.int a :: st) M Q := fun p l e R0 s m args below meth c D cA b0 sa H locs lsr hC hl hH hS => lv_istore_n hC.1 hC.2.1 hdg hi hl hn rfl (fun ls3 h3 => k2 p l e R0 s m args below meth c D cA b0 sa H locs ls3 hC (q_st1 (v := .int a) h3 hp h2) hH hS)
theorem x_ist_g {i : Nat} {a : Int32} {ls2 : List (Option Value)} (hdg : decode (qc y) pc = .ok (.istore i, 2)) (hn : i < qml y) (hp : ∀ j w, j + 1 = i → ls[j]? = some (some w) → ¬ w.category = 2) (h2 : ls.set i (some (.int a)) = ls2) (k2 : X d MC MS y uc us (pc + 2) ls2 st M Q) : X d MC MS y uc us pc ls (.int a :: st) M Q := fun p l e R0 s m args below meth c D cA b0 sa H locs lsr hC hl hH hS => lv_istore hC.1 hC.2.1 hdg hl hn rfl (fun ls3 h3 => k2 p l e R0 s m args below meth c D cA b0 sa H locs ls3 hC (q_st1 (v := .int a) h3 hp h2) hH hS)
theorem x_ast_n {k : Fin 4} {i : Nat} {a : Nat} {ls2 : List (Option Value)} (hdg : decode (qc y) pc = .ok (.astore_n k, 1)) (hi : (k : Nat) = i) (hn : i < qml y) (hp : ∀ j w, j + 1 = i → ls[j]? = some (some w) → ¬ w.category = 2) (h2 : ls.set i (some (.ref a)) = ls2) (k2 : X d MC MS y uc us (pc + 1) ls2 st M Q) : X d MC MS y uc us pc ls (.ref a :: st) M Q := fun p l e R0 s m args below meth c D cA b0 sa H locs lsr hC hl hH hS => lv_astore_n hC.1 hC.2.1 hdg hi hl hn rfl (fun ls3 h3 => k2 p l e R0 s m args below meth c D cA b0 sa H locs ls3 hC (q_st1 (v := .ref a) h3 hp h2) hH hS)
theorem x_ast_g {i : Nat} {a : Nat} {ls2 : List (Option Value)} (hdg : decode (qc y) pc = .ok (.astore i, 2)) (hn : i < qml y) (hp : ∀ j w, j + 1 = i → ls[j]? = some (some w) → ¬ w.category = 2) (h2 : ls.set i (some (.ref a)) = ls2) (k2 : X d MC MS y uc us (pc + 2) ls2 st M Q) : X d MC MS y uc us pc ls (.ref a :: st) M Q := fun p l e R0 s m args below meth c D cA b0 sa H locs lsr hC hl hH hS => lv_astore hC.1 hC.2.1 hdg hl hn rfl (fun ls3 h3 => k2 p l e R0 s m args below meth c D cA b0 sa H locs ls3 hC (q_st1 (v := .ref a) h3 hp h2) hH hS)
theorem x_lst_n {k : Fin 4} {i : Nat} {a : Int64} {ls2 : List (Option Value)} (hdg : decode (qc y) pc = .ok (.lstore_n k, 1)) (hi : (k : Nat) = i) (hn : i + 1 < qml y) (hp : ∀ j w, j + 1 = i → ls[j]? = some (some w) → ¬ w.category = 2) (h2 : (ls.set i (some (.long a))).set (i + 1) none = ls2) (k2 : X d MC MS y uc us (pc + 1) ls2 st M Q) : X d MC MS y uc us pc ls (.long a :: st) M Q := fun p l e R0 s m args below meth c D cA b0 sa H locs lsr hC hl hH hS => lv_lstore_n hC.1 hC.2.1 hdg hi hl hn rfl (fun ls3 h3 => k2 p l e R0 s m args below meth c D cA b0 sa H locs ls3 hC (q_st2 (v := .long a) h3 hp h2) hH hS)
theorem x_lst_g {i : Nat} {a : Int64} {ls2 : List (Option Value)} (hdg : decode (qc y) pc = .ok (.lstore i, 2)) (hn : i + 1 < qml y) (hp : ∀ j w, j + 1 = i → ls[j]? = some (some w) → ¬ w.category = 2) (h2 : (ls.set i (some (.long a))).set (i + 1) none = ls2) (k2 : X d MC MS y uc us (pc + 2) ls2 st M Q) : X d MC MS y uc us pc ls (.long a :: st) M Q := fun p l e R0 s m args below meth c D cA b0 sa H locs lsr hC hl hH hS => lv_lstore hC.1 hC.2.1 hdg hl hn rfl (fun ls3 h3 => k2 p l e R0 s m args below meth c D cA b0 sa H locs ls3 hC (q_st2 (v := .long a) h3 hp h2) hH hS)
theorem x_iinc_g {i : Nat} {n : Int} {a v : Int32} {ls2 : List (Option Value)} (hdg : decode (qc y) pc = .ok (.iinc i n, 3)) (h : ls[i]? = some (some (.int a))) (hv : a + Int32.ofInt n = v) (hn : i < qml y) (hp : ∀ j w, j + 1 = i → ls[j]? = some (some w) → ¬ w.category = 2) (h2 : ls.set i (some (.int v)) = ls2) (k2 : X d MC MS y uc us (pc + 3) ls2 st M Q) : X d MC MS y uc us pc ls st M Q := by
  intro p l e R0 s m args below meth c D cA b0 sa H locs lsr hC hl hH hS
  obtain ⟨k, hk⟩ := List.getElem?_of_mem ((qlp_mem (qg b0 sa) ls 0 (i, qv (qg b0 sa) (.int a))).mpr ⟨i, _, h, by simp⟩)
  exact lv_iinc hC.1 hC.2.1 hdg hl (k := k) hk hv hn rfl (fun ls3 h3 => k2 p l e R0 s m args below meth c D cA b0 sa H locs ls3 hC (q_st1 (v := .int v) h3 hp h2) hH hS)
end QX
