/-! laws worked out: what they are worth -/
def bnd (x : Int64) : Int32 := (if (if x < 1000000 then x else 1000000) < (-1000000) then (-1000000) else (if x < 1000000 then x else 1000000)).toInt32
def rkL (op : Int32) (a b : Int64) : Int32 := if op = 43 then bnd (a + b) else if op = 45 then bnd (a - b) else if op = 42 then bnd (a * b) else if b = 0 then 0 else bnd (a / b)
def rk (op : Int32) (a b : Int32) : Int32 := rkL op a.toInt64 b.toInt64
/-- what each letter is worth -/
abbrev Ev := Int32 → Int32
def qb (p : Prop) [Decidable p] : Int32 := if p then 1 else 0
def qcp (op a b : Int32) : Int32 := if op = 61 then qb (a = b) else if op = 60 then qb (a < b) else qb (b < a)
def qlet (c : Int32) : Prop := c = 109 ∨ c = 115 ∨ c = 116 ∨ c = 110 ∨ c = 108
/-- the code of a sum, what it is worth, how deep the stack gets: the least such -/
def qSu (code : List Int32) (val : Ev → Int32) (dp : Nat) : Prop :=
  ∀ P : List Int32 → (Ev → Int32) → Nat → Prop,
    (∀ x, 0 ≤ x → x ≤ 9999 → P [x] (fun _ => x) 1) →
    (∀ c, qlet c → P [-c] (fun v => v c) 1) →
    (∀ op a b va vb da db, op = 43 ∨ op = 45 ∨ op = 42 ∨ op = 47 → P a va da → P b vb db → P (a ++ b ++ [-op]) (fun v => rk op (va v) (vb v)) (max da (db + 1))) →
    P code val dp
theorem qSu_num {x : Int32} (h1 : 0 ≤ x) (h2 : x ≤ 9999) : qSu [x] (fun _ => x) 1 := fun _ f _ _ => f x h1 h2
theorem qSu_let {c : Int32} (h : qlet c) : qSu [-c] (fun v => v c) 1 := fun _ _ f _ => f c h
theorem qSu_bin {op : Int32} {a b : List Int32} {va vb : Ev → Int32} {da db : Nat} (h : op = 43 ∨ op = 45 ∨ op = 42 ∨ op = 47) (ha : qSu a va da) (hb : qSu b vb db) : qSu (a ++ b ++ [-op]) (fun v => rk op (va v) (vb v)) (max da (db + 1)) := fun P f g k => k op a b va vb da db h (ha P f g k) (hb P f g k)
def qTr (code : List Int32) (val : Ev → Int32) (dp : Nat) : Prop :=
  ∀ P : List Int32 → (Ev → Int32) → Nat → Prop,
    (∀ op a b va vb da db, op = 61 ∨ op = 60 ∨ op = 62 → qSu a va da → qSu b vb db → P (a ++ b ++ [-op]) (fun v => qcp op (va v) (vb v)) (max da (db + 1))) →
    (∀ a va da, P a va da → P (a ++ [-33]) (fun v => qb (va v = 0)) da) →
    (∀ a b va vb da db, P a va da → P b vb db → P (a ++ b ++ [-38]) (fun v => qb (¬ va v = 0 ∧ ¬ vb v = 0)) (max da (db + 1))) →
    (∀ a b va vb da db, P a va da → P b vb db → P (a ++ b ++ [-124]) (fun v => qb (¬ va v = 0 ∨ ¬ vb v = 0)) (max da (db + 1))) →
    P code val dp
theorem qTr_cmp {op : Int32} {a b : List Int32} {va vb : Ev → Int32} {da db : Nat} (h : op = 61 ∨ op = 60 ∨ op = 62) (ha : qSu a va da) (hb : qSu b vb db) : qTr (a ++ b ++ [-op]) (fun v => qcp op (va v) (vb v)) (max da (db + 1)) := fun _ f _ _ _ => f op a b va vb da db h ha hb
theorem qTr_not {a : List Int32} {va : Ev → Int32} {da : Nat} (ha : qTr a va da) : qTr (a ++ [-33]) (fun v => qb (va v = 0)) da := fun P f g h k => g a va da (ha P f g h k)
theorem qTr_and {a b : List Int32} {va vb : Ev → Int32} {da db : Nat} (ha : qTr a va da) (hb : qTr b vb db) : qTr (a ++ b ++ [-38]) (fun v => qb (¬ va v = 0 ∧ ¬ vb v = 0)) (max da (db + 1)) := fun P f g h k => h a b va vb da db (ha P f g h k) (hb P f g h k)
theorem qTr_or {a b : List Int32} {va vb : Ev → Int32} {da db : Nat} (ha : qTr a va da) (hb : qTr b vb db) : qTr (a ++ b ++ [-124]) (fun v => qb (¬ va v = 0 ∨ ¬ vb v = 0)) (max da (db + 1)) := fun P f g h k => k a b va vb da db (ha P f g h k) (hb P f g h k)
theorem qb_bit (p : Prop) [Decidable p] : qb p = 0 ∨ qb p = 1 := by
  unfold qb
  split <;> simp
theorem qcp_bit (op a b : Int32) : qcp op a b = 0 ∨ qcp op a b = 1 := by
  unfold qcp
  repeat' split
  all_goals exact qb_bit _
theorem qTr_bit {a : List Int32} {va : Ev → Int32} {da : Nat} (h : qTr a va da) : ∀ v, va v = 0 ∨ va v = 1 :=
  h (fun _ va _ => ∀ v, va v = 0 ∨ va v = 1) (fun _ _ _ _ _ _ _ _ _ _ _ => qcp_bit _ _ _) (fun _ _ _ _ _ => qb_bit _) (fun _ _ _ _ _ _ _ _ _ => qb_bit _) (fun _ _ _ _ _ _ _ _ _ => qb_bit _)
theorem qSu_pos {a : List Int32} {va : Ev → Int32} {da : Nat} (h : qSu a va da) : 0 < da :=
  h (fun _ _ d => 0 < d) (fun _ _ _ => Nat.lt_succ_self 0) (fun _ _ => Nat.lt_succ_self 0) (fun _ _ _ _ _ da db _ h1 _ => by omega)
theorem qTr_pos {a : List Int32} {va : Ev → Int32} {da : Nat} (h : qTr a va da) : 0 < da :=
  h (fun _ _ d => 0 < d) (fun _ _ _ _ _ da db _ h1 _ => by have := qSu_pos h1; omega) (fun _ _ _ h => h) (fun _ _ _ _ da db h1 _ => by omega) (fun _ _ _ _ da db h1 _ => by omega)
abbrev qTm := List Int32 × (Ev → Int32)
abbrev qCls := Option qTm × qTm
def qClsOk (c : qCls) : Prop := (∀ t, c.1 = some t → ∃ d, d ≤ 80 ∧ qTr t.1 t.2 d) ∧ ∃ d, d ≤ 80 ∧ qSu c.2.1 c.2.2 d
/-- what a text of clauses is worth -/
def qWorth (v : Ev) : List qCls → Int32
  | [] => 0
  | (none, s) :: _ => s.2 v
  | (some t, s) :: r => if t.2 v = 0 then qWorth v r else s.2 v
/-- the class's code of a text -/
def qCode1 (c : qCls) : List Int32 := (match c.1 with | none => [] | some t => t.1 ++ [-63]) ++ (c.2.1 ++ [-59])
def qCode : List qCls → List Int32
  | [] => []
  | c :: r => qCode1 c ++ qCode r
/-- the array f holds l from p on -/
def qHas (f : Nat → Int32) (p : Nat) (l : List Int32) : Prop := ∀ j x, l[j]? = some x → f (p + j) = x
theorem qHas_app {f : Nat → Int32} {p : Nat} {l m : List Int32} (h : qHas f p (l ++ m)) : qHas f p l ∧ qHas f (p + l.length) m := by
  constructor
  · intro j x e
    refine h j x ?_
    rw [List.getElem?_append_left (List.getElem?_eq_some_iff.mp e).1]
    exact e
  · intro j x e
    rw [Nat.add_assoc]
    refine h (l.length + j) x ?_
    rw [List.getElem?_append_right (by omega), Nat.add_sub_cancel_left]
    exact e
theorem qHas_1 {f : Nat → Int32} {p : Nat} {x : Int32} (h : qHas f p [x]) : f p = x := h 0 x rfl
theorem w_eq {a b : Int32} : a.toInt64 = b.toInt64 ↔ a = b := by
  rw [← Int64.toInt_inj, Int32.toInt_toInt64, Int32.toInt_toInt64, Int32.toInt_inj]
theorem w_lt {a b : Int32} : a.toInt64 < b.toInt64 ↔ a < b := by
  rw [Int64.lt_iff_toInt_lt, Int32.toInt_toInt64, Int32.toInt_toInt64, Int32.lt_iff_toInt_lt]
theorem lg_cmp0 {a b : Int64} : lg_cmp a b = 0 ↔ a = b := by
  unfold lg_cmp
  by_cases h1 : a < b <;> by_cases h2 : b < a <;> by_cases h3 : a = b
  all_goals first
    | (subst h3; exact absurd h1 (Int64.lt_irrefl _))
    | (subst h3; exact absurd h2 (Int64.lt_irrefl _))
    | (rw [Int64.lt_iff_toInt_lt] at h1 h2; rw [← Int64.toInt_inj] at h3; omega)
    | simp [h1, h2, h3]
theorem lg_cmpL {a b : Int64} : 0 ≤ lg_cmp a b ↔ ¬ a < b := by
  unfold lg_cmp
  by_cases h1 : a < b <;> by_cases h2 : b < a <;> by_cases h3 : a = b
  all_goals first
    | (subst h3; exact absurd h1 (Int64.lt_irrefl _))
    | (subst h3; exact absurd h2 (Int64.lt_irrefl _))
    | (rw [Int64.lt_iff_toInt_lt] at h1 h2; rw [← Int64.toInt_inj] at h3; omega)
    | simp [h1, h2, h3]
theorem lg_cmpG {a b : Int64} : lg_cmp a b ≤ 0 ↔ ¬ b < a := by
  unfold lg_cmp
  by_cases h1 : a < b <;> by_cases h2 : b < a <;> by_cases h3 : a = b
  all_goals first
    | (subst h3; exact absurd h1 (Int64.lt_irrefl _))
    | (subst h3; exact absurd h2 (Int64.lt_irrefl _))
    | (rw [Int64.lt_iff_toInt_lt] at h1 h2; rw [← Int64.toInt_inj] at h3; omega)
    | simp [h1, h2, h3]
/-- a law's memory while it is worked out: height h, stack S -/
def qLm (I : Nat → Nat → Int32) (o : Nat) (h : Int32) (S : Nat → Int32) : Nat → Nat → Int32 := va_up (va_up I (o + 2) S) o (upd (I o) 3 h)
theorem qLm_h {I : Nat → Nat → Int32} {o : Nat} {h : Int32} {S : Nat → Int32} : qLm I o h S o 3 = h := by simp [qLm, va_up, upd]
theorem qLm_1 {I : Nat → Nat → Int32} {o : Nat} {h : Int32} {S : Nat → Int32} : qLm I o h S o 1 = I o 1 := by simp [qLm, va_up, upd]
theorem qLm_c {I : Nat → Nat → Int32} {o : Nat} {h : Int32} {S : Nat → Int32} : qLm I o h S (o + 1) = I (o + 1) := by rw [qLm, vu_n (by omega), vu_n (by omega)]
theorem qLm_s {I : Nat → Nat → Int32} {o : Nat} {h : Int32} {S : Nat → Int32} : qLm I o h S (o + 2) = S := by rw [qLm, vu_n (by omega), vu_s]
theorem qLm_o {I : Nat → Nat → Int32} {o j : Nat} {h : Int32} {S : Nat → Int32} (h1 : j ≠ o) (h2 : j ≠ o + 2) : qLm I o h S j = I j := by rw [qLm, vu_n h1, vu_n h2]
theorem upd_t {f : Nat → Int32} {i : Nat} {x y : Int32} : upd (upd f i x) i y = upd f i y := by funext k; simp only [upd]; split <;> rfl
theorem qLm_hh {I : Nat → Nat → Int32} {o : Nat} {h g : Int32} {S : Nat → Int32} : va_up (qLm I o h S) o (upd (qLm I o h S o) 3 g) = qLm I o g S := by
  simp only [qLm, vu_s, vu_t, upd_t]
theorem qLm_ps {I : Nat → Nat → Int32} {o : Nat} {h g : Int32} {S T : Nat → Int32} : va_up (va_up (qLm I o h S) (o + 2) T) o (upd (qLm I o h S o) 3 g) = qLm I o g T := by
  funext j
  simp only [qLm, vu_s, upd_t]
  by_cases h1 : j = o
  · subst h1; simp [va_up]
  · by_cases h2 : j = o + 2
    · subst h2; simp [va_up]
    · simp [va_up, h1, h2]
