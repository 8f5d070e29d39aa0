/-! the grammar of the laws: what a text is, as a function of the tape b of n signs; an answer: the place, and what was read there or none (a fault at the place) -/
abbrev qRs (α : Type) := Nat × Option α
def qBd {α β : Type} (r : qRs α) (f : Nat → α → qRs β) : qRs β := match r with
  | (k, none) => (k, none)
  | (k, some a) => f k a
abbrev qDig (c : Int32) : Prop := 48 ≤ c ∧ c ≤ 57
abbrev qltr (c : Int32) : Prop := c = 109 ∨ c = 115 ∨ c = 116 ∨ c = 110 ∨ c = 108
def nx (b : Nat → Int32) (n k : Nat) : Nat := sk b (n - k) k
/-- digits: f more may stand here -/
def gDg (b : Nat → Int32) : Nat → Int32 → Nat → qRs Int32
  | 0, v, k => if qDig (b k) then (k, none) else (k, some v)
  | f + 1, v, k => if qDig (b k) then gDg b f (v * 10 + b k - 48) (k + 1) else (k, some v)
def gNum (b : Nat → Int32) (n m : Nat) (lo hi : Int32) (k : Nat) : qRs Int32 :=
  if qDig (b (nx b n k)) then qBd (gDg b m 0 (nx b n k)) (fun k2 v => if v < lo ∨ hi < v then (k2 - 1, none) else (k2, some v)) else (nx b n k, none)
abbrev qPr := Nat → qRs (List Int32)
def gSq (g h : qPr) : qPr := fun k => qBd (g k) (fun k1 c1 => qBd (h k1) (fun k2 c2 => (k2, some (c1 ++ c2))))
/-- as often as a sign of c stands there: el behind it, and the sign -/
def gLp (b : Nat → Int32) (n : Nat) (c : Int32 → Bool) (el : qPr) : Nat → qPr
  | 0, k => (nx b n k, some [])
  | f + 1, k => if c (b (nx b n k)) = true then qBd (el (nx b n k + 1)) (fun k2 c2 => qBd (gLp b n c el f k2) (fun k3 c3 => (k3, some (c2 ++ [-(b (nx b n k))] ++ c3)))) else (nx b n k, some [])
abbrev cMul (x : Int32) : Bool := decide (x = 42 ∨ x = 47)
abbrev cAdd (x : Int32) : Bool := decide (x = 43 ∨ x = 45)
abbrev cAnd (x : Int32) : Bool := decide (x = 38)
abbrev cOr (x : Int32) : Bool := decide (x = 124)
abbrev cCmp (x : Int32) : Bool := decide (x = 61 ∨ x = 60 ∨ x = 62)
def gTail (b : Nat → Int32) (n : Nat) (x : Int32) (r : qRs (List Int32)) : qRs (List Int32) := qBd r (fun k c => if b (nx b n k) = x then (nx b n k + 1, some c) else (nx b n k, none))
def gTerm (b : Nat → Int32) (n : Nat) (at_ : qPr) : qPr := gSq at_ (gLp b n cMul at_ 160)
def gSum (b : Nat → Int32) (n : Nat) (at_ : qPr) : qPr := gSq (gTerm b n at_) (gLp b n cAdd (gTerm b n at_) 160)
def gNmb (b : Nat → Int32) (n : Nat) (k : Nat) : qRs (List Int32) := qBd (gNum b n 4 0 9999 k) (fun k2 v => (k2, some [v]))
/-- an atom; so many brackets may still be opened -/
def gAtom (b : Nat → Int32) (n : Nat) : Nat → qPr
  | 0, k => if qDig (b (nx b n k)) then gNmb b n k else if qltr (b (nx b n k)) then (nx b n k + 1, some [-(b (nx b n k))]) else (nx b n k, none)
  | e + 1, k => if qDig (b (nx b n k)) then gNmb b n k else if qltr (b (nx b n k)) then (nx b n k + 1, some [-(b (nx b n k))]) else if b (nx b n k) = 91 then gTail b n 93 (gSum b n (gAtom b n e) (nx b n k + 1)) else (nx b n k, none)
def gCmp (b : Nat → Int32) (n e : Nat) : qPr := fun k =>
  if cCmp (b (nx b n k)) = true then qBd (gSum b n (gAtom b n e) (nx b n k + 1)) (fun k2 c2 => (k2, some (c2 ++ [-(b (nx b n k))]))) else (nx b n k, none)
def gTruth (b : Nat → Int32) (n : Nat) (un : qPr) : qPr := gSq un (gLp b n cAnd un 160)
def gCond (b : Nat → Int32) (n : Nat) (un : qPr) : qPr := gSq (gTruth b n un) (gLp b n cOr (gTruth b n un) 160)
def gSC (b : Nat → Int32) (n e : Nat) : qPr := gSq (gSum b n (gAtom b n e)) (gCmp b n e)
def gUnit (b : Nat → Int32) (n : Nat) : Nat → qPr
  | 0, k => if b (nx b n k) = 33 ∨ b (nx b n k) = 40 then (nx b n k, none) else gSC b n 0 (nx b n k)
  | e + 1, k => if b (nx b n k) = 33 then qBd (gUnit b n e (nx b n k + 1)) (fun k2 c => (k2, some (c ++ [-33]))) else if b (nx b n k) = 40 then gTail b n 41 (gCond b n (gUnit b n e) (nx b n k + 1)) else gSC b n (e + 1) (nx b n k)
/-- a clause: its condition or none, its sum -/
abbrev qUc := Option (List Int32) × List Int32
def gGuard (b : Nat → Int32) (n : Nat) (k : Nat) (t : List Int32) : qRs qUc :=
  if b (nx b n k) = 63 then qBd (gSum b n (gAtom b n 6) (nx b n k + 1)) (fun k2 s => (k2, some (some t, s))) else (nx b n k, none)
def gMore (b : Nat → Int32) (n : Nat) : qPr := gSq (gCmp b n 6) (gSq (gLp b n cAnd (gUnit b n 6) 160) (gLp b n cOr (gTruth b n (gUnit b n 6)) 160))
def gBody (b : Nat → Int32) (n : Nat) (k : Nat) : qRs qUc :=
  if b (nx b n k) = 33 ∨ b (nx b n k) = 40 then qBd (gCond b n (gUnit b n 6) (nx b n k)) (gGuard b n)
  else qBd (gSum b n (gAtom b n 6) (nx b n k)) (fun k1 s => if cCmp (b (nx b n k1)) = true then qBd (gMore b n (nx b n k1)) (fun k2 c => gGuard b n k2 (s ++ c)) else (nx b n k1, some (none, s)))
def gCl (b : Nat → Int32) (n : Nat) (k : Nat) : qRs qUc :=
  if b (nx b n k) = 121 then (if b (nx b n (nx b n k + 1)) = 58 then gBody b n (nx b n (nx b n k + 1) + 1) else (nx b n (nx b n k + 1), none)) else (nx b n k, none)
def gCls (b : Nat → Int32) (n : Nat) : Nat → Nat → qRs (List qUc)
  | 0, k => (nx b n k, some [])
  | f + 1, k => if b (nx b n k) = 59 then qBd (gCl b n (nx b n k + 1)) (fun k2 c => qBd (gCls b n f k2) (fun k3 cs => (k3, some (c :: cs)))) else (nx b n k, some [])
def gLaw (b : Nat → Int32) (n : Nat) : qRs (List qUc) :=
  qBd (gCl b n 0) (fun k1 c => qBd (gCls b n 160 k1) (fun k2 cs => if b (nx b n k2) = -1 then (nx b n k2, some (c :: cs)) else (nx b n k2, none)))
/-- the code of a clause -/
def cuC (c : qUc) : List Int32 := (match c.1 with | none => [] | some t => t ++ [-63]) ++ (c.2 ++ [-59])
def cuCs : List qUc → List Int32
  | [] => []
  | c :: r => cuC c ++ cuCs r
/-- where it ends, how long it is -/
def gW {α : Type} (w n : Nat) (len : α → Nat) (g : Nat → qRs α) : Prop := ∀ k, k ≤ n → (∀ k' c, g k = (k', some c) → k + w ≤ k' ∧ k' ≤ n ∧ k + len c ≤ k') ∧ (∀ k', g k = (k', none) → k ≤ k' ∧ k' ≤ n)
abbrev gL (w n : Nat) (g : qPr) : Prop := gW w n List.length g
section L36p
variable {b : Nat → Int32} {n : Nat}
theorem qBd_some {α β : Type} {r : qRs α} {f : Nat → α → qRs β} {k : Nat} {c : β} (h : qBd r f = (k, some c)) : ∃ k1 a, r = (k1, some a) ∧ f k1 a = (k, some c) := by
  obtain ⟨k1, a⟩ := r
  cases a with
  | none => simp [qBd] at h
  | some a => exact ⟨k1, a, rfl, h⟩
theorem qBd_none {α β : Type} {r : qRs α} {f : Nat → α → qRs β} {k : Nat} (h : qBd r f = (k, none)) : r = (k, none) ∨ ∃ k1 a, r = (k1, some a) ∧ f k1 a = (k, none) := by
  obtain ⟨k1, a⟩ := r
  cases a with
  | none => simp only [qBd, Prod.mk.injEq, and_true] at h; exact Or.inl (by rw [h])
  | some a => exact Or.inr ⟨k1, a, rfl, h⟩
theorem qBd_S {α β : Type} {r : qRs α} {f : Nat → α → qRs β} {k : Nat} {a : α} (h : r = (k, some a)) : qBd r f = f k a := by rw [h]; rfl
theorem qBd_N {α β : Type} {r : qRs α} {f : Nat → α → qRs β} {k : Nat} (h : r = (k, none)) : qBd r f = (k, none) := by rw [h]; rfl
theorem nx_ge (k : Nat) : k ≤ nx b n k := sk_ge b _ k
/-- the tape has no blanks behind its end, and -1 there -/
def qTb (b : Nat → Int32) (n : Nat) : Prop := ∀ k, n ≤ k → b k = -1
theorem qTb.no (h : qTb b n) : ∀ k, n ≤ k → ¬ b k = 32 := fun k hk e => by rw [h k hk] at e; exact absurd e (by decide)
theorem nx_le (h : qTb b n) {k : Nat} (hk : k ≤ n) : nx b n k ≤ n := sk_le b h.no _ k hk
theorem nx_no (h : qTb b n) {k : Nat} (hk : k ≤ n) : ¬ b (nx b n k) = 32 := sk_no b h.no _ k (by omega)
theorem nx_self {k : Nat} (h : ¬ b k = 32) : nx b n k = k := by
  unfold nx
  cases n - k with
  | zero => rfl
  | succ f => rw [sk, if_neg h]
theorem nx_nx (h : qTb b n) {k : Nat} (hk : k ≤ n) : nx b n (nx b n k) = nx b n k := nx_self (nx_no h hk)
/-- a sign that is not the end stands within -/
theorem qTb.lt (h : qTb b n) {k : Nat} (hb : ¬ b k = -1) : k < n := by
  by_cases c : n ≤ k
  · exact absurd (h k c) hb
  · omega
theorem qDig_n {c : Int32} (h : qDig c) : ¬ c = -1 := fun e => by rw [e] at h; exact absurd h.1 (by decide)
theorem qltr_n {c : Int32} (h : qltr c) : ¬ c = -1 := fun e => by rw [e] at h; revert h; decide
theorem gDg_W (h : qTb b n) : ∀ (f : Nat) (v : Int32) (k : Nat), k ≤ n → (∀ k' x, gDg b f v k = (k', some x) → k ≤ k' ∧ k' ≤ n ∧ (qDig (b k) → k < k')) ∧ (∀ k', gDg b f v k = (k', none) → k ≤ k' ∧ k' ≤ n) := by
  intro f
  induction f with
  | zero =>
    intro v k hk
    rw [gDg]
    by_cases c : qDig (b k)
    · rw [if_pos c]
      refine ⟨fun k' x e => ?_, fun k' e => ?_⟩
      · simp at e
      · simp only [Prod.mk.injEq, and_true] at e; omega
    · rw [if_neg c]
      refine ⟨fun k' x e => ?_, fun k' e => ?_⟩
      · simp only [Prod.mk.injEq] at e; exact ⟨by omega, by omega, fun q => absurd q c⟩
      · simp at e
  | succ f ih =>
    intro v k hk
    rw [gDg]
    by_cases c : qDig (b k)
    · rw [if_pos c]
      have hl := h.lt (qDig_n c)
      obtain ⟨i1, i2⟩ := ih (v * 10 + b k - 48) (k + 1) (by omega)
      refine ⟨fun k' x e => ?_, fun k' e => ?_⟩
      · have := i1 k' x e; exact ⟨by omega, by omega, fun _ => by omega⟩
      · have := i2 k' e; omega
    · rw [if_neg c]
      refine ⟨fun k' x e => ?_, fun k' e => ?_⟩
      · simp only [Prod.mk.injEq] at e; exact ⟨by omega, by omega, fun q => absurd q c⟩
      · simp at e
theorem gNum_W (h : qTb b n) (m : Nat) (lo hi : Int32) : gW 1 n (fun _ => 1) (gNum b n m lo hi) := by
  intro k hk
  have g1 := @nx_ge b n k
  have g2 := nx_le h hk
  unfold gNum
  by_cases c : qDig (b (nx b n k))
  · rw [if_pos c]
    obtain ⟨i1, i2⟩ := gDg_W h m 0 (nx b n k) g2
    refine ⟨fun k' x e => ?_, fun k' e => ?_⟩
    · obtain ⟨k1, a, e1, e2⟩ := qBd_some e
      have := i1 k1 a e1
      have h3 := this.2.2 c
      split at e2
      · simp at e2
      · simp only [Prod.mk.injEq] at e2; show k + 1 ≤ k' ∧ k' ≤ n ∧ k + 1 ≤ k'; omega
    · rcases qBd_none e with e1 | ⟨k1, a, e1, e2⟩
      · have := i2 k' e1; omega
      · have := i1 k1 a e1
        have h3 := this.2.2 c
        split at e2
        · simp only [Prod.mk.injEq] at e2; omega
        · simp at e2
  · rw [if_neg c]
    refine ⟨fun k' x e => ?_, fun k' e => ?_⟩
    · simp at e
    · simp only [Prod.mk.injEq, and_true] at e; omega
theorem gSq_W {g h : qPr} {w v : Nat} (hg : gL w n g) (hh : gL v n h) : gL (w + v) n (gSq g h) := by
  intro k hk
  obtain ⟨a1, a2⟩ := hg k hk
  refine ⟨fun k' x e => ?_, fun k' e => ?_⟩
  · obtain ⟨k1, c1, e1, e2⟩ := qBd_some e
    have t := a1 k1 c1 e1
    obtain ⟨k2, c2, e3, e4⟩ := qBd_some e2
    have u := (hh k1 t.2.1).1 k2 c2 e3
    simp only [Prod.mk.injEq, Option.some.injEq] at e4
    rw [← e4.2, List.length_append]
    omega
  · rcases qBd_none e with e1 | ⟨k1, c1, e1, e2⟩
    · have := a2 k' e1; omega
    · have t := a1 k1 c1 e1
      rcases qBd_none e2 with e3 | ⟨k2, c2, e3, e4⟩
      · have := (hh k1 t.2.1).2 k' e3; omega
      · simp at e4
theorem gLp_W (h : qTb b n) {c : Int32 → Bool} (hc : ∀ x, c x = true → ¬ x = -1) {el : qPr} (he : gL 1 n el) : ∀ f, gL 0 n (gLp b n c el f) := by
  intro f
  induction f with
  | zero =>
    intro k hk
    have g1 := @nx_ge b n k
    have g2 := nx_le h hk
    refine ⟨fun k' x e => ?_, fun k' e => ?_⟩
    · simp only [gLp, Prod.mk.injEq, Option.some.injEq] at e
      rw [← e.2]; simp only [List.length_nil]; omega
    · simp [gLp] at e
  | succ f ih =>
    intro k hk
    have g1 := @nx_ge b n k
    have g2 := nx_le h hk
    rw [gLp]
    by_cases q : c (b (nx b n k)) = true
    · rw [if_pos q]
      have hl := h.lt (hc _ q)
      obtain ⟨a1, a2⟩ := he (nx b n k + 1) (by omega)
      refine ⟨fun k' x e => ?_, fun k' e => ?_⟩
      · obtain ⟨k1, c1, e1, e2⟩ := qBd_some e
        have t := a1 k1 c1 e1
        obtain ⟨k2, c2, e3, e4⟩ := qBd_some e2
        have u := (ih k1 t.2.1).1 k2 c2 e3
        simp only [Prod.mk.injEq, Option.some.injEq] at e4
        rw [← e4.2, List.length_append, List.length_append, List.length_singleton]
        omega
      · rcases qBd_none e with e1 | ⟨k1, c1, e1, e2⟩
        · have := a2 k' e1; omega
        · have t := a1 k1 c1 e1
          rcases qBd_none e2 with e3 | ⟨k2, c2, e3, e4⟩
          · have := (ih k1 t.2.1).2 k' e3; omega
          · simp at e4
    · rw [if_neg q]
      refine ⟨fun k' x e => ?_, fun k' e => ?_⟩
      · simp only [Prod.mk.injEq, Option.some.injEq] at e
        rw [← e.2]; simp only [List.length_nil]; omega
      · simp at e
theorem cMul_n (x : Int32) (h : cMul x = true) : ¬ x = -1 := fun e => by rw [e] at h; revert h; decide
theorem cAdd_n (x : Int32) (h : cAdd x = true) : ¬ x = -1 := fun e => by rw [e] at h; revert h; decide
theorem cAnd_n (x : Int32) (h : cAnd x = true) : ¬ x = -1 := fun e => by rw [e] at h; revert h; decide
theorem cOr_n (x : Int32) (h : cOr x = true) : ¬ x = -1 := fun e => by rw [e] at h; revert h; decide
theorem cCmp_n (x : Int32) (h : cCmp x = true) : ¬ x = -1 := fun e => by rw [e] at h; revert h; decide
theorem gTerm_W (h : qTb b n) {a : qPr} (ha : gL 1 n a) : gL 1 n (gTerm b n a) := gSq_W ha (gLp_W h cMul_n ha 160)
theorem gSum_W (h : qTb b n) {a : qPr} (ha : gL 1 n a) : gL 1 n (gSum b n a) := gSq_W (gTerm_W h ha) (gLp_W h cAdd_n (gTerm_W h ha) 160)
theorem gTail_W (h : qTb b n) {x : Int32} (hx : ¬ x = -1) {g : qPr} (hg : gL 1 n g) : gL 1 n (fun k => gTail b n x (g k)) := by
  intro k hk
  obtain ⟨a1, a2⟩ := hg k hk
  refine ⟨fun k' y e => ?_, fun k' e => ?_⟩
  · obtain ⟨k1, c1, e1, e2⟩ := qBd_some e
    have t := a1 k1 c1 e1
    have g1 := @nx_ge b n k1
    by_cases q : b (nx b n k1) = x
    · have hl := h.lt (k := nx b n k1) (by rw [q]; exact hx)
      rw [if_pos q] at e2
      simp only [Prod.mk.injEq, Option.some.injEq] at e2
      rw [← e2.2]; omega
    · rw [if_neg q] at e2; simp at e2
  · rcases qBd_none e with e1 | ⟨k1, c1, e1, e2⟩
    · have := a2 k' e1; omega
    · have t := a1 k1 c1 e1
      have g1 := @nx_ge b n k1
      have g2 := nx_le h t.2.1
      split at e2
      · simp at e2
      · simp only [Prod.mk.injEq, and_true] at e2; omega
theorem gNmb_W (h : qTb b n) : gL 1 n (gNmb b n) := by
  intro k hk
  obtain ⟨a1, a2⟩ := gNum_W h 4 0 9999 k hk
  refine ⟨fun k' y e => ?_, fun k' e => ?_⟩
  · obtain ⟨k1, c1, e1, e2⟩ := qBd_some e
    have t := a1 k1 c1 e1
    simp only [Prod.mk.injEq, Option.some.injEq] at e2
    rw [← e2.2]; simp only [List.length_singleton]; omega
  · rcases qBd_none e with e1 | ⟨k1, c1, e1, e2⟩
    · exact a2 k' e1
    · simp at e2
/-- one step behind the blanks -/
theorem gW_1 {α : Type} {len : α → Nat} {g : Nat → qRs α} {h' : Nat → qRs α} {k : Nat} (h : qTb b n) (hk : k ≤ n) (hl : nx b n k < n) (hg : ((∀ k' c, g (nx b n k + 1) = (k', some c) → nx b n k + 1 + 0 ≤ k' ∧ k' ≤ n ∧ nx b n k + 1 + len c ≤ k') ∧ (∀ k', g (nx b n k + 1) = (k', none) → nx b n k + 1 ≤ k' ∧ k' ≤ n))) (e : h' k = g (nx b n k + 1)) : (∀ k' c, h' k = (k', some c) → k + 1 ≤ k' ∧ k' ≤ n ∧ k + len c ≤ k') ∧ (∀ k', h' k = (k', none) → k ≤ k' ∧ k' ≤ n) := by
  have g1 := @nx_ge b n k
  rw [e]
  exact ⟨fun k' c q => by have := hg.1 k' c q; omega, fun k' q => by have := hg.2 k' q; omega⟩
theorem gAtom_W (h : qTb b n) : ∀ e, gL 1 n (gAtom b n e) := by
  have hn : ∀ k, k ≤ n → (∀ k' (c : List Int32), ((nx b n k, none) : qRs (List Int32)) = (k', some c) → k + 1 ≤ k' ∧ k' ≤ n ∧ k + c.length ≤ k') ∧ (∀ k', ((nx b n k, none) : qRs (List Int32)) = (k', none) → k ≤ k' ∧ k' ≤ n) := fun k hk => by
    have g1 := @nx_ge b n k
    have g2 := nx_le h hk
    refine ⟨fun k' c e => ?_, fun k' e => ?_⟩
    · simp at e
    · simp only [Prod.mk.injEq, and_true] at e; omega
  have hlt : ∀ k, k ≤ n → qltr (b (nx b n k)) → (∀ k' (c : List Int32), ((nx b n k + 1, some [-(b (nx b n k))]) : qRs (List Int32)) = (k', some c) → k + 1 ≤ k' ∧ k' ≤ n ∧ k + c.length ≤ k') ∧ (∀ k', ((nx b n k + 1, some [-(b (nx b n k))]) : qRs (List Int32)) = (k', none) → k ≤ k' ∧ k' ≤ n) := fun k hk q => by
    have g1 := @nx_ge b n k
    have hl := h.lt (qltr_n q)
    refine ⟨fun k' c e => ?_, fun k' e => ?_⟩
    · simp only [Prod.mk.injEq, Option.some.injEq] at e
      rw [← e.2]; simp only [List.length_singleton]; omega
    · simp at e
  intro e
  induction e with
  | zero =>
    intro k hk
    rw [gAtom]
    split
    · exact gNmb_W h k hk
    · split
      · next q => exact hlt k hk q
      · exact hn k hk
  | succ e ih =>
    intro k hk
    have g1 := @nx_ge b n k
    rw [gAtom]
    split
    · exact gNmb_W h k hk
    · split
      · next q => exact hlt k hk q
      · split
        · next q =>
          have hl := h.lt (k := nx b n k) (by rw [q]; decide)
          obtain ⟨a1, a2⟩ := gTail_W h (x := 93) (by decide) (gSum_W h ih) (nx b n k + 1) (by omega)
          exact ⟨fun k' c e => by have := a1 k' c e; omega, fun k' e => by have := a2 k' e; omega⟩
        · exact hn k hk
theorem gS_W (h : qTb b n) (e : Nat) : gL 1 n (gSum b n (gAtom b n e)) := gSum_W h (gAtom_W h e)
theorem gCmp_W (h : qTb b n) (e : Nat) : gL 1 n (gCmp b n e) := by
  intro k hk
  have g1 := @nx_ge b n k
  have g2 := nx_le h hk
  unfold gCmp
  by_cases q : cCmp (b (nx b n k)) = true
  · rw [if_pos q]
    have hl := h.lt (cCmp_n _ q)
    obtain ⟨a1, a2⟩ := gS_W h e (nx b n k + 1) (by omega)
    refine ⟨fun k' y e => ?_, fun k' e => ?_⟩
    · obtain ⟨k1, c1, e1, e2⟩ := qBd_some e
      have t := a1 k1 c1 e1
      simp only [Prod.mk.injEq, Option.some.injEq] at e2
      rw [← e2.2, List.length_append, List.length_singleton]; omega
    · rcases qBd_none e with e1 | ⟨k1, c1, e1, e2⟩
      · have := a2 k' e1; omega
      · simp at e2
  · rw [if_neg q]
    refine ⟨fun k' c e => ?_, fun k' e => ?_⟩
    · simp at e
    · simp only [Prod.mk.injEq, and_true] at e; omega
theorem gSC_W (h : qTb b n) (e : Nat) : gL 2 n (gSC b n e) := gSq_W (gS_W h e) (gCmp_W h e)
theorem gTruth_W (h : qTb b n) {a : qPr} (ha : gL 1 n a) : gL 1 n (gTruth b n a) := gSq_W ha (gLp_W h cAnd_n ha 160)
theorem gCond_W (h : qTb b n) {a : qPr} (ha : gL 1 n a) : gL 1 n (gCond b n a) := gSq_W (gTruth_W h ha) (gLp_W h cOr_n (gTruth_W h ha) 160)
theorem gUnit_W (h : qTb b n) : ∀ e, gL 1 n (gUnit b n e) := by
  have hS : ∀ e k, k ≤ n → (∀ k' c, gSC b n e (nx b n k) = (k', some c) → k + 1 ≤ k' ∧ k' ≤ n ∧ k + c.length ≤ k') ∧ (∀ k', gSC b n e (nx b n k) = (k', none) → k ≤ k' ∧ k' ≤ n) := fun e k hk => by
    have g1 := @nx_ge b n k
    obtain ⟨a1, a2⟩ := gSC_W h e (nx b n k) (nx_le h hk)
    exact ⟨fun k' c q => by have := a1 k' c q; omega, fun k' q => by have := a2 k' q; omega⟩
  intro e
  induction e with
  | zero =>
    intro k hk
    have g1 := @nx_ge b n k
    have g2 := nx_le h hk
    rw [gUnit]
    split
    · refine ⟨fun k' c e => ?_, fun k' e => ?_⟩
      · simp at e
      · simp only [Prod.mk.injEq, and_true] at e; omega
    · exact hS 0 k hk
  | succ e ih =>
    intro k hk
    have g1 := @nx_ge b n k
    rw [gUnit]
    split
    · next q =>
      have hl := h.lt (k := nx b n k) (by rw [q]; decide)
      obtain ⟨a1, a2⟩ := ih (nx b n k + 1) (by omega)
      refine ⟨fun k' y e => ?_, fun k' e => ?_⟩
      · obtain ⟨k1, c1, e1, e2⟩ := qBd_some e
        have t := a1 k1 c1 e1
        simp only [Prod.mk.injEq, Option.some.injEq] at e2
        rw [← e2.2, List.length_append, List.length_singleton]; omega
      · rcases qBd_none e with e1 | ⟨k1, c1, e1, e2⟩
        · have := a2 k' e1; omega
        · simp at e2
    · split
      · next q =>
        have hl := h.lt (k := nx b n k) (by rw [q]; decide)
        obtain ⟨a1, a2⟩ := gTail_W h (x := 41) (by decide) (gCond_W h ih) (nx b n k + 1) (by omega)
        exact ⟨fun k' c e => by have := a1 k' c e; omega, fun k' e => by have := a2 k' e; omega⟩
      · exact hS (e + 1) k hk
theorem gMore_W (h : qTb b n) : gL 1 n (gMore b n) := gSq_W (gCmp_W h 6) (gSq_W (v := 0) (gLp_W h cAnd_n (gUnit_W h 6) 160) (gLp_W h cOr_n (gTruth_W h (gUnit_W h 6)) 160))
end L36p
