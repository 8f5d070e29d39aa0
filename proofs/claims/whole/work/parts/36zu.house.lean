/-! the grammar of the houses -/
/-- the column of a letter: of servants 0, masters 1, tasks 2 -/
def gCol (j : Nat) (c : Int32) : Option Nat := if j = 0 then (if c = 97 then some 0 else if c = 111 then some 1 else if c = 119 then some 2 else none) else if j = 1 then (if c = 97 then some 0 else none) else (if c = 114 then some 0 else if c = 104 then some 1 else if c = 110 then some 2 else if c = 112 then some 3 else none)
def hLo (j i : Nat) : Int32 := if j = 2 ∧ (i = 1 ∨ i = 2) then 1 else 0
/-- rooms r, the task is the t-th -/
def hHi (r t j i : Nat) : Int32 := if j = 0 ∧ i = 1 then 2 else if j = 0 ∧ i = 2 then 9 else if j = 2 ∧ i = 1 then 3 else if j = 2 ∧ i = 2 then 30 else if j = 2 ∧ i = 3 then nI t - 1 else nI r - 1
def gIt (b : Nat → Int32) (n j r t : Nat) : Nat → Nat → (Nat → Int32) → Nat → qRs (Nat → Int32)
  | 0, _, row, k => (nx b n k, some row)
  | f + 1, told, row, k => match gCol j (b (nx b n k)) with
    | none => (nx b n k, some row)
    | some i => if told.testBit i = true then (nx b n k, none) else qBd (gNum b n 2 (hLo j i) (hHi r t j i) (nx b n k + 1)) (fun k2 v => gIt b n j r t f (told ||| (1 <<< i)) (upd row i v) k2)
def hD (j : Nat) : Nat → Int32 := fun i => if j = 0 then (if i = 1 then -1 else if i = 2 then 1 else 0) else if j = 1 then 0 else (if i = 1 then 1 else if i = 2 then 5 else if i = 3 then -1 else 0)
/-- servants, masters, tasks; their rows -/
abbrev qHs := (Nat × Nat × Nat) × (Nat → Nat → Int32) × (Nat → Nat → Int32) × (Nat → Nat → Int32)
def hs0 : qHs := ((0, 0, 0), fun _ => hD 0, fun _ => hD 1, fun _ => hD 2)
def hs1 (h : qHs) (j : Nat) (row : Nat → Int32) : qHs := if j = 0 then ((h.1.1 + 1, h.1.2.1, h.1.2.2), (fun s => if s = h.1.1 then row else h.2.1 s), h.2.2.1, h.2.2.2) else if j = 1 then ((h.1.1, h.1.2.1 + 1, h.1.2.2), h.2.1, (fun s => if s = h.1.2.1 then row else h.2.2.1 s), h.2.2.2) else ((h.1.1, h.1.2.1, h.1.2.2 + 1), h.2.1, h.2.2.1, fun s => if s = h.1.2.2 then row else h.2.2.2 s)
/-- which kind of clause may begin with c -/
def gKd (h : qHs) (c : Int32) : Option Nat := if c = 115 ∧ h.1.1 < 5 then some 0 else if c = 109 ∧ h.1.2.1 < 3 then some 1 else if c = 116 ∧ h.1.2.2 < 4 then some 2 else none
def gHc (b : Nat → Int32) (n r : Nat) (h : qHs) (k : Nat) : qRs qHs := match gKd h (b (nx b n k)) with
  | none => (nx b n k, none)
  | some j => qBd (gIt b n j r h.1.2.2 (sLen j + 1) 0 (hD j) (nx b n k + 1)) (fun k2 row => (k2, some (hs1 h j row)))
def gHl (b : Nat → Int32) (n r : Nat) : Nat → qHs → Nat → qRs qHs
  | 0, h, k => (nx b n k, some h)
  | f + 1, h, k => if b (nx b n k) = 59 then qBd (gHc b n r h (nx b n k + 1)) (fun k2 h2 => gHl b n r f h2 k2) else (nx b n k, some h)
def hWh (h : qHs) : Prop := 1 ≤ h.1.1 ∧ 1 ≤ h.1.2.1 ∧ ∀ s, s < h.1.1 → ¬ nI h.1.2.1 ≤ h.2.1 s 1
noncomputable def gHe (b : Nat → Int32) (n : Nat) (k : Nat) (h : qHs) : qRs qHs := haveI := Classical.propDecidable (b (nx b n k) = -1 ∧ hWh h); if b (nx b n k) = -1 ∧ hWh h then (nx b n k, some h) else (nx b n k, none)
noncomputable def gHouse (b : Nat → Int32) (n : Nat) : qRs (Int32 × qHs) := if b (nx b n 0) = 114 then qBd (gNum b n 2 2 6 (nx b n 0 + 1)) (fun k1 r => qBd (qBd (gHl b n r.toNatClampNeg 160 hs0 k1) (gHe b n)) (fun k2 h => (k2, some (r, h)))) else (nx b n 0, none)
section L36zu
variable {b : Nat → Int32} {n : Nat}
theorem gCol_lt {j i : Nat} {c : Int32} (h : gCol j c = some i) : i < sLen j ∨ 2 < j := by
  by_cases hj : 2 < j
  · exact Or.inr hj
  · left
    unfold gCol at h
    have : j = 0 ∨ j = 1 ∨ j = 2 := by omega
    rcases this with rfl | rfl | rfl
    · rw [if_pos rfl] at h
      split at h
      · cases h; decide
      · split at h
        · cases h; decide
        · split at h
          · cases h; decide
          · cases h
    · rw [if_neg (by decide), if_pos rfl] at h
      split at h
      · cases h; decide
      · cases h
    · rw [if_neg (by decide), if_neg (by decide)] at h
      split at h
      · cases h; decide
      · split at h
        · cases h; decide
        · split at h
          · cases h; decide
          · split at h
            · cases h; decide
            · cases h
theorem gCol_n {j i : Nat} {c : Int32} (h : gCol j c = some i) : ¬ c = -1 := fun e => by
  rw [e] at h
  have hn : gCol j (-1) = none := by
    unfold gCol
    by_cases h0 : j = 0
    · rw [if_pos h0]; rfl
    · rw [if_neg h0]
      by_cases h1 : j = 1
      · rw [if_pos h1]; rfl
      · rw [if_neg h1]; rfl
  rw [hn] at h; cases h
theorem gCol_no {j : Nat} {i : Nat} {c : Int32} (h : gCol j c = some i) : ¬ c = 59 := fun e => by
  rw [e] at h
  have hn : gCol j 59 = none := by
    unfold gCol
    by_cases h0 : j = 0
    · rw [if_pos h0]; rfl
    · rw [if_neg h0]
      by_cases h1 : j = 1
      · rw [if_pos h1]; rfl
      · rw [if_neg h1]; rfl
  rw [hn] at h; cases h
theorem gIt_W (hb : qTb b n) {j r t : Nat} : ∀ f told row, gW 0 n (fun _ => 0) (gIt b n j r t f told row) := by
  intro f
  induction f with
  | zero =>
    intro told row k hk
    have g1 := @nx_ge b n k
    have g2 := nx_le hb hk
    refine ⟨fun k' c e => ?_, fun k' e => ?_⟩
    · simp only [gIt, Prod.mk.injEq] at e; exact ⟨by omega, by omega, by show k + 0 ≤ k'; omega⟩
    · simp [gIt] at e
  | succ f ih =>
    intro told row k hk
    have g1 := @nx_ge b n k
    have g2 := nx_le hb hk
    refine ⟨fun k' c e => ?_, fun k' e => ?_⟩
    · show k + 0 ≤ k' ∧ k' ≤ n ∧ k + 0 ≤ k'
      rw [gIt] at e
      cases hg : gCol j (b (nx b n k)) with
      | none => rw [hg] at e; simp only [Prod.mk.injEq] at e; omega
      | some i =>
        rw [hg] at e
        have hl := hb.lt (gCol_n hg)
        dsimp only at e
        split at e
        · simp at e
        · obtain ⟨k1, v, e1, e2⟩ := qBd_some e
          have w := (gNum_W hb 2 (hLo j i) (hHi r t j i) _ (by omega)).1 _ _ e1
          have u := (ih _ _ k1 w.2.1).1 _ _ e2
          have u1 : k1 + 0 ≤ k' := u.1
          exact ⟨by omega, u.2.1, by omega⟩
    · rw [gIt] at e
      cases hg : gCol j (b (nx b n k)) with
      | none => rw [hg] at e; simp at e
      | some i =>
        rw [hg] at e
        have hl := hb.lt (gCol_n hg)
        dsimp only at e
        split at e
        · simp only [Prod.mk.injEq, and_true] at e; omega
        · rcases qBd_none e with e1 | ⟨k1, v, e1, e2⟩
          · have w := (gNum_W hb 2 (hLo j i) (hHi r t j i) _ (by omega)).2 _ e1; omega
          · have w := (gNum_W hb 2 (hLo j i) (hHi r t j i) _ (by omega)).1 _ _ e1
            have u := (ih _ _ k1 w.2.1).2 _ e2
            omega
theorem gHc_W (hb : qTb b n) {r : Nat} {h : qHs} : gW 1 n (fun _ => 0) (gHc b n r h) := by
  intro k hk
  have g1 := @nx_ge b n k
  have g2 := nx_le hb hk
  unfold gHc
  cases hg : gKd h (b (nx b n k)) with
  | none =>
    refine ⟨fun k' c e => ?_, fun k' e => ?_⟩
    · simp at e
    · simp only [Prod.mk.injEq, and_true] at e; omega
  | some j =>
    have hl := hb.lt (k := nx b n k) (fun q => by rw [q] at hg; unfold gKd at hg; rw [if_neg (fun w => absurd w.1 (by decide)), if_neg (fun w => absurd w.1 (by decide)), if_neg (fun w => absurd w.1 (by decide))] at hg; cases hg)
    obtain ⟨a1, a2⟩ := gIt_W hb (j := j) (r := r) (t := h.1.2.2) (sLen j + 1) 0 (hD j) (nx b n k + 1) (by omega)
    refine ⟨fun k' c e => ?_, fun k' e => ?_⟩
    · obtain ⟨k1, row, e1, e2⟩ := qBd_some e
      simp only [Prod.mk.injEq] at e2
      have := a1 _ _ e1
      show k + 1 ≤ k' ∧ k' ≤ n ∧ k + 0 ≤ k'
      omega
    · rcases qBd_none e with e1 | ⟨k1, row, e1, e2⟩
      · have := a2 _ e1; omega
      · simp at e2
/-- the number that a text can hold -/
theorem gNum_in {m k k' : Nat} {lo hi v : Int32} (h : gNum b n m lo hi k = (k', some v)) : lo ≤ v ∧ v ≤ hi := by
  unfold gNum at h
  split at h
  · obtain ⟨k1, a, e1, e2⟩ := qBd_some h
    split at e2
    · simp at e2
    · next q => simp only [Prod.mk.injEq, Option.some.injEq] at e2; rw [← e2.2]; exact ⟨Int32.not_lt.mp (fun w => q (Or.inl w)), Int32.not_lt.mp (fun w => q (Or.inr w))⟩
  · simp at h
/-- the rows are as they may be -/
def hOk (r j t : Nat) (row : Nat → Int32) : Prop := if j = 0 then qIn r (row 0) ∧ (row 1 = -1 ∨ qIn 3 (row 1)) ∧ qIn 10 (row 2) else if j = 1 then qIn r (row 0) else qIn r (row 0) ∧ (qIn 4 (row 1) ∧ ¬ row 1 = 0) ∧ (qIn 31 (row 2) ∧ ¬ row 2 = 0) ∧ (row 3 = -1 ∨ qIn t (row 3))
theorem qIn_of {v : Int32} {m : Nat} (hm : m < 1000) (h1 : 0 ≤ v) (h2 : v ≤ nI m - 1) : qIn m v := by
  obtain ⟨u, hu, rfl⟩ := nI_of (x := v) (fun q => by exact absurd (Int32.lt_of_le_of_lt h1 q) (by decide))
  by_cases hz : m = 0
  · subst hz
    exact absurd (Int32.le_trans h1 h2) (by decide)
  · rw [show (1 : Int32) = nI 1 from rfl, pk_sub (by omega), nI_leI hu (by omega)] at h2
    exact ⟨u, by omega, rfl⟩
theorem hD_ok {r j t : Nat} (hr : 2 ≤ r) (hr6 : r ≤ 6) : hOk r j t (hD j) := by
  unfold hOk hD
  by_cases h0 : j = 0
  · subst h0
    exact ⟨⟨0, by omega, rfl⟩, Or.inl rfl, ⟨1, by omega, rfl⟩⟩
  · by_cases h1 : j = 1
    · subst h1
      exact ⟨0, by omega, rfl⟩
    · simp only [if_neg h0, if_neg h1]
      exact ⟨⟨0, by omega, rfl⟩, ⟨⟨1, by omega, rfl⟩, by decide⟩, ⟨⟨5, by omega, rfl⟩, by decide⟩, Or.inl rfl⟩
theorem gIt_ok {j r t : Nat} (hj : j < 3) (hr : 2 ≤ r) (hr6 : r ≤ 6) (ht : t ≤ 4) : ∀ f told row k k' c, hOk r j t row → gIt b n j r t f told row k = (k', some c) → hOk r j t c := by
  have q1 : ∀ {v : Int32}, (1 : Int32) ≤ v → 0 ≤ v := fun {v} h => Int32.le_trans (by decide) h
  have q2 : ∀ {v : Int32}, (1 : Int32) ≤ v → ¬ v = 0 := fun {v} h e => by rw [e] at h; exact absurd h (by decide)
  intro f
  induction f with
  | zero =>
    intro told row k k' c ho e
    simp only [gIt, Prod.mk.injEq, Option.some.injEq] at e
    rw [← e.2]; exact ho
  | succ f ih =>
    intro told row k k' c ho e
    rw [gIt] at e
    cases hg : gCol j (b (nx b n k)) with
    | none => rw [hg] at e; simp only [Prod.mk.injEq, Option.some.injEq] at e; rw [← e.2]; exact ho
    | some i =>
      rw [hg] at e
      dsimp only at e
      split at e
      · simp at e
      · obtain ⟨k1, v, e1, e2⟩ := qBd_some e
        obtain ⟨v1, v2⟩ := gNum_in e1
        refine ih _ _ _ _ _ ?_ e2
        have hi : i < sLen j := by
          rcases gCol_lt hg with h | h
          · exact h
          · omega
        have : j = 0 ∨ j = 1 ∨ j = 2 := by omega
        rcases this with rfl | rfl | rfl
        · obtain ⟨o1, o2, o3⟩ := (show qIn r (row 0) ∧ (row 1 = -1 ∨ qIn 3 (row 1)) ∧ qIn 10 (row 2) from ho)
          have : i = 0 ∨ i = 1 ∨ i = 2 := by have h3 : i < 3 := hi; omega
          rcases this with rfl | rfl | rfl
          · exact ⟨qIn_of (by omega) v1 v2, o2, o3⟩
          · exact ⟨o1, Or.inr (qIn_of (m := 3) (by omega) v1 v2), o3⟩
          · exact ⟨o1, o2, qIn_of (m := 10) (by omega) v1 v2⟩
        · have : i = 0 := by have h3 : i < 1 := hi; omega
          subst this
          exact qIn_of (by omega) v1 v2
        · obtain ⟨o1, o2, o3, o4⟩ := (show qIn r (row 0) ∧ (qIn 4 (row 1) ∧ ¬ row 1 = 0) ∧ (qIn 31 (row 2) ∧ ¬ row 2 = 0) ∧ (row 3 = -1 ∨ qIn t (row 3)) from ho)
          have : i = 0 ∨ i = 1 ∨ i = 2 ∨ i = 3 := by have h3 : i < 4 := hi; omega
          rcases this with rfl | rfl | rfl | rfl
          · exact ⟨qIn_of (by omega) v1 v2, o2, o3, o4⟩
          · exact ⟨o1, ⟨qIn_of (m := 4) (by omega) (q1 v1) v2, q2 v1⟩, o3, o4⟩
          · exact ⟨o1, o2, ⟨qIn_of (m := 31) (by omega) (q1 v1) v2, q2 v1⟩, o4⟩
          · exact ⟨o1, o2, o3, Or.inr (qIn_of (by omega) v1 v2)⟩
/-- what a house told so far is -/
def hInv (r : Nat) (h : qHs) : Prop := (h.1.1 ≤ 5 ∧ h.1.2.1 ≤ 3 ∧ h.1.2.2 ≤ 4) ∧ ((∀ s, s < h.1.1 → hOk r 0 0 (h.2.1 s)) ∧ (∀ m, m < h.1.2.1 → hOk r 1 0 (h.2.2.1 m)) ∧ ∀ t, t < h.1.2.2 → hOk r 2 t (h.2.2.2 t)) ∧ (∀ s, h.1.1 ≤ s → h.2.1 s = hD 0) ∧ (∀ m, h.1.2.1 ≤ m → h.2.2.1 m = hD 1) ∧ ∀ t, h.1.2.2 ≤ t → h.2.2.2 t = hD 2
theorem hInv_0 {r : Nat} : hInv r hs0 := ⟨⟨by decide, by decide, by decide⟩, ⟨fun s h => absurd h (Nat.not_lt_zero s), fun s h => absurd h (Nat.not_lt_zero s), fun s h => absurd h (Nat.not_lt_zero s)⟩, fun _ _ => rfl, fun _ _ => rfl, fun _ _ => rfl⟩
theorem gKd_lt {h : qHs} {c : Int32} {j : Nat} (e : gKd h c = some j) : (j = 0 ∧ c = 115 ∧ h.1.1 < 5) ∨ (j = 1 ∧ c = 109 ∧ h.1.2.1 < 3) ∨ (j = 2 ∧ c = 116 ∧ h.1.2.2 < 4) := by
  unfold gKd at e
  split at e
  · next q => cases e; exact Or.inl ⟨rfl, q⟩
  · split at e
    · next q => cases e; exact Or.inr (Or.inl ⟨rfl, q⟩)
    · split at e
      · next q => cases e; exact Or.inr (Or.inr ⟨rfl, q⟩)
      · cases e
theorem hInv_1 {r j : Nat} {h : qHs} {row : Nat → Int32} {c : Int32} (i : hInv r h) (e : gKd h c = some j) (ho : hOk r j h.1.2.2 row) : hInv r (hs1 h j row) := by
  obtain ⟨⟨i1, i2, i3⟩, ⟨i4, i5, i6⟩, i7, i8, i9⟩ := i
  rcases gKd_lt e with ⟨rfl, -, hl⟩ | ⟨rfl, -, hl⟩ | ⟨rfl, -, hl⟩
  · refine ⟨⟨hl, i2, i3⟩, ⟨fun s hs => ?_, i5, i6⟩, fun s hs => ?_, i8, i9⟩
    · show hOk r 0 0 (if s = h.1.1 then row else h.2.1 s)
      have hs' : s < h.1.1 + 1 := hs
      by_cases c : s = h.1.1
      · rw [if_pos c]; exact ho
      · rw [if_neg c]; exact i4 s (by omega)
    · show (if s = h.1.1 then row else h.2.1 s) = hD 0
      have hs' : h.1.1 + 1 ≤ s := hs
      rw [if_neg (by omega)]; exact i7 s (by omega)
  · refine ⟨⟨i1, hl, i3⟩, ⟨i4, fun s hs => ?_, i6⟩, i7, fun s hs => ?_, i9⟩
    · show hOk r 1 0 (if s = h.1.2.1 then row else h.2.2.1 s)
      have hs' : s < h.1.2.1 + 1 := hs
      by_cases c : s = h.1.2.1
      · rw [if_pos c]; exact ho
      · rw [if_neg c]; exact i5 s (by omega)
    · show (if s = h.1.2.1 then row else h.2.2.1 s) = hD 1
      have hs' : h.1.2.1 + 1 ≤ s := hs
      rw [if_neg (by omega)]; exact i8 s (by omega)
  · refine ⟨⟨i1, i2, hl⟩, ⟨i4, i5, fun s hs => ?_⟩, i7, i8, fun s hs => ?_⟩
    · show hOk r 2 s (if s = h.1.2.2 then row else h.2.2.2 s)
      have hs' : s < h.1.2.2 + 1 := hs
      by_cases c : s = h.1.2.2
      · rw [if_pos c, c]; exact ho
      · rw [if_neg c]; exact i6 s (by omega)
    · show (if s = h.1.2.2 then row else h.2.2.2 s) = hD 2
      have hs' : h.1.2.2 + 1 ≤ s := hs
      rw [if_neg (by omega)]; exact i9 s (by omega)
theorem gHc_ok {r : Nat} {h h2 : qHs} {k k' : Nat} (hr : 2 ≤ r) (hr6 : r ≤ 6) (i : hInv r h) (e : gHc b n r h k = (k', some h2)) : hInv r h2 := by
  unfold gHc at e
  cases hg : gKd h (b (nx b n k)) with
  | none => rw [hg] at e; simp at e
  | some j =>
    rw [hg] at e
    dsimp only at e
    obtain ⟨k1, row, e1, e2⟩ := qBd_some e
    simp only [Prod.mk.injEq, Option.some.injEq] at e2
    rw [← e2.2]
    have hl := gKd_lt hg
    have ho : hOk r j h.1.2.2 row := gIt_ok (by rcases hl with ⟨rfl, -, -⟩ | ⟨rfl, -, -⟩ | ⟨rfl, -, -⟩ <;> omega) hr hr6 i.1.2.2 _ _ _ _ _ _ (hD_ok hr hr6) e1
    have hx : j < 3 := by rcases hl with ⟨rfl, -, -⟩ | ⟨rfl, -, -⟩ | ⟨rfl, -, -⟩ <;> omega
    exact hInv_1 i hg ho
/-- the places not told yet -/
def cB (j m : Nat) : Nat := ((List.range (sLen j)).filter (fun i => !m.testBit i)).length
theorem cB_1 : ∀ (j : Fin 3) (m : Fin 16) (i : Fin 4), i.val < sLen j.val → ¬ m.val.testBit i.val = true → cB j.val (m.val ||| (1 <<< i.val)) + 1 = cB j.val m.val ∧ m.val ||| (1 <<< i.val) < 16 := by decide +kernel
theorem cB_0 : ∀ (j : Fin 3), cB j.val 0 = sLen j.val := by decide +kernel
theorem gHl_W (hb : qTb b n) {r : Nat} : ∀ f h, gW 0 n (fun _ => 0) (gHl b n r f h) := by
  intro f
  induction f with
  | zero =>
    intro h k hk
    have g1 := @nx_ge b n k
    have g2 := nx_le hb hk
    refine ⟨fun k' c e => ?_, fun k' e => ?_⟩
    · simp only [gHl, Prod.mk.injEq] at e; exact ⟨by omega, by omega, by show k + 0 ≤ k'; omega⟩
    · simp [gHl] at e
  | succ f ih =>
    intro h k hk
    have g1 := @nx_ge b n k
    have g2 := nx_le hb hk
    rw [gHl]
    by_cases q : b (nx b n k) = 59
    · rw [if_pos q]
      have hl := hb.lt (k := nx b n k) (by rw [q]; decide)
      obtain ⟨a1, a2⟩ := gHc_W hb (r := r) (h := h) (nx b n k + 1) (by omega)
      refine ⟨fun k' c e => ?_, fun k' e => ?_⟩
      · obtain ⟨k1, h2, e1, e2⟩ := qBd_some e
        have w := a1 _ _ e1
        have u := (ih h2 k1 w.2.1).1 _ _ e2
        have u1 : k1 + 0 ≤ k' := u.1
        exact ⟨by omega, u.2.1, by show k + 0 ≤ k'; omega⟩
      · rcases qBd_none e with e1 | ⟨k1, h2, e1, e2⟩
        · have := a2 _ e1; omega
        · have w := a1 _ _ e1
          have u := (ih h2 k1 w.2.1).2 _ e2
          omega
    · rw [if_neg q]
      refine ⟨fun k' c e => ?_, fun k' e => ?_⟩
      · simp only [Prod.mk.injEq] at e; exact ⟨by omega, by omega, by show k + 0 ≤ k'; omega⟩
      · simp at e
theorem gHl_ok {r : Nat} (hr : 2 ≤ r) (hr6 : r ≤ 6) : ∀ f h k k' h2, hInv r h → gHl b n r f h k = (k', some h2) → hInv r h2 := by
  intro f
  induction f with
  | zero =>
    intro h k k' h2 i e
    simp only [gHl, Prod.mk.injEq, Option.some.injEq] at e
    rw [← e.2]; exact i
  | succ f ih =>
    intro h k k' h2 i e
    rw [gHl] at e
    split at e
    · obtain ⟨k1, h3, e1, e2⟩ := qBd_some e
      exact ih _ _ _ _ (gHc_ok hr hr6 i e1) e2
    · simp only [Prod.mk.injEq, Option.some.injEq] at e
      rw [← e.2]; exact i
theorem rNat {v : Int32} (h1 : 2 ≤ v) (h2 : v ≤ 6) : v = nI v.toNatClampNeg ∧ 2 ≤ v.toNatClampNeg ∧ v.toNatClampNeg ≤ 6 := by
  obtain ⟨u, hu, rfl⟩ := nI_of (x := v) (fun q => by exact absurd (Int32.lt_of_le_of_lt h1 q) (by decide))
  rw [show (6 : Int32) = nI 6 from rfl, nI_leI hu (by omega)] at h2
  rw [show (2 : Int32) = nI 2 from rfl, nI_leI (by omega) hu] at h1
  rw [nI_c (by omega)]
  exact ⟨rfl, h1, h2⟩
theorem gHe_some {k k' : Nat} {h h2 : qHs} (e : gHe b n k h = (k', some h2)) : k' = nx b n k ∧ h2 = h ∧ b (nx b n k) = -1 ∧ hWh h := by
  unfold gHe at e
  split at e
  · next q => simp only [Prod.mk.injEq, Option.some.injEq] at e; exact ⟨e.1.symm, e.2.symm, q⟩
  · simp at e
theorem gHouse_ok {k : Nat} {v : Int32} {h : qHs} (e : gHouse b n = (k, some (v, h))) : v = nI v.toNatClampNeg ∧ 2 ≤ v.toNatClampNeg ∧ v.toNatClampNeg ≤ 6 ∧ hInv v.toNatClampNeg h ∧ hWh h := by
  unfold gHouse at e
  split at e
  · obtain ⟨k1, r, e1, e2⟩ := qBd_some e
    obtain ⟨r1, r2⟩ := gNum_in e1
    obtain ⟨k2, h2, e3, e4⟩ := qBd_some e2
    simp only [Prod.mk.injEq, Option.some.injEq] at e4
    obtain ⟨-, rfl, rfl⟩ := e4
    obtain ⟨k3, h3, e5, e6⟩ := qBd_some e3
    obtain ⟨-, rfl, -, w⟩ := gHe_some e6
    obtain ⟨q1, q2, q3⟩ := rNat r1 r2
    exact ⟨q1, q2, q3, gHl_ok q2 q3 _ _ _ _ _ hInv_0 e5, w⟩
  · simp at e
/-- the place of a letter, as the class finds it -/
theorem sFind_n {j : Nat} {c : Int32} (hj : j < 3) (h : gCol j c = none) : sFind j c = -1 := by
  unfold gCol at h
  unfold sFind
  have : j = 0 ∨ j = 1 ∨ j = 2 := by omega
  rcases this with rfl | rfl | rfl
  · rw [if_pos rfl] at h ⊢
    split at h
    · cases h
    · next q1 =>
      split at h
      · cases h
      · next q2 =>
        split at h
        · cases h
        · next q3 => rw [if_neg q1, if_neg q2, if_neg q3]
  · rw [if_neg (by decide), if_pos rfl] at h ⊢
    split at h
    · cases h
    · next q1 => rw [if_neg q1]
  · rw [if_neg (by decide), if_neg (by decide)] at h ⊢
    split at h
    · cases h
    · next q1 =>
      split at h
      · cases h
      · next q2 =>
        split at h
        · cases h
        · next q3 =>
          split at h
          · cases h
          · next q4 => rw [if_neg q1, if_neg q2, if_neg q3, if_neg q4]
/-- the letter of a place -/
def gLt (j i : Nat) : Int32 := (sByt j).getD i 0
theorem gCol_c {j i : Nat} {c : Int32} (hj : j < 3) (h : gCol j c = some i) : c = gLt j i ∧ i < sLen j := by
  unfold gCol at h
  have : j = 0 ∨ j = 1 ∨ j = 2 := by omega
  rcases this with rfl | rfl | rfl
  · rw [if_pos rfl] at h
    split at h
    · next q => cases h; exact ⟨q, by decide⟩
    · split at h
      · next q => cases h; exact ⟨q, by decide⟩
      · split at h
        · next q => cases h; exact ⟨q, by decide⟩
        · cases h
  · rw [if_neg (by decide), if_pos rfl] at h
    split at h
    · next q => cases h; exact ⟨q, by decide⟩
    · cases h
  · rw [if_neg (by decide), if_neg (by decide)] at h
    split at h
    · next q => cases h; exact ⟨q, by decide⟩
    · split at h
      · next q => cases h; exact ⟨q, by decide⟩
      · split at h
        · next q => cases h; exact ⟨q, by decide⟩
        · split at h
          · next q => cases h; exact ⟨q, by decide⟩
          · cases h
theorem sFind_l : ∀ (j : Fin 3) (i : Fin 4), i.val < sLen j.val → sFind j.val (gLt j.val i.val) = nI i.val := by decide +kernel
theorem sFind_s {j i : Nat} {c : Int32} (hj : j < 3) (h : gCol j c = some i) : sFind j c = nI i ∧ i < sLen j ∧ i < 4 := by
  obtain ⟨rfl, hi⟩ := gCol_c hj h
  have h4 : i < 4 := by
    have : j = 0 ∨ j = 1 ∨ j = 2 := by omega
    rcases this with rfl | rfl | rfl
    · have : i < 3 := hi
      omega
    · have : i < 1 := hi
      omega
    · exact hi
  exact ⟨sFind_l ⟨j, hj⟩ ⟨i, h4⟩ hi, hi, h4⟩
end L36zu
