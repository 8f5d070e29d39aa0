/-! the bits of who holds -/
def gB (p : Nat → Bool) : Nat → Int32
  | 0 => 0
  | i + 1 => if p i then gB p i ||| (1 <<< (nI i &&& 31)) else gB p i
theorem hb_gB {f : Nat → Int32} {n : Nat} {m : Int32} : ∀ i, hb f n m i = gB (fun j => decide (hd f n (nI j) = m)) i := by
  intro i
  induction i with
  | zero => rfl
  | succ i ih =>
    rw [hb, gB, ih]
    by_cases h : hd f n (nI i) = m
    · simp [h]
    · simp [h]
theorem gB_cong {p q : Nat → Bool} : ∀ i, (∀ j, j < i → p j = q j) → gB p i = gB q i := by
  intro i
  induction i with
  | zero => intro _; rfl
  | succ i ih => intro h; rw [gB, gB, ih (fun j hj => h j (by omega)), h i (Nat.lt_succ_self i)]
def q5 (p0 p1 p2 p3 p4 : Bool) : Nat → Bool := fun j => if j = 0 then p0 else if j = 1 then p1 else if j = 2 then p2 else if j = 3 then p3 else p4
theorem gB_bit5 : ∀ p0 p1 p2 p3 p4 : Bool, ∀ i : Fin 6, ∀ s : Fin 5, s.val < i.val → ((gB (q5 p0 p1 p2 p3 p4) i.val >>> (nI s.val &&& 31)) &&& 1) = (if q5 p0 p1 p2 p3 p4 s.val then 1 else 0) := by decide +kernel
theorem hb_bit {f : Nat → Int32} {n : Nat} {m : Int32} {i s : Nat} (hi : i ≤ 5) (hs : s < i) : ((hb f n m i >>> (nI s &&& 31)) &&& 1) = (if hd f n (nI s) = m then 1 else 0) := by
  rw [hb_gB, gB_cong (q := q5 (decide (hd f n (nI 0) = m)) (decide (hd f n (nI 1) = m)) (decide (hd f n (nI 2) = m)) (decide (hd f n (nI 3) = m)) (decide (hd f n (nI 4) = m))) i (fun j hj => by
    have : j = 0 ∨ j = 1 ∨ j = 2 ∨ j = 3 ∨ j = 4 := by omega
    rcases this with h | h | h | h | h <;> subst h <;> rfl)]
  have := gB_bit5 (decide (hd f n (nI 0) = m)) (decide (hd f n (nI 1) = m)) (decide (hd f n (nI 2) = m)) (decide (hd f n (nI 3) = m)) (decide (hd f n (nI 4) = m)) ⟨i, by omega⟩ ⟨s, by omega⟩ hs
  rw [this]
  have h5 : s = 0 ∨ s = 1 ∨ s = 2 ∨ s = 3 ∨ s = 4 := by omega
  rcases h5 with h | h | h | h | h <;> subst h <;> simp [q5]
/-- how many of the k minutes from a on the head of s is m -/
noncomputable def cnM (LE : Int32 → Nat → Int32) (n : Nat) (m : Int32) (s a : Nat) : Nat → Nat
  | 0 => 0
  | k + 1 => cnM LE n m s a k + (if hd (LE (nI (a + k))) n (nI s) = m then 1 else 0)
theorem cnM_add {LE : Int32 → Nat → Int32} {n : Nat} {m : Int32} {s a k : Nat} : ∀ j, cnM LE n m s a (k + j) = cnM LE n m s a k + cnM LE n m s (a + k) j := by
  intro j
  induction j with
  | zero => rfl
  | succ j ih => rw [← Nat.add_assoc, cnM, ih, cnM, Nat.add_assoc, Nat.add_assoc a k j]
theorem cnM_const {LE : Int32 → Nat → Int32} {n : Nat} {m : Int32} {s a : Nat} : ∀ k, (∀ j, j < k → hd (LE (nI (a + j))) n (nI s) = hd (LE (nI a)) n (nI s)) → cnM LE n m s a k = if hd (LE (nI a)) n (nI s) = m then k else 0 := by
  intro k
  induction k with
  | zero => intro _; rw [cnM, ite_self]
  | succ k ih =>
    intro h
    rw [cnM, ih (fun j hj => h j (by omega)), h k (Nat.lt_succ_self k)]
    split <;> rfl
theorem cnM_le {LE : Int32 → Nat → Int32} {n : Nat} {m : Int32} {s a : Nat} : ∀ k, cnM LE n m s a k ≤ k := by
  intro k
  induction k with
  | zero => exact Nat.le_refl _
  | succ k ih => rw [cnM]; split <;> omega
