/-! answers of two kinds, told by places -/
theorem q_none0 {a : Int32} {n : Nat} (hn : n < 2147483648) (h : a < 0) : ∀ j, j < n → ¬ a = nI j := fun j hj e => nI_pos (n := j) (by omega) (e ▸ h)
theorem q_noneN {a : Int32} {n : Nat} (hn : n < 2147483648) (h : nI n ≤ a) : ∀ j, j < n → ¬ a = nI j := fun j hj e => nI_ge (a := j) (b := n) hj hn (e ▸ h)
theorem q_some {a : Int32} {n : Nat} (hn : n < 2147483648) (h0 : ¬ a < 0) (h1 : ¬ nI n ≤ a) : ∃ j, j < n ∧ a = nI j := by
  rcases pk_ix a hn with h | h | h
  · exact absurd h h0
  · exact absurd h h1
  · exact h
theorem q_in1 {a : Int32} {n : Nat} (hn : n < 2147483648) (h0 : 0 ≤ a) (h1 : a ≤ nI n - 1) : ∃ j, j < n ∧ a = nI j := by
  refine q_some hn (fun h => ?_) (fun h => ?_)
  · rw [i_lt] at h
    rw [i_le] at h0
    omega
  · cases n with
    | zero =>
      have h2 : (nI 0 - 1 : Int32) = -1 := rfl
      rw [h2, i_le] at h1
      rw [i_le] at h0
      have e1 : (-1 : Int32).toInt = -1 := rfl
      have e2 : (0 : Int32).toInt = 0 := rfl
      omega
    | succ k =>
      rw [nI_pred, i_le, nI_i (by omega)] at h1
      rw [i_le, nI_i (by omega)] at h
      omega
theorem q_in0 {a : Int32} {n : Nat} (hn : n < 2147483648) (h : ¬ (0 ≤ a ∧ a ≤ nI n - 1)) : ∀ j, j < n → ¬ a = nI j := by
  intro j hj e
  apply h
  subst e
  refine ⟨nI_pos' (by omega), ?_⟩
  cases n with
  | zero => omega
  | succ k => rw [nI_pred]; exact nI_le (by omega) (by omega)
section L15
variable {d : Nat} {K : qK} {I : Nat → Nat → Int32} {L : Nat → Nat → Int64} {R : Nat → Nat → Option Nat} {sz : Nat} {Q : Option Value → qMem → Prop}
theorem s11039 {a : Int32} {n : Nat} (hK : qLay K sz) (hR : qRef R) (hn : I 22 1 = nI n) (h5 : n ≤ 5) (ht : ∀ j : Nat, j < n → a = nI j → Q (some (.int 1)) (K, I, L, R, sz)) (hf : (∀ j : Nat, j < n → ¬ a = nI j) → Q (some (.int 0)) (K, I, L, R, sz)) : X d 0 0 11039 0 0 0 (qent (qml 11039) [.ref 0, .int a]) [] (K, I, L, R, sz) Q := by
  refine t11039 hK hR (fun h => hf (q_none0 (by omega) h)) (fun h0 h1 => hf (q_noneN (by omega) (hn ▸ h1))) (fun h0 h1 => ?_)
  obtain ⟨j, hj, e⟩ := q_some (n := n) (by omega) h0 (hn ▸ h1)
  exact ht j hj e
theorem s11040 {a : Int32} {n : Nat} (hK : qLay K sz) (hR : qRef R) (hn : I 22 2 = nI n) (h5 : n ≤ 3) (ht : ∀ j : Nat, j < n → a = nI j → Q (some (.int 1)) (K, I, L, R, sz)) (hf : (∀ j : Nat, j < n → ¬ a = nI j) → Q (some (.int 0)) (K, I, L, R, sz)) : X d 0 0 11040 0 0 0 (qent (qml 11040) [.ref 0, .int a]) [] (K, I, L, R, sz) Q := by
  refine t11040 hK hR (fun h => hf (q_none0 (by omega) h)) (fun h0 h1 => hf (q_noneN (by omega) (hn ▸ h1))) (fun h0 h1 => ?_)
  obtain ⟨j, hj, e⟩ := q_some (n := n) (by omega) h0 (hn ▸ h1)
  exact ht j hj e
theorem s12046 {a : Int32} {n : Nat} (hK : qLay K sz) (hn : I 73 24 = nI n) (h5 : n ≤ 5) (ht : ∀ j : Nat, j < n → a = nI j → Q (some (.int 1)) (K, I, L, R, sz)) (hf : (∀ j : Nat, j < n → ¬ a = nI j) → Q (some (.int 0)) (K, I, L, R, sz)) : X (d + 1) 0 0 12046 0 0 0 (qent (qml 12046) [.ref 73, .int a]) [] (K, I, L, R, sz) Q := by
  refine t12046 hK (fun h0 h1 => ?_) (fun h => hf (q_in0 (by omega) (hn ▸ h)))
  obtain ⟨j, hj, e⟩ := q_in1 (n := n) (by omega) h0 (hn ▸ h1)
  exact ht j hj e
theorem s12047 {a : Int32} {n : Nat} (hK : qLay K sz) (hn : I 73 25 = nI n) (h5 : n ≤ 3) (ht : ∀ j : Nat, j < n → a = nI j → Q (some (.int 1)) (K, I, L, R, sz)) (hf : (∀ j : Nat, j < n → ¬ a = nI j) → Q (some (.int 0)) (K, I, L, R, sz)) : X (d + 1) 0 0 12047 0 0 0 (qent (qml 12047) [.ref 73, .int a]) [] (K, I, L, R, sz) Q := by
  refine t12047 hK (fun h0 h1 => ?_) (fun h => hf (q_in0 (by omega) (hn ▸ h)))
  obtain ⟨j, hj, e⟩ := q_in1 (n := n) (by omega) h0 (hn ▸ h1)
  exact ht j hj e
theorem s11041 {a : Int32} (ht : a = 0 ∨ a = 1 → Q (some (.int 1)) (K, I, L, R, sz)) (hf : ¬ (a = 0 ∨ a = 1) → Q (some (.int 0)) (K, I, L, R, sz)) : X d 0 0 11041 0 0 0 (qent (qml 11041) [.int a]) [] (K, I, L, R, sz) Q := by
  refine t11041 (fun h => ht (Or.inl h)) (fun h0 h1 => hf (fun h => h.elim h0 h1)) (fun h0 h1 => ht (Or.inr h1))
/-- a span of minutes -/
def qSpan (a b : Int32) : Prop := 0 ≤ a ∧ a ≤ b ∧ b ≤ 1000
theorem s11042 {a b : Int32} (ht : qSpan a b → Q (some (.int 1)) (K, I, L, R, sz)) (hf : ¬ qSpan a b → Q (some (.int 0)) (K, I, L, R, sz)) : X d 0 0 11042 0 0 0 (qent (qml 11042) [.int a, .int b]) [] (K, I, L, R, sz) Q := by
  refine t11042 (fun h => hf (fun g => ?_)) (fun h0 h => hf (fun g => ?_)) (fun h0 h1 h => hf (fun g => ?_)) (fun h0 h1 h => ht ⟨?_, ?_, ?_⟩)
  · have := g.1
    rw [i_lt] at h
    rw [i_le] at this
    omega
  · have := g.2.1
    rw [i_lt] at h
    rw [i_le] at this
    omega
  · have := g.2.2
    rw [i_lt] at h
    rw [i_le] at this
    omega
  · rw [i_lt] at h0; rw [i_le]; omega
  · rw [i_lt] at h1; rw [i_le]; omega
  · rw [i_lt] at h; rw [i_le]; omega
theorem s12072 {a b : Int32} (ht : qSpan a b → Q (some (.int 1)) (K, I, L, R, sz)) (hf : ¬ qSpan a b → Q (some (.int 0)) (K, I, L, R, sz)) : X (d + 1) 0 0 12072 0 0 0 (qent (qml 12072) [.int a, .int b]) [] (K, I, L, R, sz) Q := by
  refine t12072 (fun h0 h1 h2 h3 => ht ⟨h0, h2, h3⟩) (fun h0 h1 h2 => hf (fun g => h2 ⟨g.2.1, g.2.2⟩)) (fun h => hf (fun g => h ⟨g.1, ?_⟩))
  have g2 := g.2.1
  have g3 := g.2.2
  rw [i_le] at *
  omega
theorem q_3j (j c : Nat) : (3 * nI j + nI c : Int32) = nI (3 * j + c) := by
  rw [show (3 : Int32) = nI 3 from rfl, pk_mul, nI_add]
theorem s12048 {a b : Int32} {j : Nat} (hK : qLay K sz) (hR : qRef R) (hb : b = nI j) (hj : j < 5) (ht : ¬ I 85 (3 * j + 1) = a → Q (some (.int 1)) (K, I, L, R, sz)) (hf : I 85 (3 * j + 1) = a → Q (some (.int 0)) (K, I, L, R, sz)) : X (d + 1) 0 0 12048 0 0 0 (qent (qml 12048) [.ref 73, .int a, .int b]) [] (K, I, L, R, sz) Q := by
  have e : (3 * b + 1 : Int32) = nI (3 * j + 1) := by rw [hb]; exact q_3j j 1
  refine t12048 hK hR (by rw [e]; exact vI (by omega) (by omega)) (fun h => hf ?_) (fun h => ht ?_)
  · rw [e, nI_c (by omega)] at h; exact h
  · rw [e, nI_c (by omega)] at h; exact h
theorem s1004 {a b : Int32} {j : Nat} (hK : qLay K sz) (hR : qRef R) (hb : b = nI j) (hj : j < 5) (ht : ¬ I (24 + j) 1 = a → Q (some (.int 1)) (K, I, L, R, sz)) (hf : I (24 + j) 1 = a → Q (some (.int 0)) (K, I, L, R, sz)) : X d 0 0 1004 0 0 0 (qent (qml 1004) [.ref 22, .int a, .int b]) [] (K, I, L, R, sz) Q := by
  refine t1004 hK hR (by rw [hb]; exact vI (by omega) (by omega)) (fun h => hf ?_) (fun h => ht ?_)
  · rw [hb, nI_c (by omega)] at h; exact h
  · rw [hb, nI_c (by omega)] at h; exact h
/-- an address of a servant: 10 and its number -/
theorem s5008 {a : Int32} (ht : 10 ≤ a → a ≤ 14 → Q (some (.int 1)) (K, I, L, R, sz)) (hf : ¬ (10 ≤ a ∧ a ≤ 14) → Q (some (.int 0)) (K, I, L, R, sz)) : X d 0 0 5008 0 0 0 (qent (qml 5008) [.int a]) [] (K, I, L, R, sz) Q := by
  refine t5008 (fun h => hf (fun g => ?_)) (fun h0 h => hf (fun g => ?_)) (fun h0 h => ht ?_ ?_)
  · have := g.1
    rw [i_lt] at h
    rw [i_le] at this
    omega
  · have := g.2
    rw [i_le] at h this
    have e1 : (15 : Int32).toInt = 15 := rfl
    have e2 : (14 : Int32).toInt = 14 := rfl
    omega
  · rw [i_lt] at h0; rw [i_le]; omega
  · rw [i_le] at h ⊢
    have e1 : (15 : Int32).toInt = 15 := rfl
    have e2 : (14 : Int32).toInt = 14 := rfl
    omega
end L15
