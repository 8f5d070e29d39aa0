/-! leaves of the reference -/
section L12
variable {d : Nat} {K : qK} {I : Nat → Nat → Int32} {L : Nat → Nat → Int64} {R : Nat → Nat → Option Nat} {sz : Nat} {Q : Option Value → qMem → Prop}
/-- in -/
theorem t12000 {a : Int32} {b : Int32} {c : Int32} (ht : b ≤ a → a ≤ c → Q (some (.int 1)) (K, I, L, R, sz)) (hf : ¬ (b ≤ a ∧ a ≤ c) → Q (some (.int 0)) (K, I, L, R, sz)) : X d 0 0 12000 0 0 0 (qent (qml 12000) [.int a, .int b, .int c]) [] (K, I, L, R, sz) Q := by
  show X _ 0 0 12000 0 0 0 [some (.int a), some (.int b), some (.int c)] [] _ _
  refine x_ild0 k12000_0 <| x_ild1 k12000_1 <| x_icmplt (tgt := 14) k12000_2 (by decide) (fun h1 => ?_) (fun h1 => ?_)
  · refine x_iconst (v := 0) k12000_14 rfl <| x_zret k12000_15 rfl (Or.inl rfl) (Nat.le_refl _) (Nat.le_refl _) <| ?_
    exact hf (fun h => by rw [i_lt] at h1; rw [i_le] at h; omega)
  · refine x_ild0 k12000_5 <| x_ild2 k12000_6 <| x_icmpgt (tgt := 14) k12000_7 (by decide) (fun h2 => ?_) (fun h2 => ?_)
    · refine x_iconst (v := 0) k12000_14 rfl <| x_zret k12000_15 rfl (Or.inl rfl) (Nat.le_refl _) (Nat.le_refl _) <| ?_
      exact hf (fun h => by rw [i_lt] at h2; have := h.2; rw [i_le] at this; omega)
    · refine x_iconst (v := 1) k12000_10 rfl <| x_goto (tgt := 15) k12000_11 (by decide) <| x_zret k12000_15 rfl (Or.inr rfl) (Nat.le_refl _) (Nat.le_refl _) <| ?_
      exact ht (by rw [i_lt] at h1; rw [i_le]; omega) (by rw [i_lt] at h2; rw [i_le]; omega)
/-- has -/
theorem t12001 {a : Int32} {b : Int32} (ht : ((a >>> (b &&& 31)) &&& 1) = 1 → Q (some (.int 1)) (K, I, L, R, sz)) (hf : ¬ ((a >>> (b &&& 31)) &&& 1) = 1 → Q (some (.int 0)) (K, I, L, R, sz)) : X d 0 0 12001 0 0 0 (qent (qml 12001) [.int a, .int b]) [] (K, I, L, R, sz) Q := by
  show X _ 0 0 12001 0 0 0 [some (.int a), some (.int b)] [] _ _
  refine x_ild0 k12001_0 <| x_ild1 k12001_1 <| x_ishr k12001_2 <| x_iconst (v := 1) k12001_3 rfl <| x_iand k12001_4 <| x_iconst (v := 1) k12001_5 rfl <| x_icmpne (tgt := 13) k12001_6 (by decide) (fun h1 => ?_) (fun h1 => ?_)
  · refine x_iconst (v := 0) k12001_13 rfl <| x_zret k12001_14 rfl (Or.inl rfl) (Nat.le_refl _) (Nat.le_refl _) <| ?_
    exact hf h1
  · refine x_iconst (v := 1) k12001_9 rfl <| x_goto (tgt := 14) k12001_10 (by decide) <| x_zret k12001_14 rfl (Or.inr rfl) (Nat.le_refl _) (Nat.le_refl _) <| ?_
    exact ht h1
/-- isDigit -/
theorem t12010 {a : Int32} (ht : 48 ≤ a → a ≤ 57 → Q (some (.int 1)) (K, I, L, R, sz)) (hf : ¬ (48 ≤ a ∧ a ≤ 57) → Q (some (.int 0)) (K, I, L, R, sz)) : X d 0 0 12010 0 0 0 (qent (qml 12010) [.int a]) [] (K, I, L, R, sz) Q := by
  show X _ 0 0 12010 0 0 0 [some (.int a)] [] _ _
  refine x_ild0 k12010_0 <| x_bipush (v := 48) k12010_1 rfl <| x_icmplt (tgt := 16) k12010_3 (by decide) (fun h1 => ?_) (fun h1 => ?_)
  · refine x_iconst (v := 0) k12010_16 rfl <| x_zret k12010_17 rfl (Or.inl rfl) (Nat.le_refl _) (Nat.le_refl _) <| ?_
    exact hf (fun h => by rw [i_lt] at h1; rw [i_le] at h; omega)
  · refine x_ild0 k12010_6 <| x_bipush (v := 57) k12010_7 rfl <| x_icmpgt (tgt := 16) k12010_9 (by decide) (fun h2 => ?_) (fun h2 => ?_)
    · refine x_iconst (v := 0) k12010_16 rfl <| x_zret k12010_17 rfl (Or.inl rfl) (Nat.le_refl _) (Nat.le_refl _) <| ?_
      exact hf (fun h => by rw [i_lt] at h2; have := h.2; rw [i_le] at this; omega)
    · refine x_iconst (v := 1) k12010_12 rfl <| x_goto (tgt := 17) k12010_13 (by decide) <| x_zret k12010_17 rfl (Or.inr rfl) (Nat.le_refl _) (Nat.le_refl _) <| ?_
      exact ht (by rw [i_lt] at h1; rw [i_le]; omega) (by rw [i_lt] at h2; rw [i_le]; omega)
/-- servantAt, masterAt, taskAt, spotOf -/
theorem t12033 {a : Int32} {b : Int32} (h : Q (some (.int (3 * a + b))) (K, I, L, R, sz)) : X d 0 0 12033 0 0 0 (qent (qml 12033) [.int a, .int b]) [] (K, I, L, R, sz) Q := by
  show X _ 0 0 12033 0 0 0 [some (.int a), some (.int b)] [] _ _
  refine x_iconst (v := 3) k12033_0 rfl <| x_ild0 k12033_1 <| x_imul k12033_2 <| x_ild1 k12033_3 <| x_iadd k12033_4 <| x_iret k12033_5 rfl (Nat.le_refl _) (Nat.le_refl _) <| ?_
  exact h
theorem t12034 {a : Int32} (h : Q (some (.int (15 + a))) (K, I, L, R, sz)) : X d 0 0 12034 0 0 0 (qent (qml 12034) [.int a]) [] (K, I, L, R, sz) Q := by
  show X _ 0 0 12034 0 0 0 [some (.int a)] [] _ _
  refine x_bipush (v := 15) k12034_0 rfl <| x_ild0 k12034_2 <| x_iadd k12034_3 <| x_iret k12034_4 rfl (Nat.le_refl _) (Nat.le_refl _) <| ?_
  exact h
theorem t12035 {a : Int32} {b : Int32} (h : Q (some (.int (18 + 4 * a + b))) (K, I, L, R, sz)) : X d 0 0 12035 0 0 0 (qent (qml 12035) [.int a, .int b]) [] (K, I, L, R, sz) Q := by
  show X _ 0 0 12035 0 0 0 [some (.int a), some (.int b)] [] _ _
  refine x_bipush (v := 18) k12035_0 rfl <| x_iconst (v := 4) k12035_2 rfl <| x_ild0 k12035_3 <| x_imul k12035_4 <| x_iadd k12035_5 <| x_ild1 k12035_6 <| x_iadd k12035_7 <| x_iret k12035_8 rfl (Nat.le_refl _) (Nat.le_refl _) <| ?_
  exact h
/-- thrown -/
theorem t12003  (hK : qLay K sz) (h : Q (some (.int (I 73 0))) (K, I, L, R, sz)) : X d 0 0 12003 0 0 0 (qent (qml 12003) [.ref 73]) [] (K, I, L, R, sz) Q := by
  show X _ 0 0 12003 0 0 0 [some (.ref 73)] [] _ _
  refine x_ald0 k12003_0 <| x_getI k12003_1 f12_116_11 (hK.at rfl) rfl <| x_iret k12003_4 rfl (Nat.le_refl _) (Nat.le_refl _) <| ?_
  exact h
/-- bad -/
theorem t12009  (hK : qLay K sz) (h1 : I 73 4 = -1 → Q none (K, va_up I 73 (upd (I 73) 4 (I 73 3)), L, R, sz)) (h2 : ¬ I 73 4 = -1 → Q none (K, va_up I 73 (upd (I 73) 4 (I 73 4)), L, R, sz)) : X d 0 0 12009 0 0 0 (qent (qml 12009) [.ref 73]) [] (K, I, L, R, sz) Q := by
  show X _ 0 0 12009 0 0 0 [some (.ref 73)] [] _ _
  refine x_ald0 k12009_0 <| x_ald0 k12009_1 <| x_getI k12009_2 f12_133_11 (hK.at rfl) rfl <| x_iconst (v := (-1)) k12009_5 rfl <| x_icmpne (tgt := 16) k12009_6 (by decide) (fun hb => ?_) (fun hb => ?_)
  · refine x_ald0 k12009_16 <| x_getI k12009_17 f12_133_11 (hK.at rfl) rfl <| x_putI k12009_20 f12_133_11 (Or.inl rfl) (hK.at rfl) <| x_vret k12009_23 rfl (Nat.le_refl _) (Nat.le_refl _) <| ?_
    exact h2 hb
  · refine x_ald0 k12009_9 <| x_getI k12009_10 f12_126_11 (hK.at rfl) rfl <| x_goto (tgt := 20) k12009_13 (by decide) <| x_putI k12009_20 f12_133_11 (Or.inl rfl) (hK.at rfl) <| x_vret k12009_23 rfl (Nat.le_refl _) (Nat.le_refl _) <| ?_
    exact h1 hb
end L12
