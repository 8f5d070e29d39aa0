/-! readers: next, number, pass -/
def nxK (I : Nat → Nat → Int32) (o : Nat) : Nat := nx (tb I (I 1 1).toNatClampNeg) (I 1 1).toNatClampNeg (I o 1).toNatClampNeg
def nxV (I : Nat → Nat → Int32) (o : Nat) : Int32 := tb I (I 1 1).toNatClampNeg (nxK I o)
def nxR (I : Nat → Nat → Int32) (o : Nat) (J : Nat → Nat → Int32) : Prop := J = va_up I o (upd (I o) 1 (nI (nxK I o)))
section L36pa
variable {I : Nat → Nat → Int32} {b : Nat → Int32} {n k o : Nat}
theorem qTp_b (ht : qTp I n) (hb : ∀ j, tb I n j = b j) : qTb b n := fun k hk => by rw [← hb k]; unfold tb; rw [if_neg (by omega)]
theorem nxK_at (ht : qTp I n) (hb : ∀ j, tb I n j = b j) (hk : I o 1 = nI k) (hkn : k ≤ n) : nxK I o = nx b n k := by
  have h2 := ht.2
  have e : tb I n = b := funext hb
  unfold nxK
  rw [ht.1, hk, nI_c (by omega), nI_c (by omega), e]
theorem nxV_at (ht : qTp I n) (hb : ∀ j, tb I n j = b j) (hk : I o 1 = nI k) (hkn : k ≤ n) : nxV I o = b (nx b n k) := by
  have h2 := ht.2
  unfold nxV
  rw [nxK_at ht hb hk hkn, ht.1, nI_c (by omega)]; exact hb _
theorem tbI_at (ht : qTp I n) (hb : ∀ j, tb I n j = b j) (hkn : k ≤ n) : tbI I (nI k) = b k := by
  have h2 := ht.2
  unfold tbI
  rw [ht.1, nI_c (by omega), nI_c (by omega)]; exact hb _
/-- another place, the same tape -/
theorem qTp_up {f : Nat → Int32} (ho : o ≠ 1) (ho2 : o ≠ 2) (ht : qTp I n) (hb : ∀ j, tb I n j = b j) : qTp (va_up I o f) n ∧ ∀ j, tb (va_up I o f) n j = b j := by
  refine ⟨?_, fun j => ?_⟩
  · unfold qTp; rw [vu_n (Ne.symm ho)]; exact ht
  · rw [← hb j]; unfold tb; rw [vu_n (Ne.symm ho2)]
theorem up_up {f : Nat → Int32} {i : Nat} {x y : Int32} : va_up (va_up I o (upd f i x)) o (upd (va_up I o (upd f i x) o) i y) = va_up I o (upd f i y) := by
  rw [vu_t, vu_s, upd_t]
theorem up_id {i : Nat} {x : Int32} (h : I o i = x) : va_up I o (upd (I o) i x) = I := by
  have : upd (I o) i x = I o := by funext j; unfold upd; split <;> simp_all
  rw [this, vu_id]
theorem up_at {f : Nat → Int32} {i : Nat} {x : Int32} : va_up I o (upd f i x) o i = x := by rw [vu_s]; unfold upd; rw [if_pos rfl]
end L36pa

section L36p2
variable {d : Nat} {K : qK} {I : Nat → Nat → Int32} {L : Nat → Nat → Int64} {R : Nat → Nat → Option Nat} {sz : Nat} {Q : Option Value → qMem → Prop} {b : Nat → Int32} {n : Nat}
theorem e4014 {a : Int32}    (q1 : a = 109 → Q (some (.int 1)) (K, I, L, R, sz)) (q2 : ¬ a = 109 → a = 115 → Q (some (.int 1)) (K, I, L, R, sz)) (q3 : ¬ a = 109 → ¬ a = 115 → a = 116 → Q (some (.int 1)) (K, I, L, R, sz)) (q4 : ¬ a = 109 → ¬ a = 115 → ¬ a = 116 → a = 110 → Q (some (.int 1)) (K, I, L, R, sz)) (q5 : ¬ a = 109 → ¬ a = 115 → ¬ a = 116 → ¬ a = 110 → ¬ a = 108 → Q (some (.int 0)) (K, I, L, R, sz)) (q6 : ¬ a = 109 → ¬ a = 115 → ¬ a = 116 → ¬ a = 110 → a = 108 → Q (some (.int 1)) (K, I, L, R, sz)) : X d 0 0 4014 0 0 0 (qent (qml 4014) [.int a]) [] (K, I, L, R, sz) Q := show X _ 0 0 4014 0 0 0 [some (.int a)] [] _ _ from x_ild0 k4014_0 <| x_bipush (v := 109) k4014_1 rfl <| x_icmpeq (tgt := 30) k4014_3 (by decide) (fun h1 => x_iconst (v := 1) k4014_30 rfl <| x_goto (tgt := 35) k4014_31 (by decide) <| x_zret k4014_35 rfl (Or.inr rfl) (Nat.le_refl _) (Nat.le_refl _) <| (q1 h1)) (fun h1 => x_ild0 k4014_6 <| x_bipush (v := 115) k4014_7 rfl <| x_icmpeq (tgt := 30) k4014_9 (by decide) (fun h2 => x_iconst (v := 1) k4014_30 rfl <| x_goto (tgt := 35) k4014_31 (by decide) <| x_zret k4014_35 rfl (Or.inr rfl) (Nat.le_refl _) (Nat.le_refl _) <| (q2 h1 h2)) (fun h2 => x_ild0 k4014_12 <| x_bipush (v := 116) k4014_13 rfl <| x_icmpeq (tgt := 30) k4014_15 (by decide) (fun h3 => x_iconst (v := 1) k4014_30 rfl <| x_goto (tgt := 35) k4014_31 (by decide) <| x_zret k4014_35 rfl (Or.inr rfl) (Nat.le_refl _) (Nat.le_refl _) <| (q3 h1 h2 h3)) (fun h3 => x_ild0 k4014_18 <| x_bipush (v := 110) k4014_19 rfl <| x_icmpeq (tgt := 30) k4014_21 (by decide) (fun h4 => x_iconst (v := 1) k4014_30 rfl <| x_goto (tgt := 35) k4014_31 (by decide) <| x_zret k4014_35 rfl (Or.inr rfl) (Nat.le_refl _) (Nat.le_refl _) <| (q4 h1 h2 h3 h4)) (fun h4 => x_ild0 k4014_24 <| x_bipush (v := 108) k4014_25 rfl <| x_icmpne (tgt := 34) k4014_27 (by decide) (fun h5 => x_iconst (v := 0) k4014_34 rfl <| x_zret k4014_35 rfl (Or.inl rfl) (Nat.le_refl _) (Nat.le_refl _) <| (q5 h1 h2 h3 h4 h5)) (fun h5 => x_iconst (v := 1) k4014_30 rfl <| x_goto (tgt := 35) k4014_31 (by decide) <| x_zret k4014_35 rfl (Or.inr rfl) (Nat.le_refl _) (Nat.le_refl _) <| (q6 h1 h2 h3 h4 h5))))))
theorem e4015 {a : Int32}    (q1 : a = 61 → Q (some (.int 1)) (K, I, L, R, sz)) (q2 : ¬ a = 61 → a = 60 → Q (some (.int 1)) (K, I, L, R, sz)) (q3 : ¬ a = 61 → ¬ a = 60 → ¬ a = 62 → Q (some (.int 0)) (K, I, L, R, sz)) (q4 : ¬ a = 61 → ¬ a = 60 → a = 62 → Q (some (.int 1)) (K, I, L, R, sz)) : X d 0 0 4015 0 0 0 (qent (qml 4015) [.int a]) [] (K, I, L, R, sz) Q := show X _ 0 0 4015 0 0 0 [some (.int a)] [] _ _ from x_ild0 k4015_0 <| x_bipush (v := 61) k4015_1 rfl <| x_icmpeq (tgt := 18) k4015_3 (by decide) (fun h1 => x_iconst (v := 1) k4015_18 rfl <| x_goto (tgt := 23) k4015_19 (by decide) <| x_zret k4015_23 rfl (Or.inr rfl) (Nat.le_refl _) (Nat.le_refl _) <| (q1 h1)) (fun h1 => x_ild0 k4015_6 <| x_bipush (v := 60) k4015_7 rfl <| x_icmpeq (tgt := 18) k4015_9 (by decide) (fun h2 => x_iconst (v := 1) k4015_18 rfl <| x_goto (tgt := 23) k4015_19 (by decide) <| x_zret k4015_23 rfl (Or.inr rfl) (Nat.le_refl _) (Nat.le_refl _) <| (q2 h1 h2)) (fun h2 => x_ild0 k4015_12 <| x_bipush (v := 62) k4015_13 rfl <| x_icmpne (tgt := 22) k4015_15 (by decide) (fun h3 => x_iconst (v := 0) k4015_22 rfl <| x_zret k4015_23 rfl (Or.inl rfl) (Nat.le_refl _) (Nat.le_refl _) <| (q3 h1 h2 h3)) (fun h3 => x_iconst (v := 1) k4015_18 rfl <| x_goto (tgt := 23) k4015_19 (by decide) <| x_zret k4015_23 rfl (Or.inr rfl) (Nat.le_refl _) (Nat.le_refl _) <| (q4 h1 h2 h3))))
theorem e7003 {a : Int32}    (q1 : a < 48 → Q (some (.int 0)) (K, I, L, R, sz)) (q2 : ¬ a < 48 → 57 < a → Q (some (.int 0)) (K, I, L, R, sz)) (q3 : ¬ a < 48 → ¬ 57 < a → Q (some (.int 1)) (K, I, L, R, sz)) : X d 0 0 7003 0 0 0 (qent (qml 7003) [.int a]) [] (K, I, L, R, sz) Q := show X _ 0 0 7003 0 0 0 [some (.int a)] [] _ _ from x_ild0 k7003_0 <| x_bipush (v := 48) k7003_1 rfl <| x_icmplt (tgt := 16) k7003_3 (by decide) (fun h1 => x_iconst (v := 0) k7003_16 rfl <| x_zret k7003_17 rfl (Or.inl rfl) (Nat.le_refl _) (Nat.le_refl _) <| (q1 h1)) (fun h1 => x_ild0 k7003_6 <| x_bipush (v := 57) k7003_7 rfl <| x_icmpgt (tgt := 16) k7003_9 (by decide) (fun h2 => x_iconst (v := 0) k7003_16 rfl <| x_zret k7003_17 rfl (Or.inl rfl) (Nat.le_refl _) (Nat.le_refl _) <| (q2 h1 h2)) (fun h2 => x_iconst (v := 1) k7003_12 rfl <| x_goto (tgt := 17) k7003_13 (by decide) <| x_zret k7003_17 rfl (Or.inr rfl) (Nat.le_refl _) (Nat.le_refl _) <| (q3 h1 h2)))
theorem s7003 {a : Int32} (ht : qDig a → Q (some (.int 1)) (K, I, L, R, sz)) (hf : ¬ qDig a → Q (some (.int 0)) (K, I, L, R, sz)) : X d 0 0 7003 0 0 0 (qent (qml 7003) [.int a]) [] (K, I, L, R, sz) Q := by
  refine e7003 (fun h => hf (fun q => Int32.not_lt.mpr q.1 h)) (fun _ h => hf (fun q => Int32.not_lt.mpr q.2 h)) (fun h1 h2 => ht ⟨Int32.not_lt.mp h1, Int32.not_lt.mp h2⟩)
theorem s4014 {a : Int32} (ht : qltr a → Q (some (.int 1)) (K, I, L, R, sz)) (hf : ¬ qltr a → Q (some (.int 0)) (K, I, L, R, sz)) : X d 0 0 4014 0 0 0 (qent (qml 4014) [.int a]) [] (K, I, L, R, sz) Q := by
  refine e4014 (fun h => ht (Or.inl h)) (fun _ h => ht (Or.inr (Or.inl h))) (fun _ _ h => ht (Or.inr (Or.inr (Or.inl h)))) (fun _ _ _ h => ht (Or.inr (Or.inr (Or.inr (Or.inl h))))) (fun h1 h2 h3 h4 h5 => hf (fun q => ?_)) (fun _ _ _ _ h => ht (Or.inr (Or.inr (Or.inr (Or.inr h)))))
  rcases q with q | q | q | q | q
  · exact h1 q
  · exact h2 q
  · exact h3 q
  · exact h4 q
  · exact h5 q
theorem s4015 {a : Int32} (ht : cCmp a = true → Q (some (.int 1)) (K, I, L, R, sz)) (hf : ¬ cCmp a = true → Q (some (.int 0)) (K, I, L, R, sz)) : X d 0 0 4015 0 0 0 (qent (qml 4015) [.int a]) [] (K, I, L, R, sz) Q := by
  refine e4015 (fun h => ht (by simp [h])) (fun _ h => ht (by simp [h])) (fun h1 h2 h3 => hf (by simp [h1, h2, h3])) (fun _ _ h => ht (by simp [h]))

theorem v7001_3 (hK : qLay K sz) (hR : qRef R) (h : ∃ n k, qTp I n ∧ I 3 1 = nI k ∧ k ≤ n) (hq : ∀ J, nxR I 3 J → Q (some (.int (nxV I 3))) (K, J, L, R, sz)) : X (d + 1) 0 0 7001 0 0 0 (qent (qml 7001) [.ref 3]) [] (K, I, L, R, sz) Q := by
  obtain ⟨n, k, h1, h2, h3⟩ := h
  refine u7001_3 hK hR h1 h2 h3 ?_
  have e1 : nxK I 3 = nx (tb I n) n k := nxK_at h1 (fun _ => rfl) h2 h3
  have e2 : nxV I 3 = tb I n (nx (tb I n) n k) := nxV_at h1 (fun _ => rfl) h2 h3
  have := hq _ (show nxR I 3 (va_up I 3 (upd (I 3) 1 (nI (nxK I 3)))) from rfl)
  rw [e1, e2] at this
  exact this

theorem e7002_3 {a : Int32}  (hK : qLay K sz) (hR : qRef R) (b1 : ∃ n k, qTp I n ∧ I 3 1 = nI k ∧ k ≤ n) (q1 : ∀ I1 : Nat → Nat → Int32, nxR I 3 I1 → (nxV I 3) = a → ∀ I4 : Nat → Nat → Int32, I4 = va_up I1 3 (upd (I1 3) 1 ((I1 3 1) + 1)) → Q (some (.int 1)) (K, I4, L, R, sz)) (q2 : ∀ I1 : Nat → Nat → Int32, nxR I 3 I1 → ¬ (nxV I 3) = a → Q (some (.int 0)) (K, I1, L, R, sz)) : X (d + 2) 0 0 7002 0 0 0 (qent (qml 7002) [.ref 3, .int a]) [] (K, I, L, R, sz) Q := show X _ 0 0 7002 0 0 0 [some (.ref 3), some (.int a)] [] _ _ from x_ald0 k7002_0 <| x_cV0 (MCz := 0) (MSz := 0) k7002_1 v7_28_2 (hK.at rfl) (Nat.le_of_ble_eq_true rfl) (Nat.le_of_ble_eq_true rfl) (Nat.le_refl _) (Nat.le_refl _) <| v7001_3 hK hR b1 (fun I1 g2 => x_ild1 k7002_4 <| x_icmpeq (tgt := 10) k7002_5 (by decide) (fun h3 => x_ald0 k7002_10 <| x_dup k7002_11 rfl <| x_getI k7002_12 f7_15_2 (hK.at rfl) rfl <| x_iconst (v := 1) k7002_15 rfl <| x_iadd k7002_16 <| x_putI k7002_17 f7_15_2 (Or.inl rfl) (hK.at rfl) <| x_nm fun I4 e5 => x_iconst (v := 1) k7002_20 rfl <| x_zret k7002_21 rfl (Or.inr rfl) (Nat.le_refl _) (Nat.le_refl _) <| (q1 I1 g2 h3 I4 e5)) (fun h3 => x_iconst (v := 0) k7002_8 rfl <| x_zret k7002_9 rfl (Or.inl rfl) (Nat.le_refl _) (Nat.le_refl _) <| (q2 I1 g2 h3)))
theorem e7004_3 {a b c : Int32}  (hK : qLay K sz) (hR : qRef R) (b1 : ∃ n k, qTp I n ∧ I 3 1 = nI k ∧ k ≤ n) (q1 : ∀ I1 : Nat → Nat → Int32, nxR I 3 I1 → qDig (nxV I 3) → X (d + 2) 0 0 7004 0 0 18 [some (.ref 3), some (.int a), some (.int b), some (.int c), some (.int 0), some (.int 0)] [] (K, I1, L, R, sz) Q) (q2 : ∀ I1 : Nat → Nat → Int32, nxR I 3 I1 → ¬ qDig (nxV I 3) → Q (some (.int (-1))) (K, I1, L, R, sz)) : X (d + 2) 0 0 7004 0 0 0 (qent (qml 7004) [.ref 3, .int a, .int b, .int c]) [] (K, I, L, R, sz) Q := show X _ 0 0 7004 0 0 0 [some (.ref 3), some (.int a), some (.int b), some (.int c), none, none] [] _ _ from x_ald0 k7004_0 <| x_cV0 (MCz := 0) (MSz := 0) k7004_1 v7_28_2 (hK.at rfl) (Nat.le_of_ble_eq_true rfl) (Nat.le_of_ble_eq_true rfl) (Nat.le_refl _) (Nat.le_refl _) <| v7001_3 hK hR b1 (fun I1 g2 => x_cS1 (MCz := 0) (MSz := 0) k7004_4 s7_32 (Nat.le_of_ble_eq_true rfl) (Nat.le_of_ble_eq_true rfl) (Nat.le_refl _) (Nat.le_refl _) <| s7003 (fun g3 => x_ifneT (tgt := 12) k7004_7 (by decide) (show ¬ (1 : Int32) = 0 by decide) <| x_iconst (v := 0) k7004_12 rfl <| x_ist4 k7004_13 (Nat.le_of_ble_eq_true rfl) rfl <| x_iconst (v := 0) k7004_15 rfl <| x_ist5 k7004_16 (Nat.le_of_ble_eq_true rfl) rfl <| (q1 I1 g2 g3)) (fun g4 => x_ifneF (tgt := 12) k7004_7 (by decide) (show (0 : Int32) = 0 by decide) <| x_iconst (v := (-1)) k7004_10 rfl <| x_iret k7004_11 rfl (Nat.le_refl _) (Nat.le_refl _) <| (q2 I1 g2 g4)))
theorem g7004_3_18 {x1 : Int32} {x2 : Int32} {x3 : Int32} {x4 : Int32} {x5 : Int32}  (hK : qLay K sz) (hR : qRef R) (b1 : x1 ≤ x5 → ∃ n k, I 1 1 = nI n ∧ n ≤ 160 ∧ (I 3 1) = nI k ∧ k ≤ n) (b2 : ¬ x1 ≤ x5 → ∃ n k, I 1 1 = nI n ∧ n ≤ 160 ∧ (I 3 1) = nI k ∧ k ≤ n) (q1 : x1 ≤ x5 → qDig (tbI I (I 3 1)) → Q (some (.int (-1))) (K, I, L, R, sz)) (q2 : x1 ≤ x5 → ¬ qDig (tbI I (I 3 1)) → x4 < x2 → ∀ I5 : Nat → Nat → Int32, I5 = va_up I 3 (upd (I 3) 1 ((I 3 1) - 1)) → Q (some (.int (-1))) (K, I5, L, R, sz)) (q3 : x1 ≤ x5 → ¬ qDig (tbI I (I 3 1)) → ¬ x4 < x2 → x4 ≤ x3 → Q (some (.int x4)) (K, I, L, R, sz)) (q4 : x1 ≤ x5 → ¬ qDig (tbI I (I 3 1)) → ¬ x4 < x2 → ¬ x4 ≤ x3 → ∀ I8 : Nat → Nat → Int32, I8 = va_up I 3 (upd (I 3) 1 ((I 3 1) - 1)) → Q (some (.int (-1))) (K, I8, L, R, sz)) (q5 : ¬ x1 ≤ x5 → qDig (tbI I (I 3 1)) → ∀ I11 : Nat → Nat → Int32, I11 = va_up I 3 (upd (I 3) 1 ((I 3 1) + 1)) → X (d + 1) 0 0 7004 0 0 18 [some (.ref 3), some (.int x1), some (.int x2), some (.int x3), some (.int (((x4 * 10) + (tbI I (I 3 1))) - 48)), some (.int (x5 + 1))] [] (K, I11, L, R, sz) Q) (q6 : ¬ x1 ≤ x5 → ¬ qDig (tbI I (I 3 1)) → x4 < x2 → ∀ I17 : Nat → Nat → Int32, I17 = va_up I 3 (upd (I 3) 1 ((I 3 1) - 1)) → Q (some (.int (-1))) (K, I17, L, R, sz)) (q7 : ¬ x1 ≤ x5 → ¬ qDig (tbI I (I 3 1)) → ¬ x4 < x2 → x4 ≤ x3 → Q (some (.int x4)) (K, I, L, R, sz)) (q8 : ¬ x1 ≤ x5 → ¬ qDig (tbI I (I 3 1)) → ¬ x4 < x2 → ¬ x4 ≤ x3 → ∀ I20 : Nat → Nat → Int32, I20 = va_up I 3 (upd (I 3) 1 ((I 3 1) - 1)) → Q (some (.int (-1))) (K, I20, L, R, sz)) : X (d + 1) 0 0 7004 0 0 18 [some (.ref 3), some (.int x1), some (.int x2), some (.int x3), some (.int x4), some (.int x5)] [] (K, I, L, R, sz) Q := x_ild5 k7004_18 <| x_ild1 k7004_20 <| x_icmpge (tgt := 79) k7004_21 (by decide) (fun h1 => x_ald0 k7004_79 <| x_getR k7004_80 f7_9_2 (hK.at rfl) rfl (hR _ _ _ rfl) <| x_ald0 k7004_83 <| x_getI k7004_84 f7_15_2 (hK.at rfl) rfl <| x_cV1 (MCz := 0) (MSz := 0) k7004_87 v7_36_8 (hK.at rfl) (Nat.le_of_ble_eq_true rfl) (Nat.le_of_ble_eq_true rfl) (Nat.le_refl _) (Nat.le_refl _) <| u9002 hK hR (b1 h1) (x_cS1 (MCz := 0) (MSz := 0) k7004_90 s7_32 (Nat.le_of_ble_eq_true rfl) (Nat.le_of_ble_eq_true rfl) (Nat.le_refl _) (Nat.le_refl _) <| s7003 (fun g2 => x_ifeqF (tgt := 98) k7004_93 (by decide) (show ¬ (1 : Int32) = 0 by decide) <| x_iconst (v := (-1)) k7004_96 rfl <| x_iret k7004_97 rfl (Nat.le_refl _) (Nat.le_refl _) <| (q1 h1 g2)) (fun g3 => x_ifeqT (tgt := 98) k7004_93 (by decide) (show (0 : Int32) = 0 by decide) <| x_ild4 k7004_98 <| x_ild2 k7004_100 <| x_icmplt (tgt := 110) k7004_101 (by decide) (fun h4 => x_ald0 k7004_110 <| x_dup k7004_111 rfl <| x_getI k7004_112 f7_15_2 (hK.at rfl) rfl <| x_iconst (v := 1) k7004_115 rfl <| x_isub k7004_116 <| x_putI k7004_117 f7_15_2 (Or.inl rfl) (hK.at rfl) <| x_nm fun I5 e6 => x_iconst (v := (-1)) k7004_120 rfl <| x_iret k7004_121 rfl (Nat.le_refl _) (Nat.le_refl _) <| (q2 h1 g3 h4 I5 e6)) (fun h4 => x_ild4 k7004_104 <| x_ild3 k7004_106 <| x_icmple (tgt := 122) k7004_107 (by decide) (fun h7 => x_ild4 k7004_122 <| x_iret k7004_124 rfl (Nat.le_refl _) (Nat.le_refl _) <| (q3 h1 g3 h4 h7)) (fun h7 => x_ald0 k7004_110 <| x_dup k7004_111 rfl <| x_getI k7004_112 f7_15_2 (hK.at rfl) rfl <| x_iconst (v := 1) k7004_115 rfl <| x_isub k7004_116 <| x_putI k7004_117 f7_15_2 (Or.inl rfl) (hK.at rfl) <| x_nm fun I8 e9 => x_iconst (v := (-1)) k7004_120 rfl <| x_iret k7004_121 rfl (Nat.le_refl _) (Nat.le_refl _) <| (q4 h1 g3 h4 h7 I8 e9)))))) (fun h1 => x_ald0 k7004_24 <| x_getR k7004_25 f7_9_2 (hK.at rfl) rfl (hR _ _ _ rfl) <| x_ald0 k7004_28 <| x_getI k7004_29 f7_15_2 (hK.at rfl) rfl <| x_cV1 (MCz := 0) (MSz := 0) k7004_32 v7_36_8 (hK.at rfl) (Nat.le_of_ble_eq_true rfl) (Nat.le_of_ble_eq_true rfl) (Nat.le_refl _) (Nat.le_refl _) <| u9002 hK hR (b2 h1) (x_cS1 (MCz := 0) (MSz := 0) k7004_35 s7_32 (Nat.le_of_ble_eq_true rfl) (Nat.le_of_ble_eq_true rfl) (Nat.le_refl _) (Nat.le_refl _) <| s7003 (fun g10 => x_ifeqF (tgt := 79) k7004_38 (by decide) (show ¬ (1 : Int32) = 0 by decide) <| x_ild4 k7004_41 <| x_bipush (v := 10) k7004_43 rfl <| x_imul k7004_45 <| x_ald0 k7004_46 <| x_getR k7004_47 f7_9_2 (hK.at rfl) rfl (hR _ _ _ rfl) <| x_ald0 k7004_50 <| x_getI k7004_51 f7_15_2 (hK.at rfl) rfl <| x_cV1 (MCz := 0) (MSz := 0) k7004_54 v7_36_8 (hK.at rfl) (Nat.le_of_ble_eq_true rfl) (Nat.le_of_ble_eq_true rfl) (Nat.le_refl _) (Nat.le_refl _) <| u9002 hK hR (b2 h1) (x_iadd k7004_57 <| x_bipush (v := 48) k7004_58 rfl <| x_isub k7004_60 <| x_ist4 k7004_61 (Nat.le_of_ble_eq_true rfl) rfl <| x_ald0 k7004_63 <| x_dup k7004_64 rfl <| x_getI k7004_65 f7_15_2 (hK.at rfl) rfl <| x_iconst (v := 1) k7004_68 rfl <| x_iadd k7004_69 <| x_putI k7004_70 f7_15_2 (Or.inl rfl) (hK.at rfl) <| x_nm fun I11 e12 => x_inc5 (c := 1) k7004_73 rfl (Nat.le_of_ble_eq_true rfl) rfl <| x_goto (tgt := 18) k7004_76 (by decide) <| (q5 h1 g10 I11 e12))) (fun g13 => x_ifeqT (tgt := 79) k7004_38 (by decide) (show (0 : Int32) = 0 by decide) <| x_ald0 k7004_79 <| x_getR k7004_80 f7_9_2 (hK.at rfl) rfl (hR _ _ _ rfl) <| x_ald0 k7004_83 <| x_getI k7004_84 f7_15_2 (hK.at rfl) rfl <| x_cV1 (MCz := 0) (MSz := 0) k7004_87 v7_36_8 (hK.at rfl) (Nat.le_of_ble_eq_true rfl) (Nat.le_of_ble_eq_true rfl) (Nat.le_refl _) (Nat.le_refl _) <| u9002 hK hR (b2 h1) (x_cS1 (MCz := 0) (MSz := 0) k7004_90 s7_32 (Nat.le_of_ble_eq_true rfl) (Nat.le_of_ble_eq_true rfl) (Nat.le_refl _) (Nat.le_refl _) <| s7003 (fun g14 => absurd g14 g13) (fun g15 => x_ifeqT (tgt := 98) k7004_93 (by decide) (show (0 : Int32) = 0 by decide) <| x_ild4 k7004_98 <| x_ild2 k7004_100 <| x_icmplt (tgt := 110) k7004_101 (by decide) (fun h16 => x_ald0 k7004_110 <| x_dup k7004_111 rfl <| x_getI k7004_112 f7_15_2 (hK.at rfl) rfl <| x_iconst (v := 1) k7004_115 rfl <| x_isub k7004_116 <| x_putI k7004_117 f7_15_2 (Or.inl rfl) (hK.at rfl) <| x_nm fun I17 e18 => x_iconst (v := (-1)) k7004_120 rfl <| x_iret k7004_121 rfl (Nat.le_refl _) (Nat.le_refl _) <| (q6 h1 g13 h16 I17 e18)) (fun h16 => x_ild4 k7004_104 <| x_ild3 k7004_106 <| x_icmple (tgt := 122) k7004_107 (by decide) (fun h19 => x_ild4 k7004_122 <| x_iret k7004_124 rfl (Nat.le_refl _) (Nat.le_refl _) <| (q7 h1 g13 h16 h19)) (fun h19 => x_ald0 k7004_110 <| x_dup k7004_111 rfl <| x_getI k7004_112 f7_15_2 (hK.at rfl) rfl <| x_iconst (v := 1) k7004_115 rfl <| x_isub k7004_116 <| x_putI k7004_117 f7_15_2 (Or.inl rfl) (hK.at rfl) <| x_nm fun I20 e21 => x_iconst (v := (-1)) k7004_120 rfl <| x_iret k7004_121 rfl (Nat.le_refl _) (Nat.le_refl _) <| (q8 h1 g13 h16 h19 I20 e21))))))))
theorem l7004_3 {lo hi : Int32} {m : Nat} (hK : qLay K sz) (hR : qRef R) (hm : m ≤ 4) : ∀ (f i : Nat) (v : Int32) (k : Nat) (I : Nat → Nat → Int32), i + f = m → qTp I n → (∀ j, tb I n j = b j) → I 3 1 = nI k → k ≤ n → (i = 0 → qDig (b k)) → (0 < i → 0 < k) → (∀ k' w, qBd (gDg b f v k) (fun k2 v => if v < lo ∨ hi < v then (k2 - 1, none) else (k2, some v)) = (k', some w) → Q (some (.int w)) (K, va_up I 3 (upd (I 3) 1 (nI k')), L, R, sz)) → (∀ k', qBd (gDg b f v k) (fun k2 v => if v < lo ∨ hi < v then ((k2 - 1, none) : qRs Int32) else (k2, some v)) = (k', none) → Q (some (.int (-1))) (K, va_up I 3 (upd (I 3) 1 (nI k')), L, R, sz)) → X (d + 1) 0 0 7004 0 0 18 [some (.ref 3), some (.int (nI m)), some (.int lo), some (.int hi), some (.int v), some (.int (nI i))] [] (K, I, L, R, sz) Q := by
  intro f
  induction f with
  | zero =>
    intro i v k I hi ht hb hk hkn h0 hpos hok hno
    have h2 := ht.2
    have hw : ∃ n k, I 1 1 = nI n ∧ n ≤ 160 ∧ I 3 1 = nI k ∧ k ≤ n := ⟨n, k, ht.1, h2, hk, hkn⟩
    have ev : tbI I (I 3 1) = b k := by rw [hk]; exact tbI_at ht hb hkn
    have hle : nI m ≤ nI i := nI_le (by omega) (by omega)
    have eid : va_up I 3 (upd (I 3) 1 (nI k)) = I := up_id hk
    refine g7004_3_18 hK hR (fun _ => hw) (fun _ => hw) (fun _ h => ?_) (fun _ h hl B hB => ?_) (fun _ h hl hh => ?_) (fun _ h hl hh B hB => ?_) (fun h => absurd hle h) (fun h => absurd hle h) (fun h => absurd hle h) (fun h => absurd hle h)
    · rw [ev] at h
      have := hno k (by rw [gDg, if_pos h]; rfl)
      rw [eid] at this; exact this
    · rw [ev] at h
      have hk0 : 0 < k := by
        by_cases c : i = 0
        · exact absurd (h0 c) h
        · exact hpos (by omega)
      have := hno (k - 1) (by rw [gDg, if_neg h]; simp only [qBd]; rw [if_pos (Or.inl hl)])
      rw [hB, hk, show (1 : Int32) = nI 1 from rfl, pk_sub (by omega)]; exact this
    · rw [ev] at h
      have := hok k v (by rw [gDg, if_neg h]; simp only [qBd]; rw [if_neg (fun q => by rcases q with q | q; exact hl q; exact Int32.not_lt.mpr hh q)])
      rw [eid] at this; exact this
    · rw [ev] at h
      have hk0 : 0 < k := by
        by_cases c : i = 0
        · exact absurd (h0 c) h
        · exact hpos (by omega)
      have := hno (k - 1) (by rw [gDg, if_neg h]; simp only [qBd]; rw [if_pos (Or.inr (Int32.not_le.mp hh))])
      rw [hB, hk, show (1 : Int32) = nI 1 from rfl, pk_sub (by omega)]; exact this
  | succ f ih =>
    intro i v k I hi ht hb hk hkn h0 hpos hok hno
    have h2 := ht.2
    have hw : ∃ n k, I 1 1 = nI n ∧ n ≤ 160 ∧ I 3 1 = nI k ∧ k ≤ n := ⟨n, k, ht.1, h2, hk, hkn⟩
    have ev : tbI I (I 3 1) = b k := by rw [hk]; exact tbI_at ht hb hkn
    have hle : ¬ nI m ≤ nI i := nI_ge (by omega) (by omega)
    have eid : va_up I 3 (upd (I 3) 1 (nI k)) = I := up_id hk
    refine g7004_3_18 hK hR (fun _ => hw) (fun _ => hw) (fun h => absurd h hle) (fun h => absurd h hle) (fun h => absurd h hle) (fun h => absurd h hle) (fun _ h B hB => ?_) (fun _ h hl B hB => ?_) (fun _ h hl hh => ?_) (fun _ h hl hh B hB => ?_)
    · rw [ev] at h ⊢
      rw [gDg, if_pos h] at hok hno
      have hl := (qTp_b ht hb).lt (qDig_n h)
      rw [hk, nI_1] at hB
      rw [nI_1]
      obtain ⟨t1, t2⟩ := qTp_up (o := 3) (f := upd (I 3) 1 (nI (k + 1))) (by decide) (by decide) ht hb
      rw [← hB] at t1 t2
      have e2 : ∀ x, va_up B 3 (upd (B 3) 1 x) = va_up I 3 (upd (I 3) 1 x) := fun x => by rw [hB]; exact up_up
      refine ih (i + 1) _ (k + 1) B (by omega) t1 t2 (by rw [hB]; exact up_at) (by omega) (fun q => by omega) (fun _ => by omega) (fun k' w e => ?_) (fun k' e => ?_)
      · rw [e2]; exact hok k' w e
      · rw [e2]; exact hno k' e
    · rw [ev] at h
      have hk0 : 0 < k := by
        by_cases c : i = 0
        · exact absurd (h0 c) h
        · exact hpos (by omega)
      have := hno (k - 1) (by rw [gDg, if_neg h]; simp only [qBd]; rw [if_pos (Or.inl hl)])
      rw [hB, hk, show (1 : Int32) = nI 1 from rfl, pk_sub (by omega)]; exact this
    · rw [ev] at h
      have := hok k v (by rw [gDg, if_neg h]; simp only [qBd]; rw [if_neg (fun q => by rcases q with q | q; exact hl q; exact Int32.not_lt.mpr hh q)])
      rw [eid] at this; exact this
    · rw [ev] at h
      have hk0 : 0 < k := by
        by_cases c : i = 0
        · exact absurd (h0 c) h
        · exact hpos (by omega)
      have := hno (k - 1) (by rw [gDg, if_neg h]; simp only [qBd]; rw [if_pos (Or.inr (Int32.not_le.mp hh))])
      rw [hB, hk, show (1 : Int32) = nI 1 from rfl, pk_sub (by omega)]; exact this
theorem n7004_3 {lo hi : Int32} {m k : Nat} (hK : qLay K sz) (hR : qRef R) (hm : m ≤ 4) (ht : qTp I n) (hb : ∀ j, tb I n j = b j) (hk : I 3 1 = nI k) (hkn : k ≤ n) (hok : ∀ k' w, gNum b n m lo hi k = (k', some w) → Q (some (.int w)) (K, va_up I 3 (upd (I 3) 1 (nI k')), L, R, sz)) (hno : ∀ k', gNum b n m lo hi k = (k', none) → Q (some (.int (-1))) (K, va_up I 3 (upd (I 3) 1 (nI k')), L, R, sz)) : X (d + 2) 0 0 7004 0 0 0 (qent (qml 7004) [.ref 3, .int (nI m), .int lo, .int hi]) [] (K, I, L, R, sz) Q := by
  have hB := qTp_b ht hb
  have g2 := nx_le hB hkn
  have ev : nxV I 3 = b (nx b n k) := nxV_at ht hb hk hkn
  have ek : nxK I 3 = nx b n k := nxK_at ht hb hk hkn
  refine e7004_3 hK hR ⟨n, k, ht, hk, hkn⟩ (fun J hJ h => ?_) (fun J hJ h => ?_)
  · rw [ev] at h
    unfold nxR at hJ
    rw [ek] at hJ
    obtain ⟨t1, t2⟩ := qTp_up (o := 3) (f := upd (I 3) 1 (nI (nx b n k))) (by decide) (by decide) ht hb
    rw [← hJ] at t1 t2
    have e2 : ∀ x, va_up J 3 (upd (J 3) 1 x) = va_up I 3 (upd (I 3) 1 x) := fun x => by rw [hJ]; exact up_up
    refine l7004_3 hK hR hm m 0 0 (nx b n k) J (by omega) t1 t2 (by rw [hJ]; exact up_at) g2 (fun _ => h) (fun q => by omega) (fun k' w e => ?_) (fun k' e => ?_)
    · rw [e2]; exact hok k' w (by unfold gNum; rw [if_pos h]; exact e)
    · rw [e2]; exact hno k' (by unfold gNum; rw [if_pos h]; exact e)
  · rw [ev] at h
    unfold nxR at hJ
    rw [ek] at hJ
    have := hno (nx b n k) (by unfold gNum; rw [if_neg h])
    rw [hJ]; exact this
theorem p7002_3 {x : Int32} {k : Nat} (hK : qLay K sz) (hR : qRef R) (ht : qTp I n) (hb : ∀ j, tb I n j = b j) (hk : I 3 1 = nI k) (hkn : k ≤ n) (hok : b (nx b n k) = x → Q (some (.int 1)) (K, va_up I 3 (upd (I 3) 1 (nI (nx b n k + 1))), L, R, sz)) (hno : ¬ b (nx b n k) = x → Q (some (.int 0)) (K, va_up I 3 (upd (I 3) 1 (nI (nx b n k))), L, R, sz)) : X (d + 2) 0 0 7002 0 0 0 (qent (qml 7002) [.ref 3, .int x]) [] (K, I, L, R, sz) Q := by
  have ev : nxV I 3 = b (nx b n k) := nxV_at ht hb hk hkn
  have ek : nxK I 3 = nx b n k := nxK_at ht hb hk hkn
  refine e7002_3 hK hR ⟨n, k, ht, hk, hkn⟩ (fun J hJ h B hB => ?_) (fun J hJ h => ?_)
  · rw [ev] at h
    unfold nxR at hJ
    rw [ek] at hJ
    have : B = va_up I 3 (upd (I 3) 1 (nI (nx b n k + 1))) := by
      rw [hB, hJ, up_up, up_at, nI_1]
    rw [this]; exact hok h
  · rw [ev] at h
    unfold nxR at hJ
    rw [ek] at hJ
    rw [hJ]; exact hno h

theorem v7001_20 (hK : qLay K sz) (hR : qRef R) (h : ∃ n k, qTp I n ∧ I 20 1 = nI k ∧ k ≤ n) (hq : ∀ J, nxR I 20 J → Q (some (.int (nxV I 20))) (K, J, L, R, sz)) : X (d + 1) 0 0 7001 0 0 0 (qent (qml 7001) [.ref 20]) [] (K, I, L, R, sz) Q := by
  obtain ⟨n, k, h1, h2, h3⟩ := h
  refine u7001_20 hK hR h1 h2 h3 ?_
  have e1 : nxK I 20 = nx (tb I n) n k := nxK_at h1 (fun _ => rfl) h2 h3
  have e2 : nxV I 20 = tb I n (nx (tb I n) n k) := nxV_at h1 (fun _ => rfl) h2 h3
  have := hq _ (show nxR I 20 (va_up I 20 (upd (I 20) 1 (nI (nxK I 20)))) from rfl)
  rw [e1, e2] at this
  exact this

theorem e7002_20 {a : Int32}  (hK : qLay K sz) (hR : qRef R) (b1 : ∃ n k, qTp I n ∧ I 20 1 = nI k ∧ k ≤ n) (q1 : ∀ I1 : Nat → Nat → Int32, nxR I 20 I1 → (nxV I 20) = a → ∀ I4 : Nat → Nat → Int32, I4 = va_up I1 20 (upd (I1 20) 1 ((I1 20 1) + 1)) → Q (some (.int 1)) (K, I4, L, R, sz)) (q2 : ∀ I1 : Nat → Nat → Int32, nxR I 20 I1 → ¬ (nxV I 20) = a → Q (some (.int 0)) (K, I1, L, R, sz)) : X (d + 2) 0 0 7002 0 0 0 (qent (qml 7002) [.ref 20, .int a]) [] (K, I, L, R, sz) Q := show X _ 0 0 7002 0 0 0 [some (.ref 20), some (.int a)] [] _ _ from x_ald0 k7002_0 <| x_cV0 (MCz := 0) (MSz := 0) k7002_1 v7_28_4 (hK.at rfl) (Nat.le_of_ble_eq_true rfl) (Nat.le_of_ble_eq_true rfl) (Nat.le_refl _) (Nat.le_refl _) <| v7001_20 hK hR b1 (fun I1 g2 => x_ild1 k7002_4 <| x_icmpeq (tgt := 10) k7002_5 (by decide) (fun h3 => x_ald0 k7002_10 <| x_dup k7002_11 rfl <| x_getI k7002_12 f7_15_4 (hK.at rfl) rfl <| x_iconst (v := 1) k7002_15 rfl <| x_iadd k7002_16 <| x_putI k7002_17 f7_15_4 (Or.inl rfl) (hK.at rfl) <| x_nm fun I4 e5 => x_iconst (v := 1) k7002_20 rfl <| x_zret k7002_21 rfl (Or.inr rfl) (Nat.le_refl _) (Nat.le_refl _) <| (q1 I1 g2 h3 I4 e5)) (fun h3 => x_iconst (v := 0) k7002_8 rfl <| x_zret k7002_9 rfl (Or.inl rfl) (Nat.le_refl _) (Nat.le_refl _) <| (q2 I1 g2 h3)))
theorem e7004_20 {a : Int32} {b : Int32} {c : Int32}  (hK : qLay K sz) (hR : qRef R) (b1 : ∃ n k, qTp I n ∧ I 20 1 = nI k ∧ k ≤ n) (q1 : ∀ I1 : Nat → Nat → Int32, nxR I 20 I1 → qDig (nxV I 20) → X (d + 2) 0 0 7004 0 0 18 [some (.ref 20), some (.int a), some (.int b), some (.int c), some (.int 0), some (.int 0)] [] (K, I1, L, R, sz) Q) (q2 : ∀ I1 : Nat → Nat → Int32, nxR I 20 I1 → ¬ qDig (nxV I 20) → Q (some (.int (-1))) (K, I1, L, R, sz)) : X (d + 2) 0 0 7004 0 0 0 (qent (qml 7004) [.ref 20, .int a, .int b, .int c]) [] (K, I, L, R, sz) Q := show X _ 0 0 7004 0 0 0 [some (.ref 20), some (.int a), some (.int b), some (.int c), none, none] [] _ _ from x_ald0 k7004_0 <| x_cV0 (MCz := 0) (MSz := 0) k7004_1 v7_28_4 (hK.at rfl) (Nat.le_of_ble_eq_true rfl) (Nat.le_of_ble_eq_true rfl) (Nat.le_refl _) (Nat.le_refl _) <| v7001_20 hK hR b1 (fun I1 g2 => x_cS1 (MCz := 0) (MSz := 0) k7004_4 s7_32 (Nat.le_of_ble_eq_true rfl) (Nat.le_of_ble_eq_true rfl) (Nat.le_refl _) (Nat.le_refl _) <| s7003 (fun g3 => x_ifneT (tgt := 12) k7004_7 (by decide) (show ¬ (1 : Int32) = 0 by decide) <| x_iconst (v := 0) k7004_12 rfl <| x_ist4 k7004_13 (Nat.le_of_ble_eq_true rfl) rfl <| x_iconst (v := 0) k7004_15 rfl <| x_ist5 k7004_16 (Nat.le_of_ble_eq_true rfl) rfl <| (q1 I1 g2 g3)) (fun g4 => x_ifneF (tgt := 12) k7004_7 (by decide) (show (0 : Int32) = 0 by decide) <| x_iconst (v := (-1)) k7004_10 rfl <| x_iret k7004_11 rfl (Nat.le_refl _) (Nat.le_refl _) <| (q2 I1 g2 g4)))
theorem g7004_20_18 {x1 : Int32} {x2 : Int32} {x3 : Int32} {x4 : Int32} {x5 : Int32}  (hK : qLay K sz) (hR : qRef R) (b1 : x1 ≤ x5 → ∃ n k, I 1 1 = nI n ∧ n ≤ 160 ∧ (I 20 1) = nI k ∧ k ≤ n) (b2 : ¬ x1 ≤ x5 → ∃ n k, I 1 1 = nI n ∧ n ≤ 160 ∧ (I 20 1) = nI k ∧ k ≤ n) (q1 : x1 ≤ x5 → qDig (tbI I (I 20 1)) → Q (some (.int (-1))) (K, I, L, R, sz)) (q2 : x1 ≤ x5 → ¬ qDig (tbI I (I 20 1)) → x4 < x2 → ∀ I5 : Nat → Nat → Int32, I5 = va_up I 20 (upd (I 20) 1 ((I 20 1) - 1)) → Q (some (.int (-1))) (K, I5, L, R, sz)) (q3 : x1 ≤ x5 → ¬ qDig (tbI I (I 20 1)) → ¬ x4 < x2 → x4 ≤ x3 → Q (some (.int x4)) (K, I, L, R, sz)) (q4 : x1 ≤ x5 → ¬ qDig (tbI I (I 20 1)) → ¬ x4 < x2 → ¬ x4 ≤ x3 → ∀ I8 : Nat → Nat → Int32, I8 = va_up I 20 (upd (I 20) 1 ((I 20 1) - 1)) → Q (some (.int (-1))) (K, I8, L, R, sz)) (q5 : ¬ x1 ≤ x5 → qDig (tbI I (I 20 1)) → ∀ I11 : Nat → Nat → Int32, I11 = va_up I 20 (upd (I 20) 1 ((I 20 1) + 1)) → X (d + 1) 0 0 7004 0 0 18 [some (.ref 20), some (.int x1), some (.int x2), some (.int x3), some (.int (((x4 * 10) + (tbI I (I 20 1))) - 48)), some (.int (x5 + 1))] [] (K, I11, L, R, sz) Q) (q6 : ¬ x1 ≤ x5 → ¬ qDig (tbI I (I 20 1)) → x4 < x2 → ∀ I17 : Nat → Nat → Int32, I17 = va_up I 20 (upd (I 20) 1 ((I 20 1) - 1)) → Q (some (.int (-1))) (K, I17, L, R, sz)) (q7 : ¬ x1 ≤ x5 → ¬ qDig (tbI I (I 20 1)) → ¬ x4 < x2 → x4 ≤ x3 → Q (some (.int x4)) (K, I, L, R, sz)) (q8 : ¬ x1 ≤ x5 → ¬ qDig (tbI I (I 20 1)) → ¬ x4 < x2 → ¬ x4 ≤ x3 → ∀ I20 : Nat → Nat → Int32, I20 = va_up I 20 (upd (I 20) 1 ((I 20 1) - 1)) → Q (some (.int (-1))) (K, I20, L, R, sz)) : X (d + 1) 0 0 7004 0 0 18 [some (.ref 20), some (.int x1), some (.int x2), some (.int x3), some (.int x4), some (.int x5)] [] (K, I, L, R, sz) Q := x_ild5 k7004_18 <| x_ild1 k7004_20 <| x_icmpge (tgt := 79) k7004_21 (by decide) (fun h1 => x_ald0 k7004_79 <| x_getR k7004_80 f7_9_4 (hK.at rfl) rfl (hR _ _ _ rfl) <| x_ald0 k7004_83 <| x_getI k7004_84 f7_15_4 (hK.at rfl) rfl <| x_cV1 (MCz := 0) (MSz := 0) k7004_87 v7_36_8 (hK.at rfl) (Nat.le_of_ble_eq_true rfl) (Nat.le_of_ble_eq_true rfl) (Nat.le_refl _) (Nat.le_refl _) <| u9002 hK hR (b1 h1) (x_cS1 (MCz := 0) (MSz := 0) k7004_90 s7_32 (Nat.le_of_ble_eq_true rfl) (Nat.le_of_ble_eq_true rfl) (Nat.le_refl _) (Nat.le_refl _) <| s7003 (fun g2 => x_ifeqF (tgt := 98) k7004_93 (by decide) (show ¬ (1 : Int32) = 0 by decide) <| x_iconst (v := (-1)) k7004_96 rfl <| x_iret k7004_97 rfl (Nat.le_refl _) (Nat.le_refl _) <| (q1 h1 g2)) (fun g3 => x_ifeqT (tgt := 98) k7004_93 (by decide) (show (0 : Int32) = 0 by decide) <| x_ild4 k7004_98 <| x_ild2 k7004_100 <| x_icmplt (tgt := 110) k7004_101 (by decide) (fun h4 => x_ald0 k7004_110 <| x_dup k7004_111 rfl <| x_getI k7004_112 f7_15_4 (hK.at rfl) rfl <| x_iconst (v := 1) k7004_115 rfl <| x_isub k7004_116 <| x_putI k7004_117 f7_15_4 (Or.inl rfl) (hK.at rfl) <| x_nm fun I5 e6 => x_iconst (v := (-1)) k7004_120 rfl <| x_iret k7004_121 rfl (Nat.le_refl _) (Nat.le_refl _) <| (q2 h1 g3 h4 I5 e6)) (fun h4 => x_ild4 k7004_104 <| x_ild3 k7004_106 <| x_icmple (tgt := 122) k7004_107 (by decide) (fun h7 => x_ild4 k7004_122 <| x_iret k7004_124 rfl (Nat.le_refl _) (Nat.le_refl _) <| (q3 h1 g3 h4 h7)) (fun h7 => x_ald0 k7004_110 <| x_dup k7004_111 rfl <| x_getI k7004_112 f7_15_4 (hK.at rfl) rfl <| x_iconst (v := 1) k7004_115 rfl <| x_isub k7004_116 <| x_putI k7004_117 f7_15_4 (Or.inl rfl) (hK.at rfl) <| x_nm fun I8 e9 => x_iconst (v := (-1)) k7004_120 rfl <| x_iret k7004_121 rfl (Nat.le_refl _) (Nat.le_refl _) <| (q4 h1 g3 h4 h7 I8 e9)))))) (fun h1 => x_ald0 k7004_24 <| x_getR k7004_25 f7_9_4 (hK.at rfl) rfl (hR _ _ _ rfl) <| x_ald0 k7004_28 <| x_getI k7004_29 f7_15_4 (hK.at rfl) rfl <| x_cV1 (MCz := 0) (MSz := 0) k7004_32 v7_36_8 (hK.at rfl) (Nat.le_of_ble_eq_true rfl) (Nat.le_of_ble_eq_true rfl) (Nat.le_refl _) (Nat.le_refl _) <| u9002 hK hR (b2 h1) (x_cS1 (MCz := 0) (MSz := 0) k7004_35 s7_32 (Nat.le_of_ble_eq_true rfl) (Nat.le_of_ble_eq_true rfl) (Nat.le_refl _) (Nat.le_refl _) <| s7003 (fun g10 => x_ifeqF (tgt := 79) k7004_38 (by decide) (show ¬ (1 : Int32) = 0 by decide) <| x_ild4 k7004_41 <| x_bipush (v := 10) k7004_43 rfl <| x_imul k7004_45 <| x_ald0 k7004_46 <| x_getR k7004_47 f7_9_4 (hK.at rfl) rfl (hR _ _ _ rfl) <| x_ald0 k7004_50 <| x_getI k7004_51 f7_15_4 (hK.at rfl) rfl <| x_cV1 (MCz := 0) (MSz := 0) k7004_54 v7_36_8 (hK.at rfl) (Nat.le_of_ble_eq_true rfl) (Nat.le_of_ble_eq_true rfl) (Nat.le_refl _) (Nat.le_refl _) <| u9002 hK hR (b2 h1) (x_iadd k7004_57 <| x_bipush (v := 48) k7004_58 rfl <| x_isub k7004_60 <| x_ist4 k7004_61 (Nat.le_of_ble_eq_true rfl) rfl <| x_ald0 k7004_63 <| x_dup k7004_64 rfl <| x_getI k7004_65 f7_15_4 (hK.at rfl) rfl <| x_iconst (v := 1) k7004_68 rfl <| x_iadd k7004_69 <| x_putI k7004_70 f7_15_4 (Or.inl rfl) (hK.at rfl) <| x_nm fun I11 e12 => x_inc5 (c := 1) k7004_73 rfl (Nat.le_of_ble_eq_true rfl) rfl <| x_goto (tgt := 18) k7004_76 (by decide) <| (q5 h1 g10 I11 e12))) (fun g13 => x_ifeqT (tgt := 79) k7004_38 (by decide) (show (0 : Int32) = 0 by decide) <| x_ald0 k7004_79 <| x_getR k7004_80 f7_9_4 (hK.at rfl) rfl (hR _ _ _ rfl) <| x_ald0 k7004_83 <| x_getI k7004_84 f7_15_4 (hK.at rfl) rfl <| x_cV1 (MCz := 0) (MSz := 0) k7004_87 v7_36_8 (hK.at rfl) (Nat.le_of_ble_eq_true rfl) (Nat.le_of_ble_eq_true rfl) (Nat.le_refl _) (Nat.le_refl _) <| u9002 hK hR (b2 h1) (x_cS1 (MCz := 0) (MSz := 0) k7004_90 s7_32 (Nat.le_of_ble_eq_true rfl) (Nat.le_of_ble_eq_true rfl) (Nat.le_refl _) (Nat.le_refl _) <| s7003 (fun g14 => absurd g14 g13) (fun g15 => x_ifeqT (tgt := 98) k7004_93 (by decide) (show (0 : Int32) = 0 by decide) <| x_ild4 k7004_98 <| x_ild2 k7004_100 <| x_icmplt (tgt := 110) k7004_101 (by decide) (fun h16 => x_ald0 k7004_110 <| x_dup k7004_111 rfl <| x_getI k7004_112 f7_15_4 (hK.at rfl) rfl <| x_iconst (v := 1) k7004_115 rfl <| x_isub k7004_116 <| x_putI k7004_117 f7_15_4 (Or.inl rfl) (hK.at rfl) <| x_nm fun I17 e18 => x_iconst (v := (-1)) k7004_120 rfl <| x_iret k7004_121 rfl (Nat.le_refl _) (Nat.le_refl _) <| (q6 h1 g13 h16 I17 e18)) (fun h16 => x_ild4 k7004_104 <| x_ild3 k7004_106 <| x_icmple (tgt := 122) k7004_107 (by decide) (fun h19 => x_ild4 k7004_122 <| x_iret k7004_124 rfl (Nat.le_refl _) (Nat.le_refl _) <| (q7 h1 g13 h16 h19)) (fun h19 => x_ald0 k7004_110 <| x_dup k7004_111 rfl <| x_getI k7004_112 f7_15_4 (hK.at rfl) rfl <| x_iconst (v := 1) k7004_115 rfl <| x_isub k7004_116 <| x_putI k7004_117 f7_15_4 (Or.inl rfl) (hK.at rfl) <| x_nm fun I20 e21 => x_iconst (v := (-1)) k7004_120 rfl <| x_iret k7004_121 rfl (Nat.le_refl _) (Nat.le_refl _) <| (q8 h1 g13 h16 h19 I20 e21))))))))
theorem l7004_20 {lo hi : Int32} {m : Nat} (hK : qLay K sz) (hR : qRef R) (hm : m ≤ 4) : ∀ (f i : Nat) (v : Int32) (k : Nat) (I : Nat → Nat → Int32), i + f = m → qTp I n → (∀ j, tb I n j = b j) → I 20 1 = nI k → k ≤ n → (i = 0 → qDig (b k)) → (0 < i → 0 < k) → (∀ k' w, qBd (gDg b f v k) (fun k2 v => if v < lo ∨ hi < v then (k2 - 1, none) else (k2, some v)) = (k', some w) → Q (some (.int w)) (K, va_up I 20 (upd (I 20) 1 (nI k')), L, R, sz)) → (∀ k', qBd (gDg b f v k) (fun k2 v => if v < lo ∨ hi < v then ((k2 - 1, none) : qRs Int32) else (k2, some v)) = (k', none) → Q (some (.int (-1))) (K, va_up I 20 (upd (I 20) 1 (nI k')), L, R, sz)) → X (d + 1) 0 0 7004 0 0 18 [some (.ref 20), some (.int (nI m)), some (.int lo), some (.int hi), some (.int v), some (.int (nI i))] [] (K, I, L, R, sz) Q := by
  intro f
  induction f with
  | zero =>
    intro i v k I hi ht hb hk hkn h0 hpos hok hno
    have h2 := ht.2
    have hw : ∃ n k, I 1 1 = nI n ∧ n ≤ 160 ∧ I 20 1 = nI k ∧ k ≤ n := ⟨n, k, ht.1, h2, hk, hkn⟩
    have ev : tbI I (I 20 1) = b k := by rw [hk]; exact tbI_at ht hb hkn
    have hle : nI m ≤ nI i := nI_le (by omega) (by omega)
    have eid : va_up I 20 (upd (I 20) 1 (nI k)) = I := up_id hk
    refine g7004_20_18 hK hR (fun _ => hw) (fun _ => hw) (fun _ h => ?_) (fun _ h hl B hB => ?_) (fun _ h hl hh => ?_) (fun _ h hl hh B hB => ?_) (fun h => absurd hle h) (fun h => absurd hle h) (fun h => absurd hle h) (fun h => absurd hle h)
    · rw [ev] at h
      have := hno k (by rw [gDg, if_pos h]; rfl)
      rw [eid] at this; exact this
    · rw [ev] at h
      have hk0 : 0 < k := by
        by_cases c : i = 0
        · exact absurd (h0 c) h
        · exact hpos (by omega)
      have := hno (k - 1) (by rw [gDg, if_neg h]; simp only [qBd]; rw [if_pos (Or.inl hl)])
      rw [hB, hk, show (1 : Int32) = nI 1 from rfl, pk_sub (by omega)]; exact this
    · rw [ev] at h
      have := hok k v (by rw [gDg, if_neg h]; simp only [qBd]; rw [if_neg (fun q => by rcases q with q | q; exact hl q; exact Int32.not_lt.mpr hh q)])
      rw [eid] at this; exact this
    · rw [ev] at h
      have hk0 : 0 < k := by
        by_cases c : i = 0
        · exact absurd (h0 c) h
        · exact hpos (by omega)
      have := hno (k - 1) (by rw [gDg, if_neg h]; simp only [qBd]; rw [if_pos (Or.inr (Int32.not_le.mp hh))])
      rw [hB, hk, show (1 : Int32) = nI 1 from rfl, pk_sub (by omega)]; exact this
  | succ f ih =>
    intro i v k I hi ht hb hk hkn h0 hpos hok hno
    have h2 := ht.2
    have hw : ∃ n k, I 1 1 = nI n ∧ n ≤ 160 ∧ I 20 1 = nI k ∧ k ≤ n := ⟨n, k, ht.1, h2, hk, hkn⟩
    have ev : tbI I (I 20 1) = b k := by rw [hk]; exact tbI_at ht hb hkn
    have hle : ¬ nI m ≤ nI i := nI_ge (by omega) (by omega)
    have eid : va_up I 20 (upd (I 20) 1 (nI k)) = I := up_id hk
    refine g7004_20_18 hK hR (fun _ => hw) (fun _ => hw) (fun h => absurd h hle) (fun h => absurd h hle) (fun h => absurd h hle) (fun h => absurd h hle) (fun _ h B hB => ?_) (fun _ h hl B hB => ?_) (fun _ h hl hh => ?_) (fun _ h hl hh B hB => ?_)
    · rw [ev] at h ⊢
      rw [gDg, if_pos h] at hok hno
      have hl := (qTp_b ht hb).lt (qDig_n h)
      rw [hk, nI_1] at hB
      rw [nI_1]
      obtain ⟨t1, t2⟩ := qTp_up (o := 20) (f := upd (I 20) 1 (nI (k + 1))) (by decide) (by decide) ht hb
      rw [← hB] at t1 t2
      have e2 : ∀ x, va_up B 20 (upd (B 20) 1 x) = va_up I 20 (upd (I 20) 1 x) := fun x => by rw [hB]; exact up_up
      refine ih (i + 1) _ (k + 1) B (by omega) t1 t2 (by rw [hB]; exact up_at) (by omega) (fun q => by omega) (fun _ => by omega) (fun k' w e => ?_) (fun k' e => ?_)
      · rw [e2]; exact hok k' w e
      · rw [e2]; exact hno k' e
    · rw [ev] at h
      have hk0 : 0 < k := by
        by_cases c : i = 0
        · exact absurd (h0 c) h
        · exact hpos (by omega)
      have := hno (k - 1) (by rw [gDg, if_neg h]; simp only [qBd]; rw [if_pos (Or.inl hl)])
      rw [hB, hk, show (1 : Int32) = nI 1 from rfl, pk_sub (by omega)]; exact this
    · rw [ev] at h
      have := hok k v (by rw [gDg, if_neg h]; simp only [qBd]; rw [if_neg (fun q => by rcases q with q | q; exact hl q; exact Int32.not_lt.mpr hh q)])
      rw [eid] at this; exact this
    · rw [ev] at h
      have hk0 : 0 < k := by
        by_cases c : i = 0
        · exact absurd (h0 c) h
        · exact hpos (by omega)
      have := hno (k - 1) (by rw [gDg, if_neg h]; simp only [qBd]; rw [if_pos (Or.inr (Int32.not_le.mp hh))])
      rw [hB, hk, show (1 : Int32) = nI 1 from rfl, pk_sub (by omega)]; exact this
theorem n7004_20 {lo hi : Int32} {m k : Nat} (hK : qLay K sz) (hR : qRef R) (hm : m ≤ 4) (ht : qTp I n) (hb : ∀ j, tb I n j = b j) (hk : I 20 1 = nI k) (hkn : k ≤ n) (hok : ∀ k' w, gNum b n m lo hi k = (k', some w) → Q (some (.int w)) (K, va_up I 20 (upd (I 20) 1 (nI k')), L, R, sz)) (hno : ∀ k', gNum b n m lo hi k = (k', none) → Q (some (.int (-1))) (K, va_up I 20 (upd (I 20) 1 (nI k')), L, R, sz)) : X (d + 2) 0 0 7004 0 0 0 (qent (qml 7004) [.ref 20, .int (nI m), .int lo, .int hi]) [] (K, I, L, R, sz) Q := by
  have hB := qTp_b ht hb
  have g2 := nx_le hB hkn
  have ev : nxV I 20 = b (nx b n k) := nxV_at ht hb hk hkn
  have ek : nxK I 20 = nx b n k := nxK_at ht hb hk hkn
  refine e7004_20 hK hR ⟨n, k, ht, hk, hkn⟩ (fun J hJ h => ?_) (fun J hJ h => ?_)
  · rw [ev] at h
    unfold nxR at hJ
    rw [ek] at hJ
    obtain ⟨t1, t2⟩ := qTp_up (o := 20) (f := upd (I 20) 1 (nI (nx b n k))) (by decide) (by decide) ht hb
    rw [← hJ] at t1 t2
    have e2 : ∀ x, va_up J 20 (upd (J 20) 1 x) = va_up I 20 (upd (I 20) 1 x) := fun x => by rw [hJ]; exact up_up
    refine l7004_20 hK hR hm m 0 0 (nx b n k) J (by omega) t1 t2 (by rw [hJ]; exact up_at) g2 (fun _ => h) (fun q => by omega) (fun k' w e => ?_) (fun k' e => ?_)
    · rw [e2]; exact hok k' w (by unfold gNum; rw [if_pos h]; exact e)
    · rw [e2]; exact hno k' (by unfold gNum; rw [if_pos h]; exact e)
  · rw [ev] at h
    unfold nxR at hJ
    rw [ek] at hJ
    have := hno (nx b n k) (by unfold gNum; rw [if_neg h])
    rw [hJ]; exact this
theorem p7002_20 {x : Int32} {k : Nat} (hK : qLay K sz) (hR : qRef R) (ht : qTp I n) (hb : ∀ j, tb I n j = b j) (hk : I 20 1 = nI k) (hkn : k ≤ n) (hok : b (nx b n k) = x → Q (some (.int 1)) (K, va_up I 20 (upd (I 20) 1 (nI (nx b n k + 1))), L, R, sz)) (hno : ¬ b (nx b n k) = x → Q (some (.int 0)) (K, va_up I 20 (upd (I 20) 1 (nI (nx b n k))), L, R, sz)) : X (d + 2) 0 0 7002 0 0 0 (qent (qml 7002) [.ref 20, .int x]) [] (K, I, L, R, sz) Q := by
  have ev : nxV I 20 = b (nx b n k) := nxV_at ht hb hk hkn
  have ek : nxK I 20 = nx b n k := nxK_at ht hb hk hkn
  refine e7002_20 hK hR ⟨n, k, ht, hk, hkn⟩ (fun J hJ h B hB => ?_) (fun J hJ h => ?_)
  · rw [ev] at h
    unfold nxR at hJ
    rw [ek] at hJ
    have : B = va_up I 20 (upd (I 20) 1 (nI (nx b n k + 1))) := by
      rw [hB, hJ, up_up, up_at, nI_1]
    rw [this]; exact hok h
  · rw [ev] at h
    unfold nxR at hJ
    rw [ek] at hJ
    rw [hJ]; exact hno h

end L36p2
