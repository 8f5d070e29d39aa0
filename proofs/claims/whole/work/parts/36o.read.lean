/-! readers: the tape, blanks, numbers -/
/-- the tape: n bytes -/
def qTp (I : Nat → Nat → Int32) (n : Nat) : Prop := I 1 1 = nI n ∧ n ≤ 160
/-- the sign at k, -1 behind the end -/
def tb (I : Nat → Nat → Int32) (n k : Nat) : Int32 := if k < n then I 2 k else -1
/-- the next place that is no blank -/
def sk (b : Nat → Int32) : Nat → Nat → Nat
  | 0, k => k
  | f + 1, k => if b k = 32 then sk b f (k + 1) else k
def tbI (I : Nat → Nat → Int32) (a : Int32) : Int32 := tb I (I 1 1).toNatClampNeg a.toNatClampNeg
section L99oa
variable {I : Nat → Nat → Int32} {n : Nat}
theorem sk_ge (b : Nat → Int32) : ∀ f k, k ≤ sk b f k := by
  intro f
  induction f with
  | zero => intro k; exact Nat.le_refl _
  | succ f ih => intro k; rw [sk]; split; exact Nat.le_trans (Nat.le_succ k) (ih (k + 1)); exact Nat.le_refl _
theorem sk_le (b : Nat → Int32) {n : Nat} (h : ∀ k, n ≤ k → ¬ b k = 32) : ∀ f k, k ≤ n → sk b f k ≤ n := by
  intro f
  induction f with
  | zero => intro k hk; exact hk
  | succ f ih =>
    intro k hk
    rw [sk]
    by_cases c : b k = 32
    · rw [if_pos c]
      refine ih (k + 1) ?_
      by_cases e : k = n
      · exact absurd c (h k (by omega))
      · omega
    · rw [if_neg c]; exact hk
theorem sk_no (b : Nat → Int32) {n : Nat} (h : ∀ k, n ≤ k → ¬ b k = 32) : ∀ f k, n ≤ k + f → ¬ b (sk b f k) = 32 := by
  intro f
  induction f with
  | zero => intro k hk; exact h k hk
  | succ f ih =>
    intro k hk
    rw [sk]
    by_cases c : b k = 32
    · rw [if_pos c]; exact ih (k + 1) (by omega)
    · rw [if_neg c]; exact c
theorem tb_no {k : Nat} (h : n ≤ k) : ¬ tb I n k = 32 := by
  unfold tb
  rw [if_neg (by omega)]; decide
end L99oa
section L99o
variable {d : Nat} {K : qK} {I : Nat → Nat → Int32} {L : Nat → Nat → Int64} {R : Nat → Nat → Option Nat} {sz : Nat} {Q : Option Value → qMem → Prop}
theorem u9002 {a : Int32} (hK : qLay K sz) (hR : qRef R) (h : ∃ n k, I 1 1 = nI n ∧ n ≤ 160 ∧ a = nI k ∧ k ≤ n) (hq : Q (some (.int (tbI I a))) (K, I, L, R, sz)) : X d 0 0 9002 0 0 0 (qent (qml 9002) [.ref 1, .int a]) [] (K, I, L, R, sz) Q := by
  obtain ⟨n, k, h1, h2, rfl, h3⟩ := h
  have e : tbI I (nI k) = if k < n then I 2 k else -1 := by
    unfold tbI tb
    rw [h1, nI_c (by omega), nI_c (by omega)]
  rw [e] at hq
  have hl : I 1 1 ≤ nI k ↔ n ≤ k := by rw [h1, nI_leI (by omega) (by omega)]
  have h6 : 160 ≤ nI k ↔ 160 ≤ k := by rw [show (160 : Int32) = nI 160 from rfl, nI_leI (by omega) (by omega)]
  refine t9002 hK hR (fun _ a _ => ?_) (fun a => absurd a (nI_pos (by omega))) (fun _ a => ?_) (fun _ a b => ?_) (fun _ a b => ?_)
  · rw [hl] at a; exact vI (by omega) (by omega)
  · rw [hl] at a; rw [if_neg (by omega)] at hq; exact hq
  · rw [hl] at a; rw [h6] at b; omega
  · rw [hl] at a; rw [if_pos (by omega)] at hq; rw [nI_c (by omega)]; exact hq

theorem e7001_3   (hK : qLay K sz) (hR : qRef R) (b1 : (I 1 1) ≤ (I 3 1) → ∃ n k, I 1 1 = nI n ∧ n ≤ 160 ∧ (I 3 1) = nI k ∧ k ≤ n) (b2 : ¬ (I 1 1) ≤ (I 3 1) → ∃ n k, I 1 1 = nI n ∧ n ≤ 160 ∧ (I 3 1) = nI k ∧ k ≤ n) (q1 : (I 1 1) ≤ (I 3 1) → Q (some (.int (tbI I (I 3 1)))) (K, I, L, R, sz)) (q2 : ¬ (I 1 1) ≤ (I 3 1) → ¬ (tbI I (I 3 1)) = 32 → Q (some (.int (tbI I (I 3 1)))) (K, I, L, R, sz)) (q3 : ¬ (I 1 1) ≤ (I 3 1) → (tbI I (I 3 1)) = 32 → ∀ I3 : Nat → Nat → Int32, I3 = va_up I 3 (upd (I 3) 1 ((I 3 1) + 1)) → X (d + 1) 0 0 7001 0 0 0 [some (.ref 3)] [] (K, I3, L, R, sz) Q) : X (d + 1) 0 0 7001 0 0 0 (qent (qml 7001) [.ref 3]) [] (K, I, L, R, sz) Q := show X _ 0 0 7001 0 0 0 [some (.ref 3)] [] _ _ from x_ald0 k7001_0 <| x_getI k7001_1 f7_15_2 (hK.at rfl) rfl <| x_ald0 k7001_4 <| x_getR k7001_5 f7_9_2 (hK.at rfl) rfl (hR _ _ _ rfl) <| x_getI k7001_8 f7_19_8 (hK.at rfl) rfl <| x_icmpge (tgt := 43) k7001_11 (by decide) (fun h1 => x_ald0 k7001_43 <| x_getR k7001_44 f7_9_2 (hK.at rfl) rfl (hR _ _ _ rfl) <| x_ald0 k7001_47 <| x_getI k7001_48 f7_15_2 (hK.at rfl) rfl <| x_cV1 (MCz := 0) (MSz := 0) k7001_51 v7_24_8 (hK.at rfl) (Nat.le_of_ble_eq_true rfl) (Nat.le_of_ble_eq_true rfl) (Nat.le_refl _) (Nat.le_refl _) <| u9002 hK hR (b1 h1) (x_iret k7001_54 rfl (Nat.le_refl _) (Nat.le_refl _) <| (q1 h1))) (fun h1 => x_ald0 k7001_14 <| x_getR k7001_15 f7_9_2 (hK.at rfl) rfl (hR _ _ _ rfl) <| x_ald0 k7001_18 <| x_getI k7001_19 f7_15_2 (hK.at rfl) rfl <| x_cV1 (MCz := 0) (MSz := 0) k7001_22 v7_24_8 (hK.at rfl) (Nat.le_of_ble_eq_true rfl) (Nat.le_of_ble_eq_true rfl) (Nat.le_refl _) (Nat.le_refl _) <| u9002 hK hR (b2 h1) (x_bipush (v := 32) k7001_25 rfl <| x_icmpne (tgt := 43) k7001_27 (by decide) (fun h2 => x_ald0 k7001_43 <| x_getR k7001_44 f7_9_2 (hK.at rfl) rfl (hR _ _ _ rfl) <| x_ald0 k7001_47 <| x_getI k7001_48 f7_15_2 (hK.at rfl) rfl <| x_cV1 (MCz := 0) (MSz := 0) k7001_51 v7_24_8 (hK.at rfl) (Nat.le_of_ble_eq_true rfl) (Nat.le_of_ble_eq_true rfl) (Nat.le_refl _) (Nat.le_refl _) <| u9002 hK hR (b2 h1) (x_iret k7001_54 rfl (Nat.le_refl _) (Nat.le_refl _) <| (q2 h1 h2))) (fun h2 => x_ald0 k7001_30 <| x_dup k7001_31 rfl <| x_getI k7001_32 f7_15_2 (hK.at rfl) rfl <| x_iconst (v := 1) k7001_35 rfl <| x_iadd k7001_36 <| x_putI k7001_37 f7_15_2 (Or.inl rfl) (hK.at rfl) <| x_nm fun I3 e4 => x_goto (tgt := 0) k7001_40 (by decide) <| (q3 h1 h2 I3 e4))))
theorem u7001_3 {n k : Nat} (hK : qLay K sz) (hR : qRef R) (ht : qTp I n) (hk : I 3 1 = nI k) (hkn : k ≤ n) (hq : Q (some (.int (tb I n (sk (tb I n) (n - k) k)))) (K, va_up I 3 (upd (I 3) 1 (nI (sk (tb I n) (n - k) k))), L, R, sz)) : X (d + 1) 0 0 7001 0 0 0 (qent (qml 7001) [.ref 3]) [] (K, I, L, R, sz) Q := by
  obtain ⟨h1, h2⟩ := ht
  have hT : ∀ J : Nat → Nat → Int32, J 1 = I 1 → J 2 = I 2 → ∀ i, tb J n i = tb I n i := fun J e1 e2 i => by unfold tb; rw [e2]
  have hl : ∀ (f k : Nat), k + f = n → ∀ J : Nat → Nat → Int32, J 1 = I 1 → J 2 = I 2 → J 3 1 = nI k → Q (some (.int (tb I n (sk (tb I n) f k)))) (K, va_up J 3 (upd (J 3) 1 (nI (sk (tb I n) f k))), L, R, sz) → X (d + 1) 0 0 7001 0 0 0 (qent (qml 7001) [.ref 3]) [] (K, J, L, R, sz) Q := by
    intro f
    induction f with
    | zero =>
      intro k hkf J j1 j2 jk hq
      have hle : J 1 1 ≤ J 3 1 := by rw [j1, h1, jk]; exact nI_le (by omega) (by omega)
      have hw : ∃ n k, J 1 1 = nI n ∧ n ≤ 160 ∧ J 3 1 = nI k ∧ k ≤ n := ⟨n, k, by rw [j1, h1], h2, jk, by omega⟩
      have ev : tbI J (J 3 1) = tb I n k := by unfold tbI; rw [j1, h1, jk, nI_c (by omega), nI_c (by omega)]; exact hT J j1 j2 k
      have eid : va_up J 3 (upd (J 3) 1 (nI k)) = J := by
        have : upd (J 3) 1 (nI k) = J 3 := by funext i; unfold upd; split <;> simp_all
        rw [this, vu_id]
      rw [sk, eid] at hq
      refine e7001_3 hK hR (fun _ => hw) (fun _ => hw) (fun _ => ?_) (fun h => absurd hle h) (fun h => absurd hle h)
      rw [ev]; exact hq
    | succ f ih =>
      intro k hkf J j1 j2 jk hq
      have hnl : ¬ J 1 1 ≤ J 3 1 := by rw [j1, h1, jk]; exact nI_ge (by omega) (by omega)
      have hw : ∃ n k, J 1 1 = nI n ∧ n ≤ 160 ∧ J 3 1 = nI k ∧ k ≤ n := ⟨n, k, by rw [j1, h1], h2, jk, by omega⟩
      have ev : tbI J (J 3 1) = tb I n k := by unfold tbI; rw [j1, h1, jk, nI_c (by omega), nI_c (by omega)]; exact hT J j1 j2 k
      rw [sk] at hq
      refine e7001_3 hK hR (fun _ => hw) (fun _ => hw) (fun h => absurd h hnl) (fun _ c => ?_) (fun _ c B hB => ?_)
      · rw [ev] at c ⊢
        rw [if_neg c] at hq
        have eid : va_up J 3 (upd (J 3) 1 (nI k)) = J := by
          have : upd (J 3) 1 (nI k) = J 3 := by funext i; unfold upd; split <;> simp_all
          rw [this, vu_id]
        rw [eid] at hq; exact hq
      · rw [ev] at c
        rw [if_pos c] at hq
        rw [jk, nI_1] at hB
        refine ih (k + 1) (by omega) B (by rw [hB, vu_n (by decide)]; exact j1) (by rw [hB, vu_n (by decide)]; exact j2) (by rw [hB, vu_s]; rfl) ?_
        have : va_up B 3 (upd (B 3) 1 (nI (sk (tb I n) f (k + 1)))) = va_up J 3 (upd (J 3) 1 (nI (sk (tb I n) f (k + 1)))) := by
          rw [hB, vu_t, vu_s]
          congr 1
          funext i
          unfold upd
          split <;> rfl
        rw [this]; exact hq
  exact hl (n - k) k (by omega) I rfl rfl hk hq

theorem e7001_20   (hK : qLay K sz) (hR : qRef R) (b1 : (I 1 1) ≤ (I 20 1) → ∃ n k, I 1 1 = nI n ∧ n ≤ 160 ∧ (I 20 1) = nI k ∧ k ≤ n) (b2 : ¬ (I 1 1) ≤ (I 20 1) → ∃ n k, I 1 1 = nI n ∧ n ≤ 160 ∧ (I 20 1) = nI k ∧ k ≤ n) (q1 : (I 1 1) ≤ (I 20 1) → Q (some (.int (tbI I (I 20 1)))) (K, I, L, R, sz)) (q2 : ¬ (I 1 1) ≤ (I 20 1) → ¬ (tbI I (I 20 1)) = 32 → Q (some (.int (tbI I (I 20 1)))) (K, I, L, R, sz)) (q3 : ¬ (I 1 1) ≤ (I 20 1) → (tbI I (I 20 1)) = 32 → ∀ I3 : Nat → Nat → Int32, I3 = va_up I 20 (upd (I 20) 1 ((I 20 1) + 1)) → X (d + 1) 0 0 7001 0 0 0 [some (.ref 20)] [] (K, I3, L, R, sz) Q) : X (d + 1) 0 0 7001 0 0 0 (qent (qml 7001) [.ref 20]) [] (K, I, L, R, sz) Q := show X _ 0 0 7001 0 0 0 [some (.ref 20)] [] _ _ from x_ald0 k7001_0 <| x_getI k7001_1 f7_15_4 (hK.at rfl) rfl <| x_ald0 k7001_4 <| x_getR k7001_5 f7_9_4 (hK.at rfl) rfl (hR _ _ _ rfl) <| x_getI k7001_8 f7_19_8 (hK.at rfl) rfl <| x_icmpge (tgt := 43) k7001_11 (by decide) (fun h1 => x_ald0 k7001_43 <| x_getR k7001_44 f7_9_4 (hK.at rfl) rfl (hR _ _ _ rfl) <| x_ald0 k7001_47 <| x_getI k7001_48 f7_15_4 (hK.at rfl) rfl <| x_cV1 (MCz := 0) (MSz := 0) k7001_51 v7_24_8 (hK.at rfl) (Nat.le_of_ble_eq_true rfl) (Nat.le_of_ble_eq_true rfl) (Nat.le_refl _) (Nat.le_refl _) <| u9002 hK hR (b1 h1) (x_iret k7001_54 rfl (Nat.le_refl _) (Nat.le_refl _) <| (q1 h1))) (fun h1 => x_ald0 k7001_14 <| x_getR k7001_15 f7_9_4 (hK.at rfl) rfl (hR _ _ _ rfl) <| x_ald0 k7001_18 <| x_getI k7001_19 f7_15_4 (hK.at rfl) rfl <| x_cV1 (MCz := 0) (MSz := 0) k7001_22 v7_24_8 (hK.at rfl) (Nat.le_of_ble_eq_true rfl) (Nat.le_of_ble_eq_true rfl) (Nat.le_refl _) (Nat.le_refl _) <| u9002 hK hR (b2 h1) (x_bipush (v := 32) k7001_25 rfl <| x_icmpne (tgt := 43) k7001_27 (by decide) (fun h2 => x_ald0 k7001_43 <| x_getR k7001_44 f7_9_4 (hK.at rfl) rfl (hR _ _ _ rfl) <| x_ald0 k7001_47 <| x_getI k7001_48 f7_15_4 (hK.at rfl) rfl <| x_cV1 (MCz := 0) (MSz := 0) k7001_51 v7_24_8 (hK.at rfl) (Nat.le_of_ble_eq_true rfl) (Nat.le_of_ble_eq_true rfl) (Nat.le_refl _) (Nat.le_refl _) <| u9002 hK hR (b2 h1) (x_iret k7001_54 rfl (Nat.le_refl _) (Nat.le_refl _) <| (q2 h1 h2))) (fun h2 => x_ald0 k7001_30 <| x_dup k7001_31 rfl <| x_getI k7001_32 f7_15_4 (hK.at rfl) rfl <| x_iconst (v := 1) k7001_35 rfl <| x_iadd k7001_36 <| x_putI k7001_37 f7_15_4 (Or.inl rfl) (hK.at rfl) <| x_nm fun I3 e4 => x_goto (tgt := 0) k7001_40 (by decide) <| (q3 h1 h2 I3 e4))))
theorem u7001_20 {n k : Nat} (hK : qLay K sz) (hR : qRef R) (ht : qTp I n) (hk : I 20 1 = nI k) (hkn : k ≤ n) (hq : Q (some (.int (tb I n (sk (tb I n) (n - k) k)))) (K, va_up I 20 (upd (I 20) 1 (nI (sk (tb I n) (n - k) k))), L, R, sz)) : X (d + 1) 0 0 7001 0 0 0 (qent (qml 7001) [.ref 20]) [] (K, I, L, R, sz) Q := by
  obtain ⟨h1, h2⟩ := ht
  have hT : ∀ J : Nat → Nat → Int32, J 1 = I 1 → J 2 = I 2 → ∀ i, tb J n i = tb I n i := fun J e1 e2 i => by unfold tb; rw [e2]
  have hl : ∀ (f k : Nat), k + f = n → ∀ J : Nat → Nat → Int32, J 1 = I 1 → J 2 = I 2 → J 20 1 = nI k → Q (some (.int (tb I n (sk (tb I n) f k)))) (K, va_up J 20 (upd (J 20) 1 (nI (sk (tb I n) f k))), L, R, sz) → X (d + 1) 0 0 7001 0 0 0 (qent (qml 7001) [.ref 20]) [] (K, J, L, R, sz) Q := by
    intro f
    induction f with
    | zero =>
      intro k hkf J j1 j2 jk hq
      have hle : J 1 1 ≤ J 20 1 := by rw [j1, h1, jk]; exact nI_le (by omega) (by omega)
      have hw : ∃ n k, J 1 1 = nI n ∧ n ≤ 160 ∧ J 20 1 = nI k ∧ k ≤ n := ⟨n, k, by rw [j1, h1], h2, jk, by omega⟩
      have ev : tbI J (J 20 1) = tb I n k := by unfold tbI; rw [j1, h1, jk, nI_c (by omega), nI_c (by omega)]; exact hT J j1 j2 k
      have eid : va_up J 20 (upd (J 20) 1 (nI k)) = J := by
        have : upd (J 20) 1 (nI k) = J 20 := by funext i; unfold upd; split <;> simp_all
        rw [this, vu_id]
      rw [sk, eid] at hq
      refine e7001_20 hK hR (fun _ => hw) (fun _ => hw) (fun _ => ?_) (fun h => absurd hle h) (fun h => absurd hle h)
      rw [ev]; exact hq
    | succ f ih =>
      intro k hkf J j1 j2 jk hq
      have hnl : ¬ J 1 1 ≤ J 20 1 := by rw [j1, h1, jk]; exact nI_ge (by omega) (by omega)
      have hw : ∃ n k, J 1 1 = nI n ∧ n ≤ 160 ∧ J 20 1 = nI k ∧ k ≤ n := ⟨n, k, by rw [j1, h1], h2, jk, by omega⟩
      have ev : tbI J (J 20 1) = tb I n k := by unfold tbI; rw [j1, h1, jk, nI_c (by omega), nI_c (by omega)]; exact hT J j1 j2 k
      rw [sk] at hq
      refine e7001_20 hK hR (fun _ => hw) (fun _ => hw) (fun h => absurd h hnl) (fun _ c => ?_) (fun _ c B hB => ?_)
      · rw [ev] at c ⊢
        rw [if_neg c] at hq
        have eid : va_up J 20 (upd (J 20) 1 (nI k)) = J := by
          have : upd (J 20) 1 (nI k) = J 20 := by funext i; unfold upd; split <;> simp_all
          rw [this, vu_id]
        rw [eid] at hq; exact hq
      · rw [ev] at c
        rw [if_pos c] at hq
        rw [jk, nI_1] at hB
        refine ih (k + 1) (by omega) B (by rw [hB, vu_n (by decide)]; exact j1) (by rw [hB, vu_n (by decide)]; exact j2) (by rw [hB, vu_s]; rfl) ?_
        have : va_up B 20 (upd (B 20) 1 (nI (sk (tb I n) f (k + 1)))) = va_up J 20 (upd (J 20) 1 (nI (sk (tb I n) f (k + 1)))) := by
          rw [hB, vu_t, vu_s]
          congr 1
          funext i
          unfold upd
          split <;> rfl
        rw [this]; exact hq
  exact hl (n - k) k (by omega) I rfl rfl hk hq

end L99o
