/-! readers: the tape, blanks, numbers -/
/-- the tape: n bytes -/
def qTp (I : Nat → Nat → Int32) (n : Nat) : Prop := I 1 1 = nI n ∧ n ≤ 160
/-- the sign at k, -1 behind the end -/
def tb (I : Nat → Nat → Int32) (n k : Nat) : Int32 := if k < n then I 2 k else -1
/-- the next place that is no blank -/
def sk (b : Nat → Int32) : Nat → Nat → Nat
  | 0, k => k
  | f + 1, k => if b k = 32 then sk b f (k + 1) else k
def tbI (I : Nat → Nat → Int32) (a : Int32) : Int32 := tb I (I 1 1).toNatClampNeg a.toNatClampNeg
section L99oa
variable {I : Nat → Nat → Int32} {n : Nat}
theorem sk_ge (b : Nat → Int32) : ∀ f k, k ≤ sk b f k := by
  intro f
  induction f with
  | zero => intro k; exact Nat.le_refl _
  | succ f ih => intro k; rw [sk]; split; exact Nat.le_trans (Nat.le_succ k) (ih (k + 1)); exact Nat.le_refl _
theorem sk_le (b : Nat → Int32) {n : Nat} (h : ∀ k, n ≤ k → ¬ b k = 32) : ∀ f k, k ≤ n → sk b f k ≤ n := by
  intro f
  induction f with
  | zero => intro k hk; exact hk
  | succ f ih =>
    intro k hk
    rw [sk]
    by_cases c : b k = 32
    · rw [if_pos c]
      refine ih (k + 1) ?_
      by_cases e : k = n
      · exact absurd c (h k (by omega))
      · omega
    · rw [if_neg c]; exact hk
theorem sk_no (b : Nat → Int32) {n : Nat} (h : ∀ k, n ≤ k → ¬ b k = 32) : ∀ f k, n ≤ k + f → ¬ b (sk b f k) = 32 := by
  intro f
  induction f with
  | zero => intro k hk; exact h k hk
  | succ f ih =>
    intro k hk
    rw [sk]
    by_cases c : b k = 32
    · rw [if_pos c]; exact ih (k + 1) (by omega)
    · rw [if_neg c]; exact c
theorem tb_no {k : Nat} (h : n ≤ k) : ¬ tb I n k = 32 := by
  unfold tb
  rw [if_neg (by omega)]; decide
end L99oa
section L99o
variable {d : Nat} {K : qK} {I : Nat → Nat → Int32} {L : Nat → Nat → Int64} {R : Nat → Nat → Option Nat} {sz : Nat} {Q : Option Value → qMem → Prop}
theorem u9002 {a : Int32} (hK : qLay K sz) (hR : qRef R) (h : ∃ n k, I 1 1 = nI n ∧ n ≤ 160 ∧ a = nI k ∧ k ≤ n) (hq : Q (some (.int (tbI I a))) (K, I, L, R, sz)) : X d 0 0 9002 0 0 0 (qent (qml 9002) [.ref 1, .int a]) [] (K, I, L, R, sz) Q := by
  obtain ⟨n, k, h1, h2, rfl, h3⟩ := h
  have e : tbI I (nI k) = if k < n then I 2 k else -1 := by
    unfold tbI tb
    rw [h1, nI_c (by omega), nI_c (by omega)]
  rw [e] at hq
  have hl : I 1 1 ≤ nI k ↔ n ≤ k := by rw [h1, nI_leI (by omega) (by omega)]
  have h6 : 160 ≤ nI k ↔ 160 ≤ k := by rw [show (160 : Int32) = nI 160 from rfl, nI_leI (by omega) (by omega)]
  refine t9002 hK hR (fun _ a _ => ?_) (fun a => absurd a (nI_pos (by omega))) (fun _ a => ?_) (fun _ a b => ?_) (fun _ a b => ?_)
  · rw [hl] at a; exact vI (by omega) (by omega)
  · rw [hl] at a; rw [if_neg (by omega)] at hq; exact hq
  · rw [hl] at a; rw [h6] at b; omega
  · rw [hl] at a; rw [if_pos (by omega)] at hq; rw [nI_c (by omega)]; exact hq

theorem e7001_3   (hK : qLay K sz) (hR : qRef R) (b1 : ¬ (I 1 1) ≤ (I 3 1) → ¬ 160 ≤ (I 3 1) → vp_in (I 3 1) 160) (q1 : (I 1 1) ≤ (I 3 1) → Q (some (.int (-1))) (K, I, L, R, sz)) (q2 : ¬ (I 1 1) ≤ (I 3 1) → 160 ≤ (I 3 1) → Q (some (.int (-1))) (K, I, L, R, sz)) (q3 : ¬ (I 1 1) ≤ (I 3 1) → ¬ 160 ≤ (I 3 1) → ¬ (I 2 ((I 3 1).toNatClampNeg)) = 32 → Q (some (.int (I 2 ((I 3 1).toNatClampNeg)))) (K, I, L, R, sz)) (q4 : ¬ (I 1 1) ≤ (I 3 1) → ¬ 160 ≤ (I 3 1) → (I 2 ((I 3 1).toNatClampNeg)) = 32 → ∀ I4 : Nat → Nat → Int32, I4 = va_up I 3 (upd (I 3) 1 ((I 3 1) + 1)) → X d 0 0 7001 0 0 0 [some (.ref 3)] [] (K, I4, L, R, sz) Q) : X d 0 0 7001 0 0 0 (qent (qml 7001) [.ref 3]) [] (K, I, L, R, sz) Q := show X _ 0 0 7001 0 0 0 [some (.ref 3)] [] _ _ from x_ald0 k7001_0 <| x_getI k7001_1 f7_15_2 (hK.at rfl) rfl <| x_ald0 k7001_4 <| x_getR k7001_5 f7_9_2 (hK.at rfl) rfl (hR _ _ _ rfl) <| x_getI k7001_8 f7_19_8 (hK.at rfl) rfl <| x_icmpge (tgt := 54) k7001_11 (by decide) (fun h1 => x_ald0 k7001_54 <| x_getI k7001_55 f7_15_2 (hK.at rfl) rfl <| x_ald0 k7001_58 <| x_getR k7001_59 f7_9_2 (hK.at rfl) rfl (hR _ _ _ rfl) <| x_getI k7001_62 f7_19_8 (hK.at rfl) rfl <| x_icmpgeT (tgt := 93) k7001_65 (by decide) h1 <| x_iconst (v := (-1)) k7001_93 rfl <| x_iret k7001_94 rfl (Nat.le_refl _) (Nat.le_refl _) <| (q1 h1)) (fun h1 => x_ald0 k7001_14 <| x_getI k7001_15 f7_15_2 (hK.at rfl) rfl <| x_sipush (v := 160) k7001_18 rfl <| x_icmpge (tgt := 54) k7001_21 (by decide) (fun h2 => x_ald0 k7001_54 <| x_getI k7001_55 f7_15_2 (hK.at rfl) rfl <| x_ald0 k7001_58 <| x_getR k7001_59 f7_9_2 (hK.at rfl) rfl (hR _ _ _ rfl) <| x_getI k7001_62 f7_19_8 (hK.at rfl) rfl <| x_icmpgeF (tgt := 93) k7001_65 (by decide) h1 <| x_ald0 k7001_68 <| x_getI k7001_69 f7_15_2 (hK.at rfl) rfl <| x_sipush (v := 160) k7001_72 rfl <| x_icmpgeT (tgt := 93) k7001_75 (by decide) h2 <| x_iconst (v := (-1)) k7001_93 rfl <| x_iret k7001_94 rfl (Nat.le_refl _) (Nat.le_refl _) <| (q2 h1 h2)) (fun h2 => x_ald0 k7001_24 <| x_getR k7001_25 f7_9_2 (hK.at rfl) rfl (hR _ _ _ rfl) <| x_getR k7001_28 f7_24_8 (hK.at rfl) rfl (hR _ _ _ rfl) <| x_ald0 k7001_31 <| x_getI k7001_32 f7_15_2 (hK.at rfl) rfl <| x_iald k7001_35 (hK.at rfl) (b1 h1 h2) <| x_bipush (v := 32) k7001_36 rfl <| x_icmpne (tgt := 54) k7001_38 (by decide) (fun h3 => x_ald0 k7001_54 <| x_getI k7001_55 f7_15_2 (hK.at rfl) rfl <| x_ald0 k7001_58 <| x_getR k7001_59 f7_9_2 (hK.at rfl) rfl (hR _ _ _ rfl) <| x_getI k7001_62 f7_19_8 (hK.at rfl) rfl <| x_icmpgeF (tgt := 93) k7001_65 (by decide) h1 <| x_ald0 k7001_68 <| x_getI k7001_69 f7_15_2 (hK.at rfl) rfl <| x_sipush (v := 160) k7001_72 rfl <| x_icmpgeF (tgt := 93) k7001_75 (by decide) h2 <| x_ald0 k7001_78 <| x_getR k7001_79 f7_9_2 (hK.at rfl) rfl (hR _ _ _ rfl) <| x_getR k7001_82 f7_24_8 (hK.at rfl) rfl (hR _ _ _ rfl) <| x_ald0 k7001_85 <| x_getI k7001_86 f7_15_2 (hK.at rfl) rfl <| x_iald k7001_89 (hK.at rfl) (b1 h1 h2) <| x_goto (tgt := 94) k7001_90 (by decide) <| x_iret k7001_94 rfl (Nat.le_refl _) (Nat.le_refl _) <| (q3 h1 h2 h3)) (fun h3 => x_ald0 k7001_41 <| x_dup k7001_42 rfl <| x_getI k7001_43 f7_15_2 (hK.at rfl) rfl <| x_iconst (v := 1) k7001_46 rfl <| x_iadd k7001_47 <| x_putI k7001_48 f7_15_2 (Or.inl rfl) (hK.at rfl) <| x_nm fun I4 e5 => x_goto (tgt := 0) k7001_51 (by decide) <| (q4 h1 h2 h3 I4 e5))))
theorem u7001_3 {n k : Nat} (hK : qLay K sz) (hR : qRef R) (ht : qTp I n) (hk : I 3 1 = nI k) (hkn : k ≤ n) (hq : Q (some (.int (tb I n (sk (tb I n) (n - k) k)))) (K, va_up I 3 (upd (I 3) 1 (nI (sk (tb I n) (n - k) k))), L, R, sz)) : X (d + 1) 0 0 7001 0 0 0 (qent (qml 7001) [.ref 3]) [] (K, I, L, R, sz) Q := by
  obtain ⟨h1, h2⟩ := ht
  have hl : ∀ (f k : Nat), k + f = n → ∀ J : Nat → Nat → Int32, J 1 = I 1 → J 2 = I 2 → J 3 1 = nI k → Q (some (.int (tb I n (sk (tb I n) f k)))) (K, va_up J 3 (upd (J 3) 1 (nI (sk (tb I n) f k))), L, R, sz) → X (d + 1) 0 0 7001 0 0 0 (qent (qml 7001) [.ref 3]) [] (K, J, L, R, sz) Q := by
    intro f
    induction f with
    | zero =>
      intro k hkf J j1 j2 jk hq
      have hle : J 1 1 ≤ J 3 1 := by rw [j1, h1, jk]; exact nI_le (by omega) (by omega)
      have ev : tb I n k = -1 := by unfold tb; rw [if_neg (by omega)]
      have eid : va_up J 3 (upd (J 3) 1 (nI k)) = J := by
        have : upd (J 3) 1 (nI k) = J 3 := by funext i; unfold upd; split <;> simp_all
        rw [this, vu_id]
      rw [sk, eid, ev] at hq
      exact e7001_3 hK hR (fun h => absurd hle h) (fun _ => hq) (fun h => absurd hle h) (fun h => absurd hle h) (fun h => absurd hle h)
    | succ f ih =>
      intro k hkf J j1 j2 jk hq
      have hnl : ¬ J 1 1 ≤ J 3 1 := by rw [j1, h1, jk]; exact nI_ge (by omega) (by omega)
      have h6 : ¬ (160 : Int32) ≤ J 3 1 := by rw [jk, show (160 : Int32) = nI 160 from rfl]; exact nI_ge (by omega) (by omega)
      have hv : vp_in (J 3 1) 160 := by rw [jk]; exact vI (by omega) (by omega)
      have ev : J 2 (J 3 1).toNatClampNeg = tb I n k := by rw [jk, nI_c (by omega), j2]; unfold tb; rw [if_pos (by omega)]
      rw [sk] at hq
      refine e7001_3 hK hR (fun _ _ => hv) (fun h => absurd h hnl) (fun _ h => absurd h h6) (fun _ _ c => ?_) (fun _ _ c B hB => ?_)
      · rw [ev] at c ⊢
        rw [if_neg c] at hq
        have eid : va_up J 3 (upd (J 3) 1 (nI k)) = J := by
          have : upd (J 3) 1 (nI k) = J 3 := by funext i; unfold upd; split <;> simp_all
          rw [this, vu_id]
        rw [eid] at hq; exact hq
      · rw [ev] at c
        rw [if_pos c] at hq
        rw [jk, nI_1] at hB
        refine ih (k + 1) (by omega) B (by rw [hB, vu_n (by decide)]; exact j1) (by rw [hB, vu_n (by decide)]; exact j2) (by rw [hB, vu_s]; rfl) ?_
        have : va_up B 3 (upd (B 3) 1 (nI (sk (tb I n) f (k + 1)))) = va_up J 3 (upd (J 3) 1 (nI (sk (tb I n) f (k + 1)))) := by
          rw [hB, vu_t, vu_s]
          congr 1
          funext i
          unfold upd
          split <;> rfl
        rw [this]; exact hq
  exact hl (n - k) k (by omega) I rfl rfl hk hq

theorem e7001_20   (hK : qLay K sz) (hR : qRef R) (b1 : ¬ (I 1 1) ≤ (I 20 1) → ¬ 160 ≤ (I 20 1) → vp_in (I 20 1) 160) (q1 : (I 1 1) ≤ (I 20 1) → Q (some (.int (-1))) (K, I, L, R, sz)) (q2 : ¬ (I 1 1) ≤ (I 20 1) → 160 ≤ (I 20 1) → Q (some (.int (-1))) (K, I, L, R, sz)) (q3 : ¬ (I 1 1) ≤ (I 20 1) → ¬ 160 ≤ (I 20 1) → ¬ (I 2 ((I 20 1).toNatClampNeg)) = 32 → Q (some (.int (I 2 ((I 20 1).toNatClampNeg)))) (K, I, L, R, sz)) (q4 : ¬ (I 1 1) ≤ (I 20 1) → ¬ 160 ≤ (I 20 1) → (I 2 ((I 20 1).toNatClampNeg)) = 32 → ∀ I4 : Nat → Nat → Int32, I4 = va_up I 20 (upd (I 20) 1 ((I 20 1) + 1)) → X d 0 0 7001 0 0 0 [some (.ref 20)] [] (K, I4, L, R, sz) Q) : X d 0 0 7001 0 0 0 (qent (qml 7001) [.ref 20]) [] (K, I, L, R, sz) Q := show X _ 0 0 7001 0 0 0 [some (.ref 20)] [] _ _ from x_ald0 k7001_0 <| x_getI k7001_1 f7_15_4 (hK.at rfl) rfl <| x_ald0 k7001_4 <| x_getR k7001_5 f7_9_4 (hK.at rfl) rfl (hR _ _ _ rfl) <| x_getI k7001_8 f7_19_8 (hK.at rfl) rfl <| x_icmpge (tgt := 54) k7001_11 (by decide) (fun h1 => x_ald0 k7001_54 <| x_getI k7001_55 f7_15_4 (hK.at rfl) rfl <| x_ald0 k7001_58 <| x_getR k7001_59 f7_9_4 (hK.at rfl) rfl (hR _ _ _ rfl) <| x_getI k7001_62 f7_19_8 (hK.at rfl) rfl <| x_icmpgeT (tgt := 93) k7001_65 (by decide) h1 <| x_iconst (v := (-1)) k7001_93 rfl <| x_iret k7001_94 rfl (Nat.le_refl _) (Nat.le_refl _) <| (q1 h1)) (fun h1 => x_ald0 k7001_14 <| x_getI k7001_15 f7_15_4 (hK.at rfl) rfl <| x_sipush (v := 160) k7001_18 rfl <| x_icmpge (tgt := 54) k7001_21 (by decide) (fun h2 => x_ald0 k7001_54 <| x_getI k7001_55 f7_15_4 (hK.at rfl) rfl <| x_ald0 k7001_58 <| x_getR k7001_59 f7_9_4 (hK.at rfl) rfl (hR _ _ _ rfl) <| x_getI k7001_62 f7_19_8 (hK.at rfl) rfl <| x_icmpgeF (tgt := 93) k7001_65 (by decide) h1 <| x_ald0 k7001_68 <| x_getI k7001_69 f7_15_4 (hK.at rfl) rfl <| x_sipush (v := 160) k7001_72 rfl <| x_icmpgeT (tgt := 93) k7001_75 (by decide) h2 <| x_iconst (v := (-1)) k7001_93 rfl <| x_iret k7001_94 rfl (Nat.le_refl _) (Nat.le_refl _) <| (q2 h1 h2)) (fun h2 => x_ald0 k7001_24 <| x_getR k7001_25 f7_9_4 (hK.at rfl) rfl (hR _ _ _ rfl) <| x_getR k7001_28 f7_24_8 (hK.at rfl) rfl (hR _ _ _ rfl) <| x_ald0 k7001_31 <| x_getI k7001_32 f7_15_4 (hK.at rfl) rfl <| x_iald k7001_35 (hK.at rfl) (b1 h1 h2) <| x_bipush (v := 32) k7001_36 rfl <| x_icmpne (tgt := 54) k7001_38 (by decide) (fun h3 => x_ald0 k7001_54 <| x_getI k7001_55 f7_15_4 (hK.at rfl) rfl <| x_ald0 k7001_58 <| x_getR k7001_59 f7_9_4 (hK.at rfl) rfl (hR _ _ _ rfl) <| x_getI k7001_62 f7_19_8 (hK.at rfl) rfl <| x_icmpgeF (tgt := 93) k7001_65 (by decide) h1 <| x_ald0 k7001_68 <| x_getI k7001_69 f7_15_4 (hK.at rfl) rfl <| x_sipush (v := 160) k7001_72 rfl <| x_icmpgeF (tgt := 93) k7001_75 (by decide) h2 <| x_ald0 k7001_78 <| x_getR k7001_79 f7_9_4 (hK.at rfl) rfl (hR _ _ _ rfl) <| x_getR k7001_82 f7_24_8 (hK.at rfl) rfl (hR _ _ _ rfl) <| x_ald0 k7001_85 <| x_getI k7001_86 f7_15_4 (hK.at rfl) rfl <| x_iald k7001_89 (hK.at rfl) (b1 h1 h2) <| x_goto (tgt := 94) k7001_90 (by decide) <| x_iret k7001_94 rfl (Nat.le_refl _) (Nat.le_refl _) <| (q3 h1 h2 h3)) (fun h3 => x_ald0 k7001_41 <| x_dup k7001_42 rfl <| x_getI k7001_43 f7_15_4 (hK.at rfl) rfl <| x_iconst (v := 1) k7001_46 rfl <| x_iadd k7001_47 <| x_putI k7001_48 f7_15_4 (Or.inl rfl) (hK.at rfl) <| x_nm fun I4 e5 => x_goto (tgt := 0) k7001_51 (by decide) <| (q4 h1 h2 h3 I4 e5))))
theorem u7001_20 {n k : Nat} (hK : qLay K sz) (hR : qRef R) (ht : qTp I n) (hk : I 20 1 = nI k) (hkn : k ≤ n) (hq : Q (some (.int (tb I n (sk (tb I n) (n - k) k)))) (K, va_up I 20 (upd (I 20) 1 (nI (sk (tb I n) (n - k) k))), L, R, sz)) : X (d + 1) 0 0 7001 0 0 0 (qent (qml 7001) [.ref 20]) [] (K, I, L, R, sz) Q := by
  obtain ⟨h1, h2⟩ := ht
  have hl : ∀ (f k : Nat), k + f = n → ∀ J : Nat → Nat → Int32, J 1 = I 1 → J 2 = I 2 → J 20 1 = nI k → Q (some (.int (tb I n (sk (tb I n) f k)))) (K, va_up J 20 (upd (J 20) 1 (nI (sk (tb I n) f k))), L, R, sz) → X (d + 1) 0 0 7001 0 0 0 (qent (qml 7001) [.ref 20]) [] (K, J, L, R, sz) Q := by
    intro f
    induction f with
    | zero =>
      intro k hkf J j1 j2 jk hq
      have hle : J 1 1 ≤ J 20 1 := by rw [j1, h1, jk]; exact nI_le (by omega) (by omega)
      have ev : tb I n k = -1 := by unfold tb; rw [if_neg (by omega)]
      have eid : va_up J 20 (upd (J 20) 1 (nI k)) = J := by
        have : upd (J 20) 1 (nI k) = J 20 := by funext i; unfold upd; split <;> simp_all
        rw [this, vu_id]
      rw [sk, eid, ev] at hq
      exact e7001_20 hK hR (fun h => absurd hle h) (fun _ => hq) (fun h => absurd hle h) (fun h => absurd hle h) (fun h => absurd hle h)
    | succ f ih =>
      intro k hkf J j1 j2 jk hq
      have hnl : ¬ J 1 1 ≤ J 20 1 := by rw [j1, h1, jk]; exact nI_ge (by omega) (by omega)
      have h6 : ¬ (160 : Int32) ≤ J 20 1 := by rw [jk, show (160 : Int32) = nI 160 from rfl]; exact nI_ge (by omega) (by omega)
      have hv : vp_in (J 20 1) 160 := by rw [jk]; exact vI (by omega) (by omega)
      have ev : J 2 (J 20 1).toNatClampNeg = tb I n k := by rw [jk, nI_c (by omega), j2]; unfold tb; rw [if_pos (by omega)]
      rw [sk] at hq
      refine e7001_20 hK hR (fun _ _ => hv) (fun h => absurd h hnl) (fun _ h => absurd h h6) (fun _ _ c => ?_) (fun _ _ c B hB => ?_)
      · rw [ev] at c ⊢
        rw [if_neg c] at hq
        have eid : va_up J 20 (upd (J 20) 1 (nI k)) = J := by
          have : upd (J 20) 1 (nI k) = J 20 := by funext i; unfold upd; split <;> simp_all
          rw [this, vu_id]
        rw [eid] at hq; exact hq
      · rw [ev] at c
        rw [if_pos c] at hq
        rw [jk, nI_1] at hB
        refine ih (k + 1) (by omega) B (by rw [hB, vu_n (by decide)]; exact j1) (by rw [hB, vu_n (by decide)]; exact j2) (by rw [hB, vu_s]; rfl) ?_
        have : va_up B 20 (upd (B 20) 1 (nI (sk (tb I n) f (k + 1)))) = va_up J 20 (upd (J 20) 1 (nI (sk (tb I n) f (k + 1)))) := by
          rw [hB, vu_t, vu_s]
          congr 1
          funext i
          unfold upd
          split <;> rfl
        rw [this]; exact hq
  exact hl (n - k) k (by omega) I rfl rfl hk hq

end L99o
