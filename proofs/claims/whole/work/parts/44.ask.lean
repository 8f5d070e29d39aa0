/-! all: whom to thank -/
def bitP (b : Int32) (s : Nat) : Prop := ((b >>> (nI s &&& 31)) &&& 1) = 1
/-- the servants below i of the set b thanked by m -/
def stF (f : Nat → Int32) (m b : Int32) (i : Nat) : Nat → Int32 := fun s => if s < i ∧ ((b >>> (nI s &&& 31)) &&& 1) = 1 then m else f s
theorem stF_0 {f : Nat → Int32} {m b : Int32} : stF f m b 0 = f := by funext s; simp [stF]
theorem stF_y {f : Nat → Int32} {m b : Int32} {i : Nat} (h : bitP b i) : upd (stF f m b i) i m = stF f m b (i + 1) := by
  funext s
  simp only [upd, stF]
  by_cases hs : s = i
  · subst hs
    rw [if_pos rfl, if_pos ⟨Nat.lt_succ_self _, h⟩]
  · rw [if_neg hs]
    by_cases h2 : s < i
    · simp [h2, show s < i + 1 from by omega]
    · simp [h2, show ¬ s < i + 1 from by omega]
theorem stF_n {f : Nat → Int32} {m b : Int32} {i : Nat} (h : ¬ bitP b i) : stF f m b (i + 1) = stF f m b i := by
  funext s
  simp only [stF]
  by_cases hs : s = i
  · subst hs
    rw [if_neg (fun q => h q.2), if_neg (fun q => h q.2)]
  · by_cases h2 : s < i
    · simp [h2, show s < i + 1 from by omega]
    · simp [h2, show ¬ s < i + 1 from by omega]
theorem stF_val {f : Nat → Int32} {m b : Int32} {n nM i : Nat} (hv : qVal f n) (hM : nM ≤ 3) (hm : qIn nM m) : qVal (stF f m b i) n := fun j hj => by
  rw [stF]
  split
  · exact qWho_val (nS := n) (nM := nM) hM (Or.inl hm)
  · exact hv j hj
theorem stF_cong {f g : Nat → Int32} {m b : Int32} {n i : Nat} (h : ∀ j, j < n → g j = f j) : ∀ j, j < n → stF g m b i j = stF f m b i j := fun j hj => by
  rw [stF, stF, h j hj]
def mayB (may : Nat → Prop) (b : Int32) (n : Nat) : Prop := ∀ s, s < n → bitP b s → may s
def okA (f : Nat → Int32) (may : Nat → Prop) (n : Nat) (m b : Int32) : Prop := mayB may b n ∧ hb (stF f m b n) n m n = (1 <<< (nI n &&& 31)) - 1
/-- the least of the sets below b that will do -/
noncomputable def alB (ok : Int32 → Prop) : Nat → Int32
  | 0 => -1
  | b + 1 => @ite Int32 ((alB ok b = -1 ∨ bc (nI b) < bc (alB ok b)) ∧ ok (nI b)) (Classical.propDecidable _) (nI b) (alB ok b)
theorem alB_cong {ok ok' : Int32 → Prop} (h : ∀ b, ok' b ↔ ok b) : ∀ b, alB ok' b = alB ok b := by
  intro b
  induction b with
  | zero => rfl
  | succ b ih =>
    rw [alB, alB, ih]
    have hb := h (nI b)
    by_cases hc : (alB ok b = -1 ∨ bc (nI b) < bc (alB ok b)) ∧ ok (nI b)
    · have hc2 : (alB ok b = -1 ∨ bc (nI b) < bc (alB ok b)) ∧ ok' (nI b) := ⟨hc.1, hb.mpr hc.2⟩
      rw [if_pos hc, if_pos hc2]
    · have hc2 : ¬ ((alB ok b = -1 ∨ bc (nI b) < bc (alB ok b)) ∧ ok' (nI b)) := fun q => hc ⟨q.1, hb.mp q.2⟩
      rw [if_neg hc, if_neg hc2]
theorem okA_cong {f g : Nat → Int32} {may may' : Nat → Prop} {n nM : Nat} {m : Int32} (hv : qVal f n) (hn : n ≤ 5) (hM : nM ≤ 3) (hm : qIn nM m) (h : ∀ j, j < n → g j = f j) (hy : ∀ s, s < n → (may' s ↔ may s)) (b : Int32) : okA g may' n m b ↔ okA f may n m b := by
  unfold okA mayB
  rw [hb_cong (stF_val hv hM hm) hn (stF_cong h) n (Nat.le_refl _)]
  constructor
  · rintro ⟨h1, h2⟩; exact ⟨fun s hs hb => (hy s hs).mp (h1 s hs hb), h2⟩
  · rintro ⟨h1, h2⟩; exact ⟨fun s hs hb => (hy s hs).mpr (h1 s hs hb), h2⟩
noncomputable def fAll (LE : Int32 → Nat → Int32) (may : Int32 → Nat → Prop) (p : qPa) (a b c : Int32) : Int32 := @ite Int32 (qIn (pM p) a ∧ (c = 0 ∨ c = 1) ∧ 0 ≤ b) (Classical.propDecidable _) (if alB (okA (LE b) (may a) (pS p) a) (2 ^ pS p) = -1 ∨ c = 1 then alB (okA (LE b) (may a) (pS p) a) (2 ^ pS p) else bc (alB (okA (LE b) (may a) (pS p) a) (2 ^ pS p))) (-1)
section L44
variable {d : Nat} {K : qK} {I : Nat → Nat → Int32} {L : Nat → Nat → Int64} {R : Nat → Nat → Option Nat} {sz : Nat} {Q : Option Value → qMem → Prop} {p : qPa}
theorem e1005b {a : Int32} {b : Int32}    (q1 : X d 0 0 1005 0 0 2 [some (.ref 22), some (.int a), some (.int b), some (.int 0)] [] (K, I, L, R, sz) Q) : X d 0 0 1005 0 0 0 (qent (qml 1005) [.ref 22, .int a, .int b]) [] (K, I, L, R, sz) Q := show X _ 0 0 1005 0 0 0 [some (.ref 22), some (.int a), some (.int b), none] [] _ _ from x_iconst (v := 0) k1005_0 rfl <| x_ist3 k1005_1 (Nat.le_of_ble_eq_true rfl) rfl <| q1
theorem g1005b_2 {x1 : Int32} {x2 : Int32} {x3 : Int32}  (hK : qLay K sz) (hR : qRef R) (b1 : ¬ (I 22 1) ≤ x3 → ((x2 >>> (x3 &&& 31)) &&& 1) = 1 → qIn 5 x3) (q1 : (I 22 1) ≤ x3 → Q (some (.int 1)) (K, I, L, R, sz)) (q2 : ¬ (I 22 1) ≤ x3 → ¬ ((x2 >>> (x3 &&& 31)) &&& 1) = 1 → X (d + 1) 0 0 1005 0 0 2 [some (.ref 22), some (.int x1), some (.int x2), some (.int (x3 + 1))] [] (K, I, L, R, sz) Q) (q3 : ¬ (I 22 1) ≤ x3 → ((x2 >>> (x3 &&& 31)) &&& 1) = 1 → ¬ I (24 + (x3).toNatClampNeg) 1 = x1 → X (d + 1) 0 0 1005 0 0 2 [some (.ref 22), some (.int x1), some (.int x2), some (.int (x3 + 1))] [] (K, I, L, R, sz) Q) (q4 : ¬ (I 22 1) ≤ x3 → ((x2 >>> (x3 &&& 31)) &&& 1) = 1 → I (24 + (x3).toNatClampNeg) 1 = x1 → Q (some (.int 0)) (K, I, L, R, sz)) : X (d + 1) 0 0 1005 0 0 2 [some (.ref 22), some (.int x1), some (.int x2), some (.int x3)] [] (K, I, L, R, sz) Q := x_ild3 k1005_2 <| x_ald0 k1005_3 <| x_getI k1005_4 f1_26_1 (hK.at rfl) rfl <| x_icmpge (tgt := 36) k1005_7 (by decide) (fun h1 => x_iconst (v := 1) k1005_36 rfl <| x_zret k1005_37 rfl (Or.inr rfl) (Nat.le_refl _) (Nat.le_refl _) <| (q1 h1)) (fun h1 => x_ild2 k1005_10 <| x_ild3 k1005_11 <| x_ishr k1005_12 <| x_iconst (v := 1) k1005_13 rfl <| x_iand k1005_14 <| x_iconst (v := 1) k1005_15 rfl <| x_icmpne (tgt := 30) k1005_16 (by decide) (fun h2 => x_inc3 (c := 1) k1005_30 rfl (Nat.le_of_ble_eq_true rfl) rfl <| x_goto (tgt := 2) k1005_33 (by decide) <| (q2 h1 h2)) (fun h2 => x_ald0 k1005_19 <| x_ild1 k1005_20 <| x_ild3 k1005_21 <| x_cV2 (MCz := 0) (MSz := 0) k1005_22 v1_41_1 (hK.at rfl) (Nat.le_of_ble_eq_true rfl) (Nat.le_of_ble_eq_true rfl) (Nat.le_refl _) (Nat.le_refl _) <| u1004 hK hR (b1 h1 h2) (fun g3 => x_ifneT (tgt := 30) k1005_25 (by decide) (show ¬ (1 : Int32) = 0 by decide) <| x_inc3 (c := 1) k1005_30 rfl (Nat.le_of_ble_eq_true rfl) rfl <| x_goto (tgt := 2) k1005_33 (by decide) <| (q3 h1 h2 g3)) (fun g4 => x_ifneF (tgt := 30) k1005_25 (by decide) (show (0 : Int32) = 0 by decide) <| x_iconst (v := 0) k1005_28 rfl <| x_zret k1005_29 rfl (Or.inl rfl) (Nat.le_refl _) (Nat.le_refl _) <| (q4 h1 h2 g4))))
theorem e5007 {a : Int32} {b : Int32}  (hK : qLay K sz) (hR : qRef R)  (q1 : X (d + 1) 0 0 5007 0 0 16 [some (.ref 69), some (.int a), some (.int b), some (.int 0)] [] (K, va_up I 71 (va_cpy (I 70) (I 71) 0 0 5), L, R, sz) Q) : X (d + 1) 0 0 5007 0 0 0 (qent (qml 5007) [.ref 69, .int a, .int b]) [] (K, I, L, R, sz) Q := show X _ 0 0 5007 0 0 0 [some (.ref 69), some (.int a), some (.int b), none] [] _ _ from x_ald0 k5007_0 <| x_getR k5007_1 f5_9_5 (hK.at rfl) rfl (hR _ _ _ rfl) <| x_iconst (v := 0) k5007_4 rfl <| x_ald0 k5007_5 <| x_getR k5007_6 f5_15_5 (hK.at rfl) rfl (hR _ _ _ rfl) <| x_iconst (v := 0) k5007_9 rfl <| x_iconst (v := 5) k5007_10 rfl <| x_copy k5007_11 m5_44 qnat_copy qs_copy qi_System (hK.at rfl) (hK.at rfl) (by decide) (by decide) (by decide) (by decide) (by decide) (Nat.le_of_ble_eq_true rfl) <| x_iconst (v := 0) k5007_14 rfl <| x_ist3 k5007_15 (Nat.le_of_ble_eq_true rfl) rfl <| q1
theorem g5007_16 {x1 : Int32} {x2 : Int32} {x3 : Int32}  (hK : qLay K sz) (hR : qRef R) (b1 : (I 69 2) ≤ x3 → I 69 2 = nI (pS p)) (b2 : (I 69 2) ≤ x3 → pS p ≤ 5) (b3 : ¬ (I 69 2) ≤ x3 → ((x2 >>> (x3 &&& 31)) &&& 1) = 1 → vp_in x3 5) (q1 : (I 69 2) ≤ x3 → ¬ (hb (I 70) (pS p) x1 (pS p)) = ((1 <<< ((I 69 2) &&& 31)) - 1) → Q (some (.int 0)) (K, va_up I 70 (va_cpy (I 71) (I 70) 0 0 5), L, R, sz)) (q2 : (I 69 2) ≤ x3 → (hb (I 70) (pS p) x1 (pS p)) = ((1 <<< ((I 69 2) &&& 31)) - 1) → Q (some (.int 1)) (K, va_up I 70 (va_cpy (I 71) (I 70) 0 0 5), L, R, sz)) (q3 : ¬ (I 69 2) ≤ x3 → ¬ ((x2 >>> (x3 &&& 31)) &&& 1) = 1 → X (d + 3) 0 0 5007 0 0 16 [some (.ref 69), some (.int x1), some (.int x2), some (.int (x3 + 1))] [] (K, I, L, R, sz) Q) (q4 : ¬ (I 69 2) ≤ x3 → ((x2 >>> (x3 &&& 31)) &&& 1) = 1 → X (d + 3) 0 0 5007 0 0 16 [some (.ref 69), some (.int x1), some (.int x2), some (.int (x3 + 1))] [] (K, va_up I 70 (upd (I 70) x3.toNatClampNeg x1), L, R, sz) Q) : X (d + 3) 0 0 5007 0 0 16 [some (.ref 69), some (.int x1), some (.int x2), some (.int x3)] [] (K, I, L, R, sz) Q := x_ild3 k5007_16 <| x_ald0 k5007_17 <| x_getI k5007_18 f5_18_5 (hK.at rfl) rfl <| x_icmpge (tgt := 46) k5007_21 (by decide) (fun h1 => x_ald0 k5007_46 <| x_ild1 k5007_47 <| x_cV1 (MCz := 0) (MSz := 0) k5007_48 v5_50_5 (hK.at rfl) (Nat.le_of_ble_eq_true rfl) (Nat.le_of_ble_eq_true rfl) (Nat.le_refl _) (Nat.le_refl _) <| u5006 hK hR (b1 h1) (b2 h1) (x_iconst (v := 1) k5007_51 rfl <| x_ald0 k5007_52 <| x_getI k5007_53 f5_18_5 (hK.at rfl) rfl <| x_ishl k5007_56 <| x_iconst (v := 1) k5007_57 rfl <| x_isub k5007_58 <| x_icmpne (tgt := 66) k5007_59 (by decide) (fun h2 => x_iconst (v := 0) k5007_66 rfl <| x_ist3 k5007_67 (Nat.le_of_ble_eq_true rfl) rfl <| x_ald0 k5007_68 <| x_getR k5007_69 f5_15_5 (hK.at rfl) rfl (hR _ _ _ rfl) <| x_iconst (v := 0) k5007_72 rfl <| x_ald0 k5007_73 <| x_getR k5007_74 f5_9_5 (hK.at rfl) rfl (hR _ _ _ rfl) <| x_iconst (v := 0) k5007_77 rfl <| x_iconst (v := 5) k5007_78 rfl <| x_copy k5007_79 m5_44 qnat_copy qs_copy qi_System (hK.at rfl) (hK.at rfl) (by decide) (by decide) (by decide) (by decide) (by decide) (Nat.le_of_ble_eq_true rfl) <| x_ild3 k5007_82 <| x_zret k5007_83 rfl (Or.inl rfl) (Nat.le_refl _) (Nat.le_refl _) <| (q1 h1 h2)) (fun h2 => x_iconst (v := 1) k5007_62 rfl <| x_goto (tgt := 67) k5007_63 (by decide) <| x_ist3 k5007_67 (Nat.le_of_ble_eq_true rfl) rfl <| x_ald0 k5007_68 <| x_getR k5007_69 f5_15_5 (hK.at rfl) rfl (hR _ _ _ rfl) <| x_iconst (v := 0) k5007_72 rfl <| x_ald0 k5007_73 <| x_getR k5007_74 f5_9_5 (hK.at rfl) rfl (hR _ _ _ rfl) <| x_iconst (v := 0) k5007_77 rfl <| x_iconst (v := 5) k5007_78 rfl <| x_copy k5007_79 m5_44 qnat_copy qs_copy qi_System (hK.at rfl) (hK.at rfl) (by decide) (by decide) (by decide) (by decide) (by decide) (Nat.le_of_ble_eq_true rfl) <| x_ild3 k5007_82 <| x_zret k5007_83 rfl (Or.inr rfl) (Nat.le_refl _) (Nat.le_refl _) <| (q2 h1 h2)))) (fun h1 => x_ild2 k5007_24 <| x_ild3 k5007_25 <| x_ishr k5007_26 <| x_iconst (v := 1) k5007_27 rfl <| x_iand k5007_28 <| x_iconst (v := 1) k5007_29 rfl <| x_icmpne (tgt := 40) k5007_30 (by decide) (fun h3 => x_inc3 (c := 1) k5007_40 rfl (Nat.le_of_ble_eq_true rfl) rfl <| x_goto (tgt := 16) k5007_43 (by decide) <| (q3 h1 h3)) (fun h3 => x_ald0 k5007_33 <| x_getR k5007_34 f5_9_5 (hK.at rfl) rfl (hR _ _ _ rfl) <| x_ild3 k5007_37 <| x_ild1 k5007_38 <| x_iast k5007_39 (hK.at rfl) (b3 h1 h3) <| x_inc3 (c := 1) k5007_40 rfl (Nat.le_of_ble_eq_true rfl) rfl <| x_goto (tgt := 16) k5007_43 (by decide) <| (q4 h1 h3)))
theorem e12098 {a : Int32} {b : Int32}    (q1 : X d 0 0 12098 0 0 5 [some (.ref 73), some (.int a), some (.int b), some (.int 1), some (.int 0), none] [] (K, I, L, R, sz) Q) : X d 0 0 12098 0 0 0 (qent (qml 12098) [.ref 73, .int a, .int b]) [] (K, I, L, R, sz) Q := show X _ 0 0 12098 0 0 0 [some (.ref 73), some (.int a), some (.int b), none, none, none] [] _ _ from x_iconst (v := 1) k12098_0 rfl <| x_ist3 k12098_1 (Nat.le_of_ble_eq_true rfl) rfl <| x_iconst (v := 0) k12098_2 rfl <| x_ist4 k12098_3 (Nat.le_of_ble_eq_true rfl) rfl <| q1
theorem g12098_5 {x1 : Int32} {x2 : Int32} {x3 : Int32} {x4 : Int32}  (hK : qLay K sz) (hR : qRef R) (b1 : (I 73 24) ≤ x4 → ¬ x3 = 0 → I 73 24 = nI (pS p)) (b2 : (I 73 24) ≤ x4 → ¬ x3 = 0 → pS p ≤ 5) (b3 : (I 73 24) ≤ x4 → ¬ x3 = 0 → qVal (I 89) (pS p)) (b4 : ¬ (I 73 24) ≤ x4 → vp_in x4 5) (b5 : ¬ (I 73 24) ≤ x4 → ¬ x3 = 0 → ((x2 >>> (x4 &&& 31)) &&& 1) = 1 → qIn 5 x4) (q1 : (I 73 24) ≤ x4 → x3 = 0 → X (d + 3) 0 0 12098 0 0 120 [some (.ref 73), some (.int x1), some (.int x2), some (.int x3), some (.int 0), some (.int 0)] [] (K, I, L, R, sz) Q) (q2 : (I 73 24) ≤ x4 → ¬ x3 = 0 → ¬ (hb (I 89) (pS p) x1 (pS p)) = ((1 <<< ((I 73 24) &&& 31)) - 1) → X (d + 3) 0 0 12098 0 0 120 [some (.ref 73), some (.int x1), some (.int x2), some (.int x3), some (.int 0), some (.int 0)] [] (K, I, L, R, sz) Q) (q3 : (I 73 24) ≤ x4 → ¬ x3 = 0 → (hb (I 89) (pS p) x1 (pS p)) = ((1 <<< ((I 73 24) &&& 31)) - 1) → X (d + 3) 0 0 12098 0 0 120 [some (.ref 73), some (.int x1), some (.int x2), some (.int x3), some (.int 1), some (.int 0)] [] (K, I, L, R, sz) Q) (q4 : ¬ (I 73 24) ≤ x4 → x3 = 0 → ((x2 >>> (x4 &&& 31)) &&& 1) = 1 → X (d + 3) 0 0 12098 0 0 5 [some (.ref 73), some (.int x1), some (.int x2), some (.int 0), some (.int (x4 + 1)), none] [] (K, va_up (va_up I 103 (upd (I 103) x4.toNatClampNeg (I 89 x4.toNatClampNeg))) 89 (upd ((va_up I 103 (upd (I 103) x4.toNatClampNeg (I 89 x4.toNatClampNeg))) 89) x4.toNatClampNeg x1), L, R, sz) Q) (q5 : ¬ (I 73 24) ≤ x4 → x3 = 0 → ¬ ((x2 >>> (x4 &&& 31)) &&& 1) = 1 → X (d + 3) 0 0 12098 0 0 5 [some (.ref 73), some (.int x1), some (.int x2), some (.int 0), some (.int (x4 + 1)), none] [] (K, va_up (va_up I 103 (upd (I 103) x4.toNatClampNeg (I 89 x4.toNatClampNeg))) 89 (upd ((va_up I 103 (upd (I 103) x4.toNatClampNeg (I 89 x4.toNatClampNeg))) 89) x4.toNatClampNeg (I 89 x4.toNatClampNeg)), L, R, sz) Q) (q6 : ¬ (I 73 24) ≤ x4 → ¬ x3 = 0 → ((x2 >>> (x4 &&& 31)) &&& 1) = 1 → ¬ (va_up I 103 (upd (I 103) x4.toNatClampNeg (I 89 x4.toNatClampNeg))) 85 (3 * (x4).toNatClampNeg + 1) = x1 → ((x2 >>> (x4 &&& 31)) &&& 1) = 1 → X (d + 3) 0 0 12098 0 0 5 [some (.ref 73), some (.int x1), some (.int x2), some (.int 1), some (.int (x4 + 1)), none] [] (K, va_up (va_up I 103 (upd (I 103) x4.toNatClampNeg (I 89 x4.toNatClampNeg))) 89 (upd ((va_up I 103 (upd (I 103) x4.toNatClampNeg (I 89 x4.toNatClampNeg))) 89) x4.toNatClampNeg x1), L, R, sz) Q) (q7 : ¬ (I 73 24) ≤ x4 → ¬ x3 = 0 → ((x2 >>> (x4 &&& 31)) &&& 1) = 1 → ¬ (va_up I 103 (upd (I 103) x4.toNatClampNeg (I 89 x4.toNatClampNeg))) 85 (3 * (x4).toNatClampNeg + 1) = x1 → ¬ ((x2 >>> (x4 &&& 31)) &&& 1) = 1 → X (d + 3) 0 0 12098 0 0 5 [some (.ref 73), some (.int x1), some (.int x2), some (.int 1), some (.int (x4 + 1)), none] [] (K, va_up (va_up I 103 (upd (I 103) x4.toNatClampNeg (I 89 x4.toNatClampNeg))) 89 (upd ((va_up I 103 (upd (I 103) x4.toNatClampNeg (I 89 x4.toNatClampNeg))) 89) x4.toNatClampNeg (I 89 x4.toNatClampNeg)), L, R, sz) Q) (q8 : ¬ (I 73 24) ≤ x4 → ¬ x3 = 0 → ((x2 >>> (x4 &&& 31)) &&& 1) = 1 → (va_up I 103 (upd (I 103) x4.toNatClampNeg (I 89 x4.toNatClampNeg))) 85 (3 * (x4).toNatClampNeg + 1) = x1 → ((x2 >>> (x4 &&& 31)) &&& 1) = 1 → X (d + 3) 0 0 12098 0 0 5 [some (.ref 73), some (.int x1), some (.int x2), some (.int 0), some (.int (x4 + 1)), none] [] (K, va_up (va_up I 103 (upd (I 103) x4.toNatClampNeg (I 89 x4.toNatClampNeg))) 89 (upd ((va_up I 103 (upd (I 103) x4.toNatClampNeg (I 89 x4.toNatClampNeg))) 89) x4.toNatClampNeg x1), L, R, sz) Q) (q9 : ¬ (I 73 24) ≤ x4 → ¬ x3 = 0 → ((x2 >>> (x4 &&& 31)) &&& 1) = 1 → (va_up I 103 (upd (I 103) x4.toNatClampNeg (I 89 x4.toNatClampNeg))) 85 (3 * (x4).toNatClampNeg + 1) = x1 → ¬ ((x2 >>> (x4 &&& 31)) &&& 1) = 1 → X (d + 3) 0 0 12098 0 0 5 [some (.ref 73), some (.int x1), some (.int x2), some (.int 0), some (.int (x4 + 1)), none] [] (K, va_up (va_up I 103 (upd (I 103) x4.toNatClampNeg (I 89 x4.toNatClampNeg))) 89 (upd ((va_up I 103 (upd (I 103) x4.toNatClampNeg (I 89 x4.toNatClampNeg))) 89) x4.toNatClampNeg (I 89 x4.toNatClampNeg)), L, R, sz) Q) (q10 : ¬ (I 73 24) ≤ x4 → ¬ x3 = 0 → ¬ ((x2 >>> (x4 &&& 31)) &&& 1) = 1 → ((x2 >>> (x4 &&& 31)) &&& 1) = 1 → X (d + 3) 0 0 12098 0 0 5 [some (.ref 73), some (.int x1), some (.int x2), some (.int 1), some (.int (x4 + 1)), none] [] (K, va_up (va_up I 103 (upd (I 103) x4.toNatClampNeg (I 89 x4.toNatClampNeg))) 89 (upd ((va_up I 103 (upd (I 103) x4.toNatClampNeg (I 89 x4.toNatClampNeg))) 89) x4.toNatClampNeg x1), L, R, sz) Q) (q11 : ¬ (I 73 24) ≤ x4 → ¬ x3 = 0 → ¬ ((x2 >>> (x4 &&& 31)) &&& 1) = 1 → ¬ ((x2 >>> (x4 &&& 31)) &&& 1) = 1 → X (d + 3) 0 0 12098 0 0 5 [some (.ref 73), some (.int x1), some (.int x2), some (.int 1), some (.int (x4 + 1)), none] [] (K, va_up (va_up I 103 (upd (I 103) x4.toNatClampNeg (I 89 x4.toNatClampNeg))) 89 (upd ((va_up I 103 (upd (I 103) x4.toNatClampNeg (I 89 x4.toNatClampNeg))) 89) x4.toNatClampNeg (I 89 x4.toNatClampNeg)), L, R, sz) Q) : X (d + 3) 0 0 12098 0 0 5 [some (.ref 73), some (.int x1), some (.int x2), some (.int x3), some (.int x4), none] [] (K, I, L, R, sz) Q := x_ild4 k12098_5 <| x_ald0 k12098_7 <| x_getI k12098_8 f12_289_11 (hK.at rfl) rfl <| x_icmpge (tgt := 90) k12098_11 (by decide) (fun h1 => x_ild3 k12098_90 <| x_ifeq (tgt := 114) k12098_91 (by decide) (fun h2 => x_iconst (v := 0) k12098_114 rfl <| x_ist4 k12098_115 (Nat.le_of_ble_eq_true rfl) rfl <| x_iconst (v := 0) k12098_117 rfl <| x_ist5 k12098_118 (Nat.le_of_ble_eq_true rfl) rfl <| (q1 h1 h2)) (fun h2 => x_ald0 k12098_94 <| x_ild1 k12098_95 <| x_cV1 (MCz := 0) (MSz := 0) k12098_96 v12_351_11 (hK.at rfl) (Nat.le_of_ble_eq_true rfl) (Nat.le_of_ble_eq_true rfl) (Nat.le_refl _) (Nat.le_refl _) <| v12063 hK hR (b1 h1 h2) (b2 h1 h2) (b3 h1 h2) (x_iconst (v := 1) k12098_99 rfl <| x_ald0 k12098_100 <| x_getI k12098_101 f12_289_11 (hK.at rfl) rfl <| x_ishl k12098_104 <| x_iconst (v := 1) k12098_105 rfl <| x_isub k12098_106 <| x_icmpne (tgt := 114) k12098_107 (by decide) (fun h3 => x_iconst (v := 0) k12098_114 rfl <| x_ist4 k12098_115 (Nat.le_of_ble_eq_true rfl) rfl <| x_iconst (v := 0) k12098_117 rfl <| x_ist5 k12098_118 (Nat.le_of_ble_eq_true rfl) rfl <| (q2 h1 h2 h3)) (fun h3 => x_iconst (v := 1) k12098_110 rfl <| x_goto (tgt := 115) k12098_111 (by decide) <| x_ist4 k12098_115 (Nat.le_of_ble_eq_true rfl) rfl <| x_iconst (v := 0) k12098_117 rfl <| x_ist5 k12098_118 (Nat.le_of_ble_eq_true rfl) rfl <| (q3 h1 h2 h3))))) (fun h1 => x_ald0 k12098_14 <| x_getR k12098_15 f12_107_11 (hK.at rfl) rfl (hR _ _ _ rfl) <| x_ild4 k12098_18 <| x_ald0 k12098_20 <| x_getR k12098_21 f12_62_11 (hK.at rfl) rfl (hR _ _ _ rfl) <| x_ild4 k12098_24 <| x_iald k12098_26 (hK.at rfl) (b4 h1) <| x_iast k12098_27 (hK.at rfl) (b4 h1) <| x_ild3 k12098_28 <| x_ifeq (tgt := 55) k12098_29 (by decide) (fun h4 => x_iconst (v := 0) k12098_55 rfl <| x_ist3 k12098_56 (Nat.le_of_ble_eq_true rfl) rfl <| x_ald0 k12098_57 <| x_getR k12098_58 f12_62_11 (hK.at rfl) rfl (hR _ _ _ rfl) <| x_ild4 k12098_61 <| x_ild2 k12098_63 <| x_ild4 k12098_64 <| x_cS2 (MCz := 0) (MSz := 0) k12098_66 s12_263 (Nat.le_of_ble_eq_true rfl) (Nat.le_of_ble_eq_true rfl) (Nat.le_refl _) (Nat.le_refl _) <| t12001 (fun g5 => x_ifeqF (tgt := 76) k12098_69 (by decide) (show ¬ (1 : Int32) = 0 by decide) <| x_ild1 k12098_72 <| x_goto (tgt := 83) k12098_73 (by decide) <| x_iast k12098_83 (hK.at rfl) (b4 h1) <| x_inc4 (c := 1) k12098_84 rfl (Nat.le_of_ble_eq_true rfl) rfl <| x_goto (tgt := 5) k12098_87 (by decide) <| (q4 h1 h4 g5)) (fun g6 => x_ifeqT (tgt := 76) k12098_69 (by decide) (show (0 : Int32) = 0 by decide) <| x_ald0 k12098_76 <| x_getR k12098_77 f12_62_11 (hK.at rfl) rfl (hR _ _ _ rfl) <| x_ild4 k12098_80 <| x_iald k12098_82 (hK.at rfl) (b4 h1) <| x_iast k12098_83 (hK.at rfl) (b4 h1) <| x_inc4 (c := 1) k12098_84 rfl (Nat.le_of_ble_eq_true rfl) rfl <| x_goto (tgt := 5) k12098_87 (by decide) <| (q5 h1 h4 g6))) (fun h4 => x_ild2 k12098_32 <| x_ild4 k12098_33 <| x_cS2 (MCz := 0) (MSz := 0) k12098_35 s12_263 (Nat.le_of_ble_eq_true rfl) (Nat.le_of_ble_eq_true rfl) (Nat.le_refl _) (Nat.le_refl _) <| t12001 (fun g7 => x_ifeqF (tgt := 51) k12098_38 (by decide) (show ¬ (1 : Int32) = 0 by decide) <| x_ald0 k12098_41 <| x_ild1 k12098_42 <| x_ild4 k12098_43 <| x_cV2 (MCz := 0) (MSz := 0) k12098_45 v12_324_11 (hK.at rfl) (Nat.le_of_ble_eq_true rfl) (Nat.le_of_ble_eq_true rfl) (Nat.le_refl _) (Nat.le_refl _) <| u12048 hK hR (b5 h1 h4 g7) (fun g8 => x_ifeqF (tgt := 55) k12098_48 (by decide) (show ¬ (1 : Int32) = 0 by decide) <| x_iconst (v := 1) k12098_51 rfl <| x_goto (tgt := 56) k12098_52 (by decide) <| x_ist3 k12098_56 (Nat.le_of_ble_eq_true rfl) rfl <| x_ald0 k12098_57 <| x_getR k12098_58 f12_62_11 (hK.at rfl) rfl (hR _ _ _ rfl) <| x_ild4 k12098_61 <| x_ild2 k12098_63 <| x_ild4 k12098_64 <| x_cS2 (MCz := 0) (MSz := 0) k12098_66 s12_263 (Nat.le_of_ble_eq_true rfl) (Nat.le_of_ble_eq_true rfl) (Nat.le_refl _) (Nat.le_refl _) <| t12001 (fun g9 => x_ifeqF (tgt := 76) k12098_69 (by decide) (show ¬ (1 : Int32) = 0 by decide) <| x_ild1 k12098_72 <| x_goto (tgt := 83) k12098_73 (by decide) <| x_iast k12098_83 (hK.at rfl) (b4 h1) <| x_inc4 (c := 1) k12098_84 rfl (Nat.le_of_ble_eq_true rfl) rfl <| x_goto (tgt := 5) k12098_87 (by decide) <| (q6 h1 h4 g7 g8 g9)) (fun g10 => x_ifeqT (tgt := 76) k12098_69 (by decide) (show (0 : Int32) = 0 by decide) <| x_ald0 k12098_76 <| x_getR k12098_77 f12_62_11 (hK.at rfl) rfl (hR _ _ _ rfl) <| x_ild4 k12098_80 <| x_iald k12098_82 (hK.at rfl) (b4 h1) <| x_iast k12098_83 (hK.at rfl) (b4 h1) <| x_inc4 (c := 1) k12098_84 rfl (Nat.le_of_ble_eq_true rfl) rfl <| x_goto (tgt := 5) k12098_87 (by decide) <| (q7 h1 h4 g7 g8 g10))) (fun g11 => x_ifeqT (tgt := 55) k12098_48 (by decide) (show (0 : Int32) = 0 by decide) <| x_iconst (v := 0) k12098_55 rfl <| x_ist3 k12098_56 (Nat.le_of_ble_eq_true rfl) rfl <| x_ald0 k12098_57 <| x_getR k12098_58 f12_62_11 (hK.at rfl) rfl (hR _ _ _ rfl) <| x_ild4 k12098_61 <| x_ild2 k12098_63 <| x_ild4 k12098_64 <| x_cS2 (MCz := 0) (MSz := 0) k12098_66 s12_263 (Nat.le_of_ble_eq_true rfl) (Nat.le_of_ble_eq_true rfl) (Nat.le_refl _) (Nat.le_refl _) <| t12001 (fun g12 => x_ifeqF (tgt := 76) k12098_69 (by decide) (show ¬ (1 : Int32) = 0 by decide) <| x_ild1 k12098_72 <| x_goto (tgt := 83) k12098_73 (by decide) <| x_iast k12098_83 (hK.at rfl) (b4 h1) <| x_inc4 (c := 1) k12098_84 rfl (Nat.le_of_ble_eq_true rfl) rfl <| x_goto (tgt := 5) k12098_87 (by decide) <| (q8 h1 h4 g7 g11 g12)) (fun g13 => x_ifeqT (tgt := 76) k12098_69 (by decide) (show (0 : Int32) = 0 by decide) <| x_ald0 k12098_76 <| x_getR k12098_77 f12_62_11 (hK.at rfl) rfl (hR _ _ _ rfl) <| x_ild4 k12098_80 <| x_iald k12098_82 (hK.at rfl) (b4 h1) <| x_iast k12098_83 (hK.at rfl) (b4 h1) <| x_inc4 (c := 1) k12098_84 rfl (Nat.le_of_ble_eq_true rfl) rfl <| x_goto (tgt := 5) k12098_87 (by decide) <| (q9 h1 h4 g7 g11 g13)))) (fun g14 => x_ifeqT (tgt := 51) k12098_38 (by decide) (show (0 : Int32) = 0 by decide) <| x_iconst (v := 1) k12098_51 rfl <| x_goto (tgt := 56) k12098_52 (by decide) <| x_ist3 k12098_56 (Nat.le_of_ble_eq_true rfl) rfl <| x_ald0 k12098_57 <| x_getR k12098_58 f12_62_11 (hK.at rfl) rfl (hR _ _ _ rfl) <| x_ild4 k12098_61 <| x_ild2 k12098_63 <| x_ild4 k12098_64 <| x_cS2 (MCz := 0) (MSz := 0) k12098_66 s12_263 (Nat.le_of_ble_eq_true rfl) (Nat.le_of_ble_eq_true rfl) (Nat.le_refl _) (Nat.le_refl _) <| t12001 (fun g15 => x_ifeqF (tgt := 76) k12098_69 (by decide) (show ¬ (1 : Int32) = 0 by decide) <| x_ild1 k12098_72 <| x_goto (tgt := 83) k12098_73 (by decide) <| x_iast k12098_83 (hK.at rfl) (b4 h1) <| x_inc4 (c := 1) k12098_84 rfl (Nat.le_of_ble_eq_true rfl) rfl <| x_goto (tgt := 5) k12098_87 (by decide) <| (q10 h1 h4 g14 g15)) (fun g16 => x_ifeqT (tgt := 76) k12098_69 (by decide) (show (0 : Int32) = 0 by decide) <| x_ald0 k12098_76 <| x_getR k12098_77 f12_62_11 (hK.at rfl) rfl (hR _ _ _ rfl) <| x_ild4 k12098_80 <| x_iald k12098_82 (hK.at rfl) (b4 h1) <| x_iast k12098_83 (hK.at rfl) (b4 h1) <| x_inc4 (c := 1) k12098_84 rfl (Nat.le_of_ble_eq_true rfl) rfl <| x_goto (tgt := 5) k12098_87 (by decide) <| (q11 h1 h4 g14 g16)))))
theorem g12098_120 {x1 : Int32} {x2 : Int32} {x3 : Int32} {x4 : Int32} {x5 : Int32}  (hK : qLay K sz) (hR : qRef R) (b1 : (I 73 24) ≤ x5 → x4 = 0 ∨ x4 = 1) (b2 : ¬ (I 73 24) ≤ x5 → vp_in x5 5) (q1 : (I 73 24) ≤ x5 → Q (some (.int x4)) (K, I, L, R, sz)) (q2 : ¬ (I 73 24) ≤ x5 → X d 0 0 12098 0 0 120 [some (.ref 73), some (.int x1), some (.int x2), some (.int x3), some (.int x4), some (.int (x5 + 1))] [] (K, va_up I 89 (upd (I 89) x5.toNatClampNeg (I 103 x5.toNatClampNeg)), L, R, sz) Q) : X d 0 0 12098 0 0 120 [some (.ref 73), some (.int x1), some (.int x2), some (.int x3), some (.int x4), some (.int x5)] [] (K, I, L, R, sz) Q := x_ild5 k12098_120 <| x_ald0 k12098_122 <| x_getI k12098_123 f12_289_11 (hK.at rfl) rfl <| x_icmpge (tgt := 149) k12098_126 (by decide) (fun h1 => x_ild4 k12098_149 <| x_zret k12098_151 rfl (b1 h1) (Nat.le_refl _) (Nat.le_refl _) <| (q1 h1)) (fun h1 => x_ald0 k12098_129 <| x_getR k12098_130 f12_62_11 (hK.at rfl) rfl (hR _ _ _ rfl) <| x_ild5 k12098_133 <| x_ald0 k12098_135 <| x_getR k12098_136 f12_107_11 (hK.at rfl) rfl (hR _ _ _ rfl) <| x_ild5 k12098_139 <| x_iald k12098_141 (hK.at rfl) (b2 h1) <| x_iast k12098_142 (hK.at rfl) (b2 h1) <| x_inc5 (c := 1) k12098_143 rfl (Nat.le_of_ble_eq_true rfl) rfl <| x_goto (tgt := 120) k12098_146 (by decide) <| (q2 h1))
theorem l1005 {m b : Int32} (hK : qLay K sz) (hR : qRef R) (lS : I 22 1 = nI (pS p)) (w5 : pS p ≤ 5) (ht : mayB (mayC I m) b (pS p) → Q (some (.int 1)) (K, I, L, R, sz)) (hf : ¬ mayB (mayC I m) b (pS p) → Q (some (.int 0)) (K, I, L, R, sz)) : ∀ (k i : Nat), i + k = pS p → (∀ s, s < i → bitP b s → mayC I m s) → X (d + 1) 0 0 1005 0 0 2 [some (.ref 22), some (.int m), some (.int b), some (.int (nI i))] [] (K, I, L, R, sz) Q := by
  intro k
  induction k with
  | zero =>
    intro i hi hm
    have hle : I 22 1 ≤ nI i := by rw [lS]; exact nI_le (by omega) (by omega)
    have : i = pS p := by omega
    subst this
    exact g1005b_2 hK hR (fun h => absurd hle h) (fun _ => ht hm) (fun h => absurd hle h) (fun h => absurd hle h) (fun h => absurd hle h)
  | succ k ih =>
    intro i hi hm
    have hnl : ¬ I 22 1 ≤ nI i := by rw [lS]; exact nI_ge (by omega) (by omega)
    have hci : (nI i).toNatClampNeg = i := nI_c (by omega)
    have hnx : (bitP b i → mayC I m i) → X (d + 1) 0 0 1005 0 0 2 [some (.ref 22), some (.int m), some (.int b), some (.int (nI i + 1))] [] (K, I, L, R, sz) Q := fun h => by
      rw [nI_1]
      refine ih (i + 1) (by omega) (fun s hs hb => ?_)
      by_cases hsi : s = i
      · subst hsi; exact h hb
      · exact hm s (by omega) hb
    refine g1005b_2 hK hR (fun _ _ => ⟨i, by omega, rfl⟩) (fun h => absurd h hnl) (fun _ h => hnx (fun q => absurd q h)) (fun _ _ h2 => hnx (fun _ => ?_)) (fun _ h1 h2 => hf (fun q => ?_))
    · rw [hci] at h2; exact h2
    · rw [hci] at h2; exact q i (by omega) h1 h2
theorem s1005 {m b : Int32} (hK : qLay K sz) (hR : qRef R) (lS : I 22 1 = nI (pS p)) (w5 : pS p ≤ 5) (ht : mayB (mayC I m) b (pS p) → Q (some (.int 1)) (K, I, L, R, sz)) (hf : ¬ mayB (mayC I m) b (pS p) → Q (some (.int 0)) (K, I, L, R, sz)) : X (d + 1) 0 0 1005 0 0 0 (qent (qml 1005) [.ref 22, .int m, .int b]) [] (K, I, L, R, sz) Q :=
  e1005b (l1005 hK hR lS w5 ht hf (pS p) 0 (by omega) (fun s hs => absurd hs (by omega)))
theorem l5007 {m b : Int32} {I0 : Nat → Int32} (hK : qLay K sz) (hR : qRef R) (hn : I 69 2 = nI (pS p)) (w5 : pS p ≤ 5) (h71 : ∀ k, k < 5 → I 71 k = I0 k) (ht : hb (stF I0 m b (pS p)) (pS p) m (pS p) = (1 <<< (nI (pS p) &&& 31)) - 1 → Q (some (.int 1)) (K, va_up I 70 I0, L, R, sz)) (hf : ¬ hb (stF I0 m b (pS p)) (pS p) m (pS p) = (1 <<< (nI (pS p) &&& 31)) - 1 → Q (some (.int 0)) (K, va_up I 70 I0, L, R, sz)) : ∀ (k i : Nat), i + k = pS p → X (d + 3) 0 0 5007 0 0 16 [some (.ref 69), some (.int m), some (.int b), some (.int (nI i))] [] (K, va_up I 70 (stF I0 m b i), L, R, sz) Q := by
  intro k
  induction k with
  | zero =>
    intro i hi
    have hle : I 69 2 ≤ nI i := by rw [hn]; exact nI_le (by omega) (by omega)
    have : i = pS p := by omega
    subst this
    have e : va_cpy (I 71) (stF I0 m b (pS p)) 0 0 5 = I0 := by
      funext k
      simp only [va_cpy]
      by_cases hk : k < 5
      · rw [if_pos (by omega), show 0 + (k - 0) = k from by omega, h71 k hk]
      · rw [if_neg (by omega), stF, if_neg (by omega)]
    refine g5007_16 (p := p) hK hR (fun _ => hn) (fun _ => w5) (fun h => absurd hle h) (fun _ h => ?_) (fun _ h => ?_) (fun h => absurd hle h) (fun h => absurd hle h)
    · rw [vu_s, vu_n (j := 69) (by decide), hn] at h
      rw [vu_t, vu_s, vu_n (j := 71) (by decide), e]
      exact hf h
    · rw [vu_s, vu_n (j := 69) (by decide), hn] at h
      rw [vu_t, vu_s, vu_n (j := 71) (by decide), e]
      exact ht h
  | succ k ih =>
    intro i hi
    have hnl : ¬ I 69 2 ≤ nI i := by rw [hn]; exact nI_ge (by omega) (by omega)
    have hci : (nI i).toNatClampNeg = i := nI_c (by omega)
    have ih' := ih (i + 1) (by omega)
    refine g5007_16 (p := p) hK hR (fun h => absurd h hnl) (fun h => absurd h hnl) (fun _ _ => vI (by omega) (by omega)) (fun h => absurd h hnl) (fun h => absurd h hnl) (fun _ h => ?_) (fun _ h => ?_)
    · rw [stF_n h] at ih'
      rw [nI_1]; exact ih'
    · rw [← stF_y h] at ih'
      rw [nI_1, hci, vu_t, vu_s]; exact ih'
theorem s5007 {m b : Int32} (hK : qLay K sz) (hR : qRef R) (hn : I 69 2 = nI (pS p)) (w5 : pS p ≤ 5) (ht : hb (stF (I 70) m b (pS p)) (pS p) m (pS p) = (1 <<< (nI (pS p) &&& 31)) - 1 → Q (some (.int 1)) (K, va_up I 71 (va_cpy (I 70) (I 71) 0 0 5), L, R, sz)) (hf : ¬ hb (stF (I 70) m b (pS p)) (pS p) m (pS p) = (1 <<< (nI (pS p) &&& 31)) - 1 → Q (some (.int 0)) (K, va_up I 71 (va_cpy (I 70) (I 71) 0 0 5), L, R, sz)) : X (d + 3) 0 0 5007 0 0 0 (qent (qml 5007) [.ref 69, .int m, .int b]) [] (K, I, L, R, sz) Q := by
  refine e5007 (d := d + 2) hK hR ?_
  have e70 : va_up I 71 (va_cpy (I 70) (I 71) 0 0 5) 70 = I 70 := vu_n (by decide)
  have eI : va_up (va_up I 71 (va_cpy (I 70) (I 71) 0 0 5)) 70 (I 70) = va_up I 71 (va_cpy (I 70) (I 71) 0 0 5) := by
    have := vu_id (f := va_up I 71 (va_cpy (I 70) (I 71) 0 0 5)) (i := 70)
    rw [e70] at this
    exact this
  have := l5007 (p := p) (d := d) (Q := Q) (L := L) (m := m) (b := b) (I := va_up I 71 (va_cpy (I 70) (I 71) 0 0 5)) (I0 := I 70) hK hR hn w5 (fun k hk => by rw [vu_s, va_cpy, if_pos (by omega), show 0 + (k - 0) = k from by omega]) (fun h => by rw [eI]; exact ht h) (fun h => by rw [eI]; exact hf h) (pS p) 0 (by omega)
  rw [stF_0, eI] at this
  exact this
/-- places below i copied -/
def cpF (f g : Nat → Int32) (i : Nat) : Nat → Int32 := fun k => if k < i then f k else g k
theorem cpF_s {f g : Nat → Int32} {i : Nat} : upd (cpF f g i) i (f i) = cpF f g (i + 1) := by
  funext k
  simp only [upd, cpF]
  by_cases hk : k = i
  · subst hk; simp
  · by_cases h2 : k < i
    · simp [hk, h2, show k < i + 1 from by omega]
    · simp [hk, h2, show ¬ k < i + 1 from by omega]
theorem cpF_0 {f g : Nat → Int32} : cpF f g 0 = g := by funext k; simp [cpF]
theorem l12098b {x1 x2 x3 v : Int32} {f : Nat → Int32} (hK : qLay K sz) (hR : qRef R) (mS : I 73 24 = nI (pS p)) (w5 : pS p ≤ 5) (hv : v = 0 ∨ v = 1) (h103 : ∀ k, k < pS p → I 103 k = f k) (hq : Q (some (.int v)) (K, va_up I 89 (cpF f (I 89) (pS p)), L, R, sz)) : ∀ (k i : Nat), i + k = pS p → X d 0 0 12098 0 0 120 [some (.ref 73), some (.int x1), some (.int x2), some (.int x3), some (.int v), some (.int (nI i))] [] (K, va_up I 89 (cpF f (I 89) i), L, R, sz) Q := by
  intro k
  induction k with
  | zero =>
    intro i hi
    have hle : I 73 24 ≤ nI i := by rw [mS]; exact nI_le (by omega) (by omega)
    have : i = pS p := by omega
    subst this
    exact g12098_120 hK hR (fun _ => hv) (fun h => absurd hle h) (fun _ => hq) (fun h => absurd hle h)
  | succ k ih =>
    intro i hi
    have hnl : ¬ I 73 24 ≤ nI i := by rw [mS]; exact nI_ge (by omega) (by omega)
    have hci : (nI i).toNatClampNeg = i := nI_c (by omega)
    have ih' := ih (i + 1) (by omega)
    refine g12098_120 hK hR (fun h => absurd h hnl) (fun _ => vI (by omega) (by omega)) (fun h => absurd h hnl) (fun _ => ?_)
    rw [nI_1, hci, vu_t, vu_s, vu_n (j := 103) (by decide), h103 i (by omega), cpF_s]
    exact ih'

end L44
