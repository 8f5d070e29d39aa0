/-! counted; the reference's servant -/
/-- whether thanks i count -/
def qCt (I : Nat → Nat → Int32) (p : qPa) (a : Int32) : Prop := qCnt (I 52) (I 53) (I 54) (qBr I) (pH p) (-1) a.toNatClampNeg
noncomputable def fCounted (I : Nat → Nat → Int32) (p : qPa) (a : Int32) : Int32 := @ite Int32 (qIn (pN p) a) (Classical.propDecidable _) (@ite Int32 (qCt I p a) (Classical.propDecidable _) 1 0) (-1)
def fServant (I : Nat → Nat → Int32) (a b : Int32) : Int32 := I (24 + a.toNatClampNeg) b.toNatClampNeg
section L77
variable {d : Nat} {K : qK} {I : Nat → Nat → Int32} {L : Nat → Nat → Int64} {R : Nat → Nat → Option Nat} {sz : Nat} {Q : Option Value → qMem → Prop} {p : qPa}
theorem scJ_Q {j k : Nat} (h : scJ j k) : scQ j k := scV_Q (Or.inl h)
theorem scR_Q {j k : Nat} (h : scR j k) : scQ j k := scN_Q (Or.inl (Or.inl h))
theorem u12054 {a : Int32} (hK : qLay K sz) (hR : qRef R) (cI : CI I p) (rI : RI I p) (ha : qIn (pN p) a) (ht : qCt I p a → ∀ J, qAf I p J → Q (some (.int 1)) (K, J, L, R, sz)) (hf : ¬ qCt I p a → ∀ J, qAf I p J → Q (some (.int 0)) (K, J, L, R, sz)) : X (d + 5) 0 0 12054 0 0 0 (qent (qml 12054) [.ref 73, .int a]) [] (K, I, L, R, sz) Q := by
  obtain ⟨i, hi, rfl⟩ := ha
  have n40 := cI.2.1.2.1
  have w5 := cI.w5
  obtain ⟨r1, r2, r3, r4, r5, r6⟩ := rI
  have rI' : RI I p := ⟨r1, r2, r3, r4, r5, r6⟩
  have hw : qIn 5 (I 53 i) := (cI.2.1.2.2.1 i hi).2.1.to5 w5
  have e : qCnt (I 86) (I 87) (I 88) (qBrR I) (pH p) (I 73 34) i ↔ qCt I p (nI i) := by
    unfold qCt
    rw [nI_c (by omega), r6, r3.2.1, r3.2.2.1, r3.2.2.2]
    exact qCnt_br (qBrR_eq rI' (qIn_c hw (Nat.le_refl _)) (qIn_c (cI.2.1.2.2.1 i hi).2.1 w5))
  have haf : ∀ J, qFr scR I J → qAf I p J := fun J h => (qAf.refl cI).up (h.mono (fun j k => scR_Q)) (h.row (fun k q => by unfold scR at q; omega)) (h.row (fun k q => by unfold scR at q; omega))
  exact s12054 hK hR (by omega) rfl (by rw [r3.2.2.1]; exact hw) r4 (fun h J hJ => ht (e.mp h) J (haf J hJ)) (fun h J hJ => hf (fun q => h (e.mpr q)) J (haf J hJ))
theorem e11010 {a : Int32}  (hK : qLay K sz) (hR : qRef R)  (q1 : a < 0 → Q (some (.int (-1))) (K, I, L, R, sz)) (q2 : ¬ a < 0 → a < (I 51 5) → X d 0 0 11010 0 0 26 [some (.ref 0), some (.int a)] [.ref 0, .ref 22, .ref 51] (K, I, L, R, sz) Q) (q3 : ¬ a < 0 → ¬ a < (I 51 5) → Q (some (.int (-1))) (K, I, L, R, sz)) : X d 0 0 11010 0 0 0 (qent (qml 11010) [.ref 0, .int a]) [] (K, I, L, R, sz) Q := show X _ 0 0 11010 0 0 0 [some (.ref 0), some (.int a)] [] _ _ from x_ild1 k11010_0 <| x_iflt (tgt := 15) k11010_1 (by decide) (fun h1 => x_iconst (v := (-1)) k11010_15 rfl <| x_iret k11010_16 rfl (Nat.le_refl _) (Nat.le_refl _) <| (q1 h1)) (fun h1 => x_ild1 k11010_4 <| x_ald0 k11010_5 <| x_getR k11010_6 f11_53_10 (hK.at rfl) rfl (hR _ _ _ rfl) <| x_getI k11010_9 f11_176_9 (hK.at rfl) rfl <| x_icmplt (tgt := 17) k11010_12 (by decide) (fun h2 => x_ald0 k11010_17 <| x_getR k11010_18 f11_53_10 (hK.at rfl) rfl (hR _ _ _ rfl) <| x_ald0 k11010_21 <| x_getR k11010_22 f11_35_10 (hK.at rfl) rfl (hR _ _ _ rfl) <| x_ald0 k11010_25 <| (q2 h1 h2)) (fun h2 => x_iconst (v := (-1)) k11010_15 rfl <| x_iret k11010_16 rfl (Nat.le_refl _) (Nat.le_refl _) <| (q3 h1 h2)))
theorem g11010_32 {a : Int32}  (hK : qLay K sz) (hR : qRef R) (b1 : vp_in a 40) (q1 : (I 55 a.toNatClampNeg) = 0 → Q (some (.int 0)) (K, I, L, R, sz)) (q2 : ¬ (I 55 a.toNatClampNeg) = 0 → Q (some (.int 1)) (K, I, L, R, sz)) : X d 0 0 11010 0 0 32 [some (.ref 0), some (.int a)] [] (K, I, L, R, sz) Q := x_ald0 k11010_32 <| x_getR k11010_33 f11_53_10 (hK.at rfl) rfl (hR _ _ _ rfl) <| x_getR k11010_36 f11_189_9 (hK.at rfl) rfl (hR _ _ _ rfl) <| x_ild1 k11010_39 <| x_zald k11010_40 (hK.at rfl) b1 <| x_ifeq (tgt := 48) k11010_41 (by decide) (fun h1 => x_iconst (v := 0) k11010_48 rfl <| x_iret k11010_49 rfl (Nat.le_refl _) (Nat.le_refl _) <| (q1 h1)) (fun h1 => x_iconst (v := 1) k11010_44 rfl <| x_goto (tgt := 49) k11010_45 (by decide) <| x_iret k11010_49 rfl (Nat.le_refl _) (Nat.le_refl _) <| (q2 h1))
theorem e12055 {a : Int32}  (hK : qLay K sz) (hR : qRef R) (cI : CI I p) (rI : RI I p) (b1 : 0 ≤ a → a ≤ ((I 73 33) - 1) → qIn (pN p) a) (q1 : 0 ≤ a → a ≤ ((I 73 33) - 1) → qCt I p a → ∀ I4 : Nat → Nat → Int32, qAf I p I4 → Q (some (.int 1)) (K, I4, L, R, sz)) (q2 : 0 ≤ a → a ≤ ((I 73 33) - 1) → ¬ qCt I p a → ∀ I7 : Nat → Nat → Int32, qAf I p I7 → Q (some (.int 0)) (K, I7, L, R, sz)) (q3 : ¬ (0 ≤ a ∧ a ≤ ((I 73 33) - 1)) → Q (some (.int (-1))) (K, I, L, R, sz)) : X (d + 6) 0 0 12055 0 0 0 (qent (qml 12055) [.ref 73, .int a]) [] (K, I, L, R, sz) Q := show X _ 0 0 12055 0 0 0 [some (.ref 73), some (.int a)] [] _ _ from x_ild1 k12055_0 <| x_iconst (v := 0) k12055_1 rfl <| x_ald0 k12055_2 <| x_getI k12055_3 f12_298_11 (hK.at rfl) rfl <| x_iconst (v := 1) k12055_6 rfl <| x_isub k12055_7 <| x_cS3 (MCz := 0) (MSz := 0) k12055_8 s12_231 (Nat.le_of_ble_eq_true rfl) (Nat.le_of_ble_eq_true rfl) (Nat.le_refl _) (Nat.le_refl _) <| t12000 (fun g1 g2 => x_ifeqF (tgt := 30) k12055_11 (by decide) (show ¬ (1 : Int32) = 0 by decide) <| x_ald0 k12055_14 <| x_ild1 k12055_15 <| x_cV1 (MCz := 0) (MSz := 0) k12055_16 v12_330_11 (hK.at rfl) (Nat.le_of_ble_eq_true rfl) (Nat.le_of_ble_eq_true rfl) (Nat.le_refl _) (Nat.le_refl _) <| u12054 hK hR cI rI (b1 g1 g2) (fun g3 I4 g5 => x_ifeqF (tgt := 26) k12055_19 (by decide) (show ¬ (1 : Int32) = 0 by decide) <| x_iconst (v := 1) k12055_22 rfl <| x_goto (tgt := 31) k12055_23 (by decide) <| x_iret k12055_31 rfl (Nat.le_refl _) (Nat.le_refl _) <| (q1 g1 g2 g3 I4 g5)) (fun g6 I7 g8 => x_ifeqT (tgt := 26) k12055_19 (by decide) (show (0 : Int32) = 0 by decide) <| x_iconst (v := 0) k12055_26 rfl <| x_goto (tgt := 31) k12055_27 (by decide) <| x_iret k12055_31 rfl (Nat.le_refl _) (Nat.le_refl _) <| (q2 g1 g2 g6 I7 g8))) (fun g9 => x_ifeqT (tgt := 30) k12055_11 (by decide) (show (0 : Int32) = 0 by decide) <| x_iconst (v := (-1)) k12055_30 rfl <| x_iret k12055_31 rfl (Nat.le_refl _) (Nat.le_refl _) <| (q3 g9))
theorem e12049 {a : Int32} {b : Int32}  (hK : qLay K sz) (hR : qRef R) (cI : CI I p) (rI : RI I p) (b1 : qIn (pS p) a → 0 ≤ b → b ≤ 2 → vp_in (3 * a + b) 34) (q1 : qIn (pS p) a → 0 ≤ b → b ≤ 2 → Q (some (.int (I 85 ((3 * a + b).toNatClampNeg)))) (K, va_up I 73 (upd (I 73) 0 0), L, R, sz)) (q2 : qIn (pS p) a → ¬ (0 ≤ b ∧ b ≤ 2) → Q (some (.int 0)) (K, va_up I 73 (upd (I 73) 0 1), L, R, sz)) (q3 : ¬ qIn (pS p) a → Q (some (.int 0)) (K, va_up I 73 (upd (I 73) 0 1), L, R, sz)) : X (d + 2) 0 0 12049 0 0 0 (qent (qml 12049) [.ref 73, .int a, .int b]) [] (K, I, L, R, sz) Q := show X _ 0 0 12049 0 0 0 [some (.ref 73), some (.int a), some (.int b)] [] _ _ from x_ald0 k12049_0 <| x_ald0 k12049_1 <| x_ild1 k12049_2 <| x_cV1 (MCz := 0) (MSz := 0) k12049_3 v12_311_11 (hK.at rfl) (Nat.le_of_ble_eq_true rfl) (Nat.le_of_ble_eq_true rfl) (Nat.le_refl _) (Nat.le_refl _) <| u12046 hK cI rI (fun g1 => x_ifeqF (tgt := 22) k12049_6 (by decide) (show ¬ (1 : Int32) = 0 by decide) <| x_ild2 k12049_9 <| x_iconst (v := 0) k12049_10 rfl <| x_iconst (v := 2) k12049_11 rfl <| x_cS3 (MCz := 0) (MSz := 0) k12049_12 s12_231 (Nat.le_of_ble_eq_true rfl) (Nat.le_of_ble_eq_true rfl) (Nat.le_refl _) (Nat.le_refl _) <| t12000 (fun g2 g3 => x_ifeqF (tgt := 22) k12049_15 (by decide) (show ¬ (1 : Int32) = 0 by decide) <| x_iconst (v := 0) k12049_18 rfl <| x_goto (tgt := 23) k12049_19 (by decide) <| x_putI k12049_23 f12_116_11 (Or.inl rfl) (hK.at rfl) <| x_ald0 k12049_26 <| x_getI k12049_27 f12_116_11 (hK.at rfl) rfl <| x_iconst (v := 1) k12049_30 rfl <| x_icmpneT (tgt := 38) k12049_31 (by decide) (show ¬ (0 : Int32) = 1 by decide) <| x_ald0 k12049_38 <| x_getR k12049_39 f12_43_11 (hK.at rfl) rfl (hR _ _ _ rfl) <| x_ild1 k12049_42 <| x_ild2 k12049_43 <| x_cS2 (MCz := 0) (MSz := 0) k12049_44 s12_238 (Nat.le_of_ble_eq_true rfl) (Nat.le_of_ble_eq_true rfl) (Nat.le_refl _) (Nat.le_refl _) <| t12033 (x_iald k12049_47 (hK.at rfl) (b1 g1 g2 g3) <| x_iret k12049_48 rfl (Nat.le_refl _) (Nat.le_refl _) <| (q1 g1 g2 g3))) (fun g4 => x_ifeqT (tgt := 22) k12049_15 (by decide) (show (0 : Int32) = 0 by decide) <| x_iconst (v := 1) k12049_22 rfl <| x_putI k12049_23 f12_116_11 (Or.inl rfl) (hK.at rfl) <| x_ald0 k12049_26 <| x_getI k12049_27 f12_116_11 (hK.at rfl) rfl <| x_iconst (v := 1) k12049_30 rfl <| x_icmpneF (tgt := 38) k12049_31 (by decide) (show (1 : Int32) = 1 by decide) <| x_iconst (v := 0) k12049_34 rfl <| x_goto (tgt := 48) k12049_35 (by decide) <| x_iret k12049_48 rfl (Nat.le_refl _) (Nat.le_refl _) <| (q2 g1 g4))) (fun g5 => x_ifeqT (tgt := 22) k12049_6 (by decide) (show (0 : Int32) = 0 by decide) <| x_iconst (v := 1) k12049_22 rfl <| x_putI k12049_23 f12_116_11 (Or.inl rfl) (hK.at rfl) <| x_ald0 k12049_26 <| x_getI k12049_27 f12_116_11 (hK.at rfl) rfl <| x_iconst (v := 1) k12049_30 rfl <| x_icmpneF (tgt := 38) k12049_31 (by decide) (show (1 : Int32) = 1 by decide) <| x_iconst (v := 0) k12049_34 rfl <| x_goto (tgt := 48) k12049_35 (by decide) <| x_iret k12049_48 rfl (Nat.le_refl _) (Nat.le_refl _) <| (q3 g5))
theorem s11010 {a : Int32} (hK : qLay K sz) (hR : qRef R) (cI : CI I p) (hq : ∀ J, qAf I p J → Q (some (.int (fCounted I p a))) (K, J, L, R, sz)) : X (d + 6) 0 0 11010 0 0 0 (qent (qml 11010) [.ref 0, .int a]) [] (K, I, L, R, sz) Q := by
  unfold fCounted at hq
  have e5 := cI.2.1.1
  have n40 := cI.2.1.2.1
  have w5 := cI.w5
  have hno : ¬ qIn (pN p) a → Q (some (.int (-1))) (K, I, L, R, sz) := fun h => by
    have := hq I (qAf.refl cI)
    rw [if_neg h] at this; exact this
  refine e11010 hK hR (fun h => hno (fun q => ?_)) (fun h1 h2 => ?_) (fun h1 h2 => hno (fun q => ?_))
  · obtain ⟨i, hi, rfl⟩ := q
    exact nI_pos (by omega) h
  · have hin : qIn (pN p) a := by
      rw [i_lt] at h1
      rw [e5, i_lt, nI_i (by omega)] at h2
      have e0 : (0 : Int32).toInt = 0 := rfl
      exact ⟨a.toInt.toNat, by omega, by rw [i_eq, nI_i (by omega)]; omega⟩
    obtain ⟨i, hi, rfl⟩ := hin
    have hwm : ∀ i, i < pN p → qIn 5 (I 53 i) := fun i hi => (cI.2.1.2.2.1 i hi).2.1.to5 w5
    obtain ⟨j, j1, j2, j3⟩ := cI.2.2.1
    refine x_cV0 (MCz := 0) (MSz := 0) k11010_26 v11_181_10 (hK.at rfl) (Nat.le_of_ble_eq_true rfl) (Nat.le_of_ble_eq_true rfl) (Nat.le_refl _) (Nat.le_refl _) ?_
    refine s11043 hK hR cI.2.2.2.1 ?_
    refine x_cV2 (MCz := 0) (MSz := 0) k11010_29 v11_185_9 (hK.at rfl) (Nat.le_of_ble_eq_true rfl) (by cases pW p <;> exact Nat.le_of_ble_eq_true rfl) (Nat.le_refl _) (Nat.le_refl _) ?_
    refine s10006 (n := pN p) hK hR n40 j1 e5 j2 hwm cI.2.2.2.2.1 j3 (fun J hf h6 hJ => ?_)
    have hfQ := hf.mono (fun j k => scJ_Q)
    have g : qAf I p J := ⟨hfQ, CI_fr hfQ ⟨pN p, Nat.le_refl _, h6, hJ⟩ cI⟩
    have e : ¬ J 55 i = 0 ↔ qCt I p (nI i) := by
      have := (hJ i hi).2
      unfold qCt
      rw [nI_c (by omega), ← qCnt_fr hf (fun j k h => scJ_no (by omega) k) (scJ_no (by omega)) (scJ_no (by omega)) (scJ_no (by omega)) (hwm i hi)]
      exact this
    have hqJ := hq J g
    rw [if_pos ⟨i, hi, rfl⟩] at hqJ
    refine g11010_32 hK hR (vI (by omega) (by omega)) (fun h => ?_) (fun h => ?_) <;> rw [nI_c (by omega)] at h
    · rw [if_neg (fun q => e.mpr q h)] at hqJ; exact hqJ
    · rw [if_pos (e.mp h)] at hqJ; exact hqJ
  · obtain ⟨i, hi, rfl⟩ := q
    rw [e5] at h2
    exact h2 (nI_lt hi (by omega))
theorem s12055 {a : Int32} (hK : qLay K sz) (hR : qRef R) (cI : CI I p) (rI : RI I p) (hq : ∀ J, qAf I p J → Q (some (.int (fCounted I p a))) (K, J, L, R, sz)) : X (d + 6) 0 0 12055 0 0 0 (qent (qml 12055) [.ref 73, .int a]) [] (K, I, L, R, sz) Q := by
  unfold fCounted at hq
  have e5 := cI.2.1.1
  have n40 := cI.2.1.2.1
  have e33 : I 73 33 = nI (pN p) := by rw [rI.2.2.1.1]; exact e5
  have hin : (0 ≤ a ∧ a ≤ I 73 33 - 1) ↔ qIn (pN p) a := by
    rw [e33]
    constructor
    · rintro ⟨h1, h2⟩; obtain ⟨j, j1, j2⟩ := q_in1 (by omega) h1 h2; exact ⟨j, j1, j2⟩
    · rintro ⟨j, j1, j2⟩
      apply Classical.byContradiction
      intro h
      exact q_in0 (by omega) h j j1 j2
  refine e12055 (p := p) hK hR cI rI (fun h1 h2 => hin.mp ⟨h1, h2⟩) (fun h1 h2 h3 J hJ => ?_) (fun h1 h2 h3 J hJ => ?_) (fun h => ?_)
  · have := hq J hJ
    rw [if_pos (hin.mp ⟨h1, h2⟩), if_pos h3] at this; exact this
  · have := hq J hJ
    rw [if_pos (hin.mp ⟨h1, h2⟩), if_neg h3] at this; exact this
  · have := hq I (qAf.refl cI)
    rw [if_neg (fun q => h (hin.mpr q))] at this; exact this
/-- the reference's servant: refused or told -/
theorem s12049 {a b : Int32} (hK : qLay K sz) (hR : qRef R) (cI : CI I p) (rI : RI I p) (ht : qIn (pS p) a → qIn 3 b → Q (some (.int (fServant I a b))) (K, va_up I 73 (upd (I 73) 0 0), L, R, sz)) (hf : ¬ (qIn (pS p) a ∧ qIn 3 b) → Q (some (.int 0)) (K, va_up I 73 (upd (I 73) 0 1), L, R, sz)) : X (d + 2) 0 0 12049 0 0 0 (qent (qml 12049) [.ref 73, .int a, .int b]) [] (K, I, L, R, sz) Q := by
  have w5 := cI.w5
  have hb : (0 ≤ b ∧ b ≤ 2) ↔ qIn 3 b := by
    rw [qIn_iff (by omega)]
    have e2 : (2 : Int32).toInt = 2 := rfl
    have e3 : (nI 3 : Int32).toInt = 3 := rfl
    rw [i_le, i_le, i_lt, e2, e3]; omega
  refine e12049 (p := p) hK hR cI rI (fun h1 h2 h3 => ?_) (fun h1 h2 h3 => ?_) (fun h1 h2 => hf (fun q => h2 (hb.mpr q.2))) (fun h1 => hf (fun q => h1 q.1))
  · obtain ⟨s, s1, rfl⟩ := h1
    obtain ⟨k, k1, rfl⟩ := hb.mp ⟨h2, h3⟩
    rw [q_3j]; exact vI (by omega) (by omega)
  · have h0 := ht h1 (hb.mp ⟨h2, h3⟩)
    obtain ⟨s, s1, rfl⟩ := h1
    obtain ⟨k, k1, rfl⟩ := hb.mp ⟨h2, h3⟩
    unfold fServant at h0
    rw [nI_c (by omega), nI_c (by omega), ← rI.2.1.1 s k (by omega) s1 k1] at h0
    rw [q_3j, nI_c (by omega)]
    exact h0
end L77
