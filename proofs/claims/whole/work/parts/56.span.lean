/-! spans: the reference counts once, lays for each minute -/
/-- after a laying over counts that were told -/
def qLs (I : Nat → Nat → Int32) (p : qPa) (t : Int32) (J : Nat → Nat → Int32) : Prop := qAf I p J ∧ qJudR J (pH p) (pN p) ∧ (∀ s, s < pS p → J 89 s = LEn I p t s) ∧ J 104 = I 104
/-- after the counting -/
def qCa (I : Nat → Nat → Int32) (p : qPa) (J : Nat → Nat → Int32) : Prop := qAf I p J ∧ qJudR J (pH p) (pN p)
section L56
variable {d : Nat} {K : qK} {I : Nat → Nat → Int32} {L : Nat → Nat → Int64} {R : Nat → Nat → Option Nat} {sz : Nat} {Q : Option Value → qMem → Prop} {p : qPa}
theorem qJudR_fr {J : Nat → Nat → Int32} {h : Option (List qCls)} {m : Nat} (e90 : J 90 = I 90) (e73 : J 73 34 = I 73 34) (e86 : J 86 = I 86) (e87 : J 87 = I 87) (e88 : J 88 = I 88) (e85 : J 85 = I 85) (hj : qJudR I h m) : qJudR J h m := by
  intro i hi
  have := hj i hi
  unfold qBrR at this ⊢
  rw [e90, e73, e86, e87, e88, e85]
  exact this
theorem u12057 (hK : qLay K sz) (hR : qRef R) (cI : CI I p) (rI : RI I p) (hq : ∀ J, qCa I p J → Q none (K, J, L, R, sz)) : X (d + 6) 0 0 12057 0 0 0 (qent (qml 12057) [.ref 73]) [] (K, I, L, R, sz) Q := by
  have w5 := cI.w5
  refine s12057 (n := pN p) hK hR cI.2.1.2.1 (by rw [rI.2.2.1.1]; exact cI.2.1.1) (fun i hi => by rw [rI.2.2.1.2.2.1]; exact (cI.2.1.2.2.1 i hi).2.1.to5 w5) rI.2.2.2.1 (fun J h1 h2 => hq J ⟨?_, h2⟩)
  exact (qAf.refl cI).up (h1.mono (fun j k h => scN_Q (Or.inl h))) (h1.row (scC_no (by omega))) (h1.row (scC_no (by omega)))
theorem u12058 {t : Int32} (hK : qLay K sz) (hR : qRef R) (cI : CI I p) (rI : RI I p) (hc : qJudR I (pH p) (pN p)) (hq : ∀ J, qLs I p t J → Q none (K, J, L, R, sz)) : X d 0 0 12058 0 0 0 (qent (qml 12058) [.ref 73, .int t]) [] (K, I, L, R, sz) Q := by
  have w5 := cI.w5
  obtain ⟨r1, r2, r3, r4, r5, r6⟩ := rI
  have rI' : RI I p := ⟨r1, r2, r3, r4, r5, r6⟩
  refine s12058 (n := pN p) (nS := pS p) hK hR (rI'.mS cI) (by rw [r3.1]; exact cI.2.1.1) cI.2.1.2.1 w5 (fun i hi => by rw [r3.2.2.1]; exact (cI.2.1.2.2.1 i hi).2.1) ?_
  refine hq _ ⟨(qAf.refl cI).up (qFr.up (fun k => scN_Q (Or.inr rfl))) (vu_n (by decide)) (vu_n (by decide)), ?_, ?_, vu_n (by decide)⟩
  · exact qJudR_fr (vu_n (by decide)) (by rw [vu_n (by decide)]) (vu_n (by decide)) (vu_n (by decide)) (vu_n (by decide)) (vu_n (by decide)) hc
  · intro s hs
    rw [vu_s, r3.2.1, r3.2.2.1, r3.2.2.2, r5.1]
    unfold LEn
    refine qLy_ln (by rw [qfi, if_pos hs]) (pN p) (fun i hi => ?_)
    rw [hc i hi, r6, r3.2.1, r3.2.2.1, r3.2.2.2]
    have hw : (I 53 i).toNatClampNeg < 5 := Nat.lt_of_lt_of_le (qIn_c (cI.2.1.2.2.1 i hi).2.1 w5) w5
    have hm : ¬ nI i = -1 := nI_m1 (by have := cI.2.1.2.1; omega)
    rw [qCnt_br (br' := qBrR I) (br := qBr I) (qBrR_eq rI' hw (by have := qIn_c (cI.2.1.2.2.1 i hi).2.1 cI.w5; omega))]
    exact ⟨fun q => q.2, fun q => ⟨hm, q⟩⟩
end L56
