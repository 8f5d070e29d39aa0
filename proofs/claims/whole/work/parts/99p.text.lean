/-! fault: where a text is wrong -/
abbrev fN (I : Nat → Nat → Int32) : Nat := (I 1 1).toNatClampNeg
abbrev fB (I : Nat → Nat → Int32) : Nat → Int32 := tb I (fN I)
/-- of a house, of a law: -1 or the place of its fault -/
noncomputable def fHs (I : Nat → Nat → Int32) : Int32 := match gHouse (fB I) (fN I) with
  | (_, some _) => -1
  | (k, none) => nI k
def fLs (I : Nat → Nat → Int32) : Int32 := match gLaw (fB I) (fN I) with
  | (_, some _) => -1
  | (k, none) => nI k
noncomputable def fFault (I : Nat → Nat → Int32) (a : Int32) : Int32 := if a = 0 then fHs I else if a = 1 then fLs I else -2
def xFl (j _k : Nat) : Prop := j = 20 ∨ j = 21
def xH1 (I J : Nat → Nat → Int32) : Prop := ∃ k v h, gHouse (fB I) (fN I) = (k, some (v, h)) ∧ qFr hFz I J ∧ J 4 0 = v ∧ hE J h
def xH0 (I J : Nat → Nat → Int32) : Prop := ∃ k, gHouse (fB I) (fN I) = (k, none) ∧ qFr hFz I J ∧ J 3 1 = nI k
def xL1 (I J : Nat → Nat → Int32) : Prop := ∃ k cs, gLaw (fB I) (fN I) = (k, some cs) ∧ qFr xFl I J ∧ J 20 3 = nI (cuCs cs).length ∧ (cuCs cs).length ≤ 161 ∧ qHas (J 21) 0 (cuCs cs)
def xL0 (I J : Nat → Nat → Int32) : Prop := ∃ k, gLaw (fB I) (fN I) = (k, none) ∧ qFr xFl I J ∧ J 20 1 = nI k
def yH1 (I J : Nat → Nat → Int32) : Prop := ∃ k v h, gHouse (fB I) (fN I) = (k, some (v, h)) ∧ qFr yFz I J ∧ J 73 19 = v ∧ yE J h
def yH0 (I J : Nat → Nat → Int32) : Prop := ∃ k, gHouse (fB I) (fN I) = (k, none) ∧ qFr yFz I J
def yL1 (I : Nat → Nat → Int32) (a : Int32) (J : Nat → Nat → Int32) : Prop := ∃ t k cs, a = nI t ∧ t < 5 ∧ gLaw (fB I) (fN I) = (k, some cs) ∧ qFr (rFrD t) I J ∧ rLW t J cs
def yL0 (I : Nat → Nat → Int32) (a : Int32) (J : Nat → Nat → Int32) : Prop := ∃ t k, a = nI t ∧ t < 5 ∧ gLaw (fB I) (fN I) = (k, none) ∧ qFr (rFrD t) I J
section L99p
variable {d : Nat} {K : qK} {I J : Nat → Nat → Int32} {L : Nat → Nat → Int64} {R : Nat → Nat → Option Nat} {sz : Nat} {Q : Option Value → qMem → Prop} {p : qPa}
theorem fHs_s {k : Nat} {x : Int32 × qHs} (h : gHouse (fB I) (fN I) = (k, some x)) : fHs I = -1 := by unfold fHs; rw [h]
theorem fHs_n {k : Nat} (h : gHouse (fB I) (fN I) = (k, none)) : fHs I = nI k := by unfold fHs; rw [h]
theorem fLs_s {k : Nat} {x : List qUc} (h : gLaw (fB I) (fN I) = (k, some x)) : fLs I = -1 := by unfold fLs; rw [h]
theorem fLs_n {k : Nat} (h : gLaw (fB I) (fN I) = (k, none)) : fLs I = nI k := by unfold fLs; rw [h]
theorem xTp (h : iTp I) : qTp I (fN I) ∧ (∀ k, k < fN I → hTw (fB I k)) ∧ rTp (fB I) (fN I) I := by
  obtain ⟨n, h1, h2, h3, h4⟩ := h
  have e : fN I = n := by show (I 1 1).toNatClampNeg = n; rw [h2, nI_c (by omega)]
  have ht : qTp I (fN I) := ⟨by rw [e]; exact h2, by omega⟩
  refine ⟨ht, fun k hk => ?_, by rw [e]; exact h3, by omega, fun j hj => ?_, qTp_b ht (fun _ => rfl)⟩
  · obtain ⟨-, u, -, u2, u3⟩ := h4 k (by omega)
    exact ⟨u, u2, by show tb I (fN I) k = nI u; unfold tb; rw [if_pos hk, u3]⟩
  · rw [(h4 j (by omega)).1]; show I 2 j = tb I (fN I) j; unfold tb; rw [if_pos hj]
theorem x2001 (hK : qLay K sz) (hR : qRef R) (h : iTp I) (h1 : ∀ J, xH1 I J → Q (some (.int 1)) (K, J, L, R, sz)) (h0 : ∀ J, xH0 I J → Q (some (.int 0)) (K, J, L, R, sz)) : X (d + 6) 0 0 2001 0 0 0 (qent (qml 2001) [.ref 3]) [] (K, I, L, R, sz) Q := by
  obtain ⟨t1, t2, t3⟩ := xTp h
  exact s2001 (b := fB I) (n := fN I) hK hR t2 t1 (fun _ => rfl) (fun J k v h e f _ q E => h1 J ⟨k, v, h, e, f, q, E⟩) (fun J k e f q => h0 J ⟨k, e, f, q⟩)
theorem x4001 (hK : qLay K sz) (hR : qRef R) (h : iTp I) (h1 : ∀ J, xL1 I J → Q (some (.int 1)) (K, J, L, R, sz)) (h0 : ∀ J, xL0 I J → Q (some (.int 0)) (K, J, L, R, sz)) : X (d + 47) 0 0 4001 0 0 0 (qent (qml 4001) [.ref 20]) [] (K, I, L, R, sz) Q := by
  obtain ⟨t1, t2, t3⟩ := xTp h
  have f0 : qFr xFl I (va_up I 20 (upd (upd (I 20) 1 0) 3 0)) := qFr.up (fun _ => Or.inl rfl)
  have fm : ∀ j k, cFr 0 j k → xFl j k := fun j k q => q.elim (fun w => Or.inl w.1) (fun w => Or.inr w.1)
  refine s4001 (k0 := 0) (s0 := 0) (d := d + 43) (b := fB I) (n := fN I) hK hR (CSp_c rfl (cClause hK hR (qTp_b t1 (fun _ => rfl)) d)) t1 (fun _ => rfl) (fun J k cs e g => h1 J ⟨k, cs, e, f0.trans (g.1.mono fm), ?_, ?_, g.2.2⟩) (fun J k e g => h0 J ⟨k, e, f0.trans (g.1.mono fm), g.2⟩)
  · have := g.2.1.2.2.2.1; rw [Nat.zero_add] at this; exact this
  · have := g.2.1.2.2.2.2.2; rw [Nat.zero_add] at this; exact this
theorem x12042 (hK : qLay K sz) (hR : qRef R) (h : iTp I) (h1 : ∀ J, yH1 I J → Q (some (.int (-1))) (K, J, L, R, sz)) (h0 : ∀ J, yH0 I J → Q (some (.int (fHs I))) (K, J, L, R, sz)) : X (d + 4) 0 0 12042 0 0 0 (qent (qml 12042) [.ref 73]) [] (K, I, L, R, sz) Q := by
  obtain ⟨t1, t2, t3⟩ := xTp h
  refine s12042 (b := fB I) (n := fN I) hK hR t3 (fun J k v h e f q E => h1 J ⟨k, v, h, e, f, q, E⟩) (fun J k e f => ?_)
  rw [← fHs_n e]; exact h0 J ⟨k, e, f⟩
theorem x12028 {a : Int32} (hK : qLay K sz) (hR : qRef R) (h : iTp I ∧ ∃ t, t < 5 ∧ a = nI t) (h1 : ∀ J, yL1 I a J → Q (some (.int (-1))) (K, J, L, R, sz)) (h0 : ∀ J, yL0 I a J → Q (some (.int (fLs I))) (K, J, L, R, sz)) : X (d + 47) 0 0 12028 0 0 0 (qent (qml 12028) [.ref 73, .int a]) [] (K, I, L, R, sz) Q := by
  obtain ⟨ht, t, t5, rfl⟩ := h
  obtain ⟨t1, t2, t3⟩ := xTp ht
  refine s12028 (d := d + 43) (b := fB I) (n := fN I) (rClause hK hR (qTp_b t1 (fun _ => rfl)) d) hK hR t3 t5 (fun J k cs e f q => h1 J ⟨t, k, cs, rfl, t5, e, f, q⟩) (fun J k e f => ?_)
  rw [← fLs_n e]; exact h0 J ⟨t, k, rfl, t5, e, f⟩
theorem qAf_of {P : Nat → Nat → Prop} (cI : CI I p) (hf : qFr P I J) (hp : ∀ j k, P j k → scQ j k ∧ ¬ (j = 51 ∧ k = 6) ∧ ¬ j = 55) : qAf I p J := by
  have hq : qFr scQ I J := hf.mono (fun j k q => (hp j k q).1)
  exact ⟨hq, CI_fr hq (CI_jud hq (hf 51 6 (fun q => (hp 51 6 q).2.1 ⟨rfl, rfl⟩)) (funext fun k => hf 55 k (fun q => (hp 55 k q).2.2 rfl)) cI) cI⟩
theorem hFz_q : ∀ j k, hFz j k → scQ j k ∧ ¬ (j = 51 ∧ k = 6) ∧ ¬ j = 55 := fun j k q => by
  refine ⟨fun w => ?_, by omega, by omega⟩
  unfold kpQ at w; omega
theorem yFz_q : ∀ j k, yFz j k → scQ j k ∧ ¬ (j = 51 ∧ k = 6) ∧ ¬ j = 55 := fun j k q => by
  refine ⟨fun w => ?_, by omega, by omega⟩
  unfold kpQ at w; omega
theorem xFl_q : ∀ j k, xFl j k → scQ j k ∧ ¬ (j = 51 ∧ k = 6) ∧ ¬ j = 55 := fun j k q => by
  unfold xFl at q
  refine ⟨fun w => ?_, by omega, by omega⟩
  unfold kpQ at w; omega
theorem rFr4_q : ∀ j k, rFrD 4 j k → scQ j k ∧ ¬ (j = 51 ∧ k = 6) ∧ ¬ j = 55 := fun j k q => by
  unfold rFrD rFrC rFr at q
  refine ⟨fun w => ?_, by omega, by omega⟩
  unfold kpQ at w; omega
theorem e11003 {a : Int32}  (hK : qLay K sz) (hR : qRef R) (b1 : ¬ a = 0 → a = 1 → iTp I) (b2 : a = 0 → iTp I) (q1 : ¬ a = 0 → ¬ a = 1 → Q (some (.int (-2))) (K, I, L, R, sz)) (q2 : ¬ a = 0 → a = 1 → ∀ I3 : Nat → Nat → Int32, xL1 I I3 → Q (some (.int (-1))) (K, I3, L, R, sz)) (q3 : ¬ a = 0 → a = 1 → ∀ I5 : Nat → Nat → Int32, xL0 I I5 → Q (some (.int (I5 20 1))) (K, I5, L, R, sz)) (q4 : a = 0 → ∀ I7 : Nat → Nat → Int32, xH1 I I7 → Q (some (.int (-1))) (K, I7, L, R, sz)) (q5 : a = 0 → ∀ I9 : Nat → Nat → Int32, xH0 I I9 → Q (some (.int (I9 3 1))) (K, I9, L, R, sz)) : X (d + 48) 0 0 11003 0 0 0 (qent (qml 11003) [.ref 0, .int a]) [] (K, I, L, R, sz) Q := show X _ 0 0 11003 0 0 0 [some (.ref 0), some (.int a)] [] _ _ from x_ild1 k11003_0 <| x_ifne (tgt := 26) k11003_1 (by decide) (fun h1 => x_ild1 k11003_26 <| x_iconst (v := 1) k11003_27 rfl <| x_icmpne (tgt := 53) k11003_28 (by decide) (fun h2 => x_bipush (v := (-2)) k11003_53 rfl <| x_iret k11003_55 rfl (Nat.le_refl _) (Nat.le_refl _) <| (q1 h1 h2)) (fun h2 => x_ald0 k11003_31 <| x_getR k11003_32 f11_28_10 (hK.at rfl) rfl (hR _ _ _ rfl) <| x_cV0 (MCz := 0) (MSz := 0) k11003_35 v11_99_4 (hK.at rfl) (Nat.le_of_ble_eq_true rfl) (Nat.le_of_ble_eq_true rfl) (Nat.le_refl _) (Nat.le_refl _) <| x4001 hK hR (b1 h1 h2) (fun I3 g4 => x_ifeqF (tgt := 45) k11003_38 (by decide) (show ¬ (1 : Int32) = 0 by decide) <| x_iconst (v := (-1)) k11003_41 rfl <| x_goto (tgt := 52) k11003_42 (by decide) <| x_iret k11003_52 rfl (Nat.le_refl _) (Nat.le_refl _) <| (q2 h1 h2 I3 g4)) (fun I5 g6 => x_ifeqT (tgt := 45) k11003_38 (by decide) (show (0 : Int32) = 0 by decide) <| x_ald0 k11003_45 <| x_getR k11003_46 f11_28_10 (hK.at rfl) rfl (hR _ _ _ rfl) <| x_getI k11003_49 f11_102_4 (hK.at rfl) rfl <| x_iret k11003_52 rfl (Nat.le_refl _) (Nat.le_refl _) <| (q3 h1 h2 I5 g6)))) (fun h1 => x_ald0 k11003_4 <| x_getR k11003_5 f11_21_10 (hK.at rfl) rfl (hR _ _ _ rfl) <| x_cV0 (MCz := 0) (MSz := 0) k11003_8 v11_92_2 (hK.at rfl) (Nat.le_of_ble_eq_true rfl) (Nat.le_of_ble_eq_true rfl) (Nat.le_refl _) (Nat.le_refl _) <| x2001 hK hR (b2 h1) (fun I7 g8 => x_ifeqF (tgt := 18) k11003_11 (by decide) (show ¬ (1 : Int32) = 0 by decide) <| x_iconst (v := (-1)) k11003_14 rfl <| x_goto (tgt := 25) k11003_15 (by decide) <| x_iret k11003_25 rfl (Nat.le_refl _) (Nat.le_refl _) <| (q4 h1 I7 g8)) (fun I9 g10 => x_ifeqT (tgt := 18) k11003_11 (by decide) (show (0 : Int32) = 0 by decide) <| x_ald0 k11003_18 <| x_getR k11003_19 f11_21_10 (hK.at rfl) rfl (hR _ _ _ rfl) <| x_getI k11003_22 f11_96_2 (hK.at rfl) rfl <| x_iret k11003_25 rfl (Nat.le_refl _) (Nat.le_refl _) <| (q5 h1 I9 g10)))
theorem e12043 {a : Int32}  (hK : qLay K sz) (hR : qRef R) (b1 : ¬ a = 0 → a = 1 → iTp I ∧ ∃ t, t < 5 ∧ 4 = nI t) (b2 : a = 0 → iTp I) (q1 : ¬ a = 0 → ¬ a = 1 → Q (some (.int (-2))) (K, I, L, R, sz)) (q2 : ¬ a = 0 → a = 1 → ∀ I3 : Nat → Nat → Int32, yL1 I 4 I3 → Q (some (.int (-1))) (K, I3, L, R, sz)) (q3 : ¬ a = 0 → a = 1 → ∀ I5 : Nat → Nat → Int32, yL0 I 4 I5 → Q (some (.int (fLs I))) (K, I5, L, R, sz)) (q4 : a = 0 → ∀ I7 : Nat → Nat → Int32, yH1 I I7 → Q (some (.int (-1))) (K, I7, L, R, sz)) (q5 : a = 0 → ∀ I9 : Nat → Nat → Int32, yH0 I I9 → Q (some (.int (fHs I))) (K, I9, L, R, sz)) : X (d + 48) 0 0 12043 0 0 0 (qent (qml 12043) [.ref 73, .int a]) [] (K, I, L, R, sz) Q := show X _ 0 0 12043 0 0 0 [some (.ref 73), some (.int a)] [] _ _ from x_ild1 k12043_0 <| x_ifne (tgt := 11) k12043_1 (by decide) (fun h1 => x_ild1 k12043_11 <| x_iconst (v := 1) k12043_12 rfl <| x_icmpne (tgt := 24) k12043_13 (by decide) (fun h2 => x_bipush (v := (-2)) k12043_24 rfl <| x_iret k12043_26 rfl (Nat.le_refl _) (Nat.le_refl _) <| (q1 h1 h2)) (fun h2 => x_ald0 k12043_16 <| x_iconst (v := 4) k12043_17 rfl <| x_cV1 (MCz := 0) (MSz := 0) k12043_18 v12_283_11 (hK.at rfl) (Nat.le_of_ble_eq_true rfl) (Nat.le_of_ble_eq_true rfl) (Nat.le_refl _) (Nat.le_refl _) <| x12028 hK hR (b1 h1 h2) (fun I3 g4 => x_goto (tgt := 26) k12043_21 (by decide) <| x_iret k12043_26 rfl (Nat.le_refl _) (Nat.le_refl _) <| (q2 h1 h2 I3 g4)) (fun I5 g6 => x_goto (tgt := 26) k12043_21 (by decide) <| x_iret k12043_26 rfl (Nat.le_refl _) (Nat.le_refl _) <| (q3 h1 h2 I5 g6)))) (fun h1 => x_ald0 k12043_4 <| x_cV0 (MCz := 0) (MSz := 0) k12043_5 v12_280_11 (hK.at rfl) (Nat.le_of_ble_eq_true rfl) (Nat.le_of_ble_eq_true rfl) (Nat.le_refl _) (Nat.le_refl _) <| x12042 hK hR (b2 h1) (fun I7 g8 => x_goto (tgt := 26) k12043_8 (by decide) <| x_iret k12043_26 rfl (Nat.le_refl _) (Nat.le_refl _) <| (q4 h1 I7 g8)) (fun I9 g10 => x_goto (tgt := 26) k12043_8 (by decide) <| x_iret k12043_26 rfl (Nat.le_refl _) (Nat.le_refl _) <| (q5 h1 I9 g10)))
/-- the class's fault -/
theorem s11003 {a : Int32} (hK : qLay K sz) (hR : qRef R) (h : iNV I p) (hq : ∀ J, qAf I p J → Q (some (.int (fFault I a))) (K, J, L, R, sz)) : X (d + 48) 0 0 11003 0 0 0 (qent (qml 11003) [.ref 0, .int a]) [] (K, I, L, R, sz) Q := by
  have cI := h.1
  have ht := h.2.2.1
  unfold fFault at hq
  refine e11003 hK hR (fun _ _ => ht) (fun _ => ht) (fun h1 h2 => ?_) (fun h1 h2 J g => ?_) (fun h1 h2 J g => ?_) (fun h1 J g => ?_) (fun h1 J g => ?_)
  · rw [if_neg h1, if_neg h2] at hq; exact hq I (qAf.refl cI)
  · obtain ⟨k, cs, e, f, -⟩ := g
    rw [if_neg h1, if_pos h2, fLs_s e] at hq; exact hq J (qAf_of cI f xFl_q)
  · obtain ⟨k, e, f, q⟩ := g
    rw [if_neg h1, if_pos h2, fLs_n e] at hq; rw [q]; exact hq J (qAf_of cI f xFl_q)
  · obtain ⟨k, v, x, e, f, -⟩ := g
    rw [if_pos h1, fHs_s e] at hq; exact hq J (qAf_of cI f hFz_q)
  · obtain ⟨k, e, f, q⟩ := g
    rw [if_pos h1, fHs_n e] at hq; rw [q]; exact hq J (qAf_of cI f hFz_q)
/-- the reference's fault -/
theorem s12043 {a : Int32} (hK : qLay K sz) (hR : qRef R) (h : iNV I p) (hq : ∀ J, qAf I p J → Q (some (.int (fFault I a))) (K, J, L, R, sz)) : X (d + 48) 0 0 12043 0 0 0 (qent (qml 12043) [.ref 73, .int a]) [] (K, I, L, R, sz) Q := by
  have cI := h.1
  have ht := h.2.2.1
  unfold fFault at hq
  refine e12043 hK hR (fun _ _ => ⟨ht, 4, by decide, rfl⟩) (fun _ => ht) (fun h1 h2 => ?_) (fun h1 h2 J g => ?_) (fun h1 h2 J g => ?_) (fun h1 J g => ?_) (fun h1 J g => ?_)
  · rw [if_neg h1, if_neg h2] at hq; exact hq I (qAf.refl cI)
  · obtain ⟨t, k, cs, et, t5, e, f, -⟩ := g
    obtain rfl : t = 4 := nI_h (by omega) (by decide) et.symm
    rw [if_neg h1, if_pos h2, fLs_s e] at hq; exact hq J (qAf_of cI f rFr4_q)
  · obtain ⟨t, k, et, t5, e, f⟩ := g
    obtain rfl : t = 4 := nI_h (by omega) (by decide) et.symm
    rw [if_neg h1, if_pos h2] at hq; exact hq J (qAf_of cI f rFr4_q)
  · obtain ⟨k, v, x, e, f, -⟩ := g
    rw [if_pos h1, fHs_s e] at hq; exact hq J (qAf_of cI f yFz_q)
  · obtain ⟨k, e, f⟩ := g
    rw [if_pos h1] at hq; exact hq J (qAf_of cI f yFz_q)
/-- both see the same tape -/
theorem fFault_fr {a : Int32} (hf : qFr scQ I J) : fFault J a = fFault I a := by
  have e1 : J 1 = I 1 := hf.row (scQ_no (by omega))
  have e2 : J 2 = I 2 := hf.row (scQ_no (by omega))
  have en : fN J = fN I := by show (J 1 1).toNatClampNeg = (I 1 1).toNatClampNeg; rw [e1]
  have eb : fB J = fB I := by
    funext k
    show tb J (fN J) k = tb I (fN I) k
    unfold tb; rw [en, e2]
  unfold fFault fHs fLs
  rw [eb, en]
end L99p
