/-! plans: the reference's answers -/
section L99m
variable {d : Nat} {K : qK} {I : Nat → Nat → Int32} {L : Nat → Nat → Int64} {R : Nat → Nat → Option Nat} {sz : Nat} {Q : Option Value → qMem → Prop} {p : qPa}
theorem e12083   (hK : qLay K sz)  (q1 : (I 73 24) ≤ 0 → Q (some (.int 0)) (K, I, L, R, sz)) (q2 : ¬ (I 73 24) ≤ 0 → 3 < (I 73 24) → Q (some (.int 0)) (K, I, L, R, sz)) (q3 : ¬ (I 73 24) ≤ 0 → ¬ 3 < (I 73 24) → 5 < (I 73 23) → Q (some (.int 0)) (K, I, L, R, sz)) (q4 : ¬ (I 73 24) ≤ 0 → ¬ 3 < (I 73 24) → ¬ 5 < (I 73 23) → Q (some (.int 1)) (K, I, L, R, sz)) : X d 0 0 12083 0 0 0 (qent (qml 12083) [.ref 73]) [] (K, I, L, R, sz) Q := show X _ 0 0 12083 0 0 0 [some (.ref 73)] [] _ _ from x_ald0 k12083_0 <| x_getI k12083_1 f12_289_11 (hK.at rfl) rfl <| x_ifle (tgt := 27) k12083_4 (by decide) (fun h1 => x_iconst (v := 0) k12083_27 rfl <| x_zret k12083_28 rfl (Or.inl rfl) (Nat.le_refl _) (Nat.le_refl _) <| (q1 h1)) (fun h1 => x_ald0 k12083_7 <| x_getI k12083_8 f12_289_11 (hK.at rfl) rfl <| x_iconst (v := 3) k12083_11 rfl <| x_icmpgt (tgt := 27) k12083_12 (by decide) (fun h2 => x_iconst (v := 0) k12083_27 rfl <| x_zret k12083_28 rfl (Or.inl rfl) (Nat.le_refl _) (Nat.le_refl _) <| (q2 h1 h2)) (fun h2 => x_ald0 k12083_15 <| x_getI k12083_16 f12_286_11 (hK.at rfl) rfl <| x_iconst (v := 5) k12083_19 rfl <| x_icmpgt (tgt := 27) k12083_20 (by decide) (fun h3 => x_iconst (v := 0) k12083_27 rfl <| x_zret k12083_28 rfl (Or.inl rfl) (Nat.le_refl _) (Nat.le_refl _) <| (q3 h1 h2 h3)) (fun h3 => x_iconst (v := 1) k12083_23 rfl <| x_goto (tgt := 28) k12083_24 (by decide) <| x_zret k12083_28 rfl (Or.inr rfl) (Nat.le_refl _) (Nat.le_refl _) <| (q4 h1 h2 h3))))
theorem rOut_V {g : qPg} {J : Nat → Nat → Int32} (h : rOut g J) : plV g (J 73 48) := by
  rcases h with ⟨a, b, c⟩ | ⟨T, k, a, b, c, e, f⟩
  · exact Or.inl ⟨a, c⟩
  · exact Or.inr ⟨T, k, a, by omega, f⟩
theorem rOut_K {g : qPg} {J : Nat → Nat → Int32} (h : rOut g J) : plK g (J 73 49) := by
  rcases h with ⟨a, b, c⟩ | ⟨T, k, a, b, c, e, f⟩
  · exact Or.inl ⟨b, c⟩
  · exact Or.inr ⟨T, k, b, by omega, f⟩
theorem pPm_af {J : Nat → Nat → Int32} (h : qFr pPm I J) (c : CI I p) : qAf I p J := ⟨h.mono (fun _ _ => pPm_Q), CI_fr (h.mono (fun _ _ => pPm_Q)) (CI_jud (h.mono (fun _ _ => pPm_Q)) (by rw [h.row (j := 51) (fun k q => by unfold pPm pO pU at q; omega)]) (h.row (fun k q => by unfold pPm pO pU at q; omega)) c) c⟩
theorem u12083 (hK : qLay K sz) (cI : CI I p) (rI : RI I p) (ht : fewQ p → Q (some (.int 1)) (K, I, L, R, sz)) (hf : ¬ fewQ p → Q (some (.int 0)) (K, I, L, R, sz)) : X d 0 0 12083 0 0 0 (qent (qml 12083) [.ref 73]) [] (K, I, L, R, sz) Q := by
  have w5 := cI.w5
  have w6 : pR p ≤ 6 := cI.1.2.1.1
  have lS : I 73 24 = nI (pS p) := rI.mS cI
  have lR : I 73 23 = nI (pR p) := by rw [rI.1.1]; exact cI.1.1.1
  have h0 : I 73 24 ≤ 0 ↔ pS p = 0 := by
    rw [lS, show (0 : Int32) = nI 0 from rfl, nI_leI (by omega) (by omega)]; omega
  have h3 : 3 < I 73 24 ↔ 3 < pS p := by rw [lS, show (3 : Int32) = nI 3 from rfl, nI_ltI (by omega) (by omega)]
  have h5 : 5 < I 73 23 ↔ 5 < pR p := by rw [lR, show (5 : Int32) = nI 5 from rfl, nI_ltI (by omega) (by omega)]
  refine e12083 hK (fun a => hf (fun z => ?_)) (fun a b => hf (fun z => ?_)) (fun a b c => hf (fun z => ?_)) (fun a b c => ht ?_)
  · have := h0.mp a; have := z.1; omega
  · have := h3.mp b; have := z.2.1; omega
  · have := h5.mp c; have := z.2.2; omega
  · rw [h0] at a
    rw [h3] at b
    rw [h5] at c
    exact ⟨by omega, by omega, by omega⟩

theorem e12084 {a : Int32} {b : Int32}  (hK : qLay K sz) (cI : CI I p) (rI : RI I p)  (q1 : fewQ p → qIn (pM p) a → 0 ≤ b → b ≤ 2 → ¬ b = 2 → X (d + 2) 0 0 12084 0 0 44 [some (.ref 73), some (.int a), some (.int b)] [.int (-1), .int a, .ref 73] (K, I, L, R, sz) Q) (q2 : fewQ p → qIn (pM p) a → 0 ≤ b → b ≤ 2 → b = 2 → X (d + 2) 0 0 12084 0 0 37 [some (.ref 73), some (.int a), some (.int b)] [.int a, .ref 73] (K, I, L, R, sz) Q) (q3 : fewQ p → qIn (pM p) a → ¬ (0 ≤ b ∧ b ≤ 2) → Q (some (.int (-1))) (K, I, L, R, sz)) (q4 : fewQ p → ¬ qIn (pM p) a → Q (some (.int (-1))) (K, I, L, R, sz)) (q5 : ¬ fewQ p → Q (some (.int (-1000000))) (K, I, L, R, sz)) : X (d + 2) 0 0 12084 0 0 0 (qent (qml 12084) [.ref 73, .int a, .int b]) [] (K, I, L, R, sz) Q := show X _ 0 0 12084 0 0 0 [some (.ref 73), some (.int a), some (.int b)] [] _ _ from x_ald0 k12084_0 <| x_cV0 (MCz := 0) (MSz := 0) k12084_1 v12_412_11 (hK.at rfl) (Nat.le_of_ble_eq_true rfl) (Nat.le_of_ble_eq_true rfl) (Nat.le_refl _) (Nat.le_refl _) <| u12083 hK cI rI (fun g1 => x_ifneT (tgt := 11) k12084_4 (by decide) (show ¬ (1 : Int32) = 0 by decide) <| x_ald0 k12084_11 <| x_ild1 k12084_12 <| x_cV1 (MCz := 0) (MSz := 0) k12084_13 v12_314_11 (hK.at rfl) (Nat.le_of_ble_eq_true rfl) (Nat.le_of_ble_eq_true rfl) (Nat.le_refl _) (Nat.le_refl _) <| u12047 hK cI rI (fun g2 => x_ifeqF (tgt := 28) k12084_16 (by decide) (show ¬ (1 : Int32) = 0 by decide) <| x_ild2 k12084_19 <| x_iconst (v := 0) k12084_20 rfl <| x_iconst (v := 2) k12084_21 rfl <| x_cS3 (MCz := 0) (MSz := 0) k12084_22 s12_231 (Nat.le_of_ble_eq_true rfl) (Nat.le_of_ble_eq_true rfl) (Nat.le_refl _) (Nat.le_refl _) <| t12000 (fun g3 g4 => x_ifneT (tgt := 30) k12084_25 (by decide) (show ¬ (1 : Int32) = 0 by decide) <| x_ild2 k12084_30 <| x_iconst (v := 2) k12084_31 rfl <| x_icmpne (tgt := 41) k12084_32 (by decide) (fun h5 => x_ald0 k12084_41 <| x_ild1 k12084_42 <| x_iconst (v := (-1)) k12084_43 rfl <| (q1 g1 g2 g3 g4 h5)) (fun h5 => x_ald0 k12084_35 <| x_ild1 k12084_36 <| (q2 g1 g2 g3 g4 h5))) (fun g6 => x_ifneF (tgt := 30) k12084_25 (by decide) (show (0 : Int32) = 0 by decide) <| x_iconst (v := (-1)) k12084_28 rfl <| x_iret k12084_29 rfl (Nat.le_refl _) (Nat.le_refl _) <| (q3 g1 g2 g6))) (fun g7 => x_ifeqT (tgt := 28) k12084_16 (by decide) (show (0 : Int32) = 0 by decide) <| x_iconst (v := (-1)) k12084_28 rfl <| x_iret k12084_29 rfl (Nat.le_refl _) (Nat.le_refl _) <| (q4 g1 g7))) (fun g8 => x_ifneF (tgt := 11) k12084_4 (by decide) (show (0 : Int32) = 0 by decide) <| x_ldcW k12084_7 c12_317 <| x_iret k12084_10 rfl (Nat.le_refl _) (Nat.le_refl _) <| (q5 g8))
theorem f12084 {a : Int32} {b : Int32}  (hK : qLay K sz)  (q1 : ¬ b = 0 → Q (some (.int (I 73 49))) (K, I, L, R, sz)) (q2 : b = 0 → Q (some (.int (I 73 48))) (K, I, L, R, sz)) : X d 0 0 12084 0 0 47 [some (.ref 73), some (.int a), some (.int b)] [] (K, I, L, R, sz) Q := x_ild2 k12084_47 <| x_ifne (tgt := 58) k12084_48 (by decide) (fun h1 => x_ald0 k12084_58 <| x_getI k12084_59 f12_399_11 (hK.at rfl) rfl <| x_iret k12084_62 rfl (Nat.le_refl _) (Nat.le_refl _) <| (q1 h1)) (fun h1 => x_ald0 k12084_51 <| x_getI k12084_52 f12_396_11 (hK.at rfl) rfl <| x_goto (tgt := 62) k12084_55 (by decide) <| x_iret k12084_62 rfl (Nat.le_refl _) (Nat.le_refl _) <| (q2 h1))
theorem e12086 {a : Int32} {b : Int32}  (hK : qLay K sz) (cI : CI I p) (rI : RI I p)  (q1 : fewQ p → qIn (pM p) a → qIn (pS p) b → X (d + 2) 0 0 12086 0 0 32 [some (.ref 73), some (.int a), some (.int b)] [.int b, .int a, .ref 73] (K, I, L, R, sz) Q) (q2 : fewQ p → qIn (pM p) a → ¬ qIn (pS p) b → Q (some (.int (-1))) (K, I, L, R, sz)) (q3 : fewQ p → ¬ qIn (pM p) a → Q (some (.int (-1))) (K, I, L, R, sz)) (q4 : ¬ fewQ p → Q (some (.int (-1000000))) (K, I, L, R, sz)) : X (d + 2) 0 0 12086 0 0 0 (qent (qml 12086) [.ref 73, .int a, .int b]) [] (K, I, L, R, sz) Q := show X _ 0 0 12086 0 0 0 [some (.ref 73), some (.int a), some (.int b)] [] _ _ from x_ald0 k12086_0 <| x_cV0 (MCz := 0) (MSz := 0) k12086_1 v12_412_11 (hK.at rfl) (Nat.le_of_ble_eq_true rfl) (Nat.le_of_ble_eq_true rfl) (Nat.le_refl _) (Nat.le_refl _) <| u12083 hK cI rI (fun g1 => x_ifneT (tgt := 11) k12086_4 (by decide) (show ¬ (1 : Int32) = 0 by decide) <| x_ald0 k12086_11 <| x_ild1 k12086_12 <| x_cV1 (MCz := 0) (MSz := 0) k12086_13 v12_314_11 (hK.at rfl) (Nat.le_of_ble_eq_true rfl) (Nat.le_of_ble_eq_true rfl) (Nat.le_refl _) (Nat.le_refl _) <| u12047 hK cI rI (fun g2 => x_ifeqF (tgt := 27) k12086_16 (by decide) (show ¬ (1 : Int32) = 0 by decide) <| x_ald0 k12086_19 <| x_ild2 k12086_20 <| x_cV1 (MCz := 0) (MSz := 0) k12086_21 v12_311_11 (hK.at rfl) (Nat.le_of_ble_eq_true rfl) (Nat.le_of_ble_eq_true rfl) (Nat.le_refl _) (Nat.le_refl _) <| u12046 hK cI rI (fun g3 => x_ifneT (tgt := 29) k12086_24 (by decide) (show ¬ (1 : Int32) = 0 by decide) <| x_ald0 k12086_29 <| x_ild1 k12086_30 <| x_ild2 k12086_31 <| (q1 g1 g2 g3)) (fun g4 => x_ifneF (tgt := 29) k12086_24 (by decide) (show (0 : Int32) = 0 by decide) <| x_iconst (v := (-1)) k12086_27 rfl <| x_iret k12086_28 rfl (Nat.le_refl _) (Nat.le_refl _) <| (q2 g1 g2 g4))) (fun g5 => x_ifeqT (tgt := 27) k12086_16 (by decide) (show (0 : Int32) = 0 by decide) <| x_iconst (v := (-1)) k12086_27 rfl <| x_iret k12086_28 rfl (Nat.le_refl _) (Nat.le_refl _) <| (q3 g1 g5))) (fun g6 => x_ifneF (tgt := 11) k12086_4 (by decide) (show (0 : Int32) = 0 by decide) <| x_ldcW k12086_7 c12_317 <| x_iret k12086_10 rfl (Nat.le_refl _) (Nat.le_refl _) <| (q4 g6))
theorem f12086 {a : Int32} {b : Int32}  (hK : qLay K sz)  (q1 : Q (some (.int (I 73 48))) (K, I, L, R, sz)) : X d 0 0 12086 0 0 35 [some (.ref 73), some (.int a), some (.int b)] [] (K, I, L, R, sz) Q := x_ald0 k12086_35 <| x_getI k12086_36 f12_396_11 (hK.at rfl) rfl <| x_iret k12086_39 rfl (Nat.le_refl _) (Nat.le_refl _) <| q1
theorem s12084 {a b : Int32} (hK : qLay K sz) (hR : qRef R) (cI : CI I p) (rI : RI I p) (hq : ∀ J v, qAf I p J → plQ I p a b v → Q (some (.int v)) (K, J, L, R, sz)) : X (d + 5) 0 0 12084 0 0 0 (qent (qml 12084) [.ref 73, .int a, .int b]) [] (K, I, L, R, sz) Q := by
  have w3 := cI.w3
  have r0 := qAf.refl cI
  have hb2 : ∀ {x : Int32}, (0 ≤ x ↔ ¬ x < 0) := fun {x} => ⟨fun h => Int32.not_lt.mpr h, fun h => Int32.not_lt.mp h⟩
  refine e12084 (d := d + 3) hK cI rI (fun h1 h2 h3 h4 h5 => ?_) (fun h1 h2 h3 h4 h5 => ?_) (fun h1 h2 h3 => hq I _ r0 (Or.inr (Or.inl ⟨h1, fun z => h3 ⟨hb2.mpr z.2.1, z.2.2⟩, rfl⟩))) (fun h1 h2 => hq I _ r0 (Or.inr (Or.inl ⟨h1, fun z => h2 z.1, rfl⟩))) (fun h1 => hq I _ r0 (Or.inl ⟨h1, rfl⟩))
  · have ha := h2
    obtain ⟨m, hm, rfl⟩ := h2
    have em : (nI m).toNatClampNeg = m := nI_c (by omega)
    refine x_cV2 (MCz := 0) (MSz := 0) k12084_44 v12_418_11 (hK.at rfl) (Nat.le_of_ble_eq_true rfl) (Nat.le_of_ble_eq_true rfl) (Nat.le_refl _) (Nat.le_refl _) <| s12080 (d := d) hK hR cI rI h1.2 hm (fun J hJ hO => ?_)
    have h01 : ¬ b = 0 → b = 1 := fun z => by
      have e0 : (0 : Int32).toInt = 0 := rfl
      have e1 : (1 : Int32).toInt = 1 := rfl
      have e2 : (2 : Int32).toInt = 2 := rfl
      rw [i_eq, e0] at z
      rw [i_eq, e2] at h5
      rw [i_le, e0] at h3
      rw [i_le, e2] at h4
      rw [i_eq, e1]; omega
    refine f12084 hK (fun z => ?_) (fun z => ?_)
    · exact hq J _ (pPm_af hJ cI) (Or.inr (Or.inr ⟨h1, ⟨ha, hb2.mp h3, h4⟩, Or.inr (Or.inl ⟨h01 z, by rw [em]; exact rOut_K hO⟩)⟩))
    · exact hq J _ (pPm_af hJ cI) (Or.inr (Or.inr ⟨h1, ⟨ha, hb2.mp h3, h4⟩, Or.inl ⟨z, by rw [em]; exact rOut_V hO⟩⟩))
  · have ha := h2
    obtain ⟨m, hm, rfl⟩ := h2
    have em : (nI m).toNatClampNeg = m := nI_c (by omega)
    refine x_cV1 (MCz := 0) (MSz := 0) k12084_37 v12_415_11 (hK.at rfl) (Nat.le_of_ble_eq_true rfl) (Nat.le_of_ble_eq_true rfl) (Nat.le_refl _) (Nat.le_refl _) <| s12082 (d := d) hK hR cI rI h1.2 hm (fun J v hJ hO => ?_)
    exact x_iret k12084_40 rfl (Nat.le_refl _) (Nat.le_refl _) (hq J _ (pPm_af hJ cI) (Or.inr (Or.inr ⟨h1, ⟨ha, hb2.mp h3, h4⟩, Or.inr (Or.inr ⟨by rw [h5]; decide, by rw [h5]; decide, by rw [em]; exact hO⟩)⟩)))
theorem s12086 {a b : Int32} (hK : qLay K sz) (hR : qRef R) (cI : CI I p) (rI : RI I p) (hq : ∀ J v, qAf I p J → stnQ I p a b v → Q (some (.int v)) (K, J, L, R, sz)) : X (d + 5) 0 0 12086 0 0 0 (qent (qml 12086) [.ref 73, .int a, .int b]) [] (K, I, L, R, sz) Q := by
  have w3 := cI.w3
  have r0 := qAf.refl cI
  refine e12086 (d := d + 3) hK cI rI (fun h1 h2 h3 => ?_) (fun h1 h2 h3 => hq I _ r0 (Or.inr (Or.inl ⟨h1, fun z => h3 z.2, rfl⟩))) (fun h1 h2 => hq I _ r0 (Or.inr (Or.inl ⟨h1, fun z => h2 z.1, rfl⟩))) (fun h1 => hq I _ r0 (Or.inl ⟨h1, rfl⟩))
  have ha := h2
  obtain ⟨m, hm, rfl⟩ := h2
  have em : (nI m).toNatClampNeg = m := nI_c (by omega)
  refine x_cV2 (MCz := 0) (MSz := 0) k12086_32 v12_418_11 (hK.at rfl) (Nat.le_of_ble_eq_true rfl) (Nat.le_of_ble_eq_true rfl) (Nat.le_refl _) (Nat.le_refl _) <| s12080 (d := d) hK hR cI rI h1.2 hm (fun J hJ hO => ?_)
  exact f12086 hK (hq J _ (pPm_af hJ cI) (Or.inr (Or.inr ⟨h1, ⟨ha, h3⟩, by rw [em]; exact rOut_V hO⟩)))

end L99m
