/-! plans: the class's answers -/
section L99e
variable {d : Nat} {K : qK} {I : Nat → Nat → Int32} {L : Nat → Nat → Int64} {R : Nat → Nat → Option Nat} {sz : Nat} {Q : Option Value → qMem → Prop} {p : qPa} {q : Nat}
theorem e11020 {MC MS uc us : Nat} (hc : uc ≤ MC) (hs : us ≤ MS) {a : Int32} {b : Int32}  (hK : qLay K sz) (hR : qRef R) (cI : CI I p)  (q1 : fewQ p → qIn (pM p) a → b < 0 → Q (some (.int (-1))) (K, I, L, R, sz)) (q2 : fewQ p → qIn (pM p) a → ¬ b < 0 → b ≤ 2 → X (d + 2) MC MS 11020 uc us 30 [some (.ref 0), some (.int a), some (.int b), none] [.ref 0] (K, I, L, R, sz) Q) (q3 : fewQ p → qIn (pM p) a → ¬ b < 0 → ¬ b ≤ 2 → Q (some (.int (-1))) (K, I, L, R, sz)) (q4 : fewQ p → ¬ qIn (pM p) a → Q (some (.int (-1))) (K, I, L, R, sz)) (q5 : ¬ fewQ p → Q (some (.int (-1000000))) (K, I, L, R, sz)) : X (d + 2) MC MS 11020 uc us 0 (qent (qml 11020) [.ref 0, .int a, .int b]) [] (K, I, L, R, sz) Q := show X _ MC MS 11020 uc us 0 [some (.ref 0), some (.int a), some (.int b), none] [] _ _ from x_ald0 k11020_0 <| x_cV0 (MCz := 0) (MSz := 0) k11020_1 v11_231_10 (hK.at rfl) (Nat.le_of_ble_eq_true rfl) (Nat.le_of_ble_eq_true rfl) hc hs <| u11048 hK hR cI (fun g1 => x_ifneT (tgt := 10) k11020_4 (by decide) (show ¬ (1 : Int32) = 0 by decide) <| x_ald0 k11020_10 <| x_ild1 k11020_11 <| x_cV1 (MCz := 0) (MSz := 0) k11020_12 v11_144_10 (hK.at rfl) (Nat.le_of_ble_eq_true rfl) (Nat.le_of_ble_eq_true rfl) hc hs <| u11040 hK hR cI (fun g2 => x_ifeqF (tgt := 27) k11020_15 (by decide) (show ¬ (1 : Int32) = 0 by decide) <| x_ild2 k11020_18 <| x_iflt (tgt := 27) k11020_19 (by decide) (fun h3 => x_iconst (v := (-1)) k11020_27 rfl <| x_iret k11020_28 rfl hc hs <| (q1 g1 g2 h3)) (fun h3 => x_ild2 k11020_22 <| x_iconst (v := 2) k11020_23 rfl <| x_icmple (tgt := 29) k11020_24 (by decide) (fun h4 => x_ald0 k11020_29 <| (q2 g1 g2 h3 h4)) (fun h4 => x_iconst (v := (-1)) k11020_27 rfl <| x_iret k11020_28 rfl hc hs <| (q3 g1 g2 h3 h4)))) (fun g5 => x_ifeqT (tgt := 27) k11020_15 (by decide) (show (0 : Int32) = 0 by decide) <| x_iconst (v := (-1)) k11020_27 rfl <| x_iret k11020_28 rfl hc hs <| (q4 g1 g5))) (fun g6 => x_ifneF (tgt := 10) k11020_4 (by decide) (show (0 : Int32) = 0 by decide) <| x_ldcI k11020_7 c11_153 <| x_iret k11020_9 rfl hc hs <| (q5 g6))
theorem f11020 {MC MS uc us : Nat} (hc : uc ≤ MC) (hs : us ≤ MS) {a : Int32} {b : Int32}  (hK : qLay K sz) (hR : qRef R)  (q1 : ¬ b = 0 → ¬ b = 1 → X d MC MS 11020 uc us 84 [some (.ref 0), some (.int a), some (.int b), some (.ref q)] [.int (I 0 8), .int a, .ref 22, .ref q] (K, I, L, R, sz) Q) (q2 : ¬ b = 0 → b = 1 → X d MC MS 11020 uc us 68 [some (.ref 0), some (.int a), some (.int b), some (.ref q)] [.int (I 0 8), .int a, .ref 22, .ref q] (K, I, L, R, sz) Q) (q3 : b = 0 → X d MC MS 11020 uc us 49 [some (.ref 0), some (.int a), some (.int b), some (.ref q)] [.int (I 0 8), .int (-1), .int a, .ref 22, .ref q] (K, I, L, R, sz) Q) : X d MC MS 11020 uc us 33 [some (.ref 0), some (.int a), some (.int b), none] [.ref q] (K, I, L, R, sz) Q := x_ast3 k11020_33 (Nat.le_of_ble_eq_true rfl) rfl <| x_ild2 k11020_34 <| x_ifne (tgt := 53) k11020_35 (by decide) (fun h1 => x_ild2 k11020_53 <| x_iconst (v := 1) k11020_54 rfl <| x_icmpne (tgt := 74) k11020_55 (by decide) (fun h2 => x_ald3 k11020_74 <| x_ald0 k11020_75 <| x_getR k11020_76 f11_35_10 (hK.at rfl) rfl (hR _ _ _ rfl) <| x_ild1 k11020_79 <| x_ald0 k11020_80 <| x_getI k11020_81 f11_163_10 (hK.at rfl) rfl <| (q1 h1 h2)) (fun h2 => x_ald3 k11020_58 <| x_ald0 k11020_59 <| x_getR k11020_60 f11_35_10 (hK.at rfl) rfl (hR _ _ _ rfl) <| x_ild1 k11020_63 <| x_ald0 k11020_64 <| x_getI k11020_65 f11_163_10 (hK.at rfl) rfl <| (q2 h1 h2))) (fun h1 => x_ald3 k11020_38 <| x_ald0 k11020_39 <| x_getR k11020_40 f11_35_10 (hK.at rfl) rfl (hR _ _ _ rfl) <| x_ild1 k11020_43 <| x_iconst (v := (-1)) k11020_44 rfl <| x_ald0 k11020_45 <| x_getI k11020_46 f11_163_10 (hK.at rfl) rfl <| (q3 h1))
theorem e11022 {MC MS uc us : Nat} (hc : uc ≤ MC) (hs : us ≤ MS) {a : Int32} {b : Int32}  (hK : qLay K sz) (hR : qRef R) (cI : CI I p)  (q1 : fewQ p → qIn (pM p) a → qIn (pS p) b → X (d + 2) MC MS 11022 uc us 29 [some (.ref 0), some (.int a), some (.int b)] [.ref 0] (K, I, L, R, sz) Q) (q2 : fewQ p → qIn (pM p) a → ¬ qIn (pS p) b → Q (some (.int (-1))) (K, I, L, R, sz)) (q3 : fewQ p → ¬ qIn (pM p) a → Q (some (.int (-1))) (K, I, L, R, sz)) (q4 : ¬ fewQ p → Q (some (.int (-1000000))) (K, I, L, R, sz)) : X (d + 2) MC MS 11022 uc us 0 (qent (qml 11022) [.ref 0, .int a, .int b]) [] (K, I, L, R, sz) Q := show X _ MC MS 11022 uc us 0 [some (.ref 0), some (.int a), some (.int b)] [] _ _ from x_ald0 k11022_0 <| x_cV0 (MCz := 0) (MSz := 0) k11022_1 v11_231_10 (hK.at rfl) (Nat.le_of_ble_eq_true rfl) (Nat.le_of_ble_eq_true rfl) hc hs <| u11048 hK hR cI (fun g1 => x_ifneT (tgt := 10) k11022_4 (by decide) (show ¬ (1 : Int32) = 0 by decide) <| x_ald0 k11022_10 <| x_ild1 k11022_11 <| x_cV1 (MCz := 0) (MSz := 0) k11022_12 v11_144_10 (hK.at rfl) (Nat.le_of_ble_eq_true rfl) (Nat.le_of_ble_eq_true rfl) hc hs <| u11040 hK hR cI (fun g2 => x_ifeqF (tgt := 26) k11022_15 (by decide) (show ¬ (1 : Int32) = 0 by decide) <| x_ald0 k11022_18 <| x_ild2 k11022_19 <| x_cV1 (MCz := 0) (MSz := 0) k11022_20 v11_133_10 (hK.at rfl) (Nat.le_of_ble_eq_true rfl) (Nat.le_of_ble_eq_true rfl) hc hs <| u11039 hK hR cI (fun g3 => x_ifneT (tgt := 28) k11022_23 (by decide) (show ¬ (1 : Int32) = 0 by decide) <| x_ald0 k11022_28 <| (q1 g1 g2 g3)) (fun g4 => x_ifneF (tgt := 28) k11022_23 (by decide) (show (0 : Int32) = 0 by decide) <| x_iconst (v := (-1)) k11022_26 rfl <| x_iret k11022_27 rfl hc hs <| (q2 g1 g2 g4))) (fun g5 => x_ifeqT (tgt := 26) k11022_15 (by decide) (show (0 : Int32) = 0 by decide) <| x_iconst (v := (-1)) k11022_26 rfl <| x_iret k11022_27 rfl hc hs <| (q3 g1 g5))) (fun g6 => x_ifneF (tgt := 10) k11022_4 (by decide) (show (0 : Int32) = 0 by decide) <| x_ldcI k11022_7 c11_153 <| x_iret k11022_9 rfl hc hs <| (q4 g6))
theorem f11022 {MC MS uc us : Nat} (hc : uc ≤ MC) (hs : us ≤ MS) {a : Int32} {b : Int32}  (hK : qLay K sz) (hR : qRef R)  (q1 : X d MC MS 11022 uc us 42 [some (.ref 0), some (.int a), some (.int b)] [.int (I 0 8), .int b, .int a, .ref 22, .ref q] (K, I, L, R, sz) Q) : X d MC MS 11022 uc us 32 [some (.ref 0), some (.int a), some (.int b)] [.ref q] (K, I, L, R, sz) Q := x_ald0 k11022_32 <| x_getR k11022_33 f11_35_10 (hK.at rfl) rfl (hR _ _ _ rfl) <| x_ild1 k11022_36 <| x_ild2 k11022_37 <| x_ald0 k11022_38 <| x_getI k11022_39 f11_163_10 (hK.at rfl) rfl <| q1
theorem e11023 {MC MS uc us : Nat} (hc : uc ≤ MC) (hs : us ≤ MS) {a : Int32}  (hK : qLay K sz) (hR : qRef R) (cI : CI I p)  (q1 : fewQ p → qIn (pM p) a → X (d + 2) MC MS 11023 uc us 21 [some (.ref 0), some (.int a), none, none, none, none, none] [.ref 0] (K, I, L, R, sz) Q) (q2 : fewQ p → ¬ qIn (pM p) a → Q (some (.int (-1))) (K, I, L, R, sz)) (q3 : ¬ fewQ p → Q (some (.int (-1000000))) (K, I, L, R, sz)) : X (d + 2) MC MS 11023 uc us 0 (qent (qml 11023) [.ref 0, .int a]) [] (K, I, L, R, sz) Q := show X _ MC MS 11023 uc us 0 [some (.ref 0), some (.int a), none, none, none, none, none] [] _ _ from x_ald0 k11023_0 <| x_cV0 (MCz := 0) (MSz := 0) k11023_1 v11_231_10 (hK.at rfl) (Nat.le_of_ble_eq_true rfl) (Nat.le_of_ble_eq_true rfl) hc hs <| u11048 hK hR cI (fun g1 => x_ifneT (tgt := 10) k11023_4 (by decide) (show ¬ (1 : Int32) = 0 by decide) <| x_ald0 k11023_10 <| x_ild1 k11023_11 <| x_cV1 (MCz := 0) (MSz := 0) k11023_12 v11_144_10 (hK.at rfl) (Nat.le_of_ble_eq_true rfl) (Nat.le_of_ble_eq_true rfl) hc hs <| u11040 hK hR cI (fun g2 => x_ifneT (tgt := 20) k11023_15 (by decide) (show ¬ (1 : Int32) = 0 by decide) <| x_ald0 k11023_20 <| (q1 g1 g2)) (fun g3 => x_ifneF (tgt := 20) k11023_15 (by decide) (show (0 : Int32) = 0 by decide) <| x_iconst (v := (-1)) k11023_18 rfl <| x_iret k11023_19 rfl hc hs <| (q2 g1 g3))) (fun g4 => x_ifneF (tgt := 10) k11023_4 (by decide) (show (0 : Int32) = 0 by decide) <| x_ldcI k11023_7 c11_153 <| x_iret k11023_9 rfl hc hs <| (q3 g4))
theorem f11023 {MC MS uc us : Nat} (hc : uc ≤ MC) (hs : us ≤ MS) {a : Int32}  (hK : qLay K sz) (hR : qRef R)  (q1 : X d MC MS 11023 uc us 36 [some (.ref 0), some (.int a), some (.ref q), none, none, none, none] [.int (I 0 8), .int (-1), .int a, .ref 22, .ref q] (K, I, L, R, sz) Q) : X d MC MS 11023 uc us 24 [some (.ref 0), some (.int a), none, none, none, none, none] [.ref q] (K, I, L, R, sz) Q := x_ast2 k11023_24 (Nat.le_of_ble_eq_true rfl) rfl <| x_ald2 k11023_25 <| x_ald0 k11023_26 <| x_getR k11023_27 f11_35_10 (hK.at rfl) rfl (hR _ _ _ rfl) <| x_ild1 k11023_30 <| x_iconst (v := (-1)) k11023_31 rfl <| x_ald0 k11023_32 <| x_getI k11023_33 f11_163_10 (hK.at rfl) rfl <| q1
theorem g11023 {MC MS uc us : Nat} (hc : uc ≤ MC) (hs : us ≤ MS) {a : Int32} {q : Nat} {v : Int32}    (q1 : ¬ v = (-1) → X d MC MS 11023 uc us 53 [some (.ref 0), some (.int a), some (.ref q), some (.int (-1)), some (.int (-1)), some (.int 0), none] [] (K, I, L, R, sz) Q) (q2 : v = (-1) → Q (some (.int (-1))) (K, I, L, R, sz)) : X d MC MS 11023 uc us 39 [some (.ref 0), some (.int a), some (.ref q), none, none, none, none] [.int v] (K, I, L, R, sz) Q := x_iconst (v := (-1)) k11023_39 rfl <| x_icmpne (tgt := 45) k11023_40 (by decide) (fun h1 => x_iconst (v := (-1)) k11023_45 rfl <| x_ist3 k11023_46 (Nat.le_of_ble_eq_true rfl) rfl <| x_iconst (v := (-1)) k11023_47 rfl <| x_ist4 k11023_48 (Nat.le_of_ble_eq_true rfl) rfl <| x_iconst (v := 0) k11023_50 rfl <| x_ist5 k11023_51 (Nat.le_of_ble_eq_true rfl) rfl <| (q1 h1)) (fun h1 => x_iconst (v := (-1)) k11023_43 rfl <| x_iret k11023_44 rfl hc hs <| (q2 h1))
theorem h11023 {MC MS uc us : Nat} (hc : uc ≤ MC) (hs : us ≤ MS) {a : Int32} {q : Nat} {x3 : Int32} {x4 : Int32} {x5 : Int32}  (hK : qLay K sz) (hR : qRef R)  (q1 : (I 22 1) ≤ x5 → Q (some (.int x4)) (K, I, L, R, sz)) (q2 : ¬ (I 22 1) ≤ x5 → X d MC MS 11023 uc us 77 [some (.ref 0), some (.int a), some (.ref q), some (.int x3), some (.int x4), some (.int x5), none] [.int (I 0 8), .int x5, .int a, .ref 22, .ref q] (K, I, L, R, sz) Q) : X d MC MS 11023 uc us 53 [some (.ref 0), some (.int a), some (.ref q), some (.int x3), some (.int x4), some (.int x5), none] [] (K, I, L, R, sz) Q := x_ild5 k11023_53 <| x_ald0 k11023_55 <| x_getR k11023_56 f11_35_10 (hK.at rfl) rfl (hR _ _ _ rfl) <| x_getI k11023_59 f11_118_1 (hK.at rfl) rfl <| x_icmpge (tgt := 110) k11023_62 (by decide) (fun h1 => x_ild4 k11023_110 <| x_iret k11023_112 rfl hc hs <| (q1 h1)) (fun h1 => x_ald2 k11023_65 <| x_ald0 k11023_66 <| x_getR k11023_67 f11_35_10 (hK.at rfl) rfl (hR _ _ _ rfl) <| x_ild1 k11023_70 <| x_ild5 k11023_71 <| x_ald0 k11023_73 <| x_getI k11023_74 f11_163_10 (hK.at rfl) rfl <| (q2 h1))
theorem i11023 {MC MS uc us : Nat} (hc : uc ≤ MC) (hs : us ≤ MS) {a : Int32} {q : Nat} {x3 : Int32} {x4 : Int32} {x5 : Int32} {v : Int32}    (q1 : ¬ v = (-1) → v ≤ x3 → X d MC MS 11023 uc us 53 [some (.ref 0), some (.int a), some (.ref q), some (.int x3), some (.int x4), some (.int (x5 + 1)), some (.int v)] [] (K, I, L, R, sz) Q) (q2 : ¬ v = (-1) → ¬ v ≤ x3 → X d MC MS 11023 uc us 53 [some (.ref 0), some (.int a), some (.ref q), some (.int v), some (.int x5), some (.int (x5 + 1)), some (.int v)] [] (K, I, L, R, sz) Q) (q3 : v = (-1) → Q (some (.int x5)) (K, I, L, R, sz)) : X d MC MS 11023 uc us 80 [some (.ref 0), some (.int a), some (.ref q), some (.int x3), some (.int x4), some (.int x5), none] [.int v] (K, I, L, R, sz) Q := x_ist6 k11023_80 (Nat.le_of_ble_eq_true rfl) rfl <| x_ild6 k11023_82 <| x_iconst (v := (-1)) k11023_84 rfl <| x_icmpne (tgt := 91) k11023_85 (by decide) (fun h1 => x_ild6 k11023_91 <| x_ild3 k11023_93 <| x_icmple (tgt := 104) k11023_94 (by decide) (fun h2 => x_inc5 (c := 1) k11023_104 rfl (Nat.le_of_ble_eq_true rfl) rfl <| x_goto (tgt := 53) k11023_107 (by decide) <| (q1 h1 h2)) (fun h2 => x_ild6 k11023_97 <| x_ist3 k11023_99 (Nat.le_of_ble_eq_true rfl) rfl <| x_ild5 k11023_100 <| x_ist4 k11023_102 (Nat.le_of_ble_eq_true rfl) rfl <| x_inc5 (c := 1) k11023_104 rfl (Nat.le_of_ble_eq_true rfl) rfl <| x_goto (tgt := 53) k11023_107 (by decide) <| (q2 h1 h2))) (fun h1 => x_ild5 k11023_88 <| x_iret k11023_90 rfl hc hs <| (q3 h1))
/-- a planner made, or room for one -/
def hasPl (K : qK) (R : Nat → Nat → Option Nat) (sz MC MS : Nat) : Prop := (∃ q, R 0 16 = some q ∧ qPl K R sz q) ∨ (R 0 16 = none ∧ sz < 900000 ∧ 3 ≤ MC ∧ 80017 ≤ MS)
theorem hasPl.b {MC MS : Nat} (h : hasPl K R sz MC MS) : (∃ q, R 0 16 = some q ∧ qPl K R sz q ∧ 0 ≤ MC ∧ 0 ≤ MS) ∨ (R 0 16 = none ∧ sz < 900000 ∧ 0 + 3 ≤ MC ∧ 0 + 80017 ≤ MS) := by
  rcases h with ⟨q, a, b⟩ | ⟨a, b, c, e⟩
  · exact Or.inl ⟨q, a, b, Nat.zero_le _, Nat.zero_le _⟩
  · exact Or.inr ⟨a, b, by omega, by omega⟩
theorem s11020 {MC MS : Nat} {a b : Int32} (hK : qLay K sz) (hR : qRef R) (cI : CI I p) (hb : (fewQ p ∧ (qIn (pM p) a ∧ ¬ b < 0 ∧ b ≤ 2)) → hasPl K R sz MC MS) (hq0 : ¬ (fewQ p ∧ (qIn (pM p) a ∧ ¬ b < 0 ∧ b ≤ 2)) → ∀ v, plQ I p a b v → Q (some (.int v)) (K, I, L, R, sz)) (hq1 : (fewQ p ∧ (qIn (pM p) a ∧ ¬ b < 0 ∧ b ≤ 2)) → ∀ v K' I' R' sz' q, plQ I p a b v → qGp K I R sz K' I' R' sz' q → Q (some (.int v)) (K', I', L, R', sz')) : X (d + 6) MC MS 11020 0 0 0 (qent (qml 11020) [.ref 0, .int a, .int b]) [] (K, I, L, R, sz) Q := by
  have w3 := cI.w3
  refine e11020 (d := d + 4) (Nat.zero_le _) (Nat.zero_le _) hK hR cI (fun h1 h2 h3 => hq0 (fun w => w.2.2.1 h3) _ (Or.inr (Or.inl ⟨h1, fun z => z.2.1 h3, rfl⟩))) (fun h1 h2 h3 h4 => ?_) (fun h1 h2 h3 h4 => hq0 (fun w => h4 w.2.2.2) _ (Or.inr (Or.inl ⟨h1, fun z => h4 z.2.2, rfl⟩))) (fun h1 h2 => hq0 (fun w => h2 w.2.1) _ (Or.inr (Or.inl ⟨h1, fun z => h2 z.1, rfl⟩))) (fun h1 => hq0 (fun w => h1 w.1) _ (Or.inl ⟨h1, rfl⟩))
  have ha := h2
  obtain ⟨m, hm, rfl⟩ := h2
  have em : (nI m).toNatClampNeg = m := nI_c (by omega)
  refine c49 (d := d + 3) k11020_30 v11_234_10 hK hR (hb ⟨h1, ha, h3, h4⟩).b (fun K' I' R' sz' q uc us hc hs hK' hR' hG => ?_)
  have hlo := hG.2.2.1
  have hP := hG.2.2.2.2.2.2
  have cI' := (hlo.af cI).2
  have hg : ∀ x, gQ I' p m x = gQ I p m x := fun x => gQ_lo hlo h1.2 hm cI
  have hq6 : qAt K' sz' q (.inl 6) := ⟨by have := hP.2.1; omega, hP.2.2.1⟩
  refine f11020 hc hs hK' hR' (fun b0 b1 => ?_) (fun b0 b1 => ?_) (fun b0 => ?_)
  · refine x_cV3 (MCz := 0) (MSz := 0) k11020_84 v11_248_6 hq6 (Nat.le_of_ble_eq_true rfl) (Nat.le_of_ble_eq_true rfl) hc hs <| s6003 (d := d) hK' hR' hP cI' h1.2 hm rfl (fun J R2 v g1 g2 g3 g4 => ?_)
    rw [hg] at g4
    exact x_iret k11020_87 rfl hc hs (hq1 ⟨h1, ha, h3, h4⟩ v K' J R2 sz' q (Or.inr (Or.inr ⟨h1, ⟨ha, h3, h4⟩, Or.inr (Or.inr ⟨b0, b1, by rw [em]; exact g4⟩)⟩)) (hG.nx g1 g2 g3))
  · refine x_cV3 (MCz := 0) (MSz := 0) k11020_68 v11_244_6 hq6 (Nat.le_of_ble_eq_true rfl) (Nat.le_of_ble_eq_true rfl) hc hs <| s6002 (d := d) hK' hR' hP cI' h1.2 hm rfl (fun J R2 v g1 g2 g3 g4 => ?_)
    rw [hg] at g4
    exact x_goto (tgt := 87) k11020_71 (by decide) <| x_iret k11020_87 rfl hc hs (hq1 ⟨h1, ha, h3, h4⟩ v K' J R2 sz' q (Or.inr (Or.inr ⟨h1, ⟨ha, h3, h4⟩, Or.inr (Or.inl ⟨b1, by rw [em]; exact g4⟩)⟩)) (hG.nx g1 g2 g3))
  · refine x_cV4 (MCz := 0) (MSz := 0) k11020_49 v11_238_6 hq6 (Nat.le_of_ble_eq_true rfl) (Nat.le_of_ble_eq_true rfl) hc hs <| s6001 (d := d) hK' hR' hP cI' h1.2 hm rfl (fun J R2 v g1 g2 g3 g4 => ?_)
    rw [hg] at g4
    exact x_iret k11020_52 rfl hc hs (hq1 ⟨h1, ha, h3, h4⟩ v K' J R2 sz' q (Or.inr (Or.inr ⟨h1, ⟨ha, h3, h4⟩, Or.inl ⟨b0, by rw [em]; exact g4⟩⟩)) (hG.nx g1 g2 g3))
theorem s11022 {MC MS : Nat} {a b : Int32} (hK : qLay K sz) (hR : qRef R) (cI : CI I p) (hb : (fewQ p ∧ (qIn (pM p) a ∧ qIn (pS p) b)) → hasPl K R sz MC MS) (hq0 : ¬ (fewQ p ∧ (qIn (pM p) a ∧ qIn (pS p) b)) → ∀ v, stnQ I p a b v → Q (some (.int v)) (K, I, L, R, sz)) (hq1 : (fewQ p ∧ (qIn (pM p) a ∧ qIn (pS p) b)) → ∀ v K' I' R' sz' q, stnQ I p a b v → qGp K I R sz K' I' R' sz' q → Q (some (.int v)) (K', I', L, R', sz')) : X (d + 6) MC MS 11022 0 0 0 (qent (qml 11022) [.ref 0, .int a, .int b]) [] (K, I, L, R, sz) Q := by
  have w3 := cI.w3
  refine e11022 (d := d + 4) (Nat.zero_le _) (Nat.zero_le _) hK hR cI (fun h1 h2 h3 => ?_) (fun h1 h2 h3 => hq0 (fun w => h3 w.2.2) _ (Or.inr (Or.inl ⟨h1, fun z => h3 z.2, rfl⟩))) (fun h1 h2 => hq0 (fun w => h2 w.2.1) _ (Or.inr (Or.inl ⟨h1, fun z => h2 z.1, rfl⟩))) (fun h1 => hq0 (fun w => h1 w.1) _ (Or.inl ⟨h1, rfl⟩))
  have ha := h2
  obtain ⟨m, hm, rfl⟩ := h2
  have em : (nI m).toNatClampNeg = m := nI_c (by omega)
  refine c49 (d := d + 3) k11022_29 v11_234_10 hK hR (hb ⟨h1, ha, h3⟩).b (fun K' I' R' sz' q uc us hc hs hK' hR' hG => ?_)
  have hlo := hG.2.2.1
  have hP := hG.2.2.2.2.2.2
  have cI' := (hlo.af cI).2
  have hg : ∀ x, gQ I' p m x = gQ I p m x := fun x => gQ_lo hlo h1.2 hm cI
  have hq6 : qAt K' sz' q (.inl 6) := ⟨by have := hP.2.1; omega, hP.2.2.1⟩
  refine f11022 hc hs hK' hR' ?_
  refine x_cV4 (MCz := 0) (MSz := 0) k11022_42 v11_238_6 hq6 (Nat.le_of_ble_eq_true rfl) (Nat.le_of_ble_eq_true rfl) hc hs <| s6001 (d := d) hK' hR' hP cI' h1.2 hm rfl (fun J R2 v g1 g2 g3 g4 => ?_)
  rw [hg] at g4
  exact x_iret k11022_45 rfl hc hs (hq1 ⟨h1, ha, h3⟩ v K' J R2 sz' q (Or.inr (Or.inr ⟨h1, ⟨ha, h3⟩, by rw [em]; exact g4⟩)) (hG.nx g1 g2 g3))
theorem s11023 {MC MS : Nat} {a : Int32} (hK : qLay K sz) (hR : qRef R) (cI : CI I p) (hb : (fewQ p ∧ qIn (pM p) a) → hasPl K R sz MC MS) (hq0 : ¬ (fewQ p ∧ qIn (pM p) a) → Q (some (.int (fRuin I p a))) (K, I, L, R, sz)) (hq1 : (fewQ p ∧ qIn (pM p) a) → ∀ K' I' R' sz' q, qGp K I R sz K' I' R' sz' q → Q (some (.int (fRuin I p a))) (K', I', L, R', sz')) : X (d + 6) MC MS 11023 0 0 0 (qent (qml 11023) [.ref 0, .int a]) [] (K, I, L, R, sz) Q := by
  have w3 := cI.w3
  have w5 := cI.w5
  unfold fRuin at hq0 hq1
  refine e11023 (d := d + 4) (Nat.zero_le _) (Nat.zero_le _) hK hR cI (fun h1 h2 => ?_) (fun h1 h2 => ?_) (fun h1 => ?_)
  · replace hq1 := hq1 ⟨h1, h2⟩
    rw [if_neg (fun z => z h1), if_neg (fun z => z h2)] at hq1
    clear hq0
    have ha := h2
    obtain ⟨m, hm, rfl⟩ := h2
    rw [nI_c (by omega)] at hq1
    refine c49 (d := d + 3) k11023_21 v11_234_10 hK hR (hb ⟨h1, ha⟩).b (fun K' I' R' sz' q uc us hc hs hK' hR' hG => ?_)
    have hlo := hG.2.2.1
    have hP := hG.2.2.2.2.2.2
    have cI' := (hlo.af cI).2
    have hg : ∀ J, qLo I J → ∀ x, gQ J p m x = gQ I p m x := fun J hJ x => gQ_lo hJ h1.2 hm cI
    have hq6 : qAt K' sz' q (.inl 6) := ⟨by have := hP.2.1; omega, hP.2.2.1⟩
    have h107 := hP.1
    refine f11023 hc hs hK' hR' ?_
    refine x_cV4 (MCz := 0) (MSz := 0) k11023_36 v11_238_6 hq6 (Nat.le_of_ble_eq_true rfl) (Nat.le_of_ble_eq_true rfl) hc hs <| s6001 (d := d) hK' hR' hP cI' h1.2 hm rfl (fun J R2 v g1 g2 g3 g4 => ?_)
    rw [hg I' hlo] at g4
    have hG2 := hG.nx g1 g2 g3
    have hv := plW_is g4
    refine g11023 hc hs (fun e => ?_) (fun e => ?_)
    · rw [hv] at e
      rw [if_neg e] at hq1
      have hl : ∀ (k s : Nat), s + k = pS p → ruX (ruV I p m) k s = ruX (ruV I p m) (pS p) 0 → ∀ I2 R2, qGp K I R sz K' I2 R2 sz' q → qRef R2 → X (d + 6) MC MS 11023 uc us 53 [some (.ref 0), some (.int (nI m)), some (.ref q), some (.int (ruG (ruV I p m) s).1), some (.int (ruG (ruV I p m) s).2), some (.int (nI s)), none] [] (K', I2, L, R2, sz') Q := by
        intro k
        induction k with
        | zero =>
          intro s hs' hx I2 R2 hG' hR''
          have hle : I2 22 1 ≤ nI s := by rw [hG'.2.2.1 22 (by omega), cI.lS]; exact nI_le (by omega) (by omega)
          refine h11023 hc hs hK' hR'' (fun _ => ?_) (fun h => absurd hle h)
          have := hq1 K' I2 R2 sz' q hG'
          rw [← hx] at this
          exact this
        | succ k ih =>
          intro s hs' hx I2 R2 hG' hR''
          have hnl : ¬ I2 22 1 ≤ nI s := by rw [hG'.2.2.1 22 (by omega), cI.lS]; exact nI_ge (by omega) (by omega)
          rw [ruX] at hx
          refine h11023 hc hs hK' hR'' (fun h => absurd h hnl) (fun _ => ?_)
          refine x_cV4 (MCz := 0) (MSz := 0) k11023_77 v11_238_6 hq6 (Nat.le_of_ble_eq_true rfl) (Nat.le_of_ble_eq_true rfl) hc hs <| s6001 (d := d) hK' hR'' hG'.2.2.2.2.2.2 (hG'.2.2.1.af cI).2 h1.2 hm rfl (fun J2 R3 v2 u1 u2 u3 u4 => ?_)
          rw [hg I2 hG'.2.2.1] at u4
          have hv2 : v2 = ruV I p m s := plW_is u4
          have hG3 := hG'.nx u1 u2 u3
          have hR3 := qRef_hi hR'' h107 u2
          have hstep := @ruG.eq_2 (ruV I p m) s
          refine i11023 hc hs (fun e1 e2 => ?_) (fun e1 e2 => ?_) (fun e1 => ?_)
          · rw [hv2] at e1 e2
            rw [if_neg e1] at hx
            rw [nI_1]
            rw [if_neg (Int32.not_lt.mpr e2)] at hstep
            rw [← hstep]
            refine x_wk2 (ih (s + 1) (by omega) hx J2 R3 hG3 hR3) ⟨rfl, rfl, rfl, rfl, rfl, rfl, True.intro⟩
          · rw [hv2] at e1 e2
            rw [if_neg e1] at hx
            rw [nI_1, hv2]
            rw [if_pos (Int32.not_le.mp e2)] at hstep
            have := ih (s + 1) (by omega) hx J2 R3 hG3 hR3
            rw [hstep] at this
            refine x_wk2 this ⟨rfl, rfl, rfl, rfl, rfl, rfl, True.intro⟩
          · rw [hv2] at e1
            rw [if_pos e1] at hx
            have := hq1 K' J2 R3 sz' q hG3
            rw [← hx] at this
            exact this
      exact hl (pS p) 0 (by omega) rfl J R2 hG2 (qRef_hi hR' h107 g2)
    · rw [hv] at e
      rw [if_pos e] at hq1
      exact hq1 K' J R2 sz' q hG2
  · rw [if_neg (fun z => z h1), if_pos h2] at hq0; exact hq0 (fun w => h2 w.2)
  · rw [if_pos h1] at hq0; exact hq0 (fun w => h1 w.1)

end L99e
