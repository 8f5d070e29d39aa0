/-! bars -/
section L47
variable {d : Nat} {K : qK} {I : Nat → Nat → Int32} {L : Nat → Nat → Int64} {R : Nat → Nat → Option Nat} {sz : Nat} {Q : Option Value → qMem → Prop} {p : qPa}
theorem e11021 {a : Int32}  (hK : qLay K sz) (hR : qRef R) (cI : CI I p)  (q1 : qIn (pM p) a → X (d + 1) 0 0 11021 0 0 14 [some (.ref 0), some (.int a), some (.int 0), some (.int 0), none, none, none] [] (K, I, L, R, sz) Q) (q2 : ¬ qIn (pM p) a → Q (some (.int (-1))) (K, I, L, R, sz)) : X (d + 1) 0 0 11021 0 0 0 (qent (qml 11021) [.ref 0, .int a]) [] (K, I, L, R, sz) Q := show X _ 0 0 11021 0 0 0 [some (.ref 0), some (.int a), none, none, none, none, none] [] _ _ from x_ald0 k11021_0 <| x_ild1 k11021_1 <| x_cV1 (MCz := 0) (MSz := 0) k11021_2 v11_144_10 (hK.at rfl) (Nat.le_of_ble_eq_true rfl) (Nat.le_of_ble_eq_true rfl) (Nat.le_refl _) (Nat.le_refl _) <| u11040 hK hR cI (fun g1 => x_ifneT (tgt := 10) k11021_5 (by decide) (show ¬ (1 : Int32) = 0 by decide) <| x_iconst (v := 0) k11021_10 rfl <| x_ist2 k11021_11 (Nat.le_of_ble_eq_true rfl) rfl <| x_iconst (v := 0) k11021_12 rfl <| x_ist3 k11021_13 (Nat.le_of_ble_eq_true rfl) rfl <| (q1 g1)) (fun g2 => x_ifneF (tgt := 10) k11021_5 (by decide) (show (0 : Int32) = 0 by decide) <| x_iconst (v := (-1)) k11021_8 rfl <| x_iret k11021_9 rfl (Nat.le_refl _) (Nat.le_refl _) <| (q2 g2))
theorem g11021_14 {x1 : Int32} {x2 : Int32} {x3 : Int32}  (hK : qLay K sz) (hR : qRef R) (b1 : ¬ (I 22 1) ≤ x3 → qIn 5 x3) (q1 : (I 22 1) ≤ x3 → X (d + 1) 0 0 11021 0 0 51 [some (.ref 0), some (.int x1), some (.int x2), some (.int 0), some (.int 0), none, none] [] (K, I, L, R, sz) Q) (q2 : ¬ (I 22 1) ≤ x3 → ¬ I (24 + (x3).toNatClampNeg) 1 = x1 → X (d + 1) 0 0 11021 0 0 14 [some (.ref 0), some (.int x1), some (.int (x2 + 1)), some (.int (x3 + 1)), none, none, none] [] (K, I, L, R, sz) Q) (q3 : ¬ (I 22 1) ≤ x3 → I (24 + (x3).toNatClampNeg) 1 = x1 → X (d + 1) 0 0 11021 0 0 14 [some (.ref 0), some (.int x1), some (.int x2), some (.int (x3 + 1)), none, none, none] [] (K, I, L, R, sz) Q) : X (d + 1) 0 0 11021 0 0 14 [some (.ref 0), some (.int x1), some (.int x2), some (.int x3), none, none, none] [] (K, I, L, R, sz) Q := x_ild3 k11021_14 <| x_ald0 k11021_15 <| x_getR k11021_16 f11_35_10 (hK.at rfl) rfl (hR _ _ _ rfl) <| x_getI k11021_19 f11_118_1 (hK.at rfl) rfl <| x_icmpge (tgt := 46) k11021_22 (by decide) (fun h1 => x_iconst (v := 0) k11021_46 rfl <| x_ist3 k11021_47 (Nat.le_of_ble_eq_true rfl) rfl <| x_iconst (v := 0) k11021_48 rfl <| x_ist4 k11021_49 (Nat.le_of_ble_eq_true rfl) rfl <| (q1 h1)) (fun h1 => x_ald0 k11021_25 <| x_getR k11021_26 f11_35_10 (hK.at rfl) rfl (hR _ _ _ rfl) <| x_ild1 k11021_29 <| x_ild3 k11021_30 <| x_cV2 (MCz := 0) (MSz := 0) k11021_31 v11_218_1 (hK.at rfl) (Nat.le_of_ble_eq_true rfl) (Nat.le_of_ble_eq_true rfl) (Nat.le_refl _) (Nat.le_refl _) <| u1004 hK hR (b1 h1) (fun g2 => x_ifeqF (tgt := 40) k11021_34 (by decide) (show ¬ (1 : Int32) = 0 by decide) <| x_inc2 (c := 1) k11021_37 rfl (Nat.le_of_ble_eq_true rfl) rfl <| x_inc3 (c := 1) k11021_40 rfl (Nat.le_of_ble_eq_true rfl) rfl <| x_goto (tgt := 14) k11021_43 (by decide) <| (q2 h1 g2)) (fun g3 => x_ifeqT (tgt := 40) k11021_34 (by decide) (show (0 : Int32) = 0 by decide) <| x_inc3 (c := 1) k11021_40 rfl (Nat.le_of_ble_eq_true rfl) rfl <| x_goto (tgt := 14) k11021_43 (by decide) <| (q3 h1 g3)))
theorem g11021_51 {x1 : Int32} {x2 : Int32} {x3 : Int32} {x4 : Int32}  (hK : qLay K sz) (hR : qRef R) (b1 : ¬ (I 22 3) ≤ x4 → vp_in x4 4) (q1 : (I 22 3) ≤ x4 → Q (some (.int x3)) (K, I, L, R, sz)) (q2 : ¬ (I 22 3) ≤ x4 → (I (34 + x4.toNatClampNeg) 3) = (-1) → (I (34 + x4.toNatClampNeg) 1) ≤ x2 → X d 0 0 11021 0 0 51 [some (.ref 0), some (.int x1), some (.int x2), some (.int x3), some (.int (x4 + 1)), none, none] [] (K, I, L, R, sz) Q) (q3 : ¬ (I 22 3) ≤ x4 → (I (34 + x4.toNatClampNeg) 3) = (-1) → ¬ (I (34 + x4.toNatClampNeg) 1) ≤ x2 → X d 0 0 11021 0 0 51 [some (.ref 0), some (.int x1), some (.int x2), some (.int (x3 ||| (1 <<< (x4 &&& 31)))), some (.int (x4 + 1)), none, none] [] (K, I, L, R, sz) Q) (q4 : ¬ (I 22 3) ≤ x4 → ¬ (I (34 + x4.toNatClampNeg) 3) = (-1) → ¬ ((x3 >>> ((I (34 + x4.toNatClampNeg) 3) &&& 31)) &&& 1) = 1 → (I (34 + x4.toNatClampNeg) 1) ≤ x2 → X d 0 0 11021 0 0 51 [some (.ref 0), some (.int x1), some (.int x2), some (.int x3), some (.int (x4 + 1)), none, none] [] (K, I, L, R, sz) Q) (q5 : ¬ (I 22 3) ≤ x4 → ¬ (I (34 + x4.toNatClampNeg) 3) = (-1) → ¬ ((x3 >>> ((I (34 + x4.toNatClampNeg) 3) &&& 31)) &&& 1) = 1 → ¬ (I (34 + x4.toNatClampNeg) 1) ≤ x2 → X d 0 0 11021 0 0 51 [some (.ref 0), some (.int x1), some (.int x2), some (.int (x3 ||| (1 <<< (x4 &&& 31)))), some (.int (x4 + 1)), none, none] [] (K, I, L, R, sz) Q) (q6 : ¬ (I 22 3) ≤ x4 → ¬ (I (34 + x4.toNatClampNeg) 3) = (-1) → ((x3 >>> ((I (34 + x4.toNatClampNeg) 3) &&& 31)) &&& 1) = 1 → X d 0 0 11021 0 0 51 [some (.ref 0), some (.int x1), some (.int x2), some (.int (x3 ||| (1 <<< (x4 &&& 31)))), some (.int (x4 + 1)), none, none] [] (K, I, L, R, sz) Q) : X d 0 0 11021 0 0 51 [some (.ref 0), some (.int x1), some (.int x2), some (.int x3), some (.int x4), none, none] [] (K, I, L, R, sz) Q := x_ild4 k11021_51 <| x_ald0 k11021_53 <| x_getR k11021_54 f11_35_10 (hK.at rfl) rfl (hR _ _ _ rfl) <| x_getI k11021_57 f11_150_1 (hK.at rfl) rfl <| x_icmpge (tgt := 134) k11021_60 (by decide) (fun h1 => x_ild3 k11021_134 <| x_iret k11021_135 rfl (Nat.le_refl _) (Nat.le_refl _) <| (q1 h1)) (fun h1 => x_ald0 k11021_63 <| x_getR k11021_64 f11_35_10 (hK.at rfl) rfl (hR _ _ _ rfl) <| x_getR k11021_67 f11_154_1 (hK.at rfl) rfl (hR _ _ _ rfl) <| x_ild4 k11021_70 <| x_aald k11021_72 (hK.at rfl) (b1 h1) (qrowR33 hR (b1 h1)) <| x_iconst (v := 3) k11021_73 rfl <| x_iald k11021_74 (qrowK33 hK (b1 h1)) (qvp (by decide)) <| x_ist5 k11021_75 (Nat.le_of_ble_eq_true rfl) rfl <| x_ild5 k11021_77 <| x_iconst (v := (-1)) k11021_79 rfl <| x_icmpeq (tgt := 97) k11021_80 (by decide) (fun h2 => x_iconst (v := 0) k11021_97 rfl <| x_ist6 k11021_98 (Nat.le_of_ble_eq_true rfl) rfl <| x_ild6 k11021_100 <| x_ifneF (tgt := 121) k11021_102 (by decide) (show (0 : Int32) = 0 by decide) <| x_ald0 k11021_105 <| x_getR k11021_106 f11_35_10 (hK.at rfl) rfl (hR _ _ _ rfl) <| x_getR k11021_109 f11_154_1 (hK.at rfl) rfl (hR _ _ _ rfl) <| x_ild4 k11021_112 <| x_aald k11021_114 (hK.at rfl) (b1 h1) (qrowR33 hR (b1 h1)) <| x_iconst (v := 1) k11021_115 rfl <| x_iald k11021_116 (qrowK33 hK (b1 h1)) (qvp (by decide)) <| x_ild2 k11021_117 <| x_icmple (tgt := 128) k11021_118 (by decide) (fun h3 => x_inc4 (c := 1) k11021_128 rfl (Nat.le_of_ble_eq_true rfl) rfl <| x_goto (tgt := 51) k11021_131 (by decide) <| x_wk (ls := [some (.ref 0), some (.int x1), some (.int x2), some (.int x3), some (.int (x4 + 1)), none, none]) ⟨rfl, ⟨rfl, ⟨rfl, ⟨rfl, ⟨rfl, True.intro⟩⟩⟩⟩⟩ <| (q2 h1 h2 h3)) (fun h3 => x_ild3 k11021_121 <| x_iconst (v := 1) k11021_122 rfl <| x_ild4 k11021_123 <| x_ishl k11021_125 <| x_ior k11021_126 <| x_ist3 k11021_127 (Nat.le_of_ble_eq_true rfl) rfl <| x_inc4 (c := 1) k11021_128 rfl (Nat.le_of_ble_eq_true rfl) rfl <| x_goto (tgt := 51) k11021_131 (by decide) <| x_wk (ls := [some (.ref 0), some (.int x1), some (.int x2), some (.int (x3 ||| (1 <<< (x4 &&& 31)))), some (.int (x4 + 1)), none, none]) ⟨rfl, ⟨rfl, ⟨rfl, ⟨rfl, ⟨rfl, True.intro⟩⟩⟩⟩⟩ <| (q3 h1 h2 h3))) (fun h2 => x_ild3 k11021_83 <| x_ild5 k11021_84 <| x_ishr k11021_86 <| x_iconst (v := 1) k11021_87 rfl <| x_iand k11021_88 <| x_iconst (v := 1) k11021_89 rfl <| x_icmpne (tgt := 97) k11021_90 (by decide) (fun h4 => x_iconst (v := 0) k11021_97 rfl <| x_ist6 k11021_98 (Nat.le_of_ble_eq_true rfl) rfl <| x_ild6 k11021_100 <| x_ifneF (tgt := 121) k11021_102 (by decide) (show (0 : Int32) = 0 by decide) <| x_ald0 k11021_105 <| x_getR k11021_106 f11_35_10 (hK.at rfl) rfl (hR _ _ _ rfl) <| x_getR k11021_109 f11_154_1 (hK.at rfl) rfl (hR _ _ _ rfl) <| x_ild4 k11021_112 <| x_aald k11021_114 (hK.at rfl) (b1 h1) (qrowR33 hR (b1 h1)) <| x_iconst (v := 1) k11021_115 rfl <| x_iald k11021_116 (qrowK33 hK (b1 h1)) (qvp (by decide)) <| x_ild2 k11021_117 <| x_icmple (tgt := 128) k11021_118 (by decide) (fun h5 => x_inc4 (c := 1) k11021_128 rfl (Nat.le_of_ble_eq_true rfl) rfl <| x_goto (tgt := 51) k11021_131 (by decide) <| x_wk (ls := [some (.ref 0), some (.int x1), some (.int x2), some (.int x3), some (.int (x4 + 1)), none, none]) ⟨rfl, ⟨rfl, ⟨rfl, ⟨rfl, ⟨rfl, True.intro⟩⟩⟩⟩⟩ <| (q4 h1 h2 h4 h5)) (fun h5 => x_ild3 k11021_121 <| x_iconst (v := 1) k11021_122 rfl <| x_ild4 k11021_123 <| x_ishl k11021_125 <| x_ior k11021_126 <| x_ist3 k11021_127 (Nat.le_of_ble_eq_true rfl) rfl <| x_inc4 (c := 1) k11021_128 rfl (Nat.le_of_ble_eq_true rfl) rfl <| x_goto (tgt := 51) k11021_131 (by decide) <| x_wk (ls := [some (.ref 0), some (.int x1), some (.int x2), some (.int (x3 ||| (1 <<< (x4 &&& 31)))), some (.int (x4 + 1)), none, none]) ⟨rfl, ⟨rfl, ⟨rfl, ⟨rfl, ⟨rfl, True.intro⟩⟩⟩⟩⟩ <| (q5 h1 h2 h4 h5))) (fun h4 => x_iconst (v := 1) k11021_93 rfl <| x_goto (tgt := 98) k11021_94 (by decide) <| x_ist6 k11021_98 (Nat.le_of_ble_eq_true rfl) rfl <| x_ild6 k11021_100 <| x_ifneT (tgt := 121) k11021_102 (by decide) (show ¬ (1 : Int32) = 0 by decide) <| x_ild3 k11021_121 <| x_iconst (v := 1) k11021_122 rfl <| x_ild4 k11021_123 <| x_ishl k11021_125 <| x_ior k11021_126 <| x_ist3 k11021_127 (Nat.le_of_ble_eq_true rfl) rfl <| x_inc4 (c := 1) k11021_128 rfl (Nat.le_of_ble_eq_true rfl) rfl <| x_goto (tgt := 51) k11021_131 (by decide) <| x_wk (ls := [some (.ref 0), some (.int x1), some (.int x2), some (.int (x3 ||| (1 <<< (x4 &&& 31)))), some (.int (x4 + 1)), none, none]) ⟨rfl, ⟨rfl, ⟨rfl, ⟨rfl, ⟨rfl, True.intro⟩⟩⟩⟩⟩ <| (q6 h1 h2 h4))))
theorem e12085 {a : Int32}  (hK : qLay K sz) (cI : CI I p) (rI : RI I p)  (q1 : qIn (pM p) a → X (d + 2) 0 0 12085 0 0 14 [some (.ref 73), some (.int a), some (.int 0), some (.int 0), none, none] [] (K, I, L, R, sz) Q) (q2 : ¬ qIn (pM p) a → Q (some (.int (-1))) (K, I, L, R, sz)) : X (d + 2) 0 0 12085 0 0 0 (qent (qml 12085) [.ref 73, .int a]) [] (K, I, L, R, sz) Q := show X _ 0 0 12085 0 0 0 [some (.ref 73), some (.int a), none, none, none, none] [] _ _ from x_ald0 k12085_0 <| x_ild1 k12085_1 <| x_cV1 (MCz := 0) (MSz := 0) k12085_2 v12_314_11 (hK.at rfl) (Nat.le_of_ble_eq_true rfl) (Nat.le_of_ble_eq_true rfl) (Nat.le_refl _) (Nat.le_refl _) <| u12047 hK cI rI (fun g1 => x_ifneT (tgt := 10) k12085_5 (by decide) (show ¬ (1 : Int32) = 0 by decide) <| x_iconst (v := 0) k12085_10 rfl <| x_ist2 k12085_11 (Nat.le_of_ble_eq_true rfl) rfl <| x_iconst (v := 0) k12085_12 rfl <| x_ist3 k12085_13 (Nat.le_of_ble_eq_true rfl) rfl <| (q1 g1)) (fun g2 => x_ifneF (tgt := 10) k12085_5 (by decide) (show (0 : Int32) = 0 by decide) <| x_iconst (v := (-1)) k12085_8 rfl <| x_iret k12085_9 rfl (Nat.le_refl _) (Nat.le_refl _) <| (q2 g2))
theorem g12085_14 {x1 : Int32} {x2 : Int32} {x3 : Int32}  (hK : qLay K sz) (hR : qRef R) (b1 : ¬ (I 73 24) ≤ x3 → qIn 5 x3) (q1 : (I 73 24) ≤ x3 → X (d + 2) 0 0 12085 0 0 50 [some (.ref 73), some (.int x1), some (.int x2), some (.int 0), some (.int 0), none] [] (K, I, L, R, sz) Q) (q2 : ¬ (I 73 24) ≤ x3 → ¬ I 85 (3 * (x3).toNatClampNeg + 1) = x1 → X (d + 2) 0 0 12085 0 0 14 [some (.ref 73), some (.int x1), some (.int (x2 + 1)), some (.int (x3 + 1)), none, none] [] (K, I, L, R, sz) Q) (q3 : ¬ (I 73 24) ≤ x3 → I 85 (3 * (x3).toNatClampNeg + 1) = x1 → X (d + 2) 0 0 12085 0 0 14 [some (.ref 73), some (.int x1), some (.int (x2 + 0)), some (.int (x3 + 1)), none, none] [] (K, I, L, R, sz) Q) : X (d + 2) 0 0 12085 0 0 14 [some (.ref 73), some (.int x1), some (.int x2), some (.int x3), none, none] [] (K, I, L, R, sz) Q := x_ild3 k12085_14 <| x_ald0 k12085_15 <| x_getI k12085_16 f12_289_11 (hK.at rfl) rfl <| x_icmpge (tgt := 45) k12085_19 (by decide) (fun h1 => x_iconst (v := 0) k12085_45 rfl <| x_ist3 k12085_46 (Nat.le_of_ble_eq_true rfl) rfl <| x_iconst (v := 0) k12085_47 rfl <| x_ist4 k12085_48 (Nat.le_of_ble_eq_true rfl) rfl <| (q1 h1)) (fun h1 => x_ild2 k12085_22 <| x_ald0 k12085_23 <| x_ild1 k12085_24 <| x_ild3 k12085_25 <| x_cV2 (MCz := 0) (MSz := 0) k12085_26 v12_324_11 (hK.at rfl) (Nat.le_of_ble_eq_true rfl) (Nat.le_of_ble_eq_true rfl) (Nat.le_refl _) (Nat.le_refl _) <| u12048 hK hR (b1 h1) (fun g2 => x_ifeqF (tgt := 36) k12085_29 (by decide) (show ¬ (1 : Int32) = 0 by decide) <| x_iconst (v := 1) k12085_32 rfl <| x_goto (tgt := 37) k12085_33 (by decide) <| x_iadd k12085_37 <| x_ist2 k12085_38 (Nat.le_of_ble_eq_true rfl) rfl <| x_inc3 (c := 1) k12085_39 rfl (Nat.le_of_ble_eq_true rfl) rfl <| x_goto (tgt := 14) k12085_42 (by decide) <| (q2 h1 g2)) (fun g3 => x_ifeqT (tgt := 36) k12085_29 (by decide) (show (0 : Int32) = 0 by decide) <| x_iconst (v := 0) k12085_36 rfl <| x_iadd k12085_37 <| x_ist2 k12085_38 (Nat.le_of_ble_eq_true rfl) rfl <| x_inc3 (c := 1) k12085_39 rfl (Nat.le_of_ble_eq_true rfl) rfl <| x_goto (tgt := 14) k12085_42 (by decide) <| (q3 h1 g3)))
theorem g12085_50 {x1 : Int32} {x2 : Int32} {x3 : Int32} {x4 : Int32}  (hK : qLay K sz) (hR : qRef R) (b1 : ¬ (I 73 26) ≤ x4 → vp_in (18 + 4 * x4 + 3) 34) (b2 : ¬ (I 73 26) ≤ x4 → vp_in (18 + 4 * x4 + 1) 34) (q1 : (I 73 26) ≤ x4 → Q (some (.int x3)) (K, I, L, R, sz)) (q2 : ¬ (I 73 26) ≤ x4 → x2 < (I 85 ((18 + 4 * x4 + 1).toNatClampNeg)) → X (d + 1) 0 0 12085 0 0 50 [some (.ref 73), some (.int x1), some (.int x2), some (.int (x3 ||| (1 <<< (x4 &&& 31)))), some (.int (x4 + 1)), none] [] (K, I, L, R, sz) Q) (q3 : ¬ (I 73 26) ≤ x4 → ¬ x2 < (I 85 ((18 + 4 * x4 + 1).toNatClampNeg)) → (I 85 ((18 + 4 * x4 + 3).toNatClampNeg)) = (-1) → X (d + 1) 0 0 12085 0 0 50 [some (.ref 73), some (.int x1), some (.int x2), some (.int (x3 ||| 0)), some (.int (x4 + 1)), none] [] (K, I, L, R, sz) Q) (q4 : ¬ (I 73 26) ≤ x4 → ¬ x2 < (I 85 ((18 + 4 * x4 + 1).toNatClampNeg)) → ¬ (I 85 ((18 + 4 * x4 + 3).toNatClampNeg)) = (-1) → ((x3 >>> ((I 85 ((18 + 4 * x4 + 3).toNatClampNeg)) &&& 31)) &&& 1) = 1 → X (d + 1) 0 0 12085 0 0 50 [some (.ref 73), some (.int x1), some (.int x2), some (.int (x3 ||| (1 <<< (x4 &&& 31)))), some (.int (x4 + 1)), none] [] (K, I, L, R, sz) Q) (q5 : ¬ (I 73 26) ≤ x4 → ¬ x2 < (I 85 ((18 + 4 * x4 + 1).toNatClampNeg)) → ¬ (I 85 ((18 + 4 * x4 + 3).toNatClampNeg)) = (-1) → ¬ ((x3 >>> ((I 85 ((18 + 4 * x4 + 3).toNatClampNeg)) &&& 31)) &&& 1) = 1 → X (d + 1) 0 0 12085 0 0 50 [some (.ref 73), some (.int x1), some (.int x2), some (.int (x3 ||| 0)), some (.int (x4 + 1)), none] [] (K, I, L, R, sz) Q) : X (d + 1) 0 0 12085 0 0 50 [some (.ref 73), some (.int x1), some (.int x2), some (.int x3), some (.int x4), none] [] (K, I, L, R, sz) Q := x_ild4 k12085_50 <| x_ald0 k12085_52 <| x_getI k12085_53 f12_295_11 (hK.at rfl) rfl <| x_icmpge (tgt := 119) k12085_56 (by decide) (fun h1 => x_ild3 k12085_119 <| x_iret k12085_120 rfl (Nat.le_refl _) (Nat.le_refl _) <| (q1 h1)) (fun h1 => x_ald0 k12085_59 <| x_getR k12085_60 f12_43_11 (hK.at rfl) rfl (hR _ _ _ rfl) <| x_ild4 k12085_63 <| x_iconst (v := 3) k12085_65 rfl <| x_cS2 (MCz := 0) (MSz := 0) k12085_66 s12_251 (Nat.le_of_ble_eq_true rfl) (Nat.le_of_ble_eq_true rfl) (Nat.le_refl _) (Nat.le_refl _) <| t12035 (x_iald k12085_69 (hK.at rfl) (b1 h1) <| x_ist5 k12085_70 (Nat.le_of_ble_eq_true rfl) rfl <| x_ild3 k12085_72 <| x_ild2 k12085_73 <| x_ald0 k12085_74 <| x_getR k12085_75 f12_43_11 (hK.at rfl) rfl (hR _ _ _ rfl) <| x_ild4 k12085_78 <| x_iconst (v := 1) k12085_80 rfl <| x_cS2 (MCz := 0) (MSz := 0) k12085_81 s12_251 (Nat.le_of_ble_eq_true rfl) (Nat.le_of_ble_eq_true rfl) (Nat.le_refl _) (Nat.le_refl _) <| t12035 (x_iald k12085_84 (hK.at rfl) (b2 h1) <| x_icmplt (tgt := 103) k12085_85 (by decide) (fun h2 => x_iconst (v := 1) k12085_103 rfl <| x_ild4 k12085_104 <| x_ishl k12085_106 <| x_goto (tgt := 111) k12085_107 (by decide) <| x_ior k12085_111 <| x_ist3 k12085_112 (Nat.le_of_ble_eq_true rfl) rfl <| x_inc4 (c := 1) k12085_113 rfl (Nat.le_of_ble_eq_true rfl) rfl <| x_goto (tgt := 50) k12085_116 (by decide) <| x_wk (ls := [some (.ref 73), some (.int x1), some (.int x2), some (.int (x3 ||| (1 <<< (x4 &&& 31)))), some (.int (x4 + 1)), none]) ⟨rfl, ⟨rfl, ⟨rfl, ⟨rfl, ⟨rfl, True.intro⟩⟩⟩⟩⟩ <| (q2 h1 h2)) (fun h2 => x_ild5 k12085_88 <| x_iconst (v := (-1)) k12085_90 rfl <| x_icmpeq (tgt := 110) k12085_91 (by decide) (fun h3 => x_iconst (v := 0) k12085_110 rfl <| x_ior k12085_111 <| x_ist3 k12085_112 (Nat.le_of_ble_eq_true rfl) rfl <| x_inc4 (c := 1) k12085_113 rfl (Nat.le_of_ble_eq_true rfl) rfl <| x_goto (tgt := 50) k12085_116 (by decide) <| x_wk (ls := [some (.ref 73), some (.int x1), some (.int x2), some (.int (x3 ||| 0)), some (.int (x4 + 1)), none]) ⟨rfl, ⟨rfl, ⟨rfl, ⟨rfl, ⟨rfl, True.intro⟩⟩⟩⟩⟩ <| (q3 h1 h2 h3)) (fun h3 => x_ild3 k12085_94 <| x_ild5 k12085_95 <| x_cS2 (MCz := 0) (MSz := 0) k12085_97 s12_263 (Nat.le_of_ble_eq_true rfl) (Nat.le_of_ble_eq_true rfl) (Nat.le_refl _) (Nat.le_refl _) <| t12001 (fun g4 => x_ifeqF (tgt := 110) k12085_100 (by decide) (show ¬ (1 : Int32) = 0 by decide) <| x_iconst (v := 1) k12085_103 rfl <| x_ild4 k12085_104 <| x_ishl k12085_106 <| x_goto (tgt := 111) k12085_107 (by decide) <| x_ior k12085_111 <| x_ist3 k12085_112 (Nat.le_of_ble_eq_true rfl) rfl <| x_inc4 (c := 1) k12085_113 rfl (Nat.le_of_ble_eq_true rfl) rfl <| x_goto (tgt := 50) k12085_116 (by decide) <| x_wk (ls := [some (.ref 73), some (.int x1), some (.int x2), some (.int (x3 ||| (1 <<< (x4 &&& 31)))), some (.int (x4 + 1)), none]) ⟨rfl, ⟨rfl, ⟨rfl, ⟨rfl, ⟨rfl, True.intro⟩⟩⟩⟩⟩ <| (q4 h1 h2 h3 g4)) (fun g5 => x_ifeqT (tgt := 110) k12085_100 (by decide) (show (0 : Int32) = 0 by decide) <| x_iconst (v := 0) k12085_110 rfl <| x_ior k12085_111 <| x_ist3 k12085_112 (Nat.le_of_ble_eq_true rfl) rfl <| x_inc4 (c := 1) k12085_113 rfl (Nat.le_of_ble_eq_true rfl) rfl <| x_goto (tgt := 50) k12085_116 (by decide) <| x_wk (ls := [some (.ref 73), some (.int x1), some (.int x2), some (.int (x3 ||| 0)), some (.int (x4 + 1)), none]) ⟨rfl, ⟨rfl, ⟨rfl, ⟨rfl, ⟨rfl, True.intro⟩⟩⟩⟩⟩ <| (q5 h1 h2 h3 g5)))))))
theorem l11021b {x1 x2 : Int32} (hK : qLay K sz) (hR : qRef R) (lT : I 22 3 = nI (pT p)) (w4 : pT p ≤ 4) (hq : Q (some (.int (brB (fun t => I (34 + t) 1) (fun t => I (34 + t) 3) x2 (pT p)))) (K, I, L, R, sz)) : ∀ (k i : Nat), i + k = pT p → X d 0 0 11021 0 0 51 [some (.ref 0), some (.int x1), some (.int x2), some (.int (brB (fun t => I (34 + t) 1) (fun t => I (34 + t) 3) x2 i)), some (.int (nI i)), none, none] [] (K, I, L, R, sz) Q := by
  intro k
  induction k with
  | zero =>
    intro i hi
    have hle : I 22 3 ≤ nI i := by rw [lT]; exact nI_le (by omega) (by omega)
    have : i = pT p := by omega
    subst this
    exact g11021_51 hK hR (fun h => absurd hle h) (fun _ => hq) (fun h => absurd hle h) (fun h => absurd hle h) (fun h => absurd hle h) (fun h => absurd hle h) (fun h => absurd hle h)
  | succ k ih =>
    intro i hi
    have hnl : ¬ I 22 3 ≤ nI i := by rw [lT]; exact nI_ge (by omega) (by omega)
    have hci : (nI i).toNatClampNeg = i := nI_c (by omega)
    have ih' := ih (i + 1) (by omega)
    refine g11021_51 hK hR (fun _ => vI (by omega) (by omega)) (fun h => absurd h hnl) ?_ ?_ ?_ ?_ ?_ <;> rw [hci, nI_1] <;> intro _
    · intro h1 h2
      rw [brB, if_neg (fun q => q.elim (le_nlt.mp h2) (fun w => w.1 h1))] at ih'
      exact ih'
    · intro h1 h2
      rw [brB, if_pos (Or.inl (Classical.not_not.mp (fun w => h2 (le_nlt.mpr w))))] at ih'
      exact ih'
    · intro h1 h2 h3
      rw [brB, if_neg (fun q => q.elim (le_nlt.mp h3) (fun w => h2 w.2))] at ih'
      exact ih'
    · intro h1 h2 h3
      rw [brB, if_pos (Or.inl (Classical.not_not.mp (fun w => h3 (le_nlt.mpr w))))] at ih'
      exact ih'
    · intro h1 h2
      rw [brB, if_pos (Or.inr ⟨h1, h2⟩)] at ih'
      exact ih'
theorem l11021a {x1 : Int32} (hK : qLay K sz) (hR : qRef R) (lS : I 22 1 = nI (pS p)) (w5 : pS p ≤ 5) (hq : X (d + 1) 0 0 11021 0 0 51 [some (.ref 0), some (.int x1), some (.int (nI (hnd (mayC I x1) (pS p)))), some (.int 0), some (.int 0), none, none] [] (K, I, L, R, sz) Q) : ∀ (k i : Nat), i + k = pS p → X (d + 1) 0 0 11021 0 0 14 [some (.ref 0), some (.int x1), some (.int (nI (hnd (mayC I x1) i))), some (.int (nI i)), none, none, none] [] (K, I, L, R, sz) Q := by
  intro k
  induction k with
  | zero =>
    intro i hi
    have hle : I 22 1 ≤ nI i := by rw [lS]; exact nI_le (by omega) (by omega)
    have : i = pS p := by omega
    subst this
    exact g11021_14 hK hR (fun h => absurd hle h) (fun _ => hq) (fun h => absurd hle h) (fun h => absurd hle h)
  | succ k ih =>
    intro i hi
    have hnl : ¬ I 22 1 ≤ nI i := by rw [lS]; exact nI_ge (by omega) (by omega)
    have hci : (nI i).toNatClampNeg = i := nI_c (by omega)
    have ih' := ih (i + 1) (by omega)
    refine g11021_14 hK hR (fun _ => ⟨i, by omega, rfl⟩) (fun h => absurd h hnl) ?_ ?_ <;> rw [hci, nI_1] <;> intro _ h
    · rw [hnd, if_pos (show mayC I x1 i from h)] at ih'
      rw [nI_1]; exact ih'
    · rw [hnd, if_neg (show ¬ mayC I x1 i from fun q => q h)] at ih'
      exact ih'
theorem s11021 {a : Int32} (hK : qLay K sz) (hR : qRef R) (cI : CI I p) (hq : Q (some (.int (fBars I p a))) (K, I, L, R, sz)) : X (d + 1) 0 0 11021 0 0 0 (qent (qml 11021) [.ref 0, .int a]) [] (K, I, L, R, sz) Q := by
  unfold fBars at hq
  refine e11021 hK hR cI (fun h => ?_) (fun h => ?_)
  · rw [if_pos h] at hq
    exact l11021a hK hR cI.lS cI.w5 (l11021b hK hR cI.lT cI.w4 hq (pT p) 0 (by omega)) (pS p) 0 (by omega)
  · rw [if_neg h] at hq; exact hq
theorem e18 (j k : Nat) : (18 + 4 * nI j + nI k : Int32) = nI (18 + 4 * j + k) := by rw [show (18 : Int32) = nI 18 from rfl, show (4 : Int32) = nI 4 from rfl, pk_mul, nI_add, nI_add]
theorem l12085b {x1 x2 : Int32} {need after : Nat → Int32} (hK : qLay K sz) (hR : qRef R) (mT : I 73 26 = nI (pT p)) (w4 : pT p ≤ 4) (hh : ∀ t, t < pT p → I 85 (18 + 4 * t + 1) = need t ∧ I 85 (18 + 4 * t + 3) = after t) (hq : Q (some (.int (brB need after x2 (pT p)))) (K, I, L, R, sz)) : ∀ (k i : Nat), i + k = pT p → X (d + 1) 0 0 12085 0 0 50 [some (.ref 73), some (.int x1), some (.int x2), some (.int (brB need after x2 i)), some (.int (nI i)), none] [] (K, I, L, R, sz) Q := by
  intro k
  induction k with
  | zero =>
    intro i hi
    have hle : I 73 26 ≤ nI i := by rw [mT]; exact nI_le (by omega) (by omega)
    have : i = pT p := by omega
    subst this
    exact g12085_50 hK hR (fun h => absurd hle h) (fun h => absurd hle h) (fun _ => hq) (fun h => absurd hle h) (fun h => absurd hle h) (fun h => absurd hle h) (fun h => absurd hle h)
  | succ k ih =>
    intro i hi
    have hnl : ¬ I 73 26 ≤ nI i := by rw [mT]; exact nI_ge (by omega) (by omega)
    have ih' := ih (i + 1) (by omega)
    have a1 : (18 + 4 * nI i + 1 : Int32) = nI (18 + 4 * i + 1) := e18 i 1
    have a3 : (18 + 4 * nI i + 3 : Int32) = nI (18 + 4 * i + 3) := e18 i 3
    refine g12085_50 hK hR (fun _ => by rw [a3]; exact vI (by omega) (by omega)) (fun _ => by rw [a1]; exact vI (by omega) (by omega)) (fun h => absurd h hnl) ?_ ?_ ?_ ?_ <;> rw [a1] <;> (try rw [a3, nI_c (n := 18 + 4 * i + 3) (by omega), (hh i (by omega)).2]) <;> rw [nI_c (n := 18 + 4 * i + 1) (by omega), (hh i (by omega)).1, nI_1] <;> intro _
    · intro h1
      rw [brB, if_pos (Or.inl h1)] at ih'
      exact ih'
    · intro h1 h2
      rw [brB, if_neg (fun q => q.elim h1 (fun w => w.1 h2))] at ih'
      rw [Int32.or_zero]; exact ih'
    · intro h1 h2 h3
      rw [brB, if_pos (Or.inr ⟨h2, h3⟩)] at ih'
      exact ih'
    · intro h1 h2 h3
      rw [brB, if_neg (fun q => q.elim h1 (fun w => h3 w.2))] at ih'
      rw [Int32.or_zero]; exact ih'
theorem l12085a {x1 : Int32} (hK : qLay K sz) (hR : qRef R) (mS : I 73 24 = nI (pS p)) (w5 : pS p ≤ 5) (hq : X (d + 2) 0 0 12085 0 0 50 [some (.ref 73), some (.int x1), some (.int (nI (hnd (mayR I x1) (pS p)))), some (.int 0), some (.int 0), none] [] (K, I, L, R, sz) Q) : ∀ (k i : Nat), i + k = pS p → X (d + 2) 0 0 12085 0 0 14 [some (.ref 73), some (.int x1), some (.int (nI (hnd (mayR I x1) i))), some (.int (nI i)), none, none] [] (K, I, L, R, sz) Q := by
  intro k
  induction k with
  | zero =>
    intro i hi
    have hle : I 73 24 ≤ nI i := by rw [mS]; exact nI_le (by omega) (by omega)
    have : i = pS p := by omega
    subst this
    exact g12085_14 hK hR (fun h => absurd hle h) (fun _ => hq) (fun h => absurd hle h) (fun h => absurd hle h)
  | succ k ih =>
    intro i hi
    have hnl : ¬ I 73 24 ≤ nI i := by rw [mS]; exact nI_ge (by omega) (by omega)
    have hci : (nI i).toNatClampNeg = i := nI_c (by omega)
    have ih' := ih (i + 1) (by omega)
    refine g12085_14 hK hR (fun _ => ⟨i, by omega, rfl⟩) (fun h => absurd h hnl) ?_ ?_ <;> rw [hci, nI_1] <;> intro _ h
    · rw [hnd, if_pos (show mayR I x1 i from h)] at ih'
      rw [nI_1]; exact ih'
    · rw [hnd, if_neg (show ¬ mayR I x1 i from fun q => q h)] at ih'
      rw [Int32.add_zero]; exact ih'
theorem s12085 {a : Int32} (hK : qLay K sz) (hR : qRef R) (cI : CI I p) (rI : RI I p) (hq : Q (some (.int (fBars I p a))) (K, I, L, R, sz)) : X (d + 2) 0 0 12085 0 0 0 (qent (qml 12085) [.ref 73, .int a]) [] (K, I, L, R, sz) Q := by
  unfold fBars at hq
  have w5 := cI.w5
  have w4 := cI.w4
  have mT : I 73 26 = nI (pT p) := by rw [rI.1.2.2.2]; exact cI.lT
  refine e12085 hK cI rI (fun h => ?_) (fun h => ?_)
  · rw [if_pos h, ← hnd_cong (may' := mayR I a) (pS p) (fun i hi => mayR_C rI (by omega) hi)] at hq
    exact l12085a hK hR (rI.mS cI) w5 (l12085b (d := d + 1) (need := fun t => I (34 + t) 1) (after := fun t => I (34 + t) 3) hK hR mT w4 (fun t ht => ⟨rI.2.1.2.2 t 1 (by omega) ht (by omega), rI.2.1.2.2 t 3 (by omega) ht (by omega)⟩) hq (pT p) 0 (by omega)) (pS p) 0 (by omega)
  · rw [if_neg h] at hq; exact hq
theorem fBars_fr {J : Nat → Nat → Int32} (hf : qFr scQ I J) (cI : CI I p) (a : Int32) : fBars J p a = fBars I p a := by
  unfold fBars
  have w5 := cI.w5
  have w4 := cI.w4
  by_cases h : qIn (pM p) a
  · rw [if_pos h, if_pos h, hnd_cong (may' := mayC J a) (may := mayC I a) (pS p) (fun i hi => mayC_fr hf (by omega))]
    refine brB_cong (pT p) (fun t ht => ?_)
    rw [hf.row (j := 34 + t) (scQ_no (by omega))]
    exact ⟨rfl, rfl⟩
  · rw [if_neg h, if_neg h]
end L47
