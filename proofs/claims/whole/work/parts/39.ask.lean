/-! the first questions: leans, head, holds -/
noncomputable def qIf {α : Type} (c : Prop) (x y : α) : α := @ite α c (Classical.propDecidable c) x y
noncomputable def fLeans (LE : Int32 → Nat → Int32) (p : qPa) (a b : Int32) : Int32 := @ite Int32 (qIn (pS p) a ∧ 0 ≤ b) (Classical.propDecidable _) (LE b a.toNatClampNeg) (-1000000)
noncomputable def fHead (LE : Int32 → Nat → Int32) (p : qPa) (a b : Int32) : Int32 := @ite Int32 (qIn (pS p) a ∧ 0 ≤ b) (Classical.propDecidable _) (hd (LE b) (pS p) a) (-1000000)
noncomputable def fHolds (LE : Int32 → Nat → Int32) (p : qPa) (a b : Int32) : Int32 := @ite Int32 (qIn (pM p) a ∧ 0 ≤ b) (Classical.propDecidable _) (hb (LE b) (pS p) a (pS p)) (-1)
section L39
variable {d : Nat} {K : qK} {I : Nat → Nat → Int32} {L : Nat → Nat → Int64} {R : Nat → Nat → Option Nat} {sz : Nat} {Q : Option Value → qMem → Prop} {p : qPa}
theorem u11039 {a : Int32} (hK : qLay K sz) (hR : qRef R) (cI : CI I p) (ht : qIn (pS p) a → Q (some (.int 1)) (K, I, L, R, sz)) (hf : ¬ qIn (pS p) a → Q (some (.int 0)) (K, I, L, R, sz)) : X d 0 0 11039 0 0 0 (qent (qml 11039) [.ref 0, .int a]) [] (K, I, L, R, sz) Q :=
  s11039 hK hR cI.lS cI.w5 (fun j h1 h2 => ht ⟨j, h1, h2⟩) (fun h => hf (fun ⟨j, h1, h2⟩ => h j h1 h2))
theorem u11040 {a : Int32} (hK : qLay K sz) (hR : qRef R) (cI : CI I p) (ht : qIn (pM p) a → Q (some (.int 1)) (K, I, L, R, sz)) (hf : ¬ qIn (pM p) a → Q (some (.int 0)) (K, I, L, R, sz)) : X d 0 0 11040 0 0 0 (qent (qml 11040) [.ref 0, .int a]) [] (K, I, L, R, sz) Q :=
  s11040 hK hR cI.lM cI.w3 (fun j h1 h2 => ht ⟨j, h1, h2⟩) (fun h => hf (fun ⟨j, h1, h2⟩ => h j h1 h2))
theorem RI.mS (r : RI I p) (cI : CI I p) : I 73 24 = nI (pS p) := by rw [r.1.2.1]; exact cI.lS
theorem RI.mM (r : RI I p) (cI : CI I p) : I 73 25 = nI (pM p) := by rw [r.1.2.2.1]; exact cI.lM
theorem u12046 {a : Int32} (hK : qLay K sz) (cI : CI I p) (rI : RI I p) (ht : qIn (pS p) a → Q (some (.int 1)) (K, I, L, R, sz)) (hf : ¬ qIn (pS p) a → Q (some (.int 0)) (K, I, L, R, sz)) : X (d + 1) 0 0 12046 0 0 0 (qent (qml 12046) [.ref 73, .int a]) [] (K, I, L, R, sz) Q :=
  s12046 hK (rI.mS cI) cI.w5 (fun j h1 h2 => ht ⟨j, h1, h2⟩) (fun h => hf (fun ⟨j, h1, h2⟩ => h j h1 h2))
theorem u12047 {a : Int32} (hK : qLay K sz) (cI : CI I p) (rI : RI I p) (ht : qIn (pM p) a → Q (some (.int 1)) (K, I, L, R, sz)) (hf : ¬ qIn (pM p) a → Q (some (.int 0)) (K, I, L, R, sz)) : X (d + 1) 0 0 12047 0 0 0 (qent (qml 12047) [.ref 73, .int a]) [] (K, I, L, R, sz) Q :=
  s12047 hK (rI.mM cI) cI.w3 (fun j h1 h2 => ht ⟨j, h1, h2⟩) (fun h => hf (fun ⟨j, h1, h2⟩ => h j h1 h2))
theorem t11012 {a : Int32} {b : Int32}  (hK : qLay K sz) (hR : qRef R) (cI : CI I p) (b1 : qIn (pS p) a → 0 ≤ b → ∀ I3 : Nat → Nat → Int32, qLk I p b I3 → vp_in a 5) (q1 : qIn (pS p) a → 0 ≤ b → ∀ I3 : Nat → Nat → Int32, qLk I p b I3 → Q (some (.int (I3 70 a.toNatClampNeg))) (K, I3, L, R, sz)) (q2 : qIn (pS p) a → ¬ 0 ≤ b → Q (some (.int (-1000000))) (K, I, L, R, sz)) (q3 : ¬ qIn (pS p) a → Q (some (.int (-1000000))) (K, I, L, R, sz)) : X (d + 7) 0 0 11012 0 0 0 (qent (qml 11012) [.ref 0, .int a, .int b]) [] (K, I, L, R, sz) Q := show X _ 0 0 11012 0 0 0 [some (.ref 0), some (.int a), some (.int b)] [] _ _ from x_ald0 k11012_0 <| x_ild1 k11012_1 <| x_cV1 (MCz := 0) (MSz := 0) k11012_2 v11_133_10 (hK.at rfl) (Nat.le_of_ble_eq_true rfl) (Nat.le_of_ble_eq_true rfl) (Nat.le_refl _) (Nat.le_refl _) <| u11039 hK hR cI (fun g1 => x_ifeqF (tgt := 12) k11012_5 (by decide) (show ¬ (1 : Int32) = 0 by decide) <| x_ild2 k11012_8 <| x_ifge (tgt := 15) k11012_9 (by decide) (fun h2 => x_ald0 k11012_15 <| x_ild2 k11012_16 <| x_cV1 (MCz := 0) (MSz := 0) k11012_17 v11_196_10 (hK.at rfl) (Nat.le_of_ble_eq_true rfl) (Nat.le_of_ble_eq_true rfl) (Nat.le_refl _) (Nat.le_refl _) <| u11044 hK hR cI (fun I3 g4 => x_ald0 k11012_20 <| x_getR k11012_21 f11_73_10 (hK.at rfl) rfl (hR _ _ _ rfl) <| x_getR k11012_24 f11_199_5 (hK.at rfl) rfl (hR _ _ _ rfl) <| x_ild1 k11012_27 <| x_iald k11012_28 (hK.at rfl) (b1 g1 h2 I3 g4) <| x_iret k11012_29 rfl (Nat.le_refl _) (Nat.le_refl _) <| (q1 g1 h2 I3 g4))) (fun h2 => x_ldcI k11012_12 c11_153 <| x_iret k11012_14 rfl (Nat.le_refl _) (Nat.le_refl _) <| (q2 g1 h2))) (fun g5 => x_ifeqT (tgt := 12) k11012_5 (by decide) (show (0 : Int32) = 0 by decide) <| x_ldcI k11012_12 c11_153 <| x_iret k11012_14 rfl (Nat.le_refl _) (Nat.le_refl _) <| (q3 g5))
theorem t11013 {a : Int32} {b : Int32}  (hK : qLay K sz) (hR : qRef R) (cI : CI I p) (b1 : qIn (pS p) a → 0 ≤ b → ∀ I3 : Nat → Nat → Int32, qLk I p b I3 → I3 69 2 = nI (pS p)) (b2 : qIn (pS p) a → 0 ≤ b → ∀ I3 : Nat → Nat → Int32, qLk I p b I3 → pS p ≤ 5) (q1 : qIn (pS p) a → 0 ≤ b → ∀ I3 : Nat → Nat → Int32, qLk I p b I3 → Q (some (.int (hd (I3 70) (pS p) a))) (K, I3, L, R, sz)) (q2 : qIn (pS p) a → ¬ 0 ≤ b → Q (some (.int (-1000000))) (K, I, L, R, sz)) (q3 : ¬ qIn (pS p) a → Q (some (.int (-1000000))) (K, I, L, R, sz)) : X (d + 7) 0 0 11013 0 0 0 (qent (qml 11013) [.ref 0, .int a, .int b]) [] (K, I, L, R, sz) Q := show X _ 0 0 11013 0 0 0 [some (.ref 0), some (.int a), some (.int b)] [] _ _ from x_ald0 k11013_0 <| x_ild1 k11013_1 <| x_cV1 (MCz := 0) (MSz := 0) k11013_2 v11_133_10 (hK.at rfl) (Nat.le_of_ble_eq_true rfl) (Nat.le_of_ble_eq_true rfl) (Nat.le_refl _) (Nat.le_refl _) <| u11039 hK hR cI (fun g1 => x_ifeqF (tgt := 12) k11013_5 (by decide) (show ¬ (1 : Int32) = 0 by decide) <| x_ild2 k11013_8 <| x_ifge (tgt := 15) k11013_9 (by decide) (fun h2 => x_ald0 k11013_15 <| x_ild2 k11013_16 <| x_cV1 (MCz := 0) (MSz := 0) k11013_17 v11_196_10 (hK.at rfl) (Nat.le_of_ble_eq_true rfl) (Nat.le_of_ble_eq_true rfl) (Nat.le_refl _) (Nat.le_refl _) <| u11044 hK hR cI (fun I3 g4 => x_ald0 k11013_20 <| x_getR k11013_21 f11_73_10 (hK.at rfl) rfl (hR _ _ _ rfl) <| x_ild1 k11013_24 <| x_cV1 (MCz := 0) (MSz := 0) k11013_25 v11_202_5 (hK.at rfl) (Nat.le_of_ble_eq_true rfl) (Nat.le_of_ble_eq_true rfl) (Nat.le_refl _) (Nat.le_refl _) <| u5002 hK hR (b1 g1 h2 I3 g4) (b2 g1 h2 I3 g4) (x_iret k11013_28 rfl (Nat.le_refl _) (Nat.le_refl _) <| (q1 g1 h2 I3 g4)))) (fun h2 => x_ldcI k11013_12 c11_153 <| x_iret k11013_14 rfl (Nat.le_refl _) (Nat.le_refl _) <| (q2 g1 h2))) (fun g5 => x_ifeqT (tgt := 12) k11013_5 (by decide) (show (0 : Int32) = 0 by decide) <| x_ldcI k11013_12 c11_153 <| x_iret k11013_14 rfl (Nat.le_refl _) (Nat.le_refl _) <| (q3 g5))
theorem t11014 {a : Int32} {b : Int32}  (hK : qLay K sz) (hR : qRef R) (cI : CI I p) (b1 : qIn (pM p) a → 0 ≤ b → ∀ I3 : Nat → Nat → Int32, qLk I p b I3 → I3 69 2 = nI (pS p)) (b2 : qIn (pM p) a → 0 ≤ b → ∀ I3 : Nat → Nat → Int32, qLk I p b I3 → pS p ≤ 5) (q1 : qIn (pM p) a → 0 ≤ b → ∀ I3 : Nat → Nat → Int32, qLk I p b I3 → Q (some (.int (hb (I3 70) (pS p) a (pS p)))) (K, I3, L, R, sz)) (q2 : qIn (pM p) a → ¬ 0 ≤ b → Q (some (.int (-1))) (K, I, L, R, sz)) (q3 : ¬ qIn (pM p) a → Q (some (.int (-1))) (K, I, L, R, sz)) : X (d + 7) 0 0 11014 0 0 0 (qent (qml 11014) [.ref 0, .int a, .int b]) [] (K, I, L, R, sz) Q := show X _ 0 0 11014 0 0 0 [some (.ref 0), some (.int a), some (.int b)] [] _ _ from x_ald0 k11014_0 <| x_ild1 k11014_1 <| x_cV1 (MCz := 0) (MSz := 0) k11014_2 v11_144_10 (hK.at rfl) (Nat.le_of_ble_eq_true rfl) (Nat.le_of_ble_eq_true rfl) (Nat.le_refl _) (Nat.le_refl _) <| u11040 hK hR cI (fun g1 => x_ifeqF (tgt := 12) k11014_5 (by decide) (show ¬ (1 : Int32) = 0 by decide) <| x_ild2 k11014_8 <| x_ifge (tgt := 14) k11014_9 (by decide) (fun h2 => x_ald0 k11014_14 <| x_ild2 k11014_15 <| x_cV1 (MCz := 0) (MSz := 0) k11014_16 v11_196_10 (hK.at rfl) (Nat.le_of_ble_eq_true rfl) (Nat.le_of_ble_eq_true rfl) (Nat.le_refl _) (Nat.le_refl _) <| u11044 hK hR cI (fun I3 g4 => x_ald0 k11014_19 <| x_getR k11014_20 f11_73_10 (hK.at rfl) rfl (hR _ _ _ rfl) <| x_ild1 k11014_23 <| x_cV1 (MCz := 0) (MSz := 0) k11014_24 v11_205_5 (hK.at rfl) (Nat.le_of_ble_eq_true rfl) (Nat.le_of_ble_eq_true rfl) (Nat.le_refl _) (Nat.le_refl _) <| u5006 hK hR (b1 g1 h2 I3 g4) (b2 g1 h2 I3 g4) (x_iret k11014_27 rfl (Nat.le_refl _) (Nat.le_refl _) <| (q1 g1 h2 I3 g4)))) (fun h2 => x_iconst (v := (-1)) k11014_12 rfl <| x_iret k11014_13 rfl (Nat.le_refl _) (Nat.le_refl _) <| (q2 g1 h2))) (fun g5 => x_ifeqT (tgt := 12) k11014_5 (by decide) (show (0 : Int32) = 0 by decide) <| x_iconst (v := (-1)) k11014_12 rfl <| x_iret k11014_13 rfl (Nat.le_refl _) (Nat.le_refl _) <| (q3 g5))
theorem t12064 {a : Int32} {b : Int32}  (hK : qLay K sz) (hR : qRef R) (cI : CI I p) (rI : RI I p) (b1 : qIn (pS p) a → 0 ≤ b → ∀ I3 : Nat → Nat → Int32, qLr I p b I3 → vp_in a 5) (q1 : qIn (pS p) a → 0 ≤ b → ∀ I3 : Nat → Nat → Int32, qLr I p b I3 → Q (some (.int (I3 89 a.toNatClampNeg))) (K, I3, L, R, sz)) (q2 : qIn (pS p) a → ¬ 0 ≤ b → Q (some (.int (-1000000))) (K, I, L, R, sz)) (q3 : ¬ qIn (pS p) a → Q (some (.int (-1000000))) (K, I, L, R, sz)) : X (d + 8) 0 0 12064 0 0 0 (qent (qml 12064) [.ref 73, .int a, .int b]) [] (K, I, L, R, sz) Q := show X _ 0 0 12064 0 0 0 [some (.ref 73), some (.int a), some (.int b)] [] _ _ from x_ald0 k12064_0 <| x_ild1 k12064_1 <| x_cV1 (MCz := 0) (MSz := 0) k12064_2 v12_311_11 (hK.at rfl) (Nat.le_of_ble_eq_true rfl) (Nat.le_of_ble_eq_true rfl) (Nat.le_refl _) (Nat.le_refl _) <| u12046 hK cI rI (fun g1 => x_ifeqF (tgt := 12) k12064_5 (by decide) (show ¬ (1 : Int32) = 0 by decide) <| x_ild2 k12064_8 <| x_ifge (tgt := 16) k12064_9 (by decide) (fun h2 => x_ald0 k12064_16 <| x_ild2 k12064_17 <| x_cV1 (MCz := 0) (MSz := 0) k12064_18 v12_348_11 (hK.at rfl) (Nat.le_of_ble_eq_true rfl) (Nat.le_of_ble_eq_true rfl) (Nat.le_refl _) (Nat.le_refl _) <| u12059 hK hR cI rI (fun I3 g4 => x_ald0 k12064_21 <| x_getR k12064_22 f12_62_11 (hK.at rfl) rfl (hR _ _ _ rfl) <| x_ild1 k12064_25 <| x_iald k12064_26 (hK.at rfl) (b1 g1 h2 I3 g4) <| x_iret k12064_27 rfl (Nat.le_refl _) (Nat.le_refl _) <| (q1 g1 h2 I3 g4))) (fun h2 => x_ldcW k12064_12 c12_317 <| x_iret k12064_15 rfl (Nat.le_refl _) (Nat.le_refl _) <| (q2 g1 h2))) (fun g5 => x_ifeqT (tgt := 12) k12064_5 (by decide) (show (0 : Int32) = 0 by decide) <| x_ldcW k12064_12 c12_317 <| x_iret k12064_15 rfl (Nat.le_refl _) (Nat.le_refl _) <| (q3 g5))
theorem t12065 {a : Int32} {b : Int32}  (hK : qLay K sz) (hR : qRef R) (cI : CI I p) (rI : RI I p) (b1 : qIn (pS p) a → 0 ≤ b → ∀ I3 : Nat → Nat → Int32, qLr I p b I3 → I3 73 24 = nI (pS p)) (b2 : qIn (pS p) a → 0 ≤ b → ∀ I3 : Nat → Nat → Int32, qLr I p b I3 → pS p ≤ 5) (b3 : qIn (pS p) a → 0 ≤ b → ∀ I3 : Nat → Nat → Int32, qLr I p b I3 → qVal (I3 89) (pS p)) (b4 : qIn (pS p) a → 0 ≤ b → ∀ I3 : Nat → Nat → Int32, qLr I p b I3 → qIn (pS p) a) (q1 : qIn (pS p) a → 0 ≤ b → ∀ I3 : Nat → Nat → Int32, qLr I p b I3 → Q (some (.int (hd (I3 89) (pS p) a))) (K, I3, L, R, sz)) (q2 : qIn (pS p) a → ¬ 0 ≤ b → Q (some (.int (-1000000))) (K, I, L, R, sz)) (q3 : ¬ qIn (pS p) a → Q (some (.int (-1000000))) (K, I, L, R, sz)) : X (d + 8) 0 0 12065 0 0 0 (qent (qml 12065) [.ref 73, .int a, .int b]) [] (K, I, L, R, sz) Q := show X _ 0 0 12065 0 0 0 [some (.ref 73), some (.int a), some (.int b)] [] _ _ from x_ald0 k12065_0 <| x_ild1 k12065_1 <| x_cV1 (MCz := 0) (MSz := 0) k12065_2 v12_311_11 (hK.at rfl) (Nat.le_of_ble_eq_true rfl) (Nat.le_of_ble_eq_true rfl) (Nat.le_refl _) (Nat.le_refl _) <| u12046 hK cI rI (fun g1 => x_ifeqF (tgt := 12) k12065_5 (by decide) (show ¬ (1 : Int32) = 0 by decide) <| x_ild2 k12065_8 <| x_ifge (tgt := 16) k12065_9 (by decide) (fun h2 => x_ald0 k12065_16 <| x_ild2 k12065_17 <| x_cV1 (MCz := 0) (MSz := 0) k12065_18 v12_348_11 (hK.at rfl) (Nat.le_of_ble_eq_true rfl) (Nat.le_of_ble_eq_true rfl) (Nat.le_refl _) (Nat.le_refl _) <| u12059 hK hR cI rI (fun I3 g4 => x_ald0 k12065_21 <| x_ild1 k12065_22 <| x_cV1 (MCz := 0) (MSz := 0) k12065_23 v12_345_11 (hK.at rfl) (Nat.le_of_ble_eq_true rfl) (Nat.le_of_ble_eq_true rfl) (Nat.le_refl _) (Nat.le_refl _) <| v12062 hK hR (b1 g1 h2 I3 g4) (b2 g1 h2 I3 g4) (b3 g1 h2 I3 g4) (b4 g1 h2 I3 g4) (x_iret k12065_26 rfl (Nat.le_refl _) (Nat.le_refl _) <| (q1 g1 h2 I3 g4)))) (fun h2 => x_ldcW k12065_12 c12_317 <| x_iret k12065_15 rfl (Nat.le_refl _) (Nat.le_refl _) <| (q2 g1 h2))) (fun g5 => x_ifeqT (tgt := 12) k12065_5 (by decide) (show (0 : Int32) = 0 by decide) <| x_ldcW k12065_12 c12_317 <| x_iret k12065_15 rfl (Nat.le_refl _) (Nat.le_refl _) <| (q3 g5))
theorem t12066 {a : Int32} {b : Int32}  (hK : qLay K sz) (hR : qRef R) (cI : CI I p) (rI : RI I p) (b1 : qIn (pM p) a → 0 ≤ b → ∀ I3 : Nat → Nat → Int32, qLr I p b I3 → I3 73 24 = nI (pS p)) (b2 : qIn (pM p) a → 0 ≤ b → ∀ I3 : Nat → Nat → Int32, qLr I p b I3 → pS p ≤ 5) (b3 : qIn (pM p) a → 0 ≤ b → ∀ I3 : Nat → Nat → Int32, qLr I p b I3 → qVal (I3 89) (pS p)) (q1 : qIn (pM p) a → 0 ≤ b → ∀ I3 : Nat → Nat → Int32, qLr I p b I3 → Q (some (.int (hb (I3 89) (pS p) a (pS p)))) (K, I3, L, R, sz)) (q2 : qIn (pM p) a → ¬ 0 ≤ b → Q (some (.int (-1))) (K, I, L, R, sz)) (q3 : ¬ qIn (pM p) a → Q (some (.int (-1))) (K, I, L, R, sz)) : X (d + 8) 0 0 12066 0 0 0 (qent (qml 12066) [.ref 73, .int a, .int b]) [] (K, I, L, R, sz) Q := show X _ 0 0 12066 0 0 0 [some (.ref 73), some (.int a), some (.int b)] [] _ _ from x_ald0 k12066_0 <| x_ild1 k12066_1 <| x_cV1 (MCz := 0) (MSz := 0) k12066_2 v12_314_11 (hK.at rfl) (Nat.le_of_ble_eq_true rfl) (Nat.le_of_ble_eq_true rfl) (Nat.le_refl _) (Nat.le_refl _) <| u12047 hK cI rI (fun g1 => x_ifeqF (tgt := 12) k12066_5 (by decide) (show ¬ (1 : Int32) = 0 by decide) <| x_ild2 k12066_8 <| x_ifge (tgt := 14) k12066_9 (by decide) (fun h2 => x_ald0 k12066_14 <| x_ild2 k12066_15 <| x_cV1 (MCz := 0) (MSz := 0) k12066_16 v12_348_11 (hK.at rfl) (Nat.le_of_ble_eq_true rfl) (Nat.le_of_ble_eq_true rfl) (Nat.le_refl _) (Nat.le_refl _) <| u12059 hK hR cI rI (fun I3 g4 => x_ald0 k12066_19 <| x_ild1 k12066_20 <| x_cV1 (MCz := 0) (MSz := 0) k12066_21 v12_351_11 (hK.at rfl) (Nat.le_of_ble_eq_true rfl) (Nat.le_of_ble_eq_true rfl) (Nat.le_refl _) (Nat.le_refl _) <| v12063 hK hR (b1 g1 h2 I3 g4) (b2 g1 h2 I3 g4) (b3 g1 h2 I3 g4) (x_iret k12066_24 rfl (Nat.le_refl _) (Nat.le_refl _) <| (q1 g1 h2 I3 g4)))) (fun h2 => x_iconst (v := (-1)) k12066_12 rfl <| x_iret k12066_13 rfl (Nat.le_refl _) (Nat.le_refl _) <| (q2 g1 h2))) (fun g5 => x_ifeqT (tgt := 12) k12066_5 (by decide) (show (0 : Int32) = 0 by decide) <| x_iconst (v := (-1)) k12066_12 rfl <| x_iret k12066_13 rfl (Nat.le_refl _) (Nat.le_refl _) <| (q3 g5))
theorem s11012 {a b : Int32} (hK : qLay K sz) (hR : qRef R) (cI : CI I p) (hq : ∀ J, qAf I p J → Q (some (.int (fLeans (LEn I p) p a b))) (K, J, L, R, sz)) : X (d + 7) 0 0 11012 0 0 0 (qent (qml 11012) [.ref 0, .int a, .int b]) [] (K, I, L, R, sz) Q := by
  unfold fLeans at hq
  refine t11012 hK hR cI ?_ ?_ ?_ ?_
  · intro h1 _ J _
    exact qIn_vp h1 cI.w5 (by omega)
  · intro h1 h2 J hJ
    have := hq J (hJ.af cI)
    rw [if_pos ⟨h1, h2⟩, ← hJ.2.2.1 _ (Nat.lt_of_lt_of_le (qIn_c h1 cI.w5) cI.w5)] at this
    exact this
  · intro h1 h2
    have := hq I (qAf.refl cI)
    rw [if_neg (fun q => h2 q.2)] at this
    exact this
  · intro h1
    have := hq I (qAf.refl cI)
    rw [if_neg (fun q => h1 q.1)] at this
    exact this
theorem s12064 {a b : Int32} (hK : qLay K sz) (hR : qRef R) (cI : CI I p) (rI : RI I p) (hq : ∀ J, qAf I p J → Q (some (.int (fLeans (LEn I p) p a b))) (K, J, L, R, sz)) : X (d + 8) 0 0 12064 0 0 0 (qent (qml 12064) [.ref 73, .int a, .int b]) [] (K, I, L, R, sz) Q := by
  unfold fLeans at hq
  refine t12064 hK hR cI rI ?_ ?_ ?_ ?_
  · intro h1 _ J _
    exact qIn_vp h1 cI.w5 (by omega)
  · intro h1 h2 J hJ
    have := hq J (hJ.af cI)
    rw [if_pos ⟨h1, h2⟩, ← hJ.2.1 _ (qIn_c h1 cI.w5)] at this
    exact this
  · intro h1 h2
    have := hq I (qAf.refl cI)
    rw [if_neg (fun q => h2 q.2)] at this
    exact this
  · intro h1
    have := hq I (qAf.refl cI)
    rw [if_neg (fun q => h1 q.1)] at this
    exact this
theorem s11013 {a b : Int32} (hK : qLay K sz) (hR : qRef R) (cI : CI I p) (hq : ∀ J, qAf I p J → Q (some (.int (fHead (LEn I p) p a b))) (K, J, L, R, sz)) : X (d + 7) 0 0 11013 0 0 0 (qent (qml 11013) [.ref 0, .int a, .int b]) [] (K, I, L, R, sz) Q := by
  unfold fHead at hq
  refine t11013 hK hR cI (fun _ _ J hJ => hJ.2.1) (fun _ _ J hJ => cI.w5) ?_ ?_ ?_
  · intro h1 h2 J hJ
    have := hq J (hJ.af cI)
    obtain ⟨s, hs, rfl⟩ := h1
    rw [if_pos ⟨⟨s, hs, rfl⟩, h2⟩, ← hJ.hd cI hs] at this
    exact this
  · intro h1 h2
    have := hq I (qAf.refl cI)
    rw [if_neg (fun q => h2 q.2)] at this
    exact this
  · intro h1
    have := hq I (qAf.refl cI)
    rw [if_neg (fun q => h1 q.1)] at this
    exact this
theorem s12065 {a b : Int32} (hK : qLay K sz) (hR : qRef R) (cI : CI I p) (rI : RI I p) (hq : ∀ J, qAf I p J → Q (some (.int (fHead (LEn I p) p a b))) (K, J, L, R, sz)) : X (d + 8) 0 0 12065 0 0 0 (qent (qml 12065) [.ref 73, .int a, .int b]) [] (K, I, L, R, sz) Q := by
  unfold fHead at hq
  refine t12065 hK hR cI rI (fun _ _ J hJ => ?_) (fun _ _ J hJ => cI.w5) (fun _ _ J hJ => hJ.val cI) (fun h1 _ _ _ => h1) ?_ ?_ ?_
  · rw [hJ.1 _ _ (scN_no (by omega) _)]; exact rI.mS cI
  · intro h1 h2 J hJ
    have := hq J (hJ.af cI)
    obtain ⟨s, hs, rfl⟩ := h1
    rw [if_pos ⟨⟨s, hs, rfl⟩, h2⟩, ← hJ.hd cI hs] at this
    exact this
  · intro h1 h2
    have := hq I (qAf.refl cI)
    rw [if_neg (fun q => h2 q.2)] at this
    exact this
  · intro h1
    have := hq I (qAf.refl cI)
    rw [if_neg (fun q => h1 q.1)] at this
    exact this
theorem s11014 {a b : Int32} (hK : qLay K sz) (hR : qRef R) (cI : CI I p) (hq : ∀ J, qAf I p J → Q (some (.int (fHolds (LEn I p) p a b))) (K, J, L, R, sz)) : X (d + 7) 0 0 11014 0 0 0 (qent (qml 11014) [.ref 0, .int a, .int b]) [] (K, I, L, R, sz) Q := by
  unfold fHolds at hq
  refine t11014 hK hR cI (fun _ _ J hJ => hJ.2.1) (fun _ _ J hJ => cI.w5) ?_ ?_ ?_
  · intro h1 h2 J hJ
    have := hq J (hJ.af cI)
    rw [if_pos ⟨h1, h2⟩, ← hJ.hb cI] at this
    exact this
  · intro h1 h2
    have := hq I (qAf.refl cI)
    rw [if_neg (fun q => h2 q.2)] at this
    exact this
  · intro h1
    have := hq I (qAf.refl cI)
    rw [if_neg (fun q => h1 q.1)] at this
    exact this
theorem s12066 {a b : Int32} (hK : qLay K sz) (hR : qRef R) (cI : CI I p) (rI : RI I p) (hq : ∀ J, qAf I p J → Q (some (.int (fHolds (LEn I p) p a b))) (K, J, L, R, sz)) : X (d + 8) 0 0 12066 0 0 0 (qent (qml 12066) [.ref 73, .int a, .int b]) [] (K, I, L, R, sz) Q := by
  unfold fHolds at hq
  refine t12066 hK hR cI rI (fun _ _ J hJ => ?_) (fun _ _ J hJ => cI.w5) (fun _ _ J hJ => hJ.val cI) ?_ ?_ ?_
  · rw [hJ.1 _ _ (scN_no (by omega) _)]; exact rI.mS cI
  · intro h1 h2 J hJ
    have := hq J (hJ.af cI)
    rw [if_pos ⟨h1, h2⟩, ← hJ.hb cI] at this
    exact this
  · intro h1 h2
    have := hq I (qAf.refl cI)
    rw [if_neg (fun q => h2 q.2)] at this
    exact this
  · intro h1
    have := hq I (qAf.refl cI)
    rw [if_neg (fun q => h1 q.1)] at this
    exact this
end L39
