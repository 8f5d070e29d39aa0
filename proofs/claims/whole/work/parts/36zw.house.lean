/-! the class reads houses: the items -/
section L36zw
variable {d : Nat} {K : qK} {I : Nat → Nat → Int32} {L : Nat → Nat → Int64} {R : Nat → Nat → Option Nat} {sz : Nat} {Q : Option Value → qMem → Prop} {b : Nat → Int32} {n : Nat}
theorem e2004 {a : Int32}    (q1 : a = 104 → Q (some (.int 1)) (K, I, L, R, sz)) (q2 : ¬ a = 104 → ¬ a = 110 → Q (some (.int 0)) (K, I, L, R, sz)) (q3 : ¬ a = 104 → a = 110 → Q (some (.int 1)) (K, I, L, R, sz)) : X d 0 0 2004 0 0 0 (qent (qml 2004) [.int a]) [] (K, I, L, R, sz) Q := show X _ 0 0 2004 0 0 0 [some (.int a)] [] _ _ from x_ild0 k2004_0 <| x_bipush (v := 104) k2004_1 rfl <| x_icmpeq (tgt := 12) k2004_3 (by decide) (fun h1 => x_iconst (v := 1) k2004_12 rfl <| x_goto (tgt := 17) k2004_13 (by decide) <| x_iret k2004_17 rfl (Nat.le_refl _) (Nat.le_refl _) <| (q1 h1)) (fun h1 => x_ild0 k2004_6 <| x_bipush (v := 110) k2004_7 rfl <| x_icmpne (tgt := 16) k2004_9 (by decide) (fun h2 => x_iconst (v := 0) k2004_16 rfl <| x_iret k2004_17 rfl (Nat.le_refl _) (Nat.le_refl _) <| (q2 h1 h2)) (fun h2 => x_iconst (v := 1) k2004_12 rfl <| x_goto (tgt := 17) k2004_13 (by decide) <| x_iret k2004_17 rfl (Nat.le_refl _) (Nat.le_refl _) <| (q3 h1 h2)))
theorem qlk2005_1 {x : Int32} (h104 : ¬ x = 104) (h110 : ¬ x = 110) (h111 : ¬ x = 111) (h112 : ¬ x = 112) (h119 : ¬ x = 119) : Op.lookupswitch.offset [(104, 56), (110, 58), (111, 51), (112, 61), (119, 53)] (71) x.toInt = (71) := by
  have f : ∀ a : Int32, ¬ x = a → ¬ a.toInt = x.toInt := fun a h e => h (Int32.toInt_inj.mp e.symm)
  rw [Op.lookupswitch.offset_cons, if_neg (show ¬ ((104 : Int) = x.toInt) from f 104 h104), Op.lookupswitch.offset_cons, if_neg (show ¬ ((110 : Int) = x.toInt) from f 110 h110), Op.lookupswitch.offset_cons, if_neg (show ¬ ((111 : Int) = x.toInt) from f 111 h111), Op.lookupswitch.offset_cons, if_neg (show ¬ ((112 : Int) = x.toInt) from f 112 h112), Op.lookupswitch.offset_cons, if_neg (show ¬ ((119 : Int) = x.toInt) from f 119 h119), Op.lookupswitch.offset_nil]
theorem e2005 {a : Int32}  (hK : qLay K sz) (hR : qRef R)  (q1 : a = 104 → Q (some (.int 3)) (K, I, L, R, sz)) (q2 : ¬ a = 104 → a = 110 → Q (some (.int 30)) (K, I, L, R, sz)) (q3 : ¬ a = 104 → ¬ a = 110 → a = 111 → Q (some (.int 2)) (K, I, L, R, sz)) (q4 : ¬ a = 104 → ¬ a = 110 → ¬ a = 111 → a = 112 → Q (some (.int ((I 4 3) - 2))) (K, I, L, R, sz)) (q5 : ¬ a = 104 → ¬ a = 110 → ¬ a = 111 → ¬ a = 112 → a = 119 → Q (some (.int 9)) (K, I, L, R, sz)) (q6 : ¬ a = 104 → ¬ a = 110 → ¬ a = 111 → ¬ a = 112 → ¬ a = 119 → Q (some (.int ((I 4 0) - 1))) (K, I, L, R, sz)) : X d 0 0 2005 0 0 0 (qent (qml 2005) [.ref 3, .int a]) [] (K, I, L, R, sz) Q := show X _ 0 0 2005 0 0 0 [some (.ref 3), some (.int a)] [] _ _ from x_ild1 k2005_0 <| (Classical.byCases (fun h1 => x_lookup (off := 56) (tgt := 57) k2005_1 (by decide) (by rw [h1]; rfl) (by decide) (x_iconst (v := 3) k2005_57 rfl <| x_iret k2005_58 rfl (Nat.le_refl _) (Nat.le_refl _) <| (q1 h1))) (fun h1 => (Classical.byCases (fun h2 => x_lookup (off := 58) (tgt := 59) k2005_1 (by decide) (by rw [h2]; rfl) (by decide) (x_bipush (v := 30) k2005_59 rfl <| x_iret k2005_61 rfl (Nat.le_refl _) (Nat.le_refl _) <| (q2 h1 h2))) (fun h2 => (Classical.byCases (fun h3 => x_lookup (off := 51) (tgt := 52) k2005_1 (by decide) (by rw [h3]; rfl) (by decide) (x_iconst (v := 2) k2005_52 rfl <| x_iret k2005_53 rfl (Nat.le_refl _) (Nat.le_refl _) <| (q3 h1 h2 h3))) (fun h3 => (Classical.byCases (fun h4 => x_lookup (off := 61) (tgt := 62) k2005_1 (by decide) (by rw [h4]; rfl) (by decide) (x_ald0 k2005_62 <| x_getR k2005_63 f2_14_2 (hK.at rfl) rfl (hR _ _ _ rfl) <| x_getI k2005_66 f2_70_1 (hK.at rfl) rfl <| x_iconst (v := 2) k2005_69 rfl <| x_isub k2005_70 <| x_iret k2005_71 rfl (Nat.le_refl _) (Nat.le_refl _) <| (q4 h1 h2 h3 h4))) (fun h4 => (Classical.byCases (fun h5 => x_lookup (off := 53) (tgt := 54) k2005_1 (by decide) (by rw [h5]; rfl) (by decide) (x_bipush (v := 9) k2005_54 rfl <| x_iret k2005_56 rfl (Nat.le_refl _) (Nat.le_refl _) <| (q5 h1 h2 h3 h4 h5))) (fun h5 => x_lookup (off := 71) (tgt := 72) k2005_1 (by decide) (qlk2005_1 h1 h2 h3 h4 h5) (by decide) (x_ald0 k2005_72 <| x_getR k2005_73 f2_14_2 (hK.at rfl) rfl (hR _ _ _ rfl) <| x_getI k2005_76 f2_35_1 (hK.at rfl) rfl <| x_iconst (v := 1) k2005_79 rfl <| x_isub k2005_80 <| x_iret k2005_81 rfl (Nat.le_refl _) (Nat.le_refl _) <| (q6 h1 h2 h3 h4 h5))))))))))))
theorem s2004 {a : Int32} (hq : Q (some (.int (hLo2 a))) (K, I, L, R, sz)) : X d 0 0 2004 0 0 0 (qent (qml 2004) [.int a]) [] (K, I, L, R, sz) Q := by
  refine e2004 (fun h => ?_) (fun h g => ?_) (fun h g => ?_)
  · rw [show hLo2 a = 1 from if_pos (Or.inl h)] at hq; exact hq
  · rw [show hLo2 a = 0 from if_neg (fun q => q.elim h g)] at hq; exact hq
  · rw [show hLo2 a = 1 from if_pos (Or.inr g)] at hq; exact hq
theorem s2005 {a : Int32} (hK : qLay K sz) (hR : qRef R) (hq : Q (some (.int (hHi2 I a))) (K, I, L, R, sz)) : X d 0 0 2005 0 0 0 (qent (qml 2005) [.ref 3, .int a]) [] (K, I, L, R, sz) Q := by
  refine e2005 hK hR (fun h => ?_) (fun h1 h => ?_) (fun h1 h2 h => ?_) (fun h1 h2 h3 h => ?_) (fun h1 h2 h3 h4 h => ?_) (fun h1 h2 h3 h4 h5 => ?_)
  · rw [show hHi2 I a = 3 by unfold hHi2; rw [h]; rfl] at hq; exact hq
  · rw [show hHi2 I a = 30 by unfold hHi2; rw [h]; rfl] at hq; exact hq
  · rw [show hHi2 I a = 2 by unfold hHi2; rw [h]; rfl] at hq; exact hq
  · rw [show hHi2 I a = (I 4 3) - 2 by unfold hHi2; rw [h]; rfl] at hq; exact hq
  · rw [show hHi2 I a = 9 by unfold hHi2; rw [h]; rfl] at hq; exact hq
  · rw [show hHi2 I a = (I 4 0) - 1 by unfold hHi2; rw [if_neg h3, if_neg h5, if_neg h1, if_neg h2, if_neg h4]] at hq; exact hq
theorem e2003 {o : Nat} {j : Nat} (hj : j < 3) (ho : qAt K sz o (.inr (0, sLen j)))   (q1 : X d 0 0 2003 0 0 5 [some (.ref 3), some (.ref (1000000+j)), some (.ref o), some (.int 0), some (.int 0), none, none, none] [] (K, I, L, R, sz) Q) : X d 0 0 2003 0 0 0 [some (.ref 3), some (.ref (1000000+j)), some (.ref o), none, none, none, none, none] [] (K, I, L, R, sz) Q := x_iconst (v := 0) k2003_0 rfl <| x_ist3 k2003_1 (Nat.le_of_ble_eq_true rfl) rfl <| x_iconst (v := 0) k2003_2 rfl <| x_ist4 k2003_3 (Nat.le_of_ble_eq_true rfl) rfl <| q1
theorem g2003_5 {o : Nat} {x3 : Int32} {x4 : Int32} {a5 : Option Value} {a6 : Option Value} {a7 : Option Value} {j : Nat} (hj : j < 3) (ho : qAt K sz o (.inr (0, sLen j))) (hK : qLay K sz) (hR : qRef R) (b1 : ¬ (nI (sLen j)) < x4 → hSx b n I) (b2 : ¬ (nI (sLen j)) < x4 → ∀ I2 : Nat → Nat → Int32, hNx b n I I2 → ¬ (hVl b n I) = (-1) → hTw (((hVl b n I).toUInt32 % 65536).toInt32)) (b3 : ¬ (nI (sLen j)) < x4 → ∀ I2 : Nat → Nat → Int32, hNx b n I I2 → ¬ (hVl b n I) = (-1) → 0 ≤ (sFind j (((hVl b n I).toUInt32 % 65536).toInt32)) → ¬ ((x3 >>> ((sFind j (((hVl b n I).toUInt32 % 65536).toInt32)) &&& 31)) &&& 1) = 1 → ∀ I7 : Nat → Nat → Int32, I7 = va_up I2 3 (upd (I2 3) 1 ((I2 3 1) + 1)) → hSx b n I7) (b4 : ¬ (nI (sLen j)) < x4 → ∀ I2 : Nat → Nat → Int32, hNx b n I I2 → ¬ (hVl b n I) = (-1) → 0 ≤ (sFind j (((hVl b n I).toUInt32 % 65536).toInt32)) → ¬ ((x3 >>> ((sFind j (((hVl b n I).toUInt32 % 65536).toInt32)) &&& 31)) &&& 1) = 1 → ∀ I7 : Nat → Nat → Int32, I7 = va_up I2 3 (upd (I2 3) 1 ((I2 3 1) + 1)) → ∀ I9 : Nat → Nat → Int32, ∀ r10 : Int32, hNy b n I7 (hLo2 (hVl b n I)) (hHi2 I7 (hVl b n I)) r10 I9 → ¬ r10 = (-1) → (sFind j (((hVl b n I).toUInt32 % 65536).toInt32)) < (Int32.ofNat (sLen j)) → vp_in (sFind j (((hVl b n I).toUInt32 % 65536).toInt32)) (sLen j)) (q1 : (nI (sLen j)) < x4 → Q (some (.int 1)) (K, I, L, R, sz)) (q2 : ¬ (nI (sLen j)) < x4 → ∀ I2 : Nat → Nat → Int32, hNx b n I I2 → ¬ (hVl b n I) = (-1) → 0 ≤ (sFind j (((hVl b n I).toUInt32 % 65536).toInt32)) → ¬ ((x3 >>> ((sFind j (((hVl b n I).toUInt32 % 65536).toInt32)) &&& 31)) &&& 1) = 1 → ∀ I7 : Nat → Nat → Int32, I7 = va_up I2 3 (upd (I2 3) 1 ((I2 3 1) + 1)) → ∀ I9 : Nat → Nat → Int32, ∀ r10 : Int32, hNy b n I7 (hLo2 (hVl b n I)) (hHi2 I7 (hVl b n I)) r10 I9 → r10 = (-1) → Q (some (.int 0)) (K, I9, L, R, sz)) (q3 : ¬ (nI (sLen j)) < x4 → ∀ I2 : Nat → Nat → Int32, hNx b n I I2 → ¬ (hVl b n I) = (-1) → 0 ≤ (sFind j (((hVl b n I).toUInt32 % 65536).toInt32)) → ¬ ((x3 >>> ((sFind j (((hVl b n I).toUInt32 % 65536).toInt32)) &&& 31)) &&& 1) = 1 → ∀ I7 : Nat → Nat → Int32, I7 = va_up I2 3 (upd (I2 3) 1 ((I2 3 1) + 1)) → ∀ I9 : Nat → Nat → Int32, ∀ r10 : Int32, hNy b n I7 (hLo2 (hVl b n I)) (hHi2 I7 (hVl b n I)) r10 I9 → ¬ r10 = (-1) → (sFind j (((hVl b n I).toUInt32 % 65536).toInt32)) < (Int32.ofNat (sLen j)) → ∀ I14 : Nat → Nat → Int32, I14 = va_up I9 o (upd (I9 o) ((sFind j (((hVl b n I).toUInt32 % 65536).toInt32)).toNatClampNeg) r10) → X (d + 4) 0 0 2003 0 0 5 [some (.ref 3), some (.ref (1000000+j)), some (.ref o), some (.int (x3 ||| (1 <<< ((sFind j (((hVl b n I).toUInt32 % 65536).toInt32)) &&& 31)))), some (.int (x4 + 1)), some (.int (hVl b n I)), some (.int (sFind j (((hVl b n I).toUInt32 % 65536).toInt32))), some (.int r10)] [] (K, I14, L, R, sz) Q) (q4 : ¬ (nI (sLen j)) < x4 → ∀ I2 : Nat → Nat → Int32, hNx b n I I2 → ¬ (hVl b n I) = (-1) → 0 ≤ (sFind j (((hVl b n I).toUInt32 % 65536).toInt32)) → ¬ ((x3 >>> ((sFind j (((hVl b n I).toUInt32 % 65536).toInt32)) &&& 31)) &&& 1) = 1 → ∀ I7 : Nat → Nat → Int32, I7 = va_up I2 3 (upd (I2 3) 1 ((I2 3 1) + 1)) → ∀ I9 : Nat → Nat → Int32, ∀ r10 : Int32, hNy b n I7 (hLo2 (hVl b n I)) (hHi2 I7 (hVl b n I)) r10 I9 → ¬ r10 = (-1) → ¬ (sFind j (((hVl b n I).toUInt32 % 65536).toInt32)) < (Int32.ofNat (sLen j)) → Q (some (.int 0)) (K, I9, L, R, sz)) (q5 : ¬ (nI (sLen j)) < x4 → ∀ I2 : Nat → Nat → Int32, hNx b n I I2 → ¬ (hVl b n I) = (-1) → 0 ≤ (sFind j (((hVl b n I).toUInt32 % 65536).toInt32)) → ¬ ((x3 >>> ((sFind j (((hVl b n I).toUInt32 % 65536).toInt32)) &&& 31)) &&& 1) = 1 → ∀ I7 : Nat → Nat → Int32, I7 = va_up I2 3 (upd (I2 3) 1 ((I2 3 1) + 1)) → ∀ I16 : Nat → Nat → Int32, hNn b n I7 (hLo2 (hVl b n I)) (hHi2 I7 (hVl b n I)) I16 → Q (some (.int 0)) (K, I16, L, R, sz)) (q6 : ¬ (nI (sLen j)) < x4 → ∀ I2 : Nat → Nat → Int32, hNx b n I I2 → ¬ (hVl b n I) = (-1) → 0 ≤ (sFind j (((hVl b n I).toUInt32 % 65536).toInt32)) → ((x3 >>> ((sFind j (((hVl b n I).toUInt32 % 65536).toInt32)) &&& 31)) &&& 1) = 1 → Q (some (.int 0)) (K, I2, L, R, sz)) (q7 : ¬ (nI (sLen j)) < x4 → ∀ I2 : Nat → Nat → Int32, hNx b n I I2 → ¬ (hVl b n I) = (-1) → ¬ 0 ≤ (sFind j (((hVl b n I).toUInt32 % 65536).toInt32)) → Q (some (.int 1)) (K, I2, L, R, sz)) (q8 : ¬ (nI (sLen j)) < x4 → ∀ I2 : Nat → Nat → Int32, hNx b n I I2 → (hVl b n I) = (-1) → Q (some (.int 1)) (K, I2, L, R, sz)) : X (d + 4) 0 0 2003 0 0 5 [some (.ref 3), some (.ref (1000000+j)), some (.ref o), some (.int x3), some (.int x4), a5, a6, a7] [] (K, I, L, R, sz) Q := x_ild4 k2003_5 <| x_ald1 k2003_7 <| x_callT (As := []) (rest := [.int x4]) (MCz := 0) (MSz := 0) hj k2003_8 tt2_78 rfl rfl (Nat.le_of_ble_eq_true rfl) (Nat.le_of_ble_eq_true rfl) (Nat.le_refl _) (Nat.le_refl _) <| s15000 hj <| x_icmpgt (tgt := 120) k2003_11 (by decide) (fun h1 => x_iconst (v := 1) k2003_120 rfl <| x_zret k2003_121 rfl (Or.inr rfl) (Nat.le_refl _) (Nat.le_refl _) <| (q1 h1)) (fun h1 => x_ald0 k2003_14 <| x_cU0 (MCz := 0) (MSz := 0) k2003_15 u2_38_2 (hK.at rfl) (Nat.le_of_ble_eq_true rfl) (Nat.le_of_ble_eq_true rfl) (Nat.le_refl _) (Nat.le_refl _) <| h7001 hK hR (b1 h1) (fun I2 g3 => x_ist5 k2003_18 (Nat.le_of_ble_eq_true rfl) rfl <| x_ild5 k2003_20 <| x_iconst (v := (-1)) k2003_22 rfl <| x_icmpne (tgt := 30) k2003_23 (by decide) (fun h4 => x_ald1 k2003_30 <| x_ild5 k2003_31 <| x_i2c k2003_33 <| x_callT (As := [.int (((hVl b n I).toUInt32 % 65536).toInt32)]) (rest := []) (MCz := 0) (MSz := 0) hj k2003_34 tt2_83 rfl rfl (Nat.le_of_ble_eq_true rfl) (Nat.le_of_ble_eq_true rfl) (Nat.le_refl _) (Nat.le_refl _) <| s15003w hj (b2 h1 I2 g3 h4) <| x_ist6 k2003_37 (Nat.le_of_ble_eq_true rfl) rfl <| x_ild6 k2003_39 <| x_ifge (tgt := 46) k2003_41 (by decide) (fun h5 => x_ild3 k2003_46 <| x_ild6 k2003_47 <| x_ishr k2003_49 <| x_iconst (v := 1) k2003_50 rfl <| x_iand k2003_51 <| x_iconst (v := 1) k2003_52 rfl <| x_icmpne (tgt := 58) k2003_53 (by decide) (fun h6 => x_ild3 k2003_58 <| x_iconst (v := 1) k2003_59 rfl <| x_ild6 k2003_60 <| x_ishl k2003_62 <| x_ior k2003_63 <| x_ist3 k2003_64 (Nat.le_of_ble_eq_true rfl) rfl <| x_ald0 k2003_65 <| x_dup k2003_66 rfl <| x_getI k2003_67 f2_20_2 (hK.at rfl) rfl <| x_iconst (v := 1) k2003_70 rfl <| x_iadd k2003_71 <| x_putI k2003_72 f2_20_2 (Or.inl rfl) (hK.at rfl) <| x_nm fun I7 e8 => x_ald0 k2003_75 <| x_iconst (v := 2) k2003_76 rfl <| x_ild5 k2003_77 <| x_cS1 (MCz := 0) (MSz := 0) k2003_79 s2_87 (Nat.le_of_ble_eq_true rfl) (Nat.le_of_ble_eq_true rfl) (Nat.le_refl _) (Nat.le_refl _) <| s2004 (x_ald0 k2003_82 <| x_ild5 k2003_83 <| x_cV1 (MCz := 0) (MSz := 0) k2003_85 v2_90_2 (hK.at rfl) (Nat.le_of_ble_eq_true rfl) (Nat.le_of_ble_eq_true rfl) (Nat.le_refl _) (Nat.le_refl _) <| s2005 hK hR (x_cU3 (MCz := 0) (MSz := 0) k2003_88 u2_31_2 (hK.at rfl) (Nat.le_of_ble_eq_true rfl) (Nat.le_of_ble_eq_true rfl) (Nat.le_refl _) (Nat.le_refl _) <| h7004 hK hR (b3 h1 I2 g3 h4 h5 h6 I7 e8) (fun I9 r10 g11 => x_ist7 k2003_91 (Nat.le_of_ble_eq_true rfl) rfl <| x_ild7 k2003_93 <| x_iconst (v := (-1)) k2003_95 rfl <| x_icmpeq (tgt := 106) k2003_96 (by decide) (fun h12 => x_iconst (v := 0) k2003_106 rfl <| x_zret k2003_107 rfl (Or.inl rfl) (Nat.le_refl _) (Nat.le_refl _) <| (q2 h1 I2 g3 h4 h5 h6 I7 e8 I9 r10 g11 h12)) (fun h12 => x_ild6 k2003_99 <| x_ald2 k2003_101 <| x_alenI k2003_102 ho <| x_icmplt (tgt := 108) k2003_103 (by decide) (fun h13 => x_ald2 k2003_108 <| x_ild6 k2003_109 <| x_ild7 k2003_111 <| x_iast k2003_113 ho (b4 h1 I2 g3 h4 h5 h6 I7 e8 I9 r10 g11 h12 h13) <| x_nm fun I14 e15 => x_inc4 (c := 1) k2003_114 rfl (Nat.le_of_ble_eq_true rfl) rfl <| x_goto (tgt := 5) k2003_117 (by decide) <| (q3 h1 I2 g3 h4 h5 h6 I7 e8 I9 r10 g11 h12 h13 I14 e15)) (fun h13 => x_iconst (v := 0) k2003_106 rfl <| x_zret k2003_107 rfl (Or.inl rfl) (Nat.le_refl _) (Nat.le_refl _) <| (q4 h1 I2 g3 h4 h5 h6 I7 e8 I9 r10 g11 h12 h13)))) (fun I16 g17 => x_ist7 k2003_91 (Nat.le_of_ble_eq_true rfl) rfl <| x_ild7 k2003_93 <| x_iconst (v := (-1)) k2003_95 rfl <| x_icmpeqT (tgt := 106) k2003_96 (by decide) (show (-1 : Int32) = -1 by decide) <| x_iconst (v := 0) k2003_106 rfl <| x_zret k2003_107 rfl (Or.inl rfl) (Nat.le_refl _) (Nat.le_refl _) <| (q5 h1 I2 g3 h4 h5 h6 I7 e8 I16 g17))))) (fun h6 => x_iconst (v := 0) k2003_56 rfl <| x_zret k2003_57 rfl (Or.inl rfl) (Nat.le_refl _) (Nat.le_refl _) <| (q6 h1 I2 g3 h4 h5 h6))) (fun h5 => x_iconst (v := 1) k2003_44 rfl <| x_zret k2003_45 rfl (Or.inr rfl) (Nat.le_refl _) (Nat.le_refl _) <| (q7 h1 I2 g3 h4 h5))) (fun h4 => x_iconst (v := (-1)) k2003_26 rfl <| x_goto (tgt := 37) k2003_27 (by decide) <| x_ist6 k2003_37 (Nat.le_of_ble_eq_true rfl) rfl <| x_ild6 k2003_39 <| x_ifgeF (tgt := 46) k2003_41 (by decide) (show ¬ (-1 : Int32) ≥ 0 by decide) <| x_iconst (v := 1) k2003_44 rfl <| x_zret k2003_45 rfl (Or.inr rfl) (Nat.le_refl _) (Nat.le_refl _) <| (q8 h1 I2 g3 h4))))
theorem tB1 : ∀ (m : Fin 16) (i : Fin 4), ((nI m.val >>> (nI i.val &&& 31)) &&& 1) = 1 ↔ m.val.testBit i.val = true := by decide +kernel
theorem tB2 : ∀ (m : Fin 16) (i : Fin 4), nI m.val ||| (1 <<< (nI i.val &&& 31)) = nI (m.val ||| (1 <<< i.val)) := by decide +kernel
theorem gIt_s {j r t f m i : Nat} {row : Nat → Int32} {k : Nat} (hg : gCol j (b (nx b n k)) = some i) (ht : ¬ m.testBit i = true) : gIt b n j r t (f + 1) m row k = qBd (gNum b n 2 (hLo j i) (hHi r t j i) (nx b n k + 1)) (fun k2 v => gIt b n j r t f (m ||| (1 <<< i)) (upd row i v) k2) := by
  rw [gIt, hg]; exact if_neg ht
theorem gIt_t {j r t f m i : Nat} {row : Nat → Int32} {k : Nat} (hg : gCol j (b (nx b n k)) = some i) (ht : m.testBit i = true) : gIt b n j r t (f + 1) m row k = (nx b n k, none) := by
  rw [gIt, hg]; exact if_pos ht
theorem gIt_n {j r t f m : Nat} {row : Nat → Int32} {k : Nat} (hg : gCol j (b (nx b n k)) = none) : gIt b n j r t (f + 1) m row k = (nx b n k, some row) := by
  rw [gIt, hg]
theorem sLen_4 {j : Nat} (hj : j < 3) : 1 ≤ sLen j ∧ sLen j ≤ 4 := by
  have : j = 0 ∨ j = 1 ∨ j = 2 := by omega
  rcases this with rfl | rfl | rfl <;> decide
theorem hLo_0 {j i : Nat} : 0 ≤ hLo j i := by unfold hLo; split <;> decide
theorem hHi_t : ∀ t : Fin 5, nI (t.val + 1) - 2 = nI t.val - 1 := by decide +kernel
theorem hHi_eq {j i r t : Nat} {c : Int32} (hj : j < 3) (ht : t < 5) (h0 : I 4 0 = nI r) (h3 : j = 2 → I 4 3 = nI (t + 1)) (h : gCol j c = some i) : hLo2 c = hLo j i ∧ hHi2 I c = hHi r t j i := by
  obtain ⟨rfl, hi⟩ := gCol_c hj h
  have : j = 0 ∨ j = 1 ∨ j = 2 := by omega
  rcases this with rfl | rfl | rfl
  · have : i = 0 ∨ i = 1 ∨ i = 2 := by have h3 : i < 3 := hi; omega
    rcases this with rfl | rfl | rfl
    · exact ⟨rfl, show (I 4 0) - 1 = nI r - 1 by rw [h0]⟩
    · exact ⟨rfl, rfl⟩
    · exact ⟨rfl, rfl⟩
  · have : i = 0 := by have h3 : i < 1 := hi; omega
    subst this
    exact ⟨rfl, show (I 4 0) - 1 = nI r - 1 by rw [h0]⟩
  · have : i = 0 ∨ i = 1 ∨ i = 2 ∨ i = 3 := by have h3 : i < 4 := hi; omega
    rcases this with rfl | rfl | rfl | rfl
    · exact ⟨rfl, show (I 4 0) - 1 = nI r - 1 by rw [h0]⟩
    · exact ⟨rfl, rfl⟩
    · exact ⟨rfl, rfl⟩
    · exact ⟨rfl, show (I 4 3) - 2 = nI t - 1 by rw [h3 rfl]; exact hHi_t ⟨t, ht⟩⟩
theorem l2003 {j o r t : Nat} (hj : j < 3) (ho : qAt K sz o (.inr (0, sLen j))) (ho5 : 5 ≤ o) (hK : qLay K sz) (hR : qRef R) (ht : t < 5) (h8 : ∀ k, k < n → hTw (b k)) : ∀ (f i m : Nat) (I : Nat → Nat → Int32) (k : Nat) (row : Nat → Int32) (a5 a6 a7 : Option Value), i + f = sLen j + 1 → m < 16 → cB j m < f → hS b n I k → I 4 0 = nI r → (j = 2 → I 4 3 = nI (t + 1)) → (∀ c, c < sLen j → I o c = row c) → (∀ J k' row', gIt b n j r t f m row k = (k', some row') → hO (hFo o) b n I k' J → (∀ c, c < sLen j → J o c = row' c) → Q (some (.int 1)) (K, J, L, R, sz)) → (∀ J k', gIt b n j r t f m row k = (k', none) → hO (hFo o) b n I k' J → Q (some (.int 0)) (K, J, L, R, sz)) → X (d + 4) 0 0 2003 0 0 5 [some (.ref 3), some (.ref (1000000 + j)), some (.ref o), some (.int (nI m)), some (.int (nI i)), a5, a6, a7] [] (K, I, L, R, sz) Q := by
  have hs4 := sLen_4 hj
  intro f
  induction f with
  | zero => intro i m I k row a5 a6 a7 hi hm hc; exact absurd hc (Nat.not_lt_zero _)
  | succ f ih =>
    intro i m I k row a5 a6 a7 hi hm hc S h40 h43 hrow hok hbad
    have hb := hS.tb S
    have hkn := S.2.2.2
    have g2 := nx_le hb hkn
    have eV : hVl b n I = b (nx b n k) := hVl_at S
    have mA : ∀ j k, hAt j k → hFo o j k := fun j k q => Or.inl q
    have rA : ∀ {J : Nat → Nat → Int32} {k' : Nat}, hO hAt b n I k' J → ∀ c, c < sLen j → J o c = row c := fun g c hc => (g.1 o c (fun q => by have := q.1; omega)).trans (hrow c hc)
    have eF : ¬ hVl b n I = (-1 : Int32) → hTw (((hVl b n I).toUInt32 % 65536).toInt32) ∧ sFind j (((hVl b n I).toUInt32 % 65536).toInt32) = sFind j (b (nx b n k)) := fun h => by
      rw [eV] at h ⊢
      obtain ⟨u, hu, e⟩ := h8 _ (hb.lt h)
      rw [e, i2c_b ⟨u, hu⟩]
      exact ⟨⟨u, hu, rfl⟩, rfl⟩
    have eI : ¬ nI (sLen j) < nI i := by rw [nI_ltI (by omega) (by omega)]; omega
    have eC : ¬ hVl b n I = (-1 : Int32) → 0 ≤ sFind j (((hVl b n I).toUInt32 % 65536).toInt32) → ∃ c, gCol j (b (nx b n k)) = some c ∧ sFind j (((hVl b n I).toUInt32 % 65536).toInt32) = nI c ∧ c < sLen j ∧ c < 4 := fun h h0 => by
      rw [(eF h).2] at h0 ⊢
      cases hg : gCol j (b (nx b n k)) with
      | none => rw [sFind_n hj hg] at h0; exact absurd h0 (by decide)
      | some c => exact ⟨c, rfl, sFind_s hj hg⟩
    have st7 : ∀ I2 I7, ¬ hVl b n I = (-1 : Int32) → hNx b n I I2 → I7 = va_up I2 3 (upd (I2 3) 1 ((I2 3 1) + 1)) → hO hAt b n I (nx b n k + 1) I7 := fun I2 I7 h g e => (hNx.at S g).tr (hS.inc (hNx.at S g).st (hb.lt (by rw [eV] at h; exact h)) e)
    have lh : ∀ I7 c, hO hAt b n I (nx b n k + 1) I7 → gCol j (b (nx b n k)) = some c → hLo2 (hVl b n I) = hLo j c ∧ hHi2 I7 (hVl b n I) = hHi r t j c := fun I7 c g e => by
      rw [eV]
      exact hHi_eq hj ht (by rw [g.1 4 0 (fun q => absurd q.1 (by decide))]; exact h40) (fun q => by rw [g.1 4 3 (fun q => absurd q.1 (by decide))]; exact h43 q) e
    refine g2003_5 hj ho hK hR (fun _ => ⟨k, S⟩) (fun _ I2 g h => (eF h).1) (fun _ I2 g h h0 hbit I7 e => ⟨_, (st7 I2 I7 h g e).st⟩) (fun _ I2 g h h0 hbit I7 e I9 v _ _ _ => ?_) (fun h => absurd h eI) (fun _ I2 g h h0 hbit I7 e I9 v gv hv => ?_) (fun _ I2 g h h0 hbit I7 e I9 v gv hv hlt I14 e14 => ?_) (fun _ I2 g h h0 hbit I7 e I9 v gv hv hlt => ?_) (fun _ I2 g h h0 hbit I7 e I16 gn => ?_) (fun _ I2 g h h0 hbit => ?_) (fun _ I2 g h h0 => ?_) (fun _ I2 g h => ?_)
    · obtain ⟨c, hc1, hc2, hc3, hc4⟩ := eC h h0
      rw [hc2]; exact vI hc3 (by omega)
    · obtain ⟨c, hc1, hc2, hc3, hc4⟩ := eC h h0
      have s7 := st7 I2 I7 h g e
      obtain ⟨k9, e1, e2⟩ := hNy.at s7.st gv
      have := (gNum_in e1).1
      rw [(lh I7 c s7 hc1).1, hv] at this
      exact absurd (Int32.le_trans hLo_0 this) (by decide)
    · obtain ⟨c, hc1, hc2, hc3, hc4⟩ := eC h h0
      have s7 := st7 I2 I7 h g e
      obtain ⟨k9, e1, e2⟩ := hNy.at s7.st gv
      rw [(lh I7 c s7 hc1).1, (lh I7 c s7 hc1).2] at e1
      rw [hc2, tB1 ⟨m, hm⟩ ⟨c, hc4⟩] at hbit
      rw [hc2, nI_c (by omega)] at e14
      have hB : cB j (m ||| (1 <<< c)) + 1 = cB j m ∧ (m ||| (1 <<< c)) < 16 := cB_1 ⟨j, hj⟩ ⟨m, hm⟩ ⟨c, hc4⟩ hc3 hbit
      have e3 := gIt_s (r := r) (t := t) (f := f) (row := row) hc1 hbit
      rw [qBd_S e1] at e3
      rw [hc2, show nI m ||| (1 <<< (nI c &&& 31)) = nI (m ||| (1 <<< c)) from tB2 ⟨m, hm⟩ ⟨c, hc4⟩, nI_1]
      have s9 := s7.tr e2
      have f14 : qFr (hFo o) I I14 := (s9.mo mA).1.trans (by rw [e14]; exact qFr.up1 (Or.inr rfl))
      have s14 : hS b n I14 k9 := by rw [e14]; exact hS_up (by omega) s9.st
      refine ih (i + 1) (m ||| (1 <<< c)) I14 k9 (upd row c v) _ _ _ (by omega) hB.2 (by omega) s14 (by rw [f14 4 0 (fun q => by rcases q with q | q; exact absurd q.1 (by decide); omega)]; exact h40) (fun q => by rw [f14 4 3 (fun q => by rcases q with q | q; exact absurd q.1 (by decide); omega)]; exact h43 q) (fun z hz => ?_) (fun J k' row' q1 q2 q3 => hok J k' row' (e3.trans q1) ⟨f14.trans q2.1, q2.2⟩ q3) (fun J k' q1 q2 => hbad J k' (e3.trans q1) ⟨f14.trans q2.1, q2.2⟩)
      rw [e14, vu_s]
      unfold upd
      by_cases hz' : z = c
      · rw [if_pos hz', if_pos hz']
      · rw [if_neg hz', if_neg hz']; exact rA s9 z hz
    · obtain ⟨c, hc1, hc2, hc3, hc4⟩ := eC h h0
      rw [hc2] at hlt
      exact absurd (show nI c < nI (sLen j) by rw [nI_ltI (by omega) (by omega)]; exact hc3) hlt
    · obtain ⟨c, hc1, hc2, hc3, hc4⟩ := eC h h0
      have s7 := st7 I2 I7 h g e
      obtain ⟨k9, e1, e2⟩ := hNn.at s7.st gn
      rw [(lh I7 c s7 hc1).1, (lh I7 c s7 hc1).2] at e1
      rw [hc2, tB1 ⟨m, hm⟩ ⟨c, hc4⟩] at hbit
      exact hbad I16 k9 ((gIt_s hc1 hbit).trans (qBd_N e1)) ((s7.tr e2).mo mA)
    · obtain ⟨c, hc1, hc2, hc3, hc4⟩ := eC h h0
      rw [hc2, tB1 ⟨m, hm⟩ ⟨c, hc4⟩] at hbit
      exact hbad I2 _ (gIt_t hc1 hbit) ((hNx.at S g).mo mA)
    · have hn : gCol j (b (nx b n k)) = none := by
        cases hg : gCol j (b (nx b n k)) with
        | none => rfl
        | some c =>
          rw [(eF h).2, (sFind_s hj hg).1] at h0
          have := (sFind_s hj hg).2.2
          exact absurd (show (0 : Int32) ≤ nI c from by rw [show (0 : Int32) = nI 0 from rfl, nI_leI (by omega) (by omega)]; omega) h0
      exact hok I2 _ row (gIt_n hn) ((hNx.at S g).mo mA) (rA (hNx.at S g))
    · have hn : gCol j (b (nx b n k)) = none := by
        cases hg : gCol j (b (nx b n k)) with
        | none => rfl
        | some c => exact absurd (eV.symm.trans h) (gCol_n hg)
      exact hok I2 _ row (gIt_n hn) ((hNx.at S g).mo mA) (rA (hNx.at S g))
theorem s2003 {j o r t : Nat} (hK : qLay K sz) (hR : qRef R) (hj : j < 3) (ho : qAt K sz o (.inr (0, sLen j))) (ho5 : 5 ≤ o) (ht : t < 5) (h8 : ∀ k, k < n → hTw (b k)) (hp : hIp b n r t j I o) (h1 : ∀ J, hIy b n r t j I o J → Q (some (.int 1)) (K, J, L, R, sz)) (h0 : ∀ J, hIn b n r t j I o J → Q (some (.int 0)) (K, J, L, R, sz)) : X (d + 4) 0 0 2003 0 0 0 (qent (qml 2003) [.ref 3, .ref (1000000 + j), .ref o]) [] (K, I, L, R, sz) Q := by
  obtain ⟨⟨k, S⟩, h2, h3, h4⟩ := hp
  have hc : cB j 0 < sLen j + 1 := by rw [cB_0 ⟨j, hj⟩]; exact Nat.lt_succ_self _
  exact e2003 hj ho (l2003 hj ho ho5 hK hR ht h8 (sLen j + 1) 0 0 I k (hD j) none none none (by omega) (by decide) hc S h2 h3 h4 (fun J k' row e1 e2 e3 => h1 J ⟨k, k', row, S, e1, e2, e3⟩) (fun J k' e1 e2 => h0 J ⟨k, k', S, e1, e2⟩))
end L36zw
