/-! the class reads houses: a clause -/
section L36zx
variable {d : Nat} {K : qK} {I : Nat → Nat → Int32} {L : Nat → Nat → Int64} {R : Nat → Nat → Option Nat} {sz : Nat} {Q : Option Value → qMem → Prop} {b : Nat → Int32} {n : Nat}
variable {J : Nat → Nat → Int32} {r k : Nat} {h : qHs}
theorem e2002  {r t : Nat} (ht : t < 5) (h8 : ∀ k, k < n → hTw (b k)) (hK : qLay K sz) (hR : qRef R) (b1 : hSx b n I) (b2 : ∀ I1 : Nat → Nat → Int32, hNx b n I I1 → ¬ (hVl b n I) = 115 → ¬ (hVl b n I) = 109 → (hVl b n I) = 116 → ¬ 4 ≤ (I1 4 3) → ∀ I7 : Nat → Nat → Int32, I7 = va_up I1 3 (upd (I1 3) 1 ((I1 3 1) + 1)) → ∀ I9 : Nat → Nat → Int32, I9 = va_up I7 4 (upd (I7 4) 3 ((I7 4 3) + 1)) → vp_in ((I9 4 3) - 1) 4) (b3 : ∀ I1 : Nat → Nat → Int32, hNx b n I I1 → ¬ (hVl b n I) = 115 → ¬ (hVl b n I) = 109 → (hVl b n I) = 116 → ¬ 4 ≤ (I1 4 3) → ∀ I7 : Nat → Nat → Int32, I7 = va_up I1 3 (upd (I1 3) 1 ((I1 3 1) + 1)) → ∀ I9 : Nat → Nat → Int32, I9 = va_up I7 4 (upd (I7 4) 3 ((I7 4 3) + 1)) → hIp b n r t 2 I9 (16 + ((I9 4 3) - 1).toNatClampNeg)) (b4 : ∀ I1 : Nat → Nat → Int32, hNx b n I I1 → ¬ (hVl b n I) = 115 → (hVl b n I) = 109 → ¬ 3 ≤ (I1 4 2) → ∀ I16 : Nat → Nat → Int32, I16 = va_up I1 3 (upd (I1 3) 1 ((I1 3 1) + 1)) → ∀ I18 : Nat → Nat → Int32, I18 = va_up I16 4 (upd (I16 4) 2 ((I16 4 2) + 1)) → vp_in ((I18 4 2) - 1) 3) (b5 : ∀ I1 : Nat → Nat → Int32, hNx b n I I1 → ¬ (hVl b n I) = 115 → (hVl b n I) = 109 → ¬ 3 ≤ (I1 4 2) → ∀ I16 : Nat → Nat → Int32, I16 = va_up I1 3 (upd (I1 3) 1 ((I1 3 1) + 1)) → ∀ I18 : Nat → Nat → Int32, I18 = va_up I16 4 (upd (I16 4) 2 ((I16 4 2) + 1)) → hIp b n r t 1 I18 (12 + ((I18 4 2) - 1).toNatClampNeg)) (b6 : ∀ I1 : Nat → Nat → Int32, hNx b n I I1 → (hVl b n I) = 115 → ¬ 5 ≤ (I1 4 1) → ∀ I25 : Nat → Nat → Int32, I25 = va_up I1 3 (upd (I1 3) 1 ((I1 3 1) + 1)) → ∀ I27 : Nat → Nat → Int32, I27 = va_up I25 4 (upd (I25 4) 1 ((I25 4 1) + 1)) → vp_in ((I27 4 1) - 1) 5) (b7 : ∀ I1 : Nat → Nat → Int32, hNx b n I I1 → (hVl b n I) = 115 → ¬ 5 ≤ (I1 4 1) → ∀ I25 : Nat → Nat → Int32, I25 = va_up I1 3 (upd (I1 3) 1 ((I1 3 1) + 1)) → ∀ I27 : Nat → Nat → Int32, I27 = va_up I25 4 (upd (I25 4) 1 ((I25 4 1) + 1)) → hIp b n r t 0 I27 (6 + ((I27 4 1) - 1).toNatClampNeg)) (q1 : ∀ I1 : Nat → Nat → Int32, hNx b n I I1 → ¬ (hVl b n I) = 115 → ¬ (hVl b n I) = 109 → ¬ (hVl b n I) = 116 → Q (some (.int 0)) (K, I1, L, R, sz)) (q2 : ∀ I1 : Nat → Nat → Int32, hNx b n I I1 → ¬ (hVl b n I) = 115 → ¬ (hVl b n I) = 109 → (hVl b n I) = 116 → 4 ≤ (I1 4 3) → Q (some (.int 0)) (K, I1, L, R, sz)) (q3 : ∀ I1 : Nat → Nat → Int32, hNx b n I I1 → ¬ (hVl b n I) = 115 → ¬ (hVl b n I) = 109 → (hVl b n I) = 116 → ¬ 4 ≤ (I1 4 3) → ∀ I7 : Nat → Nat → Int32, I7 = va_up I1 3 (upd (I1 3) 1 ((I1 3 1) + 1)) → ∀ I9 : Nat → Nat → Int32, I9 = va_up I7 4 (upd (I7 4) 3 ((I7 4 3) + 1)) → ∀ I11 : Nat → Nat → Int32, hIy b n r t 2 I9 (16 + ((I9 4 3) - 1).toNatClampNeg) I11 → Q (some (.int 1)) (K, I11, L, R, sz)) (q4 : ∀ I1 : Nat → Nat → Int32, hNx b n I I1 → ¬ (hVl b n I) = 115 → ¬ (hVl b n I) = 109 → (hVl b n I) = 116 → ¬ 4 ≤ (I1 4 3) → ∀ I7 : Nat → Nat → Int32, I7 = va_up I1 3 (upd (I1 3) 1 ((I1 3 1) + 1)) → ∀ I9 : Nat → Nat → Int32, I9 = va_up I7 4 (upd (I7 4) 3 ((I7 4 3) + 1)) → ∀ I13 : Nat → Nat → Int32, hIn b n r t 2 I9 (16 + ((I9 4 3) - 1).toNatClampNeg) I13 → Q (some (.int 0)) (K, I13, L, R, sz)) (q5 : ∀ I1 : Nat → Nat → Int32, hNx b n I I1 → ¬ (hVl b n I) = 115 → (hVl b n I) = 109 → 3 ≤ (I1 4 2) → Q (some (.int 0)) (K, I1, L, R, sz)) (q6 : ∀ I1 : Nat → Nat → Int32, hNx b n I I1 → ¬ (hVl b n I) = 115 → (hVl b n I) = 109 → ¬ 3 ≤ (I1 4 2) → ∀ I16 : Nat → Nat → Int32, I16 = va_up I1 3 (upd (I1 3) 1 ((I1 3 1) + 1)) → ∀ I18 : Nat → Nat → Int32, I18 = va_up I16 4 (upd (I16 4) 2 ((I16 4 2) + 1)) → ∀ I20 : Nat → Nat → Int32, hIy b n r t 1 I18 (12 + ((I18 4 2) - 1).toNatClampNeg) I20 → Q (some (.int 1)) (K, I20, L, R, sz)) (q7 : ∀ I1 : Nat → Nat → Int32, hNx b n I I1 → ¬ (hVl b n I) = 115 → (hVl b n I) = 109 → ¬ 3 ≤ (I1 4 2) → ∀ I16 : Nat → Nat → Int32, I16 = va_up I1 3 (upd (I1 3) 1 ((I1 3 1) + 1)) → ∀ I18 : Nat → Nat → Int32, I18 = va_up I16 4 (upd (I16 4) 2 ((I16 4 2) + 1)) → ∀ I22 : Nat → Nat → Int32, hIn b n r t 1 I18 (12 + ((I18 4 2) - 1).toNatClampNeg) I22 → Q (some (.int 0)) (K, I22, L, R, sz)) (q8 : ∀ I1 : Nat → Nat → Int32, hNx b n I I1 → (hVl b n I) = 115 → 5 ≤ (I1 4 1) → Q (some (.int 0)) (K, I1, L, R, sz)) (q9 : ∀ I1 : Nat → Nat → Int32, hNx b n I I1 → (hVl b n I) = 115 → ¬ 5 ≤ (I1 4 1) → ∀ I25 : Nat → Nat → Int32, I25 = va_up I1 3 (upd (I1 3) 1 ((I1 3 1) + 1)) → ∀ I27 : Nat → Nat → Int32, I27 = va_up I25 4 (upd (I25 4) 1 ((I25 4 1) + 1)) → ∀ I29 : Nat → Nat → Int32, hIy b n r t 0 I27 (6 + ((I27 4 1) - 1).toNatClampNeg) I29 → Q (some (.int 1)) (K, I29, L, R, sz)) (q10 : ∀ I1 : Nat → Nat → Int32, hNx b n I I1 → (hVl b n I) = 115 → ¬ 5 ≤ (I1 4 1) → ∀ I25 : Nat → Nat → Int32, I25 = va_up I1 3 (upd (I1 3) 1 ((I1 3 1) + 1)) → ∀ I27 : Nat → Nat → Int32, I27 = va_up I25 4 (upd (I25 4) 1 ((I25 4 1) + 1)) → ∀ I31 : Nat → Nat → Int32, hIn b n r t 0 I27 (6 + ((I27 4 1) - 1).toNatClampNeg) I31 → Q (some (.int 0)) (K, I31, L, R, sz)) : X (d + 5) 0 0 2002 0 0 0 (qent (qml 2002) [.ref 3]) [] (K, I, L, R, sz) Q := show X _ 0 0 2002 0 0 0 [some (.ref 3), none] [] _ _ from x_ald0 k2002_0 <| x_cU0 (MCz := 0) (MSz := 0) k2002_1 u2_38_2 (hK.at rfl) (Nat.le_of_ble_eq_true rfl) (Nat.le_of_ble_eq_true rfl) (Nat.le_refl _) (Nat.le_refl _) <| h7001 hK hR b1 (fun I1 g2 => x_ist1 k2002_4 (Nat.le_of_ble_eq_true rfl) rfl <| x_ild1 k2002_5 <| x_bipush (v := 115) k2002_6 rfl <| x_icmpne (tgt := 69) k2002_8 (by decide) (fun h3 => x_ild1 k2002_69 <| x_bipush (v := 109) k2002_70 rfl <| x_icmpne (tgt := 133) k2002_72 (by decide) (fun h4 => x_ild1 k2002_133 <| x_bipush (v := 116) k2002_134 rfl <| x_icmpne (tgt := 197) k2002_136 (by decide) (fun h5 => x_iconst (v := 0) k2002_197 rfl <| x_zret k2002_198 rfl (Or.inl rfl) (Nat.le_refl _) (Nat.le_refl _) <| (q1 I1 g2 h3 h4 h5)) (fun h5 => x_ald0 k2002_139 <| x_getR k2002_140 f2_14_2 (hK.at rfl) rfl (hR _ _ _ rfl) <| x_getI k2002_143 f2_70_1 (hK.at rfl) rfl <| x_iconst (v := 4) k2002_146 rfl <| x_icmpge (tgt := 197) k2002_147 (by decide) (fun h6 => x_iconst (v := 0) k2002_197 rfl <| x_zret k2002_198 rfl (Or.inl rfl) (Nat.le_refl _) (Nat.le_refl _) <| (q2 I1 g2 h3 h4 h5 h6)) (fun h6 => x_ald0 k2002_150 <| x_dup k2002_151 rfl <| x_getI k2002_152 f2_20_2 (hK.at rfl) rfl <| x_iconst (v := 1) k2002_155 rfl <| x_iadd k2002_156 <| x_putI k2002_157 f2_20_2 (Or.inl rfl) (hK.at rfl) <| x_nm fun I7 e8 => x_ald0 k2002_160 <| x_getR k2002_161 f2_14_2 (hK.at rfl) rfl (hR _ _ _ rfl) <| x_dup k2002_164 rfl <| x_getI k2002_165 f2_70_1 (hK.at rfl) rfl <| x_iconst (v := 1) k2002_168 rfl <| x_iadd k2002_169 <| x_putI k2002_170 f2_70_1 (Or.inl rfl) (hK.at rfl) <| x_nm fun I9 e10 => x_ald0 k2002_173 <| x_ldcS (j := 2) k2002_174 (fun _ _ _ hT => hT.2.2.2.1) <| x_ald0 k2002_176 <| x_getR k2002_177 f2_14_2 (hK.at rfl) rfl (hR _ _ _ rfl) <| x_getR k2002_180 f2_75_1 (hK.at rfl) rfl (hR _ _ _ rfl) <| x_ald0 k2002_183 <| x_getR k2002_184 f2_14_2 (hK.at rfl) rfl (hR _ _ _ rfl) <| x_getI k2002_187 f2_70_1 (hK.at rfl) rfl <| x_iconst (v := 1) k2002_190 rfl <| x_isub k2002_191 <| x_aald k2002_192 (hK.at rfl) (b2 I1 g2 h3 h4 h5 h6 I7 e8 I9 e10) (qrowR15 hR (b2 I1 g2 h3 h4 h5 h6 I7 e8 I9 e10)) <| x_cV2 (MCz := 0) (MSz := 0) k2002_193 v2_58_2 (hK.at rfl) (Nat.le_of_ble_eq_true rfl) (Nat.le_of_ble_eq_true rfl) (Nat.le_refl _) (Nat.le_refl _) <| s2003 hK hR (j := 2) (by decide) (qrowK15 hK (b2 I1 g2 h3 h4 h5 h6 I7 e8 I9 e10)) (by omega) ht h8 (b3 I1 g2 h3 h4 h5 h6 I7 e8 I9 e10) (fun I11 g12 => x_zret k2002_196 rfl (Or.inr rfl) (Nat.le_refl _) (Nat.le_refl _) <| (q3 I1 g2 h3 h4 h5 h6 I7 e8 I9 e10 I11 g12)) (fun I13 g14 => x_zret k2002_196 rfl (Or.inl rfl) (Nat.le_refl _) (Nat.le_refl _) <| (q4 I1 g2 h3 h4 h5 h6 I7 e8 I9 e10 I13 g14))))) (fun h4 => x_ald0 k2002_75 <| x_getR k2002_76 f2_14_2 (hK.at rfl) rfl (hR _ _ _ rfl) <| x_getI k2002_79 f2_62_1 (hK.at rfl) rfl <| x_iconst (v := 3) k2002_82 rfl <| x_icmpge (tgt := 133) k2002_83 (by decide) (fun h15 => x_ild1 k2002_133 <| x_bipush (v := 116) k2002_134 rfl <| x_icmpneT (tgt := 197) k2002_136 (by decide) (by rw [h4]; decide) <| x_iconst (v := 0) k2002_197 rfl <| x_zret k2002_198 rfl (Or.inl rfl) (Nat.le_refl _) (Nat.le_refl _) <| (q5 I1 g2 h3 h4 h15)) (fun h15 => x_ald0 k2002_86 <| x_dup k2002_87 rfl <| x_getI k2002_88 f2_20_2 (hK.at rfl) rfl <| x_iconst (v := 1) k2002_91 rfl <| x_iadd k2002_92 <| x_putI k2002_93 f2_20_2 (Or.inl rfl) (hK.at rfl) <| x_nm fun I16 e17 => x_ald0 k2002_96 <| x_getR k2002_97 f2_14_2 (hK.at rfl) rfl (hR _ _ _ rfl) <| x_dup k2002_100 rfl <| x_getI k2002_101 f2_62_1 (hK.at rfl) rfl <| x_iconst (v := 1) k2002_104 rfl <| x_iadd k2002_105 <| x_putI k2002_106 f2_62_1 (Or.inl rfl) (hK.at rfl) <| x_nm fun I18 e19 => x_ald0 k2002_109 <| x_ldcS (j := 1) k2002_110 (fun _ _ _ hT => hT.2.2.1) <| x_ald0 k2002_112 <| x_getR k2002_113 f2_14_2 (hK.at rfl) rfl (hR _ _ _ rfl) <| x_getR k2002_116 f2_67_1 (hK.at rfl) rfl (hR _ _ _ rfl) <| x_ald0 k2002_119 <| x_getR k2002_120 f2_14_2 (hK.at rfl) rfl (hR _ _ _ rfl) <| x_getI k2002_123 f2_62_1 (hK.at rfl) rfl <| x_iconst (v := 1) k2002_126 rfl <| x_isub k2002_127 <| x_aald k2002_128 (hK.at rfl) (b4 I1 g2 h3 h4 h15 I16 e17 I18 e19) (qrowR11 hR (b4 I1 g2 h3 h4 h15 I16 e17 I18 e19)) <| x_cV2 (MCz := 0) (MSz := 0) k2002_129 v2_58_2 (hK.at rfl) (Nat.le_of_ble_eq_true rfl) (Nat.le_of_ble_eq_true rfl) (Nat.le_refl _) (Nat.le_refl _) <| s2003 hK hR (j := 1) (by decide) (qrowK11 hK (b4 I1 g2 h3 h4 h15 I16 e17 I18 e19)) (by omega) ht h8 (b5 I1 g2 h3 h4 h15 I16 e17 I18 e19) (fun I20 g21 => x_zret k2002_132 rfl (Or.inr rfl) (Nat.le_refl _) (Nat.le_refl _) <| (q6 I1 g2 h3 h4 h15 I16 e17 I18 e19 I20 g21)) (fun I22 g23 => x_zret k2002_132 rfl (Or.inl rfl) (Nat.le_refl _) (Nat.le_refl _) <| (q7 I1 g2 h3 h4 h15 I16 e17 I18 e19 I22 g23))))) (fun h3 => x_ald0 k2002_11 <| x_getR k2002_12 f2_14_2 (hK.at rfl) rfl (hR _ _ _ rfl) <| x_getI k2002_15 f2_49_1 (hK.at rfl) rfl <| x_iconst (v := 5) k2002_18 rfl <| x_icmpge (tgt := 69) k2002_19 (by decide) (fun h24 => x_ild1 k2002_69 <| x_bipush (v := 109) k2002_70 rfl <| x_icmpneT (tgt := 133) k2002_72 (by decide) (by rw [h3]; decide) <| x_ild1 k2002_133 <| x_bipush (v := 116) k2002_134 rfl <| x_icmpneT (tgt := 197) k2002_136 (by decide) (by rw [h3]; decide) <| x_iconst (v := 0) k2002_197 rfl <| x_zret k2002_198 rfl (Or.inl rfl) (Nat.le_refl _) (Nat.le_refl _) <| (q8 I1 g2 h3 h24)) (fun h24 => x_ald0 k2002_22 <| x_dup k2002_23 rfl <| x_getI k2002_24 f2_20_2 (hK.at rfl) rfl <| x_iconst (v := 1) k2002_27 rfl <| x_iadd k2002_28 <| x_putI k2002_29 f2_20_2 (Or.inl rfl) (hK.at rfl) <| x_nm fun I25 e26 => x_ald0 k2002_32 <| x_getR k2002_33 f2_14_2 (hK.at rfl) rfl (hR _ _ _ rfl) <| x_dup k2002_36 rfl <| x_getI k2002_37 f2_49_1 (hK.at rfl) rfl <| x_iconst (v := 1) k2002_40 rfl <| x_iadd k2002_41 <| x_putI k2002_42 f2_49_1 (Or.inl rfl) (hK.at rfl) <| x_nm fun I27 e28 => x_ald0 k2002_45 <| x_ldcS (j := 0) k2002_46 (fun _ _ _ hT => hT.2.1) <| x_ald0 k2002_48 <| x_getR k2002_49 f2_14_2 (hK.at rfl) rfl (hR _ _ _ rfl) <| x_getR k2002_52 f2_54_1 (hK.at rfl) rfl (hR _ _ _ rfl) <| x_ald0 k2002_55 <| x_getR k2002_56 f2_14_2 (hK.at rfl) rfl (hR _ _ _ rfl) <| x_getI k2002_59 f2_49_1 (hK.at rfl) rfl <| x_iconst (v := 1) k2002_62 rfl <| x_isub k2002_63 <| x_aald k2002_64 (hK.at rfl) (b6 I1 g2 h3 h24 I25 e26 I27 e28) (qrowR5 hR (b6 I1 g2 h3 h24 I25 e26 I27 e28)) <| x_cV2 (MCz := 0) (MSz := 0) k2002_65 v2_58_2 (hK.at rfl) (Nat.le_of_ble_eq_true rfl) (Nat.le_of_ble_eq_true rfl) (Nat.le_refl _) (Nat.le_refl _) <| s2003 hK hR (j := 0) (by decide) (qrowK5 hK (b6 I1 g2 h3 h24 I25 e26 I27 e28)) (by omega) ht h8 (b7 I1 g2 h3 h24 I25 e26 I27 e28) (fun I29 g30 => x_zret k2002_68 rfl (Or.inr rfl) (Nat.le_refl _) (Nat.le_refl _) <| (q9 I1 g2 h3 h24 I25 e26 I27 e28 I29 g30)) (fun I31 g32 => x_zret k2002_68 rfl (Or.inl rfl) (Nat.le_refl _) (Nat.le_refl _) <| (q10 I1 g2 h3 h24 I25 e26 I27 e28 I31 g32)))))
theorem j3 {j : Nat} (hj : j < 3) : j = 0 ∨ j = 1 ∨ j = 2 := by omega
theorem hBs_r {j s : Nat} (hj : j < 3) (hs : s < hMx j) : 5 < hBs j + s ∧ hBs j + s < 20 := by
  rcases j3 hj with rfl | rfl | rfl
  · have : s < 5 := hs
    show 5 < 6 + s ∧ 6 + s < 20; omega
  · have : s < 3 := hs
    show 5 < 12 + s ∧ 12 + s < 20; omega
  · have : s < 4 := hs
    show 5 < 16 + s ∧ 16 + s < 20; omega
theorem hBs_i {i j s z : Nat} (hi : i < 3) (hj : j < 3) (hs : s < hMx i) (hz : z < hMx j) (e : hBs i + s = hBs j + z) : i = j ∧ s = z := by
  rcases j3 hi with rfl | rfl | rfl
  · have h1 : s < 5 := hs
    rcases j3 hj with rfl | rfl | rfl
    · have e : 6 + s = 6 + z := e
      omega
    · have e : 6 + s = 12 + z := e
      omega
    · have e : 6 + s = 16 + z := e
      omega
  · have h1 : s < 3 := hs
    rcases j3 hj with rfl | rfl | rfl
    · have h2 : z < 5 := hz
      have e : 12 + s = 6 + z := e
      omega
    · have e : 12 + s = 12 + z := e
      omega
    · have e : 12 + s = 16 + z := e
      omega
  · have h1 : s < 4 := hs
    rcases j3 hj with rfl | rfl | rfl
    · have h2 : z < 5 := hz
      have e : 16 + s = 6 + z := e
      omega
    · have h2 : z < 3 := hz
      have e : 16 + s = 12 + z := e
      omega
    · have e : 16 + s = 16 + z := e
      omega
theorem hs1_n {i j : Nat} {row : Nat → Int32} (hi : i < 3) (hj : j < 3) : hCn (hs1 h j row) i = if i = j then hCn h j + 1 else hCn h i := by
  rcases j3 hi with rfl | rfl | rfl <;> rcases j3 hj with rfl | rfl | rfl <;> rfl
theorem hs1_r {i j s : Nat} {row : Nat → Int32} (hi : i < 3) (hj : j < 3) : hRw (hs1 h j row) i s = if i = j ∧ s = hCn h j then row else hRw h i s := by
  rcases j3 hi with rfl | rfl | rfl <;> rcases j3 hj with rfl | rfl | rfl
  · show (if s = h.1.1 then row else h.2.1 s) = _
    by_cases q : s = h.1.1
    · rw [if_pos q, if_pos ⟨rfl, q⟩]
    · rw [if_neg q, if_neg (fun w => q w.2)]; rfl
  · rw [if_neg (fun w => absurd w.1 (by decide))]; rfl
  · rw [if_neg (fun w => absurd w.1 (by decide))]; rfl
  · rw [if_neg (fun w => absurd w.1 (by decide))]; rfl
  · show (if s = h.1.2.1 then row else h.2.2.1 s) = _
    by_cases q : s = h.1.2.1
    · rw [if_pos q, if_pos ⟨rfl, q⟩]
    · rw [if_neg q, if_neg (fun w => q w.2)]; rfl
  · rw [if_neg (fun w => absurd w.1 (by decide))]; rfl
  · rw [if_neg (fun w => absurd w.1 (by decide))]; rfl
  · rw [if_neg (fun w => absurd w.1 (by decide))]; rfl
  · show (if s = h.1.2.2 then row else h.2.2.2 s) = _
    by_cases q : s = h.1.2.2
    · rw [if_pos q, if_pos ⟨rfl, q⟩]
    · rw [if_neg q, if_neg (fun w => q w.2)]; rfl
theorem hInv_m {j : Nat} (i : hInv r h) (hj : j < 3) : hCn h j ≤ hMx j := by
  rcases j3 hj with rfl | rfl | rfl
  · exact i.1.1
  · exact i.1.2.1
  · exact i.1.2.2
theorem hInv_d {j s : Nat} (i : hInv r h) (hj : j < 3) (hs : hCn h j ≤ s) : hRw h j s = hD j := by
  rcases j3 hj with rfl | rfl | rfl
  · exact i.2.2.1 s hs
  · exact i.2.2.2.1 s hs
  · exact i.2.2.2.2 s hs
theorem hB1 {j : Nat} {I1 I7 I9 : Nat → Nat → Int32} (hj : j < 3) (S : hS b n I k) (E : hE I h) (h0 : I 4 0 = nI r) (iv : hInv r h) (hc : ¬ b (nx b n k) = -1) (hlt : hCn h j < hMx j) (g : hNx b n I I1) (e7 : I7 = va_up I1 3 (upd (I1 3) 1 ((I1 3 1) + 1))) (e9 : I9 = va_up I7 4 (upd (I7 4) (1 + j) ((I7 4 (1 + j)) + 1))) : (I9 4 (1 + j)) - 1 = nI (hCn h j) ∧ hIp b n r h.1.2.2 j I9 (hBs j + hCn h j) ∧ hO hFc b n I (nx b n k + 1) I9 ∧ (∀ i, i < 3 → I9 4 (1 + i) = if i = j then nI (hCn h j + 1) else I 4 (1 + i)) ∧ ∀ o c, 5 ≤ o → I9 o c = I o c := by
  have hm : hMx j ≤ 5 := by rcases j3 hj with rfl | rfl | rfl <;> decide
  have s7 := (hNx.at S g).tr (hS.inc (hNx.at S g).st (hS.tb S |>.lt hc) e7)
  have w7 : ∀ z, I7 4 z = I 4 z := fun z => s7.1 4 z (fun q => absurd q.1 (by decide))
  have hi : ∀ i, i < 3 → I9 4 (1 + i) = if i = j then nI (hCn h j + 1) else I 4 (1 + i) := fun i hi => by
    rw [e9, vu_s]
    unfold upd
    by_cases q : i = j
    · rw [if_pos q, if_pos (by omega), w7, E.1 j hj, nI_1]
    · rw [if_neg q, if_neg (by omega), w7]
  have ho : ∀ o c, 5 ≤ o → I9 o c = I o c := fun o c q => by
    rw [e9, vu_n (by omega)]; exact s7.1 o c (fun w => by have := w.1; omega)
  have hj9 : I9 4 (1 + j) = nI (hCn h j + 1) := by rw [hi j hj, if_pos rfl]
  have st9 : hS b n I9 (nx b n k + 1) := by rw [e9]; exact hS_up (by decide) s7.st
  refine ⟨by rw [hj9, show (1 : Int32) = nI 1 from rfl, pk_sub (by omega)]; rfl, ⟨⟨_, st9⟩, ?_, fun q => ?_, fun c hc => ?_⟩, ⟨(s7.1.mono (fun _ _ q => Or.inl q)).trans (by rw [e9]; exact qFr.up1 (Or.inr (Or.inl ⟨rfl, by omega⟩))), st9⟩, hi, ho⟩
  · rw [e9, vu_s]; unfold upd; rw [if_neg (by omega), w7]; exact h0
  · subst q; exact hj9
  · rw [ho _ _ (by have := (hBs_r hj hlt).1; omega), E.2 j hj _ hlt c hc, hInv_d iv hj (Nat.le_refl _)]
theorem hB2 {j k' : Nat} {I9 : Nat → Nat → Int32} {row : Nat → Int32} (hj : j < 3) (E : hE I h) (hlt : hCn h j < hMx j) (hi : ∀ i, i < 3 → I9 4 (1 + i) = if i = j then nI (hCn h j + 1) else I 4 (1 + i)) (ho : ∀ o c, 5 ≤ o → I9 o c = I o c) (g : hO (hFo (hBs j + hCn h j)) b n I9 k' J) (hr : ∀ c, c < sLen j → J (hBs j + hCn h j) c = row c) : hE J (hs1 h j row) := by
  have hb := hBs_r hj hlt
  refine ⟨fun i hi3 => ?_, fun i hi3 s hs c hc => ?_⟩
  · rw [g.1 4 (1 + i) (fun q => by rcases q with q | q; exact absurd q.1 (by decide); omega), hi i hi3, hs1_n hi3 hj]
    by_cases q : i = j
    · rw [if_pos q, if_pos q]
    · rw [if_neg q, if_neg q]; exact E.1 i hi3
  · rw [hs1_r hi3 hj]
    by_cases q : i = j ∧ s = hCn h j
    · rw [if_pos q, q.1, q.2]; exact hr c (by rw [← q.1]; exact hc)
    · have hbi := hBs_r hi3 hs
      rw [if_neg q, g.1 _ _ (fun w => by rcases w with w | w; (have := w.1; omega); exact q (hBs_i hi3 hj hs hlt w)), ho _ _ (by omega)]
      exact E.2 i hi3 s hs c hc
theorem gHc_s {j : Nat} (hg : gKd h (b (nx b n k)) = some j) : gHc b n r h k = qBd (gIt b n j r h.1.2.2 (sLen j + 1) 0 (hD j) (nx b n k + 1)) (fun k2 row => (k2, some (hs1 h j row))) := by
  unfold gHc; rw [hg]
theorem gHc_n (hg : gKd h (b (nx b n k)) = none) : gHc b n r h k = (nx b n k, none) := by
  unfold gHc; rw [hg]
theorem s2002 (hK : qLay K sz) (hR : qRef R) (h8 : ∀ k, k < n → hTw (b k)) (S : hS b n I k) (E : hE I h) (h0 : I 4 0 = nI r) (iv : hInv r h) (hok : ∀ J k' h2, gHc b n r h k = (k', some h2) → hO hFc b n I k' J → hE J h2 → Q (some (.int 1)) (K, J, L, R, sz)) (hbad : ∀ J k', gHc b n r h k = (k', none) → hO hFc b n I k' J → Q (some (.int 0)) (K, J, L, R, sz)) : X (d + 5) 0 0 2002 0 0 0 (qent (qml 2002) [.ref 3]) [] (K, I, L, R, sz) Q := by
  have eV : hVl b n I = b (nx b n k) := hVl_at S
  have mA : ∀ j k, hAt j k → hFc j k := fun j k q => Or.inl q
  have mF : ∀ {o : Nat}, 5 < o ∧ o < 20 → ∀ j k, hFo o j k → hFc j k := fun ho j k q => q.elim Or.inl (fun w => Or.inr (Or.inr (by omega)))
  have w1 : ∀ {I1 : Nat → Nat → Int32}, hNx b n I I1 → ∀ j, j < 3 → I1 4 (1 + j) = nI (hCn h j) := fun g j hj => ((hNx.at S g).1 4 (1 + j) (fun q => absurd q.1 (by decide))).trans (E.1 j hj)
  have lt : ∀ {I1 : Nat → Nat → Int32} {j : Nat} {m : Nat}, hNx b n I I1 → j < 3 → m < 1000 → ¬ nI m ≤ I1 4 (1 + j) → hCn h j < m := fun {I1 j m} g hj hm q => by
    have h1 := hInv_m iv hj
    have : hMx j ≤ 5 := by rcases j3 hj with rfl | rfl | rfl <;> decide
    rw [w1 g j hj, nI_leI (by omega) (by omega)] at q; omega
  have ge : ∀ {I1 : Nat → Nat → Int32} {j : Nat} {m : Nat}, hNx b n I I1 → j < 3 → m < 1000 → nI m ≤ I1 4 (1 + j) → ¬ hCn h j < m := fun {I1 j m} g hj hm q => by
    have h1 := hInv_m iv hj
    have : hMx j ≤ 5 := by rcases j3 hj with rfl | rfl | rfl <;> decide
    rw [w1 g j hj, nI_leI (by omega) (by omega)] at q; omega
  have go : ∀ {j : Nat} {c : Int32} {I1 I7 I9 : Nat → Nat → Int32}, j < 3 → ¬ c = -1 → hVl b n I = c → gKd h (b (nx b n k)) = some j → hCn h j < hMx j → hNx b n I I1 → I7 = va_up I1 3 (upd (I1 3) 1 ((I1 3 1) + 1)) → I9 = va_up I7 4 (upd (I7 4) (1 + j) ((I7 4 (1 + j)) + 1)) → ((I9 4 (1 + j)) - 1 = nI (hCn h j) ∧ ((I9 4 (1 + j)) - 1).toNatClampNeg = hCn h j) ∧ vp_in ((I9 4 (1 + j)) - 1) (hMx j) ∧ hIp b n r h.1.2.2 j I9 (hBs j + hCn h j) ∧ (∀ J, hIy b n r h.1.2.2 j I9 (hBs j + hCn h j) J → Q (some (.int 1)) (K, J, L, R, sz)) ∧ (∀ J, hIn b n r h.1.2.2 j I9 (hBs j + hCn h j) J → Q (some (.int 0)) (K, J, L, R, sz)) := fun {j c I1 I7 I9} hj hc hv hg hlt g e7 e9 => by
    obtain ⟨q1, q2, q3, q4, q5⟩ := hB1 hj S E h0 iv (by rw [← eV, hv]; exact hc) hlt g e7 e9
    have hm : hMx j ≤ 5 := by rcases j3 hj with rfl | rfl | rfl <;> decide
    refine ⟨⟨q1, by rw [q1, nI_c (by omega)]⟩, by rw [q1]; exact vI hlt (by omega), q2, fun J gy => ?_, fun J gn => ?_⟩
    · obtain ⟨k', row, a1, a2, a3⟩ := hIy.at q3.st gy
      exact hok J k' _ ((gHc_s hg).trans (qBd_S a1)) (q3.tr (a2.mo (mF (hBs_r hj hlt)))) (hB2 hj E hlt q4 q5 a2 a3)
    · obtain ⟨k', a1, a2⟩ := hIn.at q3.st gn
      exact hbad J k' ((gHc_s hg).trans (qBd_N a1)) (q3.tr (a2.mo (mF (hBs_r hj hlt))))
  have ht : h.1.2.2 < 5 := Nat.lt_succ_of_le iv.1.2.2
  have k0 : hVl b n I = 115 → h.1.1 < 5 → gKd h (b (nx b n k)) = some 0 := fun v q => by rw [← eV, v]; unfold gKd; rw [if_pos ⟨rfl, q⟩]
  have k1 : hVl b n I = 109 → h.1.2.1 < 3 → gKd h (b (nx b n k)) = some 1 := fun v q => by rw [← eV, v]; unfold gKd; rw [if_neg (fun w => absurd w.1 (by decide)), if_pos ⟨rfl, q⟩]
  have k2 : hVl b n I = 116 → h.1.2.2 < 4 → gKd h (b (nx b n k)) = some 2 := fun v q => by rw [← eV, v]; unfold gKd; rw [if_neg (fun w => absurd w.1 (by decide)), if_neg (fun w => absurd w.1 (by decide)), if_pos ⟨rfl, q⟩]
  refine e2002 (r := r) (t := h.1.2.2) ht h8 hK hR ⟨k, S⟩ (fun I1 g n1 n2 v ng I7 e7 I9 e9 => ?_) (fun I1 g n1 n2 v ng I7 e7 I9 e9 => ?_) (fun I1 g n1 v ng I7 e7 I9 e9 => ?_) (fun I1 g n1 v ng I7 e7 I9 e9 => ?_) (fun I1 g v ng I7 e7 I9 e9 => ?_) (fun I1 g v ng I7 e7 I9 e9 => ?_) (fun I1 g n1 n2 n3 => ?_) (fun I1 g n1 n2 v gg => ?_) (fun I1 g n1 n2 v ng I7 e7 I9 e9 J gy => ?_) (fun I1 g n1 n2 v ng I7 e7 I9 e9 J gn => ?_) (fun I1 g n1 v gg => ?_) (fun I1 g n1 v ng I7 e7 I9 e9 J gy => ?_) (fun I1 g n1 v ng I7 e7 I9 e9 J gn => ?_) (fun I1 g v gg => ?_) (fun I1 g v ng I7 e7 I9 e9 J gy => ?_) (fun I1 g v ng I7 e7 I9 e9 J gn => ?_)
  · have l := lt (j := 2) (m := 4) g (by decide) (by decide) ng
    exact (go (j := 2) (by decide) (by decide) v (k2 v l) l g e7 e9).2.1
  · have l := lt (j := 2) (m := 4) g (by decide) (by decide) ng
    have G := go (j := 2) (by decide) (by decide) v (k2 v l) l g e7 e9
    rw [show ((I9 4 3) - 1).toNatClampNeg = hCn h 2 from G.1.2]
    exact G.2.2.1
  · have l := lt (j := 1) (m := 3) g (by decide) (by decide) ng
    exact (go (j := 1) (by decide) (by decide) v (k1 v l) l g e7 e9).2.1
  · have l := lt (j := 1) (m := 3) g (by decide) (by decide) ng
    have G := go (j := 1) (by decide) (by decide) v (k1 v l) l g e7 e9
    rw [show ((I9 4 2) - 1).toNatClampNeg = hCn h 1 from G.1.2]
    exact G.2.2.1
  · have l := lt (j := 0) (m := 5) g (by decide) (by decide) ng
    exact (go (j := 0) (by decide) (by decide) v (k0 v l) l g e7 e9).2.1
  · have l := lt (j := 0) (m := 5) g (by decide) (by decide) ng
    have G := go (j := 0) (by decide) (by decide) v (k0 v l) l g e7 e9
    rw [show ((I9 4 1) - 1).toNatClampNeg = hCn h 0 from G.1.2]
    exact G.2.2.1
  · refine hbad I1 _ (gHc_n ?_) ((hNx.at S g).mo mA)
    rw [← eV]; unfold gKd; rw [if_neg (fun w => n1 w.1), if_neg (fun w => n2 w.1), if_neg (fun w => n3 w.1)]
  · refine hbad I1 _ (gHc_n ?_) ((hNx.at S g).mo mA)
    have l := ge (j := 2) (m := 4) g (by decide) (by decide) gg
    rw [← eV]; unfold gKd; rw [if_neg (fun w => n1 w.1), if_neg (fun w => n2 w.1), if_neg (fun w => l w.2)]
  · have l := lt (j := 2) (m := 4) g (by decide) (by decide) ng
    have G := go (j := 2) (by decide) (by decide) v (k2 v l) l g e7 e9
    rw [show ((I9 4 3) - 1).toNatClampNeg = hCn h 2 from G.1.2] at gy
    exact G.2.2.2.1 J gy
  · have l := lt (j := 2) (m := 4) g (by decide) (by decide) ng
    have G := go (j := 2) (by decide) (by decide) v (k2 v l) l g e7 e9
    rw [show ((I9 4 3) - 1).toNatClampNeg = hCn h 2 from G.1.2] at gn
    exact G.2.2.2.2 J gn
  · refine hbad I1 _ (gHc_n ?_) ((hNx.at S g).mo mA)
    have l := ge (j := 1) (m := 3) g (by decide) (by decide) gg
    rw [← eV]; unfold gKd; rw [if_neg (fun w => n1 w.1), if_neg (fun w => l w.2), if_neg (fun w => by rw [v] at w; exact absurd w.1 (by decide))]
  · have l := lt (j := 1) (m := 3) g (by decide) (by decide) ng
    have G := go (j := 1) (by decide) (by decide) v (k1 v l) l g e7 e9
    rw [show ((I9 4 2) - 1).toNatClampNeg = hCn h 1 from G.1.2] at gy
    exact G.2.2.2.1 J gy
  · have l := lt (j := 1) (m := 3) g (by decide) (by decide) ng
    have G := go (j := 1) (by decide) (by decide) v (k1 v l) l g e7 e9
    rw [show ((I9 4 2) - 1).toNatClampNeg = hCn h 1 from G.1.2] at gn
    exact G.2.2.2.2 J gn
  · refine hbad I1 _ (gHc_n ?_) ((hNx.at S g).mo mA)
    have l := ge (j := 0) (m := 5) g (by decide) (by decide) gg
    rw [← eV]; unfold gKd; rw [if_neg (fun w => l w.2), if_neg (fun w => by rw [v] at w; exact absurd w.1 (by decide)), if_neg (fun w => by rw [v] at w; exact absurd w.1 (by decide))]
  · have l := lt (j := 0) (m := 5) g (by decide) (by decide) ng
    have G := go (j := 0) (by decide) (by decide) v (k0 v l) l g e7 e9
    rw [show ((I9 4 1) - 1).toNatClampNeg = hCn h 0 from G.1.2] at gy
    exact G.2.2.2.1 J gy
  · have l := lt (j := 0) (m := 5) g (by decide) (by decide) ng
    have G := go (j := 0) (by decide) (by decide) v (k0 v l) l g e7 e9
    rw [show ((I9 4 1) - 1).toNatClampNeg = hCn h 0 from G.1.2] at gn
    exact G.2.2.2.2 J gn
end L36zx
