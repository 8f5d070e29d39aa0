/-! plans: the class, the whole table -/
section L99ba
variable {I J : Nat → Nat → Int32} {p : qPa} {m : Nat} {x : Int32} {q : Nat}
theorem un_d : ∀ x : Fin 128, ∀ S : Fin 4, (nI x.val &&& (nI (2 ^ S.val) - 1)) = nI (x.val % 2 ^ S.val) ∧ (nI x.val >>> (nI S.val &&& 31)) = nI (x.val / 2 ^ S.val) := by decide +kernel
theorem full_d : ∀ N : Fin 5, ∀ x : Fin 16, x.val < 2 ^ N.val → ((∀ t : Fin 4, t.val < N.val → bt x.val t.val = true) ↔ x.val = 2 ^ N.val - 1) := by decide +kernel
theorem full_iff {N x : Nat} (hN : N ≤ 4) (hx : x < 2 ^ N) : (∀ t, t < N → bt x t = true) ↔ x = 2 ^ N - 1 := by
  have h16 : 2 ^ N ≤ 16 := pw2 (k := 4) hN
  rw [← full_d ⟨N, by omega⟩ ⟨x, by omega⟩ hx]
  exact ⟨fun h t ht => h t.val ht, fun h t ht => h ⟨t, by omega⟩ ht⟩
theorem rs_lt {S R N j : Nat} (hj : j < 2 ^ N * 2 ^ S * R * R ^ S) : j / R ^ S / R < 2 ^ N * 2 ^ S := by
  rw [Nat.div_div_eq_div_mul]
  refine Nat.div_lt_of_lt_mul ?_
  rw [show R ^ S * R * (2 ^ N * 2 ^ S) = 2 ^ N * 2 ^ S * R * R ^ S by ac_rfl]
  exact hj
theorem cDP_0 {g : qPg} (v : gV g) {c : Nat} (hc : c ≤ 1000) {l : Nat → Int32} (hl : ∀ i, i < nst g → l i = 1000000000) : cDP g c (rch l (sc g (fun _ => false) (fun _ => false) (g0r g) (g0f g)) 0) 1000000000 0 := by
  have h0 : cW g (fun _ => false) (fun _ => false) (g0r g) (g0f g) 0 0 := ⟨0, rfl, rfl, rfl, rfl, rfl, rfl⟩
  obtain ⟨h1, h2⟩ := cSt_sc v h0
  have h3 := rch_1 (c := c) v hc (l := l) (fun i hi => Or.inl (hl i hi)) h1 h2
  rw [show 0 * c + 0 = 0 by omega, show nI 0 = 0 from rfl] at h3
  exact ⟨h3.1, h3.2.1, fun d h r f T k _ _ hlt => absurd hlt (Nat.not_lt_zero _), Or.inl rfl, fun d h r f T k _ _ hlt => absurd hlt (Nat.not_lt_zero _)⟩
/-- the answers of a plan -/
def plR (g : qPg) (c : Nat) (v : Int32) : Prop := (v = 1000000000 ∧ cNo g) ∨ (∃ m, v = nI m ∧ m < 300000 ∧ cMin g c m)
def plV (g : qPg) (v : Int32) : Prop := (v = -1 ∧ noPl g) ∨ ∃ T k, v = nI T ∧ T < 1000000 ∧ isPl g T k
def plK (g : qPg) (v : Int32) : Prop := (v = -1 ∧ noPl g) ∨ ∃ T k, v = nI k ∧ k < 1000000 ∧ isPl g T k
def plF (g : qPg) (v : Int32) : Prop := (v = -1 ∧ noPl g) ∨ ∃ k, v = nI k ∧ k < 1000000 ∧ isFw g k
theorem plV_1 {g : qPg} {v w : Int32} (h : plV g v) (h' : plV g w) : v = w := by
  rcases h with ⟨a, b⟩ | ⟨T, k, a, -, b⟩ <;> rcases h' with ⟨a', b'⟩ | ⟨T', k', a', -, b'⟩
  · rw [a, a']
  · exact absurd (isPl_n b' b) id
  · exact absurd (isPl_n b b') id
  · rw [a, a', (isPl_1 b b').1]
theorem plK_1 {g : qPg} {v w : Int32} (h : plK g v) (h' : plK g w) : v = w := by
  rcases h with ⟨a, b⟩ | ⟨T, k, a, -, b⟩ <;> rcases h' with ⟨a', b'⟩ | ⟨T', k', a', -, b'⟩
  · rw [a, a']
  · exact absurd (isPl_n b' b) id
  · exact absurd (isPl_n b b') id
  · rw [a, a', (isPl_1 b b').2]
theorem plF_1 {g : qPg} {v w : Int32} (h : plF g v) (h' : plF g w) : v = w := by
  rcases h with ⟨a, b⟩ | ⟨k, a, -, b⟩ <;> rcases h' with ⟨a', b'⟩ | ⟨k', a', -, b'⟩
  · rw [a, a']
  · exact absurd (isFw_n b' b) id
  · exact absurd (isFw_n b b') id
  · rw [a, a', isFw_1 b b']
end L99ba
section L99b
variable {d : Nat} {K : qK} {I : Nat → Nat → Int32} {L : Nat → Nat → Int64} {R : Nat → Nat → Option Nat} {sz : Nat} {Q : Option Value → qMem → Prop} {p : qPa} {q : Nat}
theorem e6006 {a : Int32}  {q : Nat} (hK : qLay K sz) (hl : qPn K R sz q) (b1 : vp_in a 80000) (q1 : ∀ I1 : Nat → Nat → Int32, I1 = va_up I q (upd (I q) 13 (I (q + 1) a.toNatClampNeg)) → X (d + 1) 0 0 6006 0 0 27 [some (.ref q), some (.int a), some (.int (if 1 < (I1 22 0) then (I1 22 0) else 1)), some (.int a), some (.int 0)] [] (K, I1, L, R, sz) Q) : X (d + 1) 0 0 6006 0 0 0 (qent (qml 6006) [.ref q, .int a]) [] (K, I, L, R, sz) Q := show X _ 0 0 6006 0 0 0 [some (.ref q), some (.int a), none, none, none] [] _ _ from x_ald0 k6006_0 <| x_ald0 k6006_1 <| x_getR k6006_2 f6_12_6 hl.1 rfl hl.2.2.2.1 <| x_ild1 k6006_5 <| x_iald k6006_6 hl.2.1 b1 <| x_putI k6006_7 f6_60_6 (Or.inl rfl) hl.1 <| x_nm fun I1 e2 => x_iconst (v := 1) k6006_10 rfl <| x_ald0 k6006_11 <| x_getR k6006_12 f6_24_6 hl.1 rfl hl.2.2.2.2.2 <| x_getI k6006_15 f6_81_1 (hK.at rfl) rfl <| x_mmax k6006_18 m6_98 qs_max qi_Math qk_max (Nat.le_of_ble_eq_true rfl) (Nat.le_refl _) (Nat.le_refl _) <| x_ist2 k6006_21 (Nat.le_of_ble_eq_true rfl) rfl <| x_ild1 k6006_22 <| x_ist3 k6006_23 (Nat.le_of_ble_eq_true rfl) rfl <| x_iconst (v := 0) k6006_24 rfl <| x_ist4 k6006_25 (Nat.le_of_ble_eq_true rfl) rfl <| (q1 I1 e2)
theorem g6006_27 {q : Nat} {x1 : Int32} {x2 : Int32} {x3 : Int32} {x4 : Int32}  (hK : qLay K sz) (hl : qPn K R sz q) (b1 : (I 22 1) ≤ x4 → ¬ x2 = 0) (b2 : ¬ (I 22 1) ≤ x4 → ¬ x2 = 0) (b3 : ¬ (I 22 1) ≤ x4 → vp_in x4 3) (q1 : (I 22 1) ≤ x4 → ∀ I2 : Nat → Nat → Int32, I2 = va_up I q (upd (I q) 12 (x3 - x3 / x2 * x2)) → ∀ I4 : Nat → Nat → Int32, I4 = va_up I2 q (upd (I2 q) 11 ((x3 / x2) &&& ((I2 q 7) - 1))) → ∀ I6 : Nat → Nat → Int32, I6 = va_up I4 q (upd (I4 q) 10 ((x3 / x2) >>> ((I4 22 1) &&& 31))) → Q none (K, I6, L, R, sz)) (q2 : ¬ (I 22 1) ≤ x4 → ∀ I8 : Nat → Nat → Int32, I8 = va_up I (q + 2) (upd (I (q + 2)) x4.toNatClampNeg (x3 - x3 / x2 * x2)) → X d 0 0 6006 0 0 27 [some (.ref q), some (.int x1), some (.int x2), some (.int (x3 / x2)), some (.int (x4 + 1))] [] (K, I8, L, R, sz) Q) : X d 0 0 6006 0 0 27 [some (.ref q), some (.int x1), some (.int x2), some (.int x3), some (.int x4)] [] (K, I, L, R, sz) Q := x_ild4 k6006_27 <| x_ald0 k6006_29 <| x_getR k6006_30 f6_24_6 hl.1 rfl hl.2.2.2.2.2 <| x_getI k6006_33 f6_78_1 (hK.at rfl) rfl <| x_icmpge (tgt := 59) k6006_36 (by decide) (fun h1 => x_ald0 k6006_59 <| x_ild3 k6006_60 <| x_ild2 k6006_61 <| x_irem k6006_62 (b1 h1) <| x_putI k6006_63 f6_101_6 (Or.inl rfl) hl.1 <| x_nm fun I2 e3 => x_ild3 k6006_66 <| x_ild2 k6006_67 <| x_idiv k6006_68 (b1 h1) <| x_ist3 k6006_69 (Nat.le_of_ble_eq_true rfl) rfl <| x_ald0 k6006_70 <| x_ild3 k6006_71 <| x_ald0 k6006_72 <| x_getI k6006_73 f6_84_6 hl.1 rfl <| x_iconst (v := 1) k6006_76 rfl <| x_isub k6006_77 <| x_iand k6006_78 <| x_putI k6006_79 f6_104_6 (Or.inl rfl) hl.1 <| x_nm fun I4 e5 => x_ald0 k6006_82 <| x_ild3 k6006_83 <| x_ald0 k6006_84 <| x_getR k6006_85 f6_24_6 hl.1 rfl hl.2.2.2.2.2 <| x_getI k6006_88 f6_78_1 (hK.at rfl) rfl <| x_ishr k6006_91 <| x_putI k6006_92 f6_57_6 (Or.inl rfl) hl.1 <| x_nm fun I6 e7 => x_vret k6006_95 rfl (Nat.le_refl _) (Nat.le_refl _) <| (q1 h1 I2 e3 I4 e5 I6 e7)) (fun h1 => x_ald0 k6006_39 <| x_getR k6006_40 f6_16_6 hl.1 rfl hl.2.2.2.2.1 <| x_ild4 k6006_43 <| x_ild3 k6006_45 <| x_ild2 k6006_46 <| x_irem k6006_47 (b2 h1) <| x_iast k6006_48 hl.2.2.1 (b3 h1) <| x_nm fun I8 e9 => x_ild3 k6006_49 <| x_ild2 k6006_50 <| x_idiv k6006_51 (b2 h1) <| x_ist3 k6006_52 (Nat.le_of_ble_eq_true rfl) rfl <| x_inc4 (c := 1) k6006_53 rfl (Nat.le_of_ble_eq_true rfl) rfl <| x_goto (tgt := 27) k6006_56 (by decide) <| (q2 h1 I8 e9))
theorem e6005   {q : Nat} (hl : qPn K R sz q)  (q1 : ∀ I1 : Nat → Nat → Int32, I1 = va_up I q (upd (I q) 8 1) → X d 0 0 6005 0 0 7 [some (.ref q), some (.int 0), none] [] (K, I1, L, R, sz) Q) : X d 0 0 6005 0 0 0 (qent (qml 6005) [.ref q]) [] (K, I, L, R, sz) Q := show X _ 0 0 6005 0 0 0 [some (.ref q), none, none] [] _ _ from x_ald0 k6005_0 <| x_iconst (v := 1) k6005_1 rfl <| x_putI k6005_2 f6_75_6 (Or.inl rfl) hl.1 <| x_nm fun I1 e2 => x_iconst (v := 0) k6005_5 rfl <| x_ist1 k6005_6 (Nat.le_of_ble_eq_true rfl) rfl <| (q1 I1 e2)
theorem g6005_7 {q : Nat} {x1 : Int32}  (hK : qLay K sz) (hl : qPn K R sz q)  (q1 : (I 22 1) ≤ x1 → ∀ I2 : Nat → Nat → Int32, I2 = va_up I q (upd (I q) 7 (1 <<< ((I 22 1) &&& 31))) → ∀ I4 : Nat → Nat → Int32, I4 = va_up I2 q (upd (I2 q) 9 (if ((((1 <<< ((I2 22 3) &&& 31)) * (I2 q 7)) * (I2 22 0)) * (I2 q 8)) < 80000 then ((((1 <<< ((I2 22 3) &&& 31)) * (I2 q 7)) * (I2 22 0)) * (I2 q 8)) else 80000)) → X (d + 1) 0 0 6005 0 0 91 [some (.ref q), some (.int 0), none] [] (K, I4, L, R, sz) Q) (q2 : ¬ (I 22 1) ≤ x1 → ∀ I6 : Nat → Nat → Int32, I6 = va_up I q (upd (I q) 8 ((I q 8) * (I 22 0))) → X (d + 1) 0 0 6005 0 0 7 [some (.ref q), some (.int (x1 + 1)), none] [] (K, I6, L, R, sz) Q) : X (d + 1) 0 0 6005 0 0 7 [some (.ref q), some (.int x1), none] [] (K, I, L, R, sz) Q := x_ild1 k6005_7 <| x_ald0 k6005_8 <| x_getR k6005_9 f6_24_6 hl.1 rfl hl.2.2.2.2.2 <| x_getI k6005_12 f6_78_1 (hK.at rfl) rfl <| x_icmpge (tgt := 40) k6005_15 (by decide) (fun h1 => x_ald0 k6005_40 <| x_iconst (v := 1) k6005_41 rfl <| x_ald0 k6005_42 <| x_getR k6005_43 f6_24_6 hl.1 rfl hl.2.2.2.2.2 <| x_getI k6005_46 f6_78_1 (hK.at rfl) rfl <| x_ishl k6005_49 <| x_putI k6005_50 f6_84_6 (Or.inl rfl) hl.1 <| x_nm fun I2 e3 => x_ald0 k6005_53 <| x_ldcI k6005_54 c6_11 <| x_iconst (v := 1) k6005_56 rfl <| x_ald0 k6005_57 <| x_getR k6005_58 f6_24_6 hl.1 rfl hl.2.2.2.2.2 <| x_getI k6005_61 f6_45_1 (hK.at rfl) rfl <| x_ishl k6005_64 <| x_ald0 k6005_65 <| x_getI k6005_66 f6_84_6 hl.1 rfl <| x_imul k6005_69 <| x_ald0 k6005_70 <| x_getR k6005_71 f6_24_6 hl.1 rfl hl.2.2.2.2.2 <| x_getI k6005_74 f6_81_1 (hK.at rfl) rfl <| x_imul k6005_77 <| x_ald0 k6005_78 <| x_getI k6005_79 f6_75_6 hl.1 rfl <| x_imul k6005_82 <| x_mmin k6005_83 m6_63 qs_min qi_Math qk_min (Nat.le_of_ble_eq_true rfl) (Nat.le_refl _) (Nat.le_refl _) <| x_putI k6005_86 f6_50_6 (Or.inl rfl) hl.1 <| x_nm fun I4 e5 => x_iconst (v := 0) k6005_89 rfl <| x_ist1 k6005_90 (Nat.le_of_ble_eq_true rfl) rfl <| (q1 h1 I2 e3 I4 e5)) (fun h1 => x_ald0 k6005_18 <| x_dup k6005_19 rfl <| x_getI k6005_20 f6_75_6 hl.1 rfl <| x_ald0 k6005_23 <| x_getR k6005_24 f6_24_6 hl.1 rfl hl.2.2.2.2.2 <| x_getI k6005_27 f6_81_1 (hK.at rfl) rfl <| x_imul k6005_30 <| x_putI k6005_31 f6_75_6 (Or.inl rfl) hl.1 <| x_nm fun I6 e7 => x_inc1 (c := 1) k6005_34 rfl (Nat.le_of_ble_eq_true rfl) rfl <| x_goto (tgt := 7) k6005_37 (by decide) <| (q2 h1 I6 e7))
theorem g6005_91 {q : Nat} {x1 : Int32}  (hK : qLay K sz) (hl : qPn K R sz q) (b1 : ¬ (I q 9) ≤ x1 → vp_in x1 80000) (q1 : (I q 9) ≤ x1 → X d 0 0 6005 0 0 125 [some (.ref q), some (.int 0), some (.int ((I 22 1) - 1))] [] (K, I, L, R, sz) Q) (q2 : ¬ (I q 9) ≤ x1 → ∀ I2 : Nat → Nat → Int32, I2 = va_up I (q + 1) (upd (I (q + 1)) x1.toNatClampNeg 1000000000) → X d 0 0 6005 0 0 91 [some (.ref q), some (.int (x1 + 1)), none] [] (K, I2, L, R, sz) Q) : X d 0 0 6005 0 0 91 [some (.ref q), some (.int x1), none] [] (K, I, L, R, sz) Q := x_ild1 k6005_91 <| x_ald0 k6005_92 <| x_getI k6005_93 f6_50_6 hl.1 rfl <| x_icmpge (tgt := 113) k6005_96 (by decide) (fun h1 => x_iconst (v := 0) k6005_113 rfl <| x_ist1 k6005_114 (Nat.le_of_ble_eq_true rfl) rfl <| x_ald0 k6005_115 <| x_getR k6005_116 f6_24_6 hl.1 rfl hl.2.2.2.2.2 <| x_getI k6005_119 f6_78_1 (hK.at rfl) rfl <| x_iconst (v := 1) k6005_122 rfl <| x_isub k6005_123 <| x_ist2 k6005_124 (Nat.le_of_ble_eq_true rfl) rfl <| (q1 h1)) (fun h1 => x_ald0 k6005_99 <| x_getR k6005_100 f6_12_6 hl.1 rfl hl.2.2.2.1 <| x_ild1 k6005_103 <| x_ldcI k6005_104 c6_23 <| x_iast k6005_106 hl.2.1 (b1 h1) <| x_nm fun I2 e3 => x_inc1 (c := 1) k6005_107 rfl (Nat.le_of_ble_eq_true rfl) rfl <| x_goto (tgt := 91) k6005_110 (by decide) <| (q2 h1 I2 e3))
theorem g6005_125 {q : Nat} {x1 : Int32} {x2 : Int32}  (hK : qLay K sz) (hR : qRef R) (hl : qPn K R sz q) (b1 : x2 < 0 → vp_in (I q 3) 3) (b2 : ¬ x2 < 0 → vp_in x2 5) (q1 : x2 < 0 → X d 0 0 6005 0 0 176 [some (.ref q), some (.int x1), some (.int x2)] [.int 0, .int x1, .int (I (30 + (I q 3).toNatClampNeg) 0), .int 0, .int 0, .ref q] (K, I, L, R, sz) Q) (q2 : ¬ x2 < 0 → X d 0 0 6005 0 0 125 [some (.ref q), some (.int ((x1 * (I 22 0)) + (I (24 + x2.toNatClampNeg) 0))), some (.int (x2 + (-1)))] [] (K, I, L, R, sz) Q) : X d 0 0 6005 0 0 125 [some (.ref q), some (.int x1), some (.int x2)] [] (K, I, L, R, sz) Q := x_ild2 k6005_125 <| x_iflt (tgt := 157) k6005_126 (by decide) (fun h1 => x_ald0 k6005_157 <| x_iconst (v := 0) k6005_158 rfl <| x_iconst (v := 0) k6005_159 rfl <| x_ald0 k6005_160 <| x_getR k6005_161 f6_24_6 hl.1 rfl hl.2.2.2.2.2 <| x_getR k6005_164 f6_91_1 (hK.at rfl) rfl (hR _ _ _ rfl) <| x_ald0 k6005_167 <| x_getI k6005_168 f6_28_6 hl.1 rfl <| x_aald k6005_171 (hK.at rfl) (b1 h1) (qrowR29 hR (b1 h1)) <| x_iconst (v := 0) k6005_172 rfl <| x_iald k6005_173 (qrowK29 hK (b1 h1)) (qvp (by decide)) <| x_ild1 k6005_174 <| x_iconst (v := 0) k6005_175 rfl <| (q1 h1)) (fun h1 => x_ild1 k6005_129 <| x_ald0 k6005_130 <| x_getR k6005_131 f6_24_6 hl.1 rfl hl.2.2.2.2.2 <| x_getI k6005_134 f6_81_1 (hK.at rfl) rfl <| x_imul k6005_137 <| x_ald0 k6005_138 <| x_getR k6005_139 f6_24_6 hl.1 rfl hl.2.2.2.2.2 <| x_getR k6005_142 f6_87_1 (hK.at rfl) rfl (hR _ _ _ rfl) <| x_ild2 k6005_145 <| x_aald k6005_146 (hK.at rfl) (b2 h1) (qrowR23 hR (b2 h1)) <| x_iconst (v := 0) k6005_147 rfl <| x_iald k6005_148 (qrowK23 hK (b2 h1)) (qvp (by decide)) <| x_iadd k6005_149 <| x_ist1 k6005_150 (Nat.le_of_ble_eq_true rfl) rfl <| x_inc2 (c := (-1)) k6005_151 rfl (Nat.le_of_ble_eq_true rfl) rfl <| x_goto (tgt := 125) k6005_154 (by decide) <| (q2 h1))
theorem f6005 {q : Nat} {a : Int32} {b : Int32}    (q1 : Q none (K, I, L, R, sz)) : X d 0 0 6005 0 0 179 [some (.ref q), some (.int a), some (.int b)] [] (K, I, L, R, sz) Q := x_vret k6005_179 rfl (Nat.le_refl _) (Nat.le_refl _) <| q1
theorem s6006 {j u c m : Nat} {x : Int32} {oc : Bool} (hK : qLay K sz) (hl : qPn K R sz q) (h107 : 107 ≤ q) (cI : CI I p) (hf : fewH p) (hR1 : 1 ≤ pR p) (hj : j < 2 ^ pT p * 2 ^ pS p * pR p * pR p ^ pS p) (hs : qPs I q p m x c oc) (hu : I (q + 1) j = nI u)
    (hq : ∀ J, qLo I J → J (q + 1) = I (q + 1) → qPs J q p m x c oc → qPt J q p j u → Q none (K, J, L, R, sz)) : X (d + 1) 0 0 6006 0 0 0 (qent (qml 6006) [.ref q, .int (nI j)]) [] (K, I, L, R, sz) Q := by
  obtain ⟨f1, f2⟩ := hf
  have w4 : pT p ≤ 4 := cI.1.2.1.2.2.2
  have lS := cI.lS
  have lR : I 22 0 = nI (pR p) := cI.1.1.1
  have hn8 := nst_le f1 f2 w4
  obtain ⟨s3, s4', s5', s6', s7', s8', s9'⟩ := hs
  have hrl := rs_lt hj
  have h128 : 2 ^ pT p * 2 ^ pS p ≤ 128 := Nat.mul_le_mul (pw2 (k := 4) w4) (pw2 (k := 3) f1)
  have hmod : ∀ y, y < 2147483648 → nI y - nI y / nI (pR p) * nI (pR p) = nI (y % pR p) ∧ nI y / nI (pR p) = nI (y / pR p) := fun y hy => by
    have e := Nat.div_add_mod y (pR p)
    rw [Nat.mul_comm] at e
    rw [pk_div hy (by omega) (by omega), pk_mul, pk_sub (by omega)]
    exact ⟨by congr 1; omega, rfl⟩
  have h27 : ∀ (k s : Nat), s + k = pS p → ∀ J, qLo I J → J (q + 1) = I (q + 1) → J q = upd (I q) 13 (nI u) → (∀ s', s' < s → J (q + 2) s' = nI (iF (pS p) (pR p) j s')) → X (d + 1) 0 0 6006 0 0 27 [some (.ref q), some (.int (nI j)), some (.int (nI (pR p))), some (.int (nI (j / pR p ^ s))), some (.int (nI s))] [] (K, J, L, R, sz) Q := by
    intro k
    induction k with
    | zero =>
      intro s hs J hJ j1 j0 j2
      have hle : J 22 1 ≤ nI s := by rw [hJ 22 (by omega), lS]; exact nI_le (by omega) (by omega)
      have : s = pS p := by omega
      subst this
      have hjd : j / pR p ^ pS p ≤ j := Nat.div_le_self _ _
      obtain ⟨m1, m2⟩ := hmod (j / pR p ^ pS p) (by omega)
      refine g6006_27 hK hl (fun _ => nI_ne0 (by omega) (by omega)) (fun h => absurd hle h) (fun h => absurd hle h) (fun _ A hA B hB C hC => ?_) (fun h => absurd hle h)
      rw [m1] at hA
      have hAq : A q = upd (upd (I q) 13 (nI u)) 12 (nI (j / pR p ^ pS p % pR p)) := by rw [hA, vu_s, j0]
      have hA7 : A q 7 = nI (2 ^ pS p) := by rw [hAq]; exact s7'
      have u1 := (un_d ⟨j / pR p ^ pS p / pR p, by omega⟩ ⟨pS p, by omega⟩).1
      have u2 := (un_d ⟨j / pR p ^ pS p / pR p, by omega⟩ ⟨pS p, by omega⟩).2
      rw [hA7, m2] at hB
      have hBe : B = va_up A q (upd (A q) 11 (nI (j / pR p ^ pS p / pR p % 2 ^ pS p))) := by rw [hB]; congr 2
      have hB22 : B 22 1 = nI (pS p) := by rw [hBe, vu_n (by omega), hA, vu_n (by omega), hJ 22 (by omega), lS]
      rw [m2, hB22] at hC
      have hCe : C = va_up B q (upd (B q) 10 (nI (j / pR p ^ pS p / pR p / 2 ^ pS p))) := by rw [hC]; congr 2
      have hBq : B q = upd (A q) 11 (nI (j / pR p ^ pS p / pR p % 2 ^ pS p)) := by rw [hBe, vu_s]
      have hCq : C q = upd (upd (upd (upd (I q) 13 (nI u)) 12 (nI (j / pR p ^ pS p % pR p))) 11 (nI (j / pR p ^ pS p / pR p % 2 ^ pS p))) 10 (nI (j / pR p ^ pS p / pR p / 2 ^ pS p)) := by rw [hCe, vu_s, hBq, hAq]
      have hCr : ∀ i, i ≠ q → C i = J i := fun i hi => by rw [hCe, vu_n hi, hBe, vu_n hi, hA, vu_n hi]
      refine hq C (fun i hi => ?_) ?_ ?_ ?_
      · rw [hCr i (by omega)]; exact hJ i hi
      · rw [hCr (q + 1) (by omega)]; exact j1
      · unfold qPs
        rw [hCq]
        exact ⟨s3, s4', s5', s6', s7', s8', s9'⟩
      · unfold qPt
        rw [hCq, hCr (q + 2) (by omega)]
        exact ⟨rfl, rfl, rfl, rfl, j2⟩
    | succ k ih =>
      intro s hs J hJ j1 j0 j2
      have hnl : ¬ J 22 1 ≤ nI s := by rw [hJ 22 (by omega), lS]; exact nI_ge (by omega) (by omega)
      have hjd : j / pR p ^ s ≤ j := Nat.div_le_self _ _
      obtain ⟨m1, m2⟩ := hmod (j / pR p ^ s) (by omega)
      have es : (nI s).toNatClampNeg = s := nI_c (by omega)
      refine g6006_27 hK hl (fun h => absurd h hnl) (fun _ => nI_ne0 (by omega) (by omega)) (fun _ => vI (by omega) (by omega)) (fun h => absurd h hnl) (fun _ A hA => ?_)
      rw [m1, es] at hA
      rw [m2, nI_1, Nat.div_div_eq_div_mul, ← Nat.pow_succ]
      refine ih (s + 1) (by omega) A (by rw [hA]; exact hJ.up (by omega)) (by rw [hA, vu_n (by omega)]; exact j1) (by rw [hA, vu_n (by omega)]; exact j0) (fun s' hs' => ?_)
      rw [hA, vu_s]; unfold upd
      by_cases e : s' = s
      · subst e
        rw [if_pos rfl]
        unfold iF
        rw [if_pos (by omega)]
      · rw [if_neg e]; exact j2 s' (by omega)
  refine e6006 hK hl (vI (by omega) (by omega)) (fun A hA => ?_)
  rw [nI_c (by omega), hu] at hA
  have e22 : A 22 0 = nI (pR p) := by rw [hA, vu_n (by omega), lR]
  have emx : (if 1 < A 22 0 then A 22 0 else 1) = nI (pR p) := by
    rw [e22]
    by_cases c : 1 < nI (pR p)
    · rw [if_pos c]
    · rw [if_neg c]
      rw [show (1 : Int32) = nI 1 from rfl, nI_ltI (by omega) (by omega)] at c
      rw [show pR p = 1 by omega]; rfl
  rw [emx]
  have := h27 (pS p) 0 (by omega) A (by rw [hA]; exact qLo.refl.up h107) (by rw [hA, vu_n (by omega)]) (by rw [hA, vu_s]) (fun s' hs' => absurd hs' (by omega))
  rw [Nat.pow_zero, Nat.div_one] at this
  exact this
theorem s6005 {c m : Nat} {x : Int32} {oc : Bool} (hK : qLay K sz) (hR : qRef R) (hl : qPn K R sz q) (h107 : 107 ≤ q) (cI : CI I p) (hf : fewH p) (hm : m < pM p) (hc : c ≤ 1000) (s3 : I q 3 = nI m) (s4 : I q 4 = x) (s5 : I q 5 = (if oc then 1 else 0)) (s6 : I q 6 = nI c)
    (hq : ∀ J, qLo I J → qPs J q p m x c oc → cDP (gQ I p m x) c (J (q + 1)) 1000000000 0 → Q none (K, J, L, R, sz)) : X (d + 1) 0 0 6005 0 0 0 (qent (qml 6005) [.ref q]) [] (K, I, L, R, sz) Q := by
  have v := gQ_v (x := x) cI hf hm
  obtain ⟨f1, f2⟩ := hf
  have w3 := cI.w3
  have w4 : pT p ≤ 4 := cI.1.2.1.2.2.2
  have lS := cI.lS
  have lR : I 22 0 = nI (pR p) := cI.1.1.1
  have lT : I 22 3 = nI (pT p) := cI.1.1.2.2.2
  have hn8 := nst_le f1 f2 w4
  have hr0 := @gQ_r I p m x cI hm
  have hr1 : 0 < pR p := by omega
  have hp5 := pw5 _ _ f2 f1
  have hf0 : ∀ s, s < pS p → g0f (gQ I p m x) s < pR p := fun s hs => (gQ_s cI hs).2
  have hpl : dgs (g0f (gQ I p m x)) (pR p) (pS p) 0 < pR p ^ pS p := dgs_lt _ _ (fun s _ hs => hf0 s (by omega))
  have hps : ∀ J, J q = upd (upd (upd (I q) 8 (nI (pR p ^ pS p))) 7 (nI (2 ^ pS p))) 9 (nI (2 ^ pT p * 2 ^ pS p * pR p * pR p ^ pS p)) → qPs J q p m x c oc := fun J h => by
    unfold qPs; rw [h]; exact ⟨s3, s4, s5, s6, rfl, rfl, rfl⟩
  have h125 : ∀ (n k : Nat), n + k = pS p → ∀ J, qLo I J → J q = upd (upd (upd (I q) 8 (nI (pR p ^ pS p))) 7 (nI (2 ^ pS p))) 9 (nI (2 ^ pT p * 2 ^ pS p * pR p * pR p ^ pS p)) → (∀ i, i < nst (gQ I p m x) → J (q + 1) i = 1000000000) → X (d + 1) 0 0 6005 0 0 125 [some (.ref q), some (.int (nI (dgs (g0f (gQ I p m x)) (pR p) n k))), some (.int (nI k - 1))] [] (K, J, L, R, sz) Q := by
    intro n k
    induction k generalizing n with
    | zero =>
      intro hn J hJ jq j1
      have hlt : nI 0 - 1 < 0 := by decide
      have hsJ := hps J jq
      have e3 : J q 3 = nI m := hsJ.1
      rw [show n = pS p by omega]
      refine g6005_125 hK hR hl (fun _ => by rw [e3]; exact vI (by omega) (by omega)) (fun h => absurd hlt h) (fun _ => ?_) (fun h => absurd hlt h)
      rw [e3, nI_c (by omega), hJ (30 + m) (by omega), hr0.1]
      refine x_cV5 (MCz := 0) (MSz := 0) k6005_176 v6_94_6 hl.1 (Nat.le_of_ble_eq_true rfl) (Nat.le_of_ble_eq_true rfl) (Nat.le_refl _) (Nat.le_refl _) <| s6007 (dn := 0) (hn := 0) hK hl f1 f2 w4 hsJ.2.2.2.2.1 hsJ.2.2.2.2.2.1 hsJ.2.2.2.2.2.2 (by rw [hJ 22 (by omega)]; exact lR) (p2_0 _) (p2_0 _) hr0.2 hpl ?_
      have hlo : qLo I (va_up J (q + 1) (rch (J (q + 1)) (sN (pS p) (pR p) 0 0 (g0r (gQ I p m x)) (dgs (g0f (gQ I p m x)) (pR p) (pS p) 0)) 0)) := hJ.up (by omega)
      refine f6005 (hq _ hlo (by unfold qPs; rw [vu_n (by omega)]; exact hsJ) ?_)
      rw [vu_s]
      have e0 : eB (fun _ => false) = 0 := by decide
      have := cDP_0 (c := c) v hc (l := J (q + 1)) j1
      unfold sc at this
      rw [e0] at this
      exact this
    | succ k ih =>
      intro hn J hJ jq j1
      have e1 : nI (k + 1) - 1 = nI k := by rw [show (1 : Int32) = nI 1 from rfl, pk_sub (by omega)]; rfl
      have hnl : ¬ nI (k + 1) - 1 < 0 := by rw [e1]; exact nI_pos (by omega)
      have e2 : nI k + (-1) = nI k - 1 := (Int32.sub_eq_add_neg _ _).symm
      refine g6005_125 hK hR hl (fun h => absurd h hnl) (fun _ => by rw [e1]; exact vI (by omega) (by omega)) (fun h => absurd h hnl) (fun _ => ?_)
      rw [e1, nI_c (by omega), hJ 22 (by omega), hJ (24 + k) (by omega), lR, (@gQ_s I p m x cI k (by omega)).1, pk_mul, nI_add, e2]
      exact ih (n + 1) (by omega) J hJ jq j1
  have h91 : ∀ (k i : Nat), i + k = 2 ^ pT p * 2 ^ pS p * pR p * pR p ^ pS p → ∀ J, qLo I J → J q = upd (upd (upd (I q) 8 (nI (pR p ^ pS p))) 7 (nI (2 ^ pS p))) 9 (nI (2 ^ pT p * 2 ^ pS p * pR p * pR p ^ pS p)) → (∀ i', i' < i → J (q + 1) i' = 1000000000) → X (d + 1) 0 0 6005 0 0 91 [some (.ref q), some (.int (nI i)), none] [] (K, J, L, R, sz) Q := by
    intro k
    induction k with
    | zero =>
      intro i hi J hJ jq j1
      have e9 : J q 9 = nI (2 ^ pT p * 2 ^ pS p * pR p * pR p ^ pS p) := by rw [jq]; rfl
      have hle : J q 9 ≤ nI i := by rw [e9]; exact nI_le (by omega) (by omega)
      refine g6005_91 hK hl (fun h => absurd hle h) (fun _ => ?_) (fun h => absurd hle h)
      rw [hJ 22 (by omega), lS]
      have hi' : i = nst (gQ I p m x) := by show i = 2 ^ pT p * 2 ^ pS p * pR p * pR p ^ pS p; omega
      exact h125 0 (pS p) (by omega) J hJ jq (fun i' h => j1 i' (by omega))
    | succ k ih =>
      intro i hi J hJ jq j1
      have e9 : J q 9 = nI (2 ^ pT p * 2 ^ pS p * pR p * pR p ^ pS p) := by rw [jq]; rfl
      have hnl : ¬ J q 9 ≤ nI i := by rw [e9]; exact nI_ge (by omega) (by omega)
      refine g6005_91 hK hl (fun _ => vI (by omega) (by omega)) (fun h => absurd h hnl) (fun _ A hA => ?_)
      rw [nI_c (by omega)] at hA
      rw [nI_1]
      refine ih (i + 1) (by omega) A (by rw [hA]; exact hJ.up (by omega)) (by rw [hA, vu_n (by omega)]; exact jq) (fun i' h => ?_)
      rw [hA, vu_s]; unfold upd
      by_cases e : i' = i
      · rw [if_pos e]
      · rw [if_neg e]; exact j1 i' (by omega)
  have h7 : ∀ (k i : Nat), i + k = pS p → ∀ J, qLo I J → J q = upd (I q) 8 (nI (pR p ^ i)) → X (d + 1) 0 0 6005 0 0 7 [some (.ref q), some (.int (nI i)), none] [] (K, J, L, R, sz) Q := by
    intro k
    induction k with
    | zero =>
      intro i hi J hJ jq
      have hle : J 22 1 ≤ nI i := by rw [hJ 22 (by omega), lS]; exact nI_le (by omega) (by omega)
      have : i = pS p := by omega
      subst this
      refine g6005_7 (d := d) hK hl (fun _ A hA B hB => ?_) (fun h => absurd hle h)
      have esh : (1 <<< (nI (pS p) &&& 31) : Int32) = nI (2 ^ pS p) := shl_1 ⟨pS p, by omega⟩
      have esh4 : (1 <<< (nI (pT p) &&& 31) : Int32) = nI (2 ^ pT p) := shl_1 ⟨pT p, by omega⟩
      rw [hJ 22 (by omega), lS, esh] at hA
      have hAq : A q = upd (upd (I q) 8 (nI (pR p ^ pS p))) 7 (nI (2 ^ pS p)) := by rw [hA, vu_s, jq]
      have hA22 : A 22 = I 22 := by rw [hA, vu_n (by omega)]; exact hJ 22 (by omega)
      have hA7 : A q 7 = nI (2 ^ pS p) := by rw [hAq]; rfl
      have hA8 : A q 8 = nI (pR p ^ pS p) := by rw [hAq]; rfl
      have hmin : (if nI (2 ^ pT p * 2 ^ pS p * pR p * pR p ^ pS p) < 80000 then nI (2 ^ pT p * 2 ^ pS p * pR p * pR p ^ pS p) else 80000) = nI (2 ^ pT p * 2 ^ pS p * pR p * pR p ^ pS p) := by
        by_cases c : nI (2 ^ pT p * 2 ^ pS p * pR p * pR p ^ pS p) < 80000
        · rw [if_pos c]
        · rw [if_neg c]
          rw [show (80000 : Int32) = nI 80000 from rfl, nI_ltI (by omega) (by omega)] at c
          rw [show 2 ^ pT p * 2 ^ pS p * pR p * pR p ^ pS p = 80000 by omega]; rfl
      rw [hA22, hA7, hA8, lR, lT, esh4, pk_mul, pk_mul, pk_mul, hmin] at hB
      refine h91 (2 ^ pT p * 2 ^ pS p * pR p * pR p ^ pS p) 0 (by omega) B (by rw [hB, hA]; exact (hJ.up h107).up h107) (by rw [hB, vu_s, hAq]) (fun i' h => absurd h (by omega))
    | succ k ih =>
      intro i hi J hJ jq
      have hnl : ¬ J 22 1 ≤ nI i := by rw [hJ 22 (by omega), lS]; exact nI_ge (by omega) (by omega)
      refine g6005_7 (d := d) hK hl (fun h => absurd h hnl) (fun _ A hA => ?_)
      have e8 : J q 8 = nI (pR p ^ i) := by rw [jq]; rfl
      rw [e8, hJ 22 (by omega), lR, pk_mul, ← Nat.pow_succ] at hA
      rw [nI_1]
      refine ih (i + 1) (by omega) A (by rw [hA]; exact hJ.up h107) ?_
      rw [hA, vu_s, jq]
      funext k'
      unfold upd
      by_cases e : k' = 8
      · rw [if_pos e, if_pos e]
      · rw [if_neg e, if_neg e, if_neg e]
  refine e6005 hl (fun A hA => ?_)
  exact h7 (pS p) 0 (by omega) A (by rw [hA]; exact qLo.refl.up h107) (by rw [hA, vu_s, Nat.pow_zero]; rfl)

end L99b
