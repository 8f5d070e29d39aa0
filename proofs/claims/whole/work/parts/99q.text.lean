/-! text: a house or a law is taken -/
def bhC (I J : Nat → Nat → Int32) : Prop := qFr (fun j k => (j = 22 ∧ k < 4) ∨ (24 ≤ j ∧ j < 38)) I J ∧ (∀ k, k < 4 → J 22 k = I 4 k) ∧ (∀ s, s < 5 → ∀ c, c < 3 → J (24 + s) c = I (6 + s) c) ∧ (∀ m, m < 3 → J (30 + m) 0 = I (12 + m) 0) ∧ ∀ t, t < 4 → ∀ c, c < 4 → J (34 + t) c = I (16 + t) c
def tkZ (I J : Nat → Nat → Int32) : Prop := qFr (fun j k => j = 51 ∧ (k = 5 ∨ k = 6)) I J ∧ J 51 5 = 0 ∧ J 51 6 = 0
def snZ (I J : Nat → Nat → Int32) : Prop := qFr (fun j _ => j = 58) I J ∧ ∀ s, s < 5 → J 58 s = -1
def bhR (I J : Nat → Nat → Int32) : Prop := qFr (fun j k => (j = 73 ∧ ((23 ≤ k ∧ k ≤ 26) ∨ k = 33 ∨ k = 60)) ∨ j = 85 ∨ j = 100) I J ∧ (∀ k, k < 4 → J 73 (23 + k) = I 73 (19 + k)) ∧ (∀ k, k < 34 → J 85 k = I 84 k) ∧ J 73 33 = 0 ∧ J 73 60 = 0 ∧ ∀ s, s < 5 → J 100 s = -1
def lwC (I : Nat → Nat → Int32) (o : Nat) (a : Int32) (J : Nat → Nat → Int32) : Prop := ∃ m, a = nI m ∧ m ≤ 161 ∧ qFr (fun j k => (j = o ∧ k = 1) ∨ j = o + 1) I J ∧ J o 1 = nI m ∧ ∀ k, k < m → J (o + 1) k = I 21 k
def zH1 (b : Nat → Int32) (n : Nat) (I J : Nat → Nat → Int32) : Prop := ∃ k v h, gHouse b n = (k, some (v, h)) ∧ qFr yFz I J ∧ J 73 19 = v ∧ yE J h
def zH0 (b : Nat → Int32) (n : Nat) (I J : Nat → Nat → Int32) : Prop := ∃ k, gHouse b n = (k, none) ∧ qFr yFz I J
def zL1 (b : Nat → Int32) (n : Nat) (I : Nat → Nat → Int32) (a : Int32) (J : Nat → Nat → Int32) : Prop := ∃ t k cs, a = nI t ∧ t < 5 ∧ gLaw b n = (k, some cs) ∧ qFr (rFrD t) I J ∧ rLW t J cs
def zL0 (b : Nat → Int32) (n : Nat) (I : Nat → Nat → Int32) (a : Int32) (J : Nat → Nat → Int32) : Prop := ∃ t k, a = nI t ∧ t < 5 ∧ gLaw b n = (k, none) ∧ qFr (rFrD t) I J
def txPc (j k : Nat) : Prop := hFz j k ∨ (j = 22 ∧ k < 4) ∨ (24 ≤ j ∧ j < 38) ∨ (j = 51 ∧ (k = 5 ∨ k = 6)) ∨ j = 58 ∨ (j = 0 ∧ k = 13) ∨ (j = 1 ∧ k = 1)
def txC (I : Nat → Nat → Int32) (v : Int32) (h : qHs) (J : Nat → Nat → Int32) : Prop := qFr txPc I J ∧ (J 22 0 = v ∧ ∀ j, j < 3 → J 22 (1 + j) = nI (hCn h j)) ∧ ((∀ s, s < 5 → ∀ c, c < 3 → J (24 + s) c = h.2.1 s c) ∧ (∀ m, m < 3 → J (30 + m) 0 = h.2.2.1 m 0) ∧ ∀ t, t < 4 → ∀ c, c < 4 → J (34 + t) c = h.2.2.2 t c) ∧ J 51 5 = 0 ∧ J 51 6 = 0 ∧ (∀ s, s < 5 → J 58 s = -1) ∧ J 0 13 = 0 ∧ J 1 1 = 0
def txPr (j k : Nat) : Prop := yFz j k ∨ (j = 73 ∧ (k = 2 ∨ (23 ≤ k ∧ k ≤ 26) ∨ k = 33 ∨ k = 60)) ∨ j = 85 ∨ j = 100
def txR (I : Nat → Nat → Int32) (v : Int32) (h : qHs) (J : Nat → Nat → Int32) : Prop := qFr txPr I J ∧ (J 73 23 = v ∧ ∀ j, j < 3 → J 73 (24 + j) = nI (hCn h j)) ∧ (∀ j, j < 3 → ∀ s, s < hCn h j → ∀ c, c < sLen j → J 85 (yPc j s c) = hRw h j s c) ∧ J 73 33 = 0 ∧ J 73 60 = 0 ∧ (∀ s, s < 5 → J 100 s = -1) ∧ J 73 2 = 0
def txL (I : Nat → Nat → Int32) (m : Nat) (cs : List qUc) (J : Nat → Nat → Int32) : Prop := qFr (fun j k => xFl j k ∨ (j = 39 + 3 * m ∧ k = 1) ∨ j = 39 + 3 * m + 1 ∨ (j = 1 ∧ k = 1) ∨ (j = 0 ∧ k = 5)) I J ∧ J (39 + 3 * m) 1 = nI (cuCs cs).length ∧ (cuCs cs).length ≤ 161 ∧ qHas (J (39 + 3 * m + 1)) 0 (cuCs cs) ∧ J 0 5 = nI (m + 1) ∧ J 1 1 = 0
def txM (I : Nat → Nat → Int32) (m : Nat) (cs : List qUc) (J : Nat → Nat → Int32) : Prop := qFr (fun j k => rFrD m j k ∨ (j = 73 ∧ (k = 2 ∨ k = 13))) I J ∧ rLW m J cs ∧ J 73 13 = nI (m + 1) ∧ J 73 2 = 0
section L99q
variable {d : Nat} {K : qK} {I J : Nat → Nat → Int32} {L : Nat → Nat → Int64} {R : Nat → Nat → Option Nat} {sz : Nat} {Q : Option Value → qMem → Prop} {p : qPa}
variable {b : Nat → Int32} {n : Nat}
theorem e1002   (hK : qLay K sz)  (q1 : ∀ I1 : Nat → Nat → Int32, I1 = va_up I 22 (upd (I 22) 0 (I 4 0)) → ∀ I3 : Nat → Nat → Int32, I3 = va_up I1 22 (upd (I1 22) 1 (I1 4 1)) → ∀ I5 : Nat → Nat → Int32, I5 = va_up I3 22 (upd (I3 22) 2 (I3 4 2)) → ∀ I7 : Nat → Nat → Int32, I7 = va_up I5 22 (upd (I5 22) 3 (I5 4 3)) → X (d + 1) 0 0 1002 0 0 34 [some (.ref 22), some (.ref 4), some (.int 0)] [] (K, I7, L, R, sz) Q) : X (d + 1) 0 0 1002 0 0 0 (qent (qml 1002) [.ref 22, .ref 4]) [] (K, I, L, R, sz) Q := show X _ 0 0 1002 0 0 0 [some (.ref 22), some (.ref 4), none] [] _ _ from x_ald0 k1002_0 <| x_ald1 k1002_1 <| x_getI k1002_2 f1_22_1 (hK.at rfl) rfl <| x_putI k1002_5 f1_22_1 (Or.inl rfl) (hK.at rfl) <| x_nm fun I1 e2 => x_ald0 k1002_8 <| x_ald1 k1002_9 <| x_getI k1002_10 f1_26_1 (hK.at rfl) rfl <| x_putI k1002_13 f1_26_1 (Or.inl rfl) (hK.at rfl) <| x_nm fun I3 e4 => x_ald0 k1002_16 <| x_ald1 k1002_17 <| x_getI k1002_18 f1_29_1 (hK.at rfl) rfl <| x_putI k1002_21 f1_29_1 (Or.inl rfl) (hK.at rfl) <| x_nm fun I5 e6 => x_ald0 k1002_24 <| x_ald1 k1002_25 <| x_getI k1002_26 f1_32_1 (hK.at rfl) rfl <| x_putI k1002_29 f1_32_1 (Or.inl rfl) (hK.at rfl) <| x_nm fun I7 e8 => x_iconst (v := 0) k1002_32 rfl <| x_ist2 k1002_33 (Nat.le_of_ble_eq_true rfl) rfl <| (q1 I1 e2 I3 e4 I5 e6 I7 e8)
theorem g1002_34 {x2 : Int32}  (hK : qLay K sz) (hR : qRef R) (b1 : ¬ 5 ≤ x2 → vp_in x2 5) (q1 : 5 ≤ x2 → X (d + 1) 0 0 1002 0 0 65 [some (.ref 22), some (.ref 4), some (.int 0)] [] (K, I, L, R, sz) Q) (q2 : ¬ 5 ≤ x2 → ∀ I2 : Nat → Nat → Int32, I2 = va_up I (24 + x2.toNatClampNeg) (va_cpy (I (6 + x2.toNatClampNeg)) (I (24 + x2.toNatClampNeg)) 0 0 3) → X (d + 1) 0 0 1002 0 0 34 [some (.ref 22), some (.ref 4), some (.int (x2 + 1))] [] (K, I2, L, R, sz) Q) : X (d + 1) 0 0 1002 0 0 34 [some (.ref 22), some (.ref 4), some (.int x2)] [] (K, I, L, R, sz) Q := x_ild2 k1002_34 <| x_iconst (v := 5) k1002_35 rfl <| x_icmpge (tgt := 63) k1002_36 (by decide) (fun h1 => x_iconst (v := 0) k1002_63 rfl <| x_ist2 k1002_64 (Nat.le_of_ble_eq_true rfl) rfl <| (q1 h1)) (fun h1 => x_ald1 k1002_39 <| x_getR k1002_40 f1_11_1 (hK.at rfl) rfl (hR _ _ _ rfl) <| x_ild2 k1002_43 <| x_aald k1002_44 (hK.at rfl) (b1 h1) (qrowR5 hR (b1 h1)) <| x_iconst (v := 0) k1002_45 rfl <| x_ald0 k1002_46 <| x_getR k1002_47 f1_11_1 (hK.at rfl) rfl (hR _ _ _ rfl) <| x_ild2 k1002_50 <| x_aald k1002_51 (hK.at rfl) (b1 h1) (qrowR23 hR (b1 h1)) <| x_iconst (v := 0) k1002_52 rfl <| x_iconst (v := 3) k1002_53 rfl <| x_copy k1002_54 m1_35 qnat_copy qs_copy qi_System (qrowK5 hK (b1 h1)) (qrowK23 hK (b1 h1)) (by decide) (by decide) (by decide) (by decide) (by decide) (Nat.le_of_ble_eq_true rfl) <| x_nm fun I2 e3 => x_inc2 (c := 1) k1002_57 rfl (Nat.le_of_ble_eq_true rfl) rfl <| x_goto (tgt := 34) k1002_60 (by decide) <| (q2 h1 I2 e3))
theorem g1002_65 {x2 : Int32}  (hK : qLay K sz) (hR : qRef R) (b1 : ¬ 3 ≤ x2 → vp_in x2 3) (q1 : 3 ≤ x2 → X (d + 1) 0 0 1002 0 0 94 [some (.ref 22), some (.ref 4), some (.int 0)] [] (K, I, L, R, sz) Q) (q2 : ¬ 3 ≤ x2 → ∀ I2 : Nat → Nat → Int32, I2 = va_up I (30 + x2.toNatClampNeg) (upd (I (30 + x2.toNatClampNeg)) 0 (I (12 + x2.toNatClampNeg) 0)) → X (d + 1) 0 0 1002 0 0 65 [some (.ref 22), some (.ref 4), some (.int (x2 + 1))] [] (K, I2, L, R, sz) Q) : X (d + 1) 0 0 1002 0 0 65 [some (.ref 22), some (.ref 4), some (.int x2)] [] (K, I, L, R, sz) Q := x_ild2 k1002_65 <| x_iconst (v := 3) k1002_66 rfl <| x_icmpge (tgt := 92) k1002_67 (by decide) (fun h1 => x_iconst (v := 0) k1002_92 rfl <| x_ist2 k1002_93 (Nat.le_of_ble_eq_true rfl) rfl <| (q1 h1)) (fun h1 => x_ald0 k1002_70 <| x_getR k1002_71 f1_16_1 (hK.at rfl) rfl (hR _ _ _ rfl) <| x_ild2 k1002_74 <| x_aald k1002_75 (hK.at rfl) (b1 h1) (qrowR29 hR (b1 h1)) <| x_iconst (v := 0) k1002_76 rfl <| x_ald1 k1002_77 <| x_getR k1002_78 f1_16_1 (hK.at rfl) rfl (hR _ _ _ rfl) <| x_ild2 k1002_81 <| x_aald k1002_82 (hK.at rfl) (b1 h1) (qrowR11 hR (b1 h1)) <| x_iconst (v := 0) k1002_83 rfl <| x_iald k1002_84 (qrowK11 hK (b1 h1)) (qvp (by decide)) <| x_iast k1002_85 (qrowK29 hK (b1 h1)) (qvp (by decide)) <| x_nm fun I2 e3 => x_inc2 (c := 1) k1002_86 rfl (Nat.le_of_ble_eq_true rfl) rfl <| x_goto (tgt := 65) k1002_89 (by decide) <| (q2 h1 I2 e3))
theorem g1002_94 {x2 : Int32}  (hK : qLay K sz) (hR : qRef R) (b1 : ¬ 4 ≤ x2 → vp_in x2 4) (q1 : 4 ≤ x2 → Q none (K, I, L, R, sz)) (q2 : ¬ 4 ≤ x2 → ∀ I2 : Nat → Nat → Int32, I2 = va_up I (34 + x2.toNatClampNeg) (va_cpy (I (16 + x2.toNatClampNeg)) (I (34 + x2.toNatClampNeg)) 0 0 4) → X (d + 1) 0 0 1002 0 0 94 [some (.ref 22), some (.ref 4), some (.int (x2 + 1))] [] (K, I2, L, R, sz) Q) : X (d + 1) 0 0 1002 0 0 94 [some (.ref 22), some (.ref 4), some (.int x2)] [] (K, I, L, R, sz) Q := x_ild2 k1002_94 <| x_iconst (v := 4) k1002_95 rfl <| x_icmpge (tgt := 123) k1002_96 (by decide) (fun h1 => x_vret k1002_123 rfl (Nat.le_refl _) (Nat.le_refl _) <| (q1 h1)) (fun h1 => x_ald1 k1002_99 <| x_getR k1002_100 f1_19_1 (hK.at rfl) rfl (hR _ _ _ rfl) <| x_ild2 k1002_103 <| x_aald k1002_104 (hK.at rfl) (b1 h1) (qrowR15 hR (b1 h1)) <| x_iconst (v := 0) k1002_105 rfl <| x_ald0 k1002_106 <| x_getR k1002_107 f1_19_1 (hK.at rfl) rfl (hR _ _ _ rfl) <| x_ild2 k1002_110 <| x_aald k1002_111 (hK.at rfl) (b1 h1) (qrowR33 hR (b1 h1)) <| x_iconst (v := 0) k1002_112 rfl <| x_iconst (v := 4) k1002_113 rfl <| x_copy k1002_114 m1_35 qnat_copy qs_copy qi_System (qrowK15 hK (b1 h1)) (qrowK33 hK (b1 h1)) (by decide) (by decide) (by decide) (by decide) (by decide) (Nat.le_of_ble_eq_true rfl) <| x_nm fun I2 e3 => x_inc2 (c := 1) k1002_117 rfl (Nat.le_of_ble_eq_true rfl) rfl <| x_goto (tgt := 94) k1002_120 (by decide) <| (q2 h1 I2 e3))
theorem e12044   (hK : qLay K sz)  (q1 : ∀ I1 : Nat → Nat → Int32, I1 = va_up I 73 (upd (I 73) 23 (I 73 19)) → ∀ I3 : Nat → Nat → Int32, I3 = va_up I1 73 (upd (I1 73) 24 (I1 73 20)) → ∀ I5 : Nat → Nat → Int32, I5 = va_up I3 73 (upd (I3 73) 25 (I3 73 21)) → ∀ I7 : Nat → Nat → Int32, I7 = va_up I5 73 (upd (I5 73) 26 (I5 73 22)) → X d 0 0 12044 0 0 34 [some (.ref 73), some (.int 0)] [] (K, I7, L, R, sz) Q) : X d 0 0 12044 0 0 0 (qent (qml 12044) [.ref 73]) [] (K, I, L, R, sz) Q := show X _ 0 0 12044 0 0 0 [some (.ref 73), none] [] _ _ from x_ald0 k12044_0 <| x_ald0 k12044_1 <| x_getI k12044_2 f12_254_11 (hK.at rfl) rfl <| x_putI k12044_5 f12_286_11 (Or.inl rfl) (hK.at rfl) <| x_nm fun I1 e2 => x_ald0 k12044_8 <| x_ald0 k12044_9 <| x_getI k12044_10 f12_235_11 (hK.at rfl) rfl <| x_putI k12044_13 f12_289_11 (Or.inl rfl) (hK.at rfl) <| x_nm fun I3 e4 => x_ald0 k12044_16 <| x_ald0 k12044_17 <| x_getI k12044_18 f12_242_11 (hK.at rfl) rfl <| x_putI k12044_21 f12_292_11 (Or.inl rfl) (hK.at rfl) <| x_nm fun I5 e6 => x_ald0 k12044_24 <| x_ald0 k12044_25 <| x_getI k12044_26 f12_248_11 (hK.at rfl) rfl <| x_putI k12044_29 f12_295_11 (Or.inl rfl) (hK.at rfl) <| x_nm fun I7 e8 => x_iconst (v := 0) k12044_32 rfl <| x_ist1 k12044_33 (Nat.le_of_ble_eq_true rfl) rfl <| (q1 I1 e2 I3 e4 I5 e6 I7 e8)
theorem g12044_34 {x1 : Int32}  (hK : qLay K sz) (hR : qRef R) (b1 : ¬ (Int32.ofNat 34) ≤ x1 → vp_in x1 34) (q1 : (Int32.ofNat 34) ≤ x1 → ∀ I2 : Nat → Nat → Int32, I2 = va_up I 73 (upd (I 73) 33 0) → X d 0 0 12044 0 0 68 [some (.ref 73), some (.int 0)] [] (K, I2, L, R, sz) Q) (q2 : ¬ (Int32.ofNat 34) ≤ x1 → ∀ I4 : Nat → Nat → Int32, I4 = va_up I 85 (upd (I 85) x1.toNatClampNeg (I 84 x1.toNatClampNeg)) → X d 0 0 12044 0 0 34 [some (.ref 73), some (.int (x1 + 1))] [] (K, I4, L, R, sz) Q) : X d 0 0 12044 0 0 34 [some (.ref 73), some (.int x1)] [] (K, I, L, R, sz) Q := x_ild1 k12044_34 <| x_ald0 k12044_35 <| x_getR k12044_36 f12_43_11 (hK.at rfl) rfl (hR _ _ _ rfl) <| x_alenI k12044_39 (hK.at rfl) <| x_icmpge (tgt := 61) k12044_40 (by decide) (fun h1 => x_ald0 k12044_61 <| x_iconst (v := 0) k12044_62 rfl <| x_putI k12044_63 f12_298_11 (Or.inl rfl) (hK.at rfl) <| x_nm fun I2 e3 => x_iconst (v := 0) k12044_66 rfl <| x_ist1 k12044_67 (Nat.le_of_ble_eq_true rfl) rfl <| (q1 h1 I2 e3)) (fun h1 => x_ald0 k12044_43 <| x_getR k12044_44 f12_43_11 (hK.at rfl) rfl (hR _ _ _ rfl) <| x_ild1 k12044_47 <| x_ald0 k12044_48 <| x_getR k12044_49 f12_40_11 (hK.at rfl) rfl (hR _ _ _ rfl) <| x_ild1 k12044_52 <| x_iald k12044_53 (hK.at rfl) (b1 h1) <| x_iast k12044_54 (hK.at rfl) (b1 h1) <| x_nm fun I4 e5 => x_inc1 (c := 1) k12044_55 rfl (Nat.le_of_ble_eq_true rfl) rfl <| x_goto (tgt := 34) k12044_58 (by decide) <| (q2 h1 I4 e5))
theorem g12044_68 {x1 : Int32}  (hK : qLay K sz) (hR : qRef R) (b1 : ¬ 5 ≤ x1 → vp_in x1 5) (q1 : 5 ≤ x1 → ∀ I2 : Nat → Nat → Int32, I2 = va_up I 73 (upd (I 73) 60 0) → Q (some (.int (I2 73 24))) (K, I2, L, R, sz)) (q2 : ¬ 5 ≤ x1 → ∀ I4 : Nat → Nat → Int32, I4 = va_up I 100 (upd (I 100) x1.toNatClampNeg (-1)) → X d 0 0 12044 0 0 68 [some (.ref 73), some (.int (x1 + 1))] [] (K, I4, L, R, sz) Q) : X d 0 0 12044 0 0 68 [some (.ref 73), some (.int x1)] [] (K, I, L, R, sz) Q := x_ild1 k12044_68 <| x_iconst (v := 5) k12044_69 rfl <| x_icmpge (tgt := 86) k12044_70 (by decide) (fun h1 => x_ald0 k12044_86 <| x_iconst (v := 0) k12044_87 rfl <| x_putZ k12044_88 f12_301_11 (Or.inl rfl) (hK.at rfl) (Or.inl rfl) <| x_nm fun I2 e3 => x_ald0 k12044_91 <| x_getI k12044_92 f12_289_11 (hK.at rfl) rfl <| x_iret k12044_95 rfl (Nat.le_refl _) (Nat.le_refl _) <| (q1 h1 I2 e3)) (fun h1 => x_ald0 k12044_73 <| x_getR k12044_74 f12_97_11 (hK.at rfl) rfl (hR _ _ _ rfl) <| x_ild1 k12044_77 <| x_iconst (v := (-1)) k12044_78 rfl <| x_iast k12044_79 (hK.at rfl) (b1 h1) <| x_nm fun I4 e5 => x_inc1 (c := 1) k12044_80 rfl (Nat.le_of_ble_eq_true rfl) rfl <| x_goto (tgt := 68) k12044_83 (by decide) <| (q2 h1 I4 e5))
theorem gCls_W (hb : qTb b n) : ∀ f, gW 0 n (fun _ => 0) (gCls b n f) := by
  intro f
  induction f with
  | zero =>
    intro k hk
    have g1 := @nx_ge b n k
    have g2 := nx_le hb hk
    refine ⟨fun k' c e => ?_, fun k' e => ?_⟩
    · simp only [gCls, Prod.mk.injEq] at e; exact ⟨by omega, by omega, by show k + 0 ≤ k'; omega⟩
    · simp [gCls] at e
  | succ f ih =>
    intro k hk
    have g1 := @nx_ge b n k
    have g2 := nx_le hb hk
    rw [gCls]
    by_cases q : b (nx b n k) = 59
    · rw [if_pos q]
      have hl := hb.lt (k := nx b n k) (by rw [q]; decide)
      obtain ⟨a1, a2⟩ := gCl_W hb (nx b n k + 1) (by omega)
      refine ⟨fun k' c e => ?_, fun k' e => ?_⟩
      · obtain ⟨k1, h2, e1, e2⟩ := qBd_some e
        obtain ⟨k2, h3, e3, e4⟩ := qBd_some e2
        have w := a1 _ _ e1
        have u := (ih k1 w.2.1).1 _ _ e3
        have u1 : k1 + 0 ≤ k2 := u.1
        simp only [Prod.mk.injEq] at e4
        exact ⟨by omega, by omega, by show k + 0 ≤ k'; omega⟩
      · rcases qBd_none e with e1 | ⟨k1, h2, e1, e2⟩
        · have := a2 _ e1; omega
        · have w := a1 _ _ e1
          rcases qBd_none e2 with e3 | ⟨k2, h3, e3, e4⟩
          · have u := (ih k1 w.2.1).2 _ e3
            omega
          · simp at e4
    · rw [if_neg q]
      refine ⟨fun k' c e => ?_, fun k' e => ?_⟩
      · simp only [Prod.mk.injEq] at e; exact ⟨by omega, by omega, by show k + 0 ≤ k'; omega⟩
      · simp at e
theorem gLaw_W (hb : qTb b n) {k : Nat} (e : gLaw b n = (k, none)) : k ≤ n := by
  unfold gLaw at e
  have a := gCl_W hb 0 (Nat.zero_le n)
  rcases qBd_none e with e1 | ⟨k1, c, e1, e2⟩
  · exact (a.2 _ e1).2
  · have w := a.1 _ _ e1
    rcases qBd_none e2 with e3 | ⟨k2, cs, e3, e4⟩
    · exact ((gCls_W hb 160 k1 w.2.1).2 _ e3).2
    · have u := (gCls_W hb 160 k1 w.2.1).1 _ _ e3
      split at e4
      · simp at e4
      · simp only [Prod.mk.injEq, and_true] at e4
        rw [← e4]; exact nx_le hb u.2.1
theorem gHouse_W (hb : qTb b n) {k : Nat} (e : gHouse b n = (k, none)) : k ≤ n := by
  have g2 := nx_le hb (Nat.zero_le n)
  unfold gHouse at e
  by_cases q : b (nx b n 0) = 114
  · rw [if_pos q] at e
    have hl := hb.lt (k := nx b n 0) (by rw [q]; decide)
    have a := gNum_W hb 2 2 6 (nx b n 0 + 1) (by omega)
    rcases qBd_none e with e1 | ⟨k1, r, e1, e2⟩
    · exact (a.2 _ e1).2
    · have w := a.1 _ _ e1
      rcases qBd_none e2 with e3 | ⟨k2, h, e3, e4⟩
      · rcases qBd_none e3 with e5 | ⟨k3, h3, e5, e6⟩
        · exact ((gHl_W hb 160 hs0 k1 w.2.1).2 _ e5).2
        · have u := (gHl_W hb 160 hs0 k1 w.2.1).1 _ _ e5
          unfold gHe at e6
          split at e6
          · simp at e6
          · simp only [Prod.mk.injEq, and_true] at e6
            rw [← e6]; exact nx_le hb u.2.1
      · simp at e4
  · rw [if_neg q] at e
    simp only [Prod.mk.injEq, and_true] at e
    omega
theorem cpy3 {f g : Nat → Int32} {n c : Nat} (hc : c < n) : va_cpy f g 0 0 n c = f c := by
  rw [cpw_cpy]; unfold cpw; rw [if_pos hc]
theorem l1002_34 (hK : qLay K sz) (hR : qRef R) : ∀ (f s : Nat) (I : Nat → Nat → Int32), s + f = 5 → (∀ J, qFr (fun j _ => 24 ≤ j ∧ j < 29) I J → (∀ z, s ≤ z → z < 5 → ∀ c, c < 3 → J (24 + z) c = I (6 + z) c) → (∀ z, z < s → J (24 + z) = I (24 + z)) → X (d + 1) 0 0 1002 0 0 65 [some (.ref 22), some (.ref 4), some (.int 0)] [] (K, J, L, R, sz) Q) → X (d + 1) 0 0 1002 0 0 34 [some (.ref 22), some (.ref 4), some (.int (nI s))] [] (K, I, L, R, sz) Q := by
  intro f
  induction f with
  | zero =>
    intro s I hs hq
    obtain rfl : s = 5 := by omega
    exact g1002_34 hK hR (fun q => absurd (by decide) q) (fun _ => hq I qFr.refl (fun z h1 h2 => by omega) (fun _ _ => rfl)) (fun q => absurd (by decide) q)
  | succ f ih =>
    intro s I hs hq
    refine g1002_34 hK hR (fun _ => vI (by omega) (by omega)) (fun q => absurd q (by rw [show (5 : Int32) = nI 5 from rfl, nI_leI (by omega) (by omega)]; omega)) (fun _ I2 e2 => ?_)
    rw [nI_c (by omega)] at e2
    rw [nI_1]
    refine ih (s + 1) I2 (by omega) (fun J f2 g1 g2 => hq J (qFr.trans (by rw [e2]; exact qFr.up (fun _ => ⟨by omega, by omega⟩)) f2) (fun z h1 h2 c hc => ?_) (fun z hz => by rw [g2 z (by omega), e2, vu_n (by omega)]))
    by_cases q : z = s
    · subst q
      rw [g2 z (by omega), e2, vu_s]; exact cpy3 hc
    · rw [g1 z (by omega) h2 c hc, e2, vu_n (by omega)]
theorem l1002_65 (hK : qLay K sz) (hR : qRef R) : ∀ (f s : Nat) (I : Nat → Nat → Int32), s + f = 3 → (∀ J, qFr (fun j _ => 30 ≤ j ∧ j < 33) I J → (∀ z, s ≤ z → z < 3 → J (30 + z) 0 = I (12 + z) 0) → (∀ z, z < s → J (30 + z) = I (30 + z)) → X (d + 1) 0 0 1002 0 0 94 [some (.ref 22), some (.ref 4), some (.int 0)] [] (K, J, L, R, sz) Q) → X (d + 1) 0 0 1002 0 0 65 [some (.ref 22), some (.ref 4), some (.int (nI s))] [] (K, I, L, R, sz) Q := by
  intro f
  induction f with
  | zero =>
    intro s I hs hq
    obtain rfl : s = 3 := by omega
    exact g1002_65 hK hR (fun q => absurd (by decide) q) (fun _ => hq I qFr.refl (fun z h1 h2 => by omega) (fun _ _ => rfl)) (fun q => absurd (by decide) q)
  | succ f ih =>
    intro s I hs hq
    refine g1002_65 hK hR (fun _ => vI (by omega) (by omega)) (fun q => absurd q (by rw [show (3 : Int32) = nI 3 from rfl, nI_leI (by omega) (by omega)]; omega)) (fun _ I2 e2 => ?_)
    rw [nI_c (by omega)] at e2
    rw [nI_1]
    refine ih (s + 1) I2 (by omega) (fun J f2 g1 g2 => hq J (qFr.trans (by rw [e2]; exact qFr.up (fun _ => ⟨by omega, by omega⟩)) f2) (fun z h1 h2 => ?_) (fun z hz => by rw [g2 z (by omega), e2, vu_n (by omega)]))
    by_cases q : z = s
    · subst q
      rw [g2 z (by omega), e2, vu_s]; rfl
    · rw [g1 z (by omega) h2, e2, vu_n (by omega)]
theorem l1002_94 (hK : qLay K sz) (hR : qRef R) : ∀ (f s : Nat) (I : Nat → Nat → Int32), s + f = 4 → (∀ J, qFr (fun j _ => 34 ≤ j ∧ j < 38) I J → (∀ z, s ≤ z → z < 4 → ∀ c, c < 4 → J (34 + z) c = I (16 + z) c) → (∀ z, z < s → J (34 + z) = I (34 + z)) → Q none (K, J, L, R, sz)) → X (d + 1) 0 0 1002 0 0 94 [some (.ref 22), some (.ref 4), some (.int (nI s))] [] (K, I, L, R, sz) Q := by
  intro f
  induction f with
  | zero =>
    intro s I hs hq
    obtain rfl : s = 4 := by omega
    exact g1002_94 hK hR (fun q => absurd (by decide) q) (fun _ => hq I qFr.refl (fun z h1 h2 => by omega) (fun _ _ => rfl)) (fun q => absurd (by decide) q)
  | succ f ih =>
    intro s I hs hq
    refine g1002_94 hK hR (fun _ => vI (by omega) (by omega)) (fun q => absurd q (by rw [show (4 : Int32) = nI 4 from rfl, nI_leI (by omega) (by omega)]; omega)) (fun _ I2 e2 => ?_)
    rw [nI_c (by omega)] at e2
    rw [nI_1]
    refine ih (s + 1) I2 (by omega) (fun J f2 g1 g2 => hq J (qFr.trans (by rw [e2]; exact qFr.up (fun _ => ⟨by omega, by omega⟩)) f2) (fun z h1 h2 c hc => ?_) (fun z hz => by rw [g2 z (by omega), e2, vu_n (by omega)]))
    by_cases q : z = s
    · subst q
      rw [g2 z (by omega), e2, vu_s]; exact cpy3 hc
    · rw [g1 z (by omega) h2 c hc, e2, vu_n (by omega)]
theorem up22 {z : Nat} {v : Int32} (e : J = va_up I 22 (upd (I 22) z v)) : (∀ y, J 22 y = if y = z then v else I 22 y) ∧ ∀ o, ¬ o = 22 → J o = I o := ⟨fun y => by rw [e, vu_s]; rfl, fun o ho => by rw [e, vu_n ho]⟩
theorem x1002 (hK : qLay K sz) (hR : qRef R) (hq : ∀ J, bhC I J → Q none (K, J, L, R, sz)) : X (d + 1) 0 0 1002 0 0 0 (qent (qml 1002) [.ref 22, .ref 4]) [] (K, I, L, R, sz) Q := by
  refine e1002 hK (fun I1 e1 I3 e3 I5 e5 I7 e7 => ?_)
  obtain ⟨a1, b1⟩ := up22 e1
  obtain ⟨a3, b3⟩ := up22 e3
  obtain ⟨a5, b5⟩ := up22 e5
  obtain ⟨a7, b7⟩ := up22 e7
  have hr : ∀ o, ¬ o = 22 → I7 o = I o := fun o h => by rw [b7 o h, b5 o h, b3 o h, b1 o h]
  have h22 : ∀ k, k < 4 → I7 22 k = I 4 k := fun k hk => by
    have : k = 0 ∨ k = 1 ∨ k = 2 ∨ k = 3 := by omega
    rw [a7, a5, a3, a1, b5 4 (by decide), b3 4 (by decide), b1 4 (by decide)]
    rcases this with rfl | rfl | rfl | rfl <;> rfl
  have h22' : ∀ k, ¬ k < 4 → I7 22 k = I 22 k := fun k hk => by
    rw [a7, if_neg (by omega), a5, if_neg (by omega), a3, if_neg (by omega), a1, if_neg (by omega)]
  refine l1002_34 hK hR 5 0 I7 rfl (fun J1 f1 g1 _ => ?_)
  refine l1002_65 hK hR 3 0 J1 rfl (fun J2 f2 g2 _ => ?_)
  refine l1002_94 hK hR 4 0 J2 rfl (fun J3 f3 g3 _ => ?_)
  refine hq J3 ⟨fun j k q => ?_, fun k hk => ?_, fun s hs c hc => ?_, fun m hm => ?_, fun t ht c hc => ?_⟩
  · rw [f3 j k (by omega), f2 j k (by omega), f1 j k (by omega)]
    by_cases h : j = 22
    · subst h; exact h22' k (by omega)
    · rw [hr j h]
  · rw [f3 22 k (by omega), f2 22 k (by omega), f1 22 k (by omega), h22 k hk]
  · rw [f3 _ c (by omega), f2 _ c (by omega), g1 s (Nat.zero_le _) hs c hc, hr _ (by omega)]
  · rw [f3 _ 0 (by omega), g2 m (Nat.zero_le _) hm, f1 _ 0 (by omega), hr _ (by omega)]
  · rw [g3 t (Nat.zero_le _) ht c hc, f2 _ c (by omega), f1 _ c (by omega), hr _ (by omega)]
theorem x10001 (hK : qLay K sz) (hq : ∀ J, tkZ I J → Q none (K, J, L, R, sz)) : X d 0 0 10001 0 0 0 (qent (qml 10001) [.ref 51]) [] (K, I, L, R, sz) Q := by
  refine t10001 hK (hq _ ⟨?_, ?_, ?_⟩)
  · exact qFr.trans (qFr.up1 ⟨rfl, Or.inl rfl⟩) (qFr.up1 ⟨rfl, Or.inr rfl⟩)
  · rw [vu_s]; unfold upd; rw [if_neg (by decide), vu_s]; rfl
  · rw [vu_s]; rfl
theorem l8001 (hK : qLay K sz) (hR : qRef R) : ∀ (f s : Nat) (I : Nat → Nat → Int32), s + f = 5 → (∀ z, z < s → I 58 z = -1) → (∀ J, snZ I J → Q none (K, J, L, R, sz)) → X d 0 0 8001 0 0 2 [some (.ref 57), some (.int (nI s))] [] (K, I, L, R, sz) Q := by
  intro f
  induction f with
  | zero =>
    intro s I hs hz hq
    obtain rfl : s = 5 := by omega
    exact g8001_2 hK hR (fun q => absurd (by decide) q) (fun _ => hq I ⟨qFr.refl, hz⟩) (fun q => absurd (by decide) q)
  | succ f ih =>
    intro s I hs hz hq
    refine g8001_2 hK hR (fun _ => vI (by omega) (by omega)) (fun q => absurd q (by rw [show (5 : Int32) = nI 5 from rfl, nI_leI (by omega) (by omega)]; omega)) (fun _ => ?_)
    rw [nI_c (by omega), nI_1]
    refine ih (s + 1) _ (by omega) (fun z h => ?_) (fun J g => hq J ⟨qFr.trans (qFr.up (fun _ => rfl)) g.1, g.2⟩)
    rw [vu_s]
    unfold upd
    by_cases q : z = s
    · rw [if_pos q]
    · rw [if_neg q]; exact hz z (by omega)
theorem x8001 (hK : qLay K sz) (hR : qRef R) (hq : ∀ J, snZ I J → Q none (K, J, L, R, sz)) : X d 0 0 8001 0 0 0 (qent (qml 8001) [.ref 57]) [] (K, I, L, R, sz) Q :=
  e8001 (l8001 hK hR 5 0 I rfl (fun z h => absurd h (Nat.not_lt_zero z)) hq)
theorem l12044_34 (hK : qLay K sz) (hR : qRef R) : ∀ (f s : Nat) (I : Nat → Nat → Int32), s + f = 34 → (∀ z, z < s → I 85 z = I 84 z) → (∀ J, qFr (fun j _ => j = 85) I J → (∀ z, z < 34 → J 85 z = J 84 z) → X d 0 0 12044 0 0 34 [some (.ref 73), some (.int (nI 34))] [] (K, J, L, R, sz) Q) → X d 0 0 12044 0 0 34 [some (.ref 73), some (.int (nI s))] [] (K, I, L, R, sz) Q := by
  intro f
  induction f with
  | zero =>
    intro s I hs hz hq
    obtain rfl : s = 34 := by omega
    exact hq I qFr.refl hz
  | succ f ih =>
    intro s I hs hz hq
    have hlt : ¬ (Int32.ofNat 34) ≤ nI s := by rw [show Int32.ofNat 34 = nI 34 from rfl, nI_leI (by omega) (by omega)]; omega
    refine g12044_34 hK hR (fun _ => vI (by omega) (by omega)) (fun q => absurd q hlt) (fun _ I4 e4 => ?_)
    rw [nI_c (by omega)] at e4
    rw [nI_1]
    refine ih (s + 1) I4 (by omega) (fun z h => ?_) (fun J g1 g2 => hq J (qFr.trans (by rw [e4]; exact qFr.up (fun _ => rfl)) g1) g2)
    rw [e4, vu_s, vu_n (by decide)]
    unfold upd
    by_cases q : z = s
    · rw [if_pos q, q]
    · rw [if_neg q]; exact hz z (by omega)
theorem l12044_68 (hK : qLay K sz) (hR : qRef R) : ∀ (f s : Nat) (I : Nat → Nat → Int32), s + f = 5 → (∀ z, z < s → I 100 z = -1) → (∀ J, qFr (fun j k => j = 100 ∨ (j = 73 ∧ k = 60)) I J → (∀ z, z < 5 → J 100 z = -1) → J 73 60 = 0 → Q (some (.int (J 73 24))) (K, J, L, R, sz)) → X d 0 0 12044 0 0 68 [some (.ref 73), some (.int (nI s))] [] (K, I, L, R, sz) Q := by
  intro f
  induction f with
  | zero =>
    intro s I hs hz hq
    obtain rfl : s = 5 := by omega
    refine g12044_68 hK hR (fun q => absurd (by decide) q) (fun _ I2 e2 => hq I2 (by rw [e2]; exact qFr.up1 (Or.inr ⟨rfl, rfl⟩)) (fun z h => ?_) (by rw [e2]; exact up_at)) (fun q => absurd (by decide) q)
    rw [e2, vu_n (by decide)]; exact hz z h
  | succ f ih =>
    intro s I hs hz hq
    refine g12044_68 hK hR (fun _ => vI (by omega) (by omega)) (fun q => absurd q (by rw [show (5 : Int32) = nI 5 from rfl, nI_leI (by omega) (by omega)]; omega)) (fun _ I4 e4 => ?_)
    rw [nI_c (by omega)] at e4
    rw [nI_1]
    refine ih (s + 1) I4 (by omega) (fun z h => ?_) (fun J g1 g2 g3 => hq J (qFr.trans (by rw [e4]; exact qFr.up (fun _ => Or.inl rfl)) g1) g2 g3)
    rw [e4, vu_s]
    unfold upd
    by_cases q : z = s
    · rw [if_pos q]
    · rw [if_neg q]; exact hz z (by omega)
theorem x12044 (hK : qLay K sz) (hR : qRef R) (hq : ∀ J, bhR I J → Q (some (.int (J 73 24))) (K, J, L, R, sz)) : X d 0 0 12044 0 0 0 (qent (qml 12044) [.ref 73]) [] (K, I, L, R, sz) Q := by
  refine e12044 hK (fun I1 e1 I3 e3 I5 e5 I7 e7 => ?_)
  have a1 := up73 e1
  have a3 := up73 e3
  have a5 := up73 e5
  have a7 := up73 e7
  have hr : ∀ o, ¬ o = 73 → I7 o = I o := fun o h => by rw [e7, vu_n h, e5, vu_n h, e3, vu_n h, e1, vu_n h]
  have h73 : ∀ k, k < 4 → I7 73 (23 + k) = I 73 (19 + k) := fun k hk => by
    have : k = 0 ∨ k = 1 ∨ k = 2 ∨ k = 3 := by omega
    rcases this with rfl | rfl | rfl | rfl
    · simp [a7, a5, a3, a1]
    · simp [a7, a5, a3, a1]
    · simp [a7, a5, a3, a1]
    · simp [a7, a5, a3, a1]
  have h73' : ∀ k, ¬ (23 ≤ k ∧ k ≤ 26) → I7 73 k = I 73 k := fun k hk => by
    rw [a7, if_neg (by omega), a5, if_neg (by omega), a3, if_neg (by omega), a1, if_neg (by omega)]
  refine l12044_34 hK hR 34 0 I7 rfl (fun z h => absurd h (Nat.not_lt_zero z)) (fun J1 f1 g1 => ?_)
  refine g12044_34 hK hR (fun q => absurd (Int32.le_refl _) q) (fun _ I2 e2 => ?_) (fun q => absurd (Int32.le_refl _) q)
  have a2 := up73 e2
  refine l12044_68 hK hR 5 0 I2 rfl (fun z h => absurd h (Nat.not_lt_zero z)) (fun J f g g60 => hq J ⟨fun j k q => ?_, fun k hk => ?_, fun k hk => ?_, ?_, g60, g⟩)
  · rw [f j k (by omega)]
    by_cases h : j = 73
    · subst h
      rw [a2, if_neg (by omega), f1 73 k (fun q => absurd (show (73 : Nat) = 85 from q) (by decide)), h73' k (by omega)]
    · rw [e2, vu_n h, f1 j k (by omega), hr j h]
  · rw [f 73 _ (by omega), a2, if_neg (by omega), f1 73 _ (fun q => absurd (show (73 : Nat) = 85 from q) (by decide)), h73 k hk]
  · rw [f 85 k (by omega), e2, vu_n (by decide), g1 k hk, f1 84 k (fun q => absurd (show (84 : Nat) = 85 from q) (by decide)), hr 84 (by decide)]
  · rw [f 73 33 (by omega), a2, if_pos rfl]
theorem e3001 {a : Int32}  {o : Nat} (ho : qLw K R sz o) (hK : qLay K sz) (b1 : ∀ I1 : Nat → Nat → Int32, I1 = va_up I o (upd (I o) 1 (if (if (Int32.ofNat 161) < 161 then (Int32.ofNat 161) else 161) < a then (if (Int32.ofNat 161) < 161 then (Int32.ofNat 161) else 161) else a)) → ¬ (I1 o 1) < 0) (b2 : ∀ I1 : Nat → Nat → Int32, I1 = va_up I o (upd (I o) 1 (if (if (Int32.ofNat 161) < 161 then (Int32.ofNat 161) else 161) < a then (if (Int32.ofNat 161) < 161 then (Int32.ofNat 161) else 161) else a)) → 0 + (I1 o 1).toNatClampNeg ≤ 161) (q1 : ∀ I1 : Nat → Nat → Int32, I1 = va_up I o (upd (I o) 1 (if (if (Int32.ofNat 161) < 161 then (Int32.ofNat 161) else 161) < a then (if (Int32.ofNat 161) < 161 then (Int32.ofNat 161) else 161) else a)) → ∀ I3 : Nat → Nat → Int32, I3 = va_up I1 (o + 1) (va_cpy (I1 21) (I1 (o + 1)) 0 0 ((I1 o 1).toNatClampNeg)) → Q none (K, I3, L, R, sz)) : X (d + 1) 0 0 3001 0 0 0 (qent (qml 3001) [.ref o, .ref 21, .int a]) [] (K, I, L, R, sz) Q := show X _ 0 0 3001 0 0 0 [some (.ref o), some (.ref 21), some (.int a)] [] _ _ from x_ald0 k3001_0 <| x_ild2 k3001_1 <| x_sipush (v := 161) k3001_2 rfl <| x_ald1 k3001_5 <| x_alenI k3001_6 (hK.at rfl) <| x_mmin k3001_7 m3_18 qs_min qi_Math qk_min (Nat.le_of_ble_eq_true rfl) (Nat.le_refl _) (Nat.le_refl _) <| x_mmin k3001_10 m3_18 qs_min qi_Math qk_min (Nat.le_of_ble_eq_true rfl) (Nat.le_refl _) (Nat.le_refl _) <| x_putI k3001_13 f3_24_3 (Or.inl rfl) ho.1 <| x_nm fun I1 e2 => x_ald1 k3001_16 <| x_iconst (v := 0) k3001_17 rfl <| x_ald0 k3001_18 <| x_getR k3001_19 f3_11_3 ho.1 rfl ho.2.2.2.1 <| x_iconst (v := 0) k3001_22 rfl <| x_ald0 k3001_23 <| x_getI k3001_24 f3_24_3 ho.1 rfl <| x_copy k3001_27 m3_28 qnat_copy qs_copy qi_System (hK.at rfl) ho.2.1 (by decide) (by decide) (b1 I1 e2) (b2 I1 e2) (b2 I1 e2) (Nat.le_of_ble_eq_true rfl) <| x_nm fun I3 e4 => x_vret k3001_30 rfl (Nat.le_refl _) (Nat.le_refl _) <| (q1 I1 e2 I3 e4)
theorem x3001 {a : Int32} {o : Nat} (hK : qLay K sz) (hR : qRef R) (ho : qLw K R sz o) (h21 : ¬ o = 21) (h20 : ¬ o + 1 = 21) (ha : ∃ n, n ≤ 161 ∧ a = nI n) (hq : ∀ J, lwC I o a J → Q none (K, J, L, R, sz)) : X (d + 1) 0 0 3001 0 0 0 (qent (qml 3001) [.ref o, .ref 21, .int a]) [] (K, I, L, R, sz) Q := by
  obtain ⟨m, hm, rfl⟩ := ha
  have e0 : (if (Int32.ofNat 161) < 161 then (Int32.ofNat 161) else 161) = nI 161 := rfl
  have e1 : (if (if (Int32.ofNat 161) < 161 then (Int32.ofNat 161) else 161) < nI m then (if (Int32.ofNat 161) < 161 then (Int32.ofNat 161) else 161) else nI m) = nI m := by
    rw [e0, if_neg (by rw [nI_ltI (by omega) (by omega)]; omega)]
  have v1 : ∀ {I1 : Nat → Nat → Int32}, I1 = va_up I o (upd (I o) 1 (if (if (Int32.ofNat 161) < 161 then (Int32.ofNat 161) else 161) < nI m then (if (Int32.ofNat 161) < 161 then (Int32.ofNat 161) else 161) else nI m)) → I1 o 1 = nI m := fun e => by rw [e, e1]; exact up_at
  refine e3001 ho hK (fun I1 e => by rw [v1 e]; exact nI_pos (by omega)) (fun I1 e => by rw [v1 e, nI_c (by omega)]; omega) (fun I1 e I3 e3 => ?_)
  have f1 : qFr (fun j k => (j = o ∧ k = 1) ∨ j = o + 1) I I1 := by rw [e]; exact qFr.up1 (Or.inl ⟨rfl, rfl⟩)
  have f3 : qFr (fun j k => (j = o ∧ k = 1) ∨ j = o + 1) I1 I3 := by rw [e3]; exact qFr.up (fun _ => Or.inr rfl)
  refine hq I3 ⟨m, rfl, hm, f1.trans f3, ?_, fun k hk => ?_⟩
  · rw [e3, vu_n (by omega)]; exact v1 e
  · rw [e3, vu_s, v1 e, nI_c (by omega), cpy3 hk]; exact f1 21 k (by omega)
theorem z12042 (hK : qLay K sz) (hR : qRef R) (T : rTp b n I) (h1 : ∀ J, zH1 b n I J → Q (some (.int (-1))) (K, J, L, R, sz)) (h0 : ∀ J x, zH0 b n I J → ¬ x = -1 → Q (some (.int x)) (K, J, L, R, sz)) : X (d + 4) 0 0 12042 0 0 0 (qent (qml 12042) [.ref 73]) [] (K, I, L, R, sz) Q :=
  s12042 hK hR T (fun J k v h e f q E => h1 J ⟨k, v, h, e, f, q, E⟩) (fun J k e f => h0 J _ ⟨k, e, f⟩ (nI_m (by have := (gHouse_W T.2.2.2 e); have := T.2.1; omega)))
theorem z12028 {a : Int32} (hK : qLay K sz) (hR : qRef R) (h : rTp b n I ∧ ∃ t, t < 5 ∧ a = nI t) (h1 : ∀ J, zL1 b n I a J → Q (some (.int (-1))) (K, J, L, R, sz)) (h0 : ∀ J x, zL0 b n I a J → ¬ x = -1 → Q (some (.int x)) (K, J, L, R, sz)) : X (d + 47) 0 0 12028 0 0 0 (qent (qml 12028) [.ref 73, .int a]) [] (K, I, L, R, sz) Q := by
  obtain ⟨T, t, t5, rfl⟩ := h
  exact s12028 (d := d + 43) (rClause hK hR T.2.2.2 d) hK hR T t5 (fun J k cs e f q => h1 J ⟨t, k, cs, rfl, t5, e, f, q⟩) (fun J k e f => h0 J _ ⟨t, k, rfl, t5, e, f⟩ (nI_m (by have := (gLaw_W T.2.2.2 e); have := T.2.1; omega)))
theorem e11004 {a : Int32}  (hK : qLay K sz) (hR : qRef R) (b1 : ¬ a = 0 → a = 1 → ¬ 4 ≤ (I 0 5) → iTp I) (b2 : ¬ a = 0 → a = 1 → ¬ 4 ≤ (I 0 5) → ∀ I4 : Nat → Nat → Int32, xL1 I I4 → vp_in (I4 0 5) 4) (b3 : ¬ a = 0 → a = 1 → ¬ 4 ≤ (I 0 5) → ∀ I4 : Nat → Nat → Int32, xL1 I I4 → (I4 0 5).toNatClampNeg < 4) (b4 : ¬ a = 0 → a = 1 → ¬ 4 ≤ (I 0 5) → ∀ I4 : Nat → Nat → Int32, xL1 I I4 → ∃ n, n ≤ 161 ∧ (I4 20 3) = nI n) (b5 : a = 0 → iTp I) (q1 : ¬ a = 0 → ¬ a = 1 → Q (some (.int (-1))) (K, I, L, R, sz)) (q2 : ¬ a = 0 → a = 1 → 4 ≤ (I 0 5) → Q (some (.int (-1))) (K, I, L, R, sz)) (q3 : ¬ a = 0 → a = 1 → ¬ 4 ≤ (I 0 5) → ∀ I4 : Nat → Nat → Int32, xL1 I I4 → ∀ I6 : Nat → Nat → Int32, lwC I4 (39 + 3 * (I4 0 5).toNatClampNeg) (I4 20 3) I6 → ∀ I8 : Nat → Nat → Int32, I8 = va_up I6 1 (upd (I6 1) 1 0) → ∀ I10 : Nat → Nat → Int32, I10 = va_up I8 0 (upd (I8 0) 5 ((I8 0 5) + 1)) → Q (some (.int ((I10 0 5) - 1))) (K, I10, L, R, sz)) (q4 : ¬ a = 0 → a = 1 → ¬ 4 ≤ (I 0 5) → ∀ I12 : Nat → Nat → Int32, xL0 I I12 → Q (some (.int (-1))) (K, I12, L, R, sz)) (q5 : a = 0 → ∀ I14 : Nat → Nat → Int32, xH1 I I14 → ∀ I16 : Nat → Nat → Int32, bhC I14 I16 → ∀ I18 : Nat → Nat → Int32, tkZ I16 I18 → ∀ I20 : Nat → Nat → Int32, snZ I18 I20 → ∀ I22 : Nat → Nat → Int32, I22 = va_up I20 0 (upd (I20 0) 13 0) → ∀ I24 : Nat → Nat → Int32, I24 = va_up I22 1 (upd (I22 1) 1 0) → Q (some (.int (I24 22 1))) (K, I24, L, R, sz)) (q6 : a = 0 → ∀ I26 : Nat → Nat → Int32, xH0 I I26 → Q (some (.int (-1))) (K, I26, L, R, sz)) : X (d + 48) 0 0 11004 0 0 0 (qent (qml 11004) [.ref 0, .int a]) [] (K, I, L, R, sz) Q := show X _ 0 0 11004 0 0 0 [some (.ref 0), some (.int a)] [] _ _ from x_ild1 k11004_0 <| x_ifne (tgt := 63) k11004_1 (by decide) (fun h1 => x_ild1 k11004_63 <| x_iconst (v := 1) k11004_64 rfl <| x_icmpne (tgt := 137) k11004_65 (by decide) (fun h2 => x_iconst (v := (-1)) k11004_137 rfl <| x_iret k11004_138 rfl (Nat.le_refl _) (Nat.le_refl _) <| (q1 h1 h2)) (fun h2 => x_ald0 k11004_68 <| x_getI k11004_69 f11_121_10 (hK.at rfl) rfl <| x_iconst (v := 4) k11004_72 rfl <| x_icmpge (tgt := 137) k11004_73 (by decide) (fun h3 => x_iconst (v := (-1)) k11004_137 rfl <| x_iret k11004_138 rfl (Nat.le_refl _) (Nat.le_refl _) <| (q2 h1 h2 h3)) (fun h3 => x_ald0 k11004_76 <| x_getR k11004_77 f11_28_10 (hK.at rfl) rfl (hR _ _ _ rfl) <| x_cV0 (MCz := 0) (MSz := 0) k11004_80 v11_99_4 (hK.at rfl) (Nat.le_of_ble_eq_true rfl) (Nat.le_of_ble_eq_true rfl) (Nat.le_refl _) (Nat.le_refl _) <| x4001 hK hR (b1 h1 h2 h3) (fun I4 g5 => x_ifeqF (tgt := 137) k11004_83 (by decide) (show ¬ (1 : Int32) = 0 by decide) <| x_ald0 k11004_86 <| x_getR k11004_87 f11_42_10 (hK.at rfl) rfl (hR _ _ _ rfl) <| x_ald0 k11004_90 <| x_getI k11004_91 f11_121_10 (hK.at rfl) rfl <| x_aaldL k11004_94 (hK.at rfl) (b2 h1 h2 h3 I4 g5) (qrowR38 hR (b2 h1 h2 h3 I4 g5)) <| x_ald0 k11004_95 <| x_getR k11004_96 f11_28_10 (hK.at rfl) rfl (hR _ _ _ rfl) <| x_getR k11004_99 f11_124_4 (hK.at rfl) rfl (hR _ _ _ rfl) <| x_ald0 k11004_102 <| x_getR k11004_103 f11_28_10 (hK.at rfl) rfl (hR _ _ _ rfl) <| x_getI k11004_106 f11_127_4 (hK.at rfl) rfl <| x_cV2 (MCz := 0) (MSz := 0) k11004_109 v11_130_3 (qLw_at hK hR (b3 h1 h2 h3 I4 g5)).1 (Nat.le_of_ble_eq_true rfl) (Nat.le_of_ble_eq_true rfl) (Nat.le_refl _) (Nat.le_refl _) <| x3001 hK hR (qLw_at hK hR (b3 h1 h2 h3 I4 g5)) (by omega) (by omega) (b4 h1 h2 h3 I4 g5) (fun I6 g7 => x_ald0 k11004_112 <| x_getR k11004_113 f11_10_10 (hK.at rfl) rfl (hR _ _ _ rfl) <| x_iconst (v := 0) k11004_116 rfl <| x_putI k11004_117 f11_85_8 (Or.inl rfl) (hK.at rfl) <| x_nm fun I8 e9 => x_ald0 k11004_120 <| x_dup k11004_121 rfl <| x_getI k11004_122 f11_121_10 (hK.at rfl) rfl <| x_iconst (v := 1) k11004_125 rfl <| x_iadd k11004_126 <| x_putI k11004_127 f11_121_10 (Or.inl rfl) (hK.at rfl) <| x_nm fun I10 e11 => x_ald0 k11004_130 <| x_getI k11004_131 f11_121_10 (hK.at rfl) rfl <| x_iconst (v := 1) k11004_134 rfl <| x_isub k11004_135 <| x_iret k11004_136 rfl (Nat.le_refl _) (Nat.le_refl _) <| (q3 h1 h2 h3 I4 g5 I6 g7 I8 e9 I10 e11))) (fun I12 g13 => x_ifeqT (tgt := 137) k11004_83 (by decide) (show (0 : Int32) = 0 by decide) <| x_iconst (v := (-1)) k11004_137 rfl <| x_iret k11004_138 rfl (Nat.le_refl _) (Nat.le_refl _) <| (q4 h1 h2 h3 I12 g13))))) (fun h1 => x_ald0 k11004_4 <| x_getR k11004_5 f11_21_10 (hK.at rfl) rfl (hR _ _ _ rfl) <| x_cV0 (MCz := 0) (MSz := 0) k11004_8 v11_92_2 (hK.at rfl) (Nat.le_of_ble_eq_true rfl) (Nat.le_of_ble_eq_true rfl) (Nat.le_refl _) (Nat.le_refl _) <| x2001 hK hR (b5 h1) (fun I14 g15 => x_ifeqF (tgt := 63) k11004_11 (by decide) (show ¬ (1 : Int32) = 0 by decide) <| x_ald0 k11004_14 <| x_getR k11004_15 f11_35_10 (hK.at rfl) rfl (hR _ _ _ rfl) <| x_ald0 k11004_18 <| x_getR k11004_19 f11_21_10 (hK.at rfl) rfl (hR _ _ _ rfl) <| x_getR k11004_22 f11_103_2 (hK.at rfl) rfl (hR _ _ _ rfl) <| x_cV1 (MCz := 0) (MSz := 0) k11004_25 v11_106_1 (hK.at rfl) (Nat.le_of_ble_eq_true rfl) (Nat.le_of_ble_eq_true rfl) (Nat.le_refl _) (Nat.le_refl _) <| x1002 hK hR (fun I16 g17 => x_ald0 k11004_28 <| x_getR k11004_29 f11_53_10 (hK.at rfl) rfl (hR _ _ _ rfl) <| x_cV0 (MCz := 0) (MSz := 0) k11004_32 v11_110_9 (hK.at rfl) (Nat.le_of_ble_eq_true rfl) (Nat.le_of_ble_eq_true rfl) (Nat.le_refl _) (Nat.le_refl _) <| x10001 hK (fun I18 g19 => x_ald0 k11004_35 <| x_getR k11004_36 f11_60_10 (hK.at rfl) rfl (hR _ _ _ rfl) <| x_cV0 (MCz := 0) (MSz := 0) k11004_39 v11_113_7 (hK.at rfl) (Nat.le_of_ble_eq_true rfl) (Nat.le_of_ble_eq_true rfl) (Nat.le_refl _) (Nat.le_refl _) <| x8001 hK hR (fun I20 g21 => x_ald0 k11004_42 <| x_iconst (v := 0) k11004_43 rfl <| x_putZ k11004_44 f11_114_10 (Or.inl rfl) (hK.at rfl) (Or.inl rfl) <| x_nm fun I22 e23 => x_ald0 k11004_47 <| x_getR k11004_48 f11_10_10 (hK.at rfl) rfl (hR _ _ _ rfl) <| x_iconst (v := 0) k11004_51 rfl <| x_putI k11004_52 f11_85_8 (Or.inl rfl) (hK.at rfl) <| x_nm fun I24 e25 => x_ald0 k11004_55 <| x_getR k11004_56 f11_35_10 (hK.at rfl) rfl (hR _ _ _ rfl) <| x_getI k11004_59 f11_118_1 (hK.at rfl) rfl <| x_iret k11004_62 rfl (Nat.le_refl _) (Nat.le_refl _) <| (q5 h1 I14 g15 I16 g17 I18 g19 I20 g21 I22 e23 I24 e25))))) (fun I26 g27 => x_ifeqT (tgt := 63) k11004_11 (by decide) (show (0 : Int32) = 0 by decide) <| x_ild1 k11004_63 <| x_iconst (v := 1) k11004_64 rfl <| x_icmpneT (tgt := 137) k11004_65 (by decide) (by rw [h1]; decide) <| x_iconst (v := (-1)) k11004_137 rfl <| x_iret k11004_138 rfl (Nat.le_refl _) (Nat.le_refl _) <| (q6 h1 I26 g27)))
theorem e12045 {a : Int32}  (hK : qLay K sz) (hR : qRef R) (b1 : ¬ a = 0 → a = 1 → ¬ 4 ≤ (I 73 13) → rTp b n I ∧ ∃ t, t < 5 ∧ (I 73 13) = nI t) (b2 : a = 0 → rTp b n I) (q1 : ¬ a = 0 → ¬ a = 1 → Q (some (.int (-1))) (K, I, L, R, sz)) (q2 : ¬ a = 0 → a = 1 → 4 ≤ (I 73 13) → Q (some (.int (-1))) (K, I, L, R, sz)) (q3 : ¬ a = 0 → a = 1 → ¬ 4 ≤ (I 73 13) → ∀ I4 : Nat → Nat → Int32, zL1 b n I (I 73 13) I4 → ∀ I6 : Nat → Nat → Int32, I6 = va_up I4 73 (upd (I4 73) 2 0) → ∀ I8 : Nat → Nat → Int32, I8 = va_up I6 73 (upd (I6 73) 13 ((I6 73 13) + 1)) → Q (some (.int ((I8 73 13) - 1))) (K, I8, L, R, sz)) (q4 : ¬ a = 0 → a = 1 → ¬ 4 ≤ (I 73 13) → ∀ I10 : Nat → Nat → Int32, ∀ r11 : Int32, zL0 b n I (I 73 13) I10 → ¬ r11 = (-1) → Q (some (.int (-1))) (K, I10, L, R, sz)) (q5 : a = 0 → ∀ I14 : Nat → Nat → Int32, zH1 b n I I14 → ∀ I16 : Nat → Nat → Int32, I16 = va_up I14 73 (upd (I14 73) 2 0) → ∀ I18 : Nat → Nat → Int32, bhR I16 I18 → Q (some (.int (I18 73 24))) (K, I18, L, R, sz)) (q6 : a = 0 → ∀ I20 : Nat → Nat → Int32, ∀ r21 : Int32, zH0 b n I I20 → ¬ r21 = (-1) → Q (some (.int (-1))) (K, I20, L, R, sz)) : X (d + 48) 0 0 12045 0 0 0 (qent (qml 12045) [.ref 73, .int a]) [] (K, I, L, R, sz) Q := show X _ 0 0 12045 0 0 0 [some (.ref 73), some (.int a)] [] _ _ from x_ild1 k12045_0 <| x_ifne (tgt := 22) k12045_1 (by decide) (fun h1 => x_ild1 k12045_22 <| x_iconst (v := 1) k12045_23 rfl <| x_icmpne (tgt := 69) k12045_24 (by decide) (fun h2 => x_iconst (v := (-1)) k12045_69 rfl <| x_iret k12045_70 rfl (Nat.le_refl _) (Nat.le_refl _) <| (q1 h1 h2)) (fun h2 => x_ald0 k12045_27 <| x_getI k12045_28 f12_308_11 (hK.at rfl) rfl <| x_iconst (v := 4) k12045_31 rfl <| x_icmpge (tgt := 69) k12045_32 (by decide) (fun h3 => x_iconst (v := (-1)) k12045_69 rfl <| x_iret k12045_70 rfl (Nat.le_refl _) (Nat.le_refl _) <| (q2 h1 h2 h3)) (fun h3 => x_ald0 k12045_35 <| x_ald0 k12045_36 <| x_getI k12045_37 f12_308_11 (hK.at rfl) rfl <| x_cV1 (MCz := 0) (MSz := 0) k12045_40 v12_283_11 (hK.at rfl) (Nat.le_of_ble_eq_true rfl) (Nat.le_of_ble_eq_true rfl) (Nat.le_refl _) (Nat.le_refl _) <| z12028 hK hR (b1 h1 h2 h3) (fun I4 g5 => x_iconst (v := (-1)) k12045_43 rfl <| x_icmpneF (tgt := 69) k12045_44 (by decide) (show (-1 : Int32) = -1 by decide) <| x_ald0 k12045_47 <| x_iconst (v := 0) k12045_48 rfl <| x_putI k12045_49 f12_123_11 (Or.inl rfl) (hK.at rfl) <| x_nm fun I6 e7 => x_ald0 k12045_52 <| x_dup k12045_53 rfl <| x_getI k12045_54 f12_308_11 (hK.at rfl) rfl <| x_iconst (v := 1) k12045_57 rfl <| x_iadd k12045_58 <| x_putI k12045_59 f12_308_11 (Or.inl rfl) (hK.at rfl) <| x_nm fun I8 e9 => x_ald0 k12045_62 <| x_getI k12045_63 f12_308_11 (hK.at rfl) rfl <| x_iconst (v := 1) k12045_66 rfl <| x_isub k12045_67 <| x_iret k12045_68 rfl (Nat.le_refl _) (Nat.le_refl _) <| (q3 h1 h2 h3 I4 g5 I6 e7 I8 e9)) (fun I10 r11 g12 g13 => x_iconst (v := (-1)) k12045_43 rfl <| x_icmpneT (tgt := 69) k12045_44 (by decide) g13 <| x_iconst (v := (-1)) k12045_69 rfl <| x_iret k12045_70 rfl (Nat.le_refl _) (Nat.le_refl _) <| (q4 h1 h2 h3 I10 r11 g12 g13))))) (fun h1 => x_ald0 k12045_4 <| x_cV0 (MCz := 0) (MSz := 0) k12045_5 v12_280_11 (hK.at rfl) (Nat.le_of_ble_eq_true rfl) (Nat.le_of_ble_eq_true rfl) (Nat.le_refl _) (Nat.le_refl _) <| z12042 hK hR (b2 h1) (fun I14 g15 => x_iconst (v := (-1)) k12045_8 rfl <| x_icmpneF (tgt := 22) k12045_9 (by decide) (show (-1 : Int32) = -1 by decide) <| x_ald0 k12045_12 <| x_iconst (v := 0) k12045_13 rfl <| x_putI k12045_14 f12_123_11 (Or.inl rfl) (hK.at rfl) <| x_nm fun I16 e17 => x_ald0 k12045_17 <| x_cV0 (MCz := 0) (MSz := 0) k12045_18 v12_305_11 (hK.at rfl) (Nat.le_of_ble_eq_true rfl) (Nat.le_of_ble_eq_true rfl) (Nat.le_refl _) (Nat.le_refl _) <| x12044 hK hR (fun I18 g19 => x_iret k12045_21 rfl (Nat.le_refl _) (Nat.le_refl _) <| (q5 h1 I14 g15 I16 e17 I18 g19))) (fun I20 r21 g22 g23 => x_iconst (v := (-1)) k12045_8 rfl <| x_icmpneT (tgt := 22) k12045_9 (by decide) g23 <| x_ild1 k12045_22 <| x_iconst (v := 1) k12045_23 rfl <| x_icmpneT (tgt := 69) k12045_24 (by decide) (by rw [h1]; decide) <| x_iconst (v := (-1)) k12045_69 rfl <| x_iret k12045_70 rfl (Nat.le_refl _) (Nat.le_refl _) <| (q6 h1 I20 r21 g22 g23)))
end L99q
