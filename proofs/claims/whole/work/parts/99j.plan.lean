/-! plans: the reference's planOf -/
section L99ja
variable {I J : Nat → Nat → Int32} {p : qPa} {m : Nat} {x : Int32} {g : qPg}
def pPm (j k : Nat) : Prop := pO j k ∨ j = 91 ∨ j = 92 ∨ (j = 73 ∧ (k = 48 ∨ k = 49))
theorem pPm_Q {j k : Nat} (h : pPm j k) : scQ j k := fun q => by unfold pPm pO pU at h; unfold kpQ at q; omega
theorem m1_nI {n : Nat} (h : n < 2147483648) : ¬ nI n = -1 := fun z => by
  have h9 := congrArg Int32.toInt z
  rw [nI_i h] at h9
  have e1 : (-1 : Int32).toInt = -1 := rfl
  rw [e1] at h9; omega
/-- what is known of the plan at (t, j) -/
def rSta (g : qPg) (J : Nat → Nat → Int32) (t j : Nat) : Prop := (J 73 48 = -1 ∧ J 73 49 = -1 ∧ rPN g t j) ∨ (∃ k, J 73 48 = nI t ∧ J 73 49 = nI k ∧ k < 1100 ∧ rPS g t j k)
/-- the outcome -/
def rOut (g : qPg) (J : Nat → Nat → Int32) : Prop := (J 73 48 = -1 ∧ J 73 49 = -1 ∧ noPl g) ∨ (∃ T k, J 73 48 = nI T ∧ J 73 49 = nI k ∧ T < 1000 ∧ k ≤ T ∧ isPl g T k)
theorem rDj_0 {g : qPg} (v : gV g) {mn fw : Nat → Int32} (h : ∀ i, i < 80000 → mn i = -1) : rDj g (upd mn (rcd (fun _ => false) (fun _ => false) (g0r g) (g0f g)) 0) (upd fw (rcd (fun _ => false) (fun _ => false) (g0r g) (g0f g)) 0) 0 0 := by
  have h0 : rW g (fun _ => false) (fun _ => false) (g0r g) (g0f g) 0 0 := ⟨0, rfl, rfl, rfl, rfl, rfl, rfl⟩
  have hc := (rW_ok v h0).2.2.1
  have h1 := rch_y (T := 0) (k := 0) (mn := mn) (fw := fw) (g := g) (fun i hi => Or.inl (h i hi)) hc (by omega) (Nat.le_refl _) (rSt2_c v h0) (Or.inl (h _ hc))
  exact ⟨h1.1, h1.2.1, fun d h r f T k _ hb => absurd hb (by unfold bef; omega)⟩
end L99ja
section L99j
variable {d : Nat} {K : qK} {I : Nat → Nat → Int32} {L : Nat → Nat → Int64} {R : Nat → Nat → Option Nat} {sz : Nat} {Q : Option Value → qMem → Prop} {p : qPa}
theorem e12081 {a : Int32} {b : Int32} {c : Int32}  (hK : qLay K sz) (hR : qRef R) (b1 : vp_in a 80000) (q1 : (I 91 a.toNatClampNeg) = (-1) → ∀ I2 : Nat → Nat → Int32, I2 = va_up I 91 (upd (I 91) a.toNatClampNeg b) → ∀ I4 : Nat → Nat → Int32, I4 = va_up I2 92 (upd (I2 92) a.toNatClampNeg c) → Q (some (.int 1)) (K, I4, L, R, sz)) (q2 : ¬ (I 91 a.toNatClampNeg) = (-1) → b < (I 91 a.toNatClampNeg) → ∀ I7 : Nat → Nat → Int32, I7 = va_up I 91 (upd (I 91) a.toNatClampNeg b) → ∀ I9 : Nat → Nat → Int32, I9 = va_up I7 92 (upd (I7 92) a.toNatClampNeg c) → Q (some (.int 1)) (K, I9, L, R, sz)) (q3 : ¬ (I 91 a.toNatClampNeg) = (-1) → ¬ b < (I 91 a.toNatClampNeg) → ¬ b = (I 91 a.toNatClampNeg) → Q (some (.int 0)) (K, I, L, R, sz)) (q4 : ¬ (I 91 a.toNatClampNeg) = (-1) → ¬ b < (I 91 a.toNatClampNeg) → b = (I 91 a.toNatClampNeg) → (I 92 a.toNatClampNeg) ≤ c → Q (some (.int 0)) (K, I, L, R, sz)) (q5 : ¬ (I 91 a.toNatClampNeg) = (-1) → ¬ b < (I 91 a.toNatClampNeg) → b = (I 91 a.toNatClampNeg) → ¬ (I 92 a.toNatClampNeg) ≤ c → ∀ I13 : Nat → Nat → Int32, I13 = va_up I 91 (upd (I 91) a.toNatClampNeg b) → ∀ I15 : Nat → Nat → Int32, I15 = va_up I13 92 (upd (I13 92) a.toNatClampNeg c) → Q (some (.int 1)) (K, I15, L, R, sz)) : X d 0 0 12081 0 0 0 (qent (qml 12081) [.ref 73, .int a, .int b, .int c]) [] (K, I, L, R, sz) Q := show X _ 0 0 12081 0 0 0 [some (.ref 73), some (.int a), some (.int b), some (.int c), none] [] _ _ from x_ald0 k12081_0 <| x_getR k12081_1 f12_70_11 (hK.at rfl) rfl (hR _ _ _ rfl) <| x_ild1 k12081_4 <| x_iald k12081_5 (hK.at rfl) b1 <| x_iconst (v := (-1)) k12081_6 rfl <| x_icmpeq (tgt := 40) k12081_7 (by decide) (fun h1 => x_iconst (v := 1) k12081_40 rfl <| x_goto (tgt := 45) k12081_41 (by decide) <| x_ist4 k12081_45 (Nat.le_of_ble_eq_true rfl) rfl <| x_ild4 k12081_47 <| x_ifeqF (tgt := 66) k12081_49 (by decide) (show ¬ (1 : Int32) = 0 by decide) <| x_ald0 k12081_52 <| x_getR k12081_53 f12_70_11 (hK.at rfl) rfl (hR _ _ _ rfl) <| x_ild1 k12081_56 <| x_ild2 k12081_57 <| x_iast k12081_58 (hK.at rfl) b1 <| x_nm fun I2 e3 => x_ald0 k12081_59 <| x_getR k12081_60 f12_73_11 (hK.at rfl) rfl (hR _ _ _ rfl) <| x_ild1 k12081_63 <| x_ild3 k12081_64 <| x_iast k12081_65 (hK.at rfl) b1 <| x_nm fun I4 e5 => x_ild4 k12081_66 <| x_zret k12081_68 rfl (Or.inr rfl) (Nat.le_refl _) (Nat.le_refl _) <| (q1 h1 I2 e3 I4 e5)) (fun h1 => x_ild2 k12081_10 <| x_ald0 k12081_11 <| x_getR k12081_12 f12_70_11 (hK.at rfl) rfl (hR _ _ _ rfl) <| x_ild1 k12081_15 <| x_iald k12081_16 (hK.at rfl) b1 <| x_icmplt (tgt := 40) k12081_17 (by decide) (fun h6 => x_iconst (v := 1) k12081_40 rfl <| x_goto (tgt := 45) k12081_41 (by decide) <| x_ist4 k12081_45 (Nat.le_of_ble_eq_true rfl) rfl <| x_ild4 k12081_47 <| x_ifeqF (tgt := 66) k12081_49 (by decide) (show ¬ (1 : Int32) = 0 by decide) <| x_ald0 k12081_52 <| x_getR k12081_53 f12_70_11 (hK.at rfl) rfl (hR _ _ _ rfl) <| x_ild1 k12081_56 <| x_ild2 k12081_57 <| x_iast k12081_58 (hK.at rfl) b1 <| x_nm fun I7 e8 => x_ald0 k12081_59 <| x_getR k12081_60 f12_73_11 (hK.at rfl) rfl (hR _ _ _ rfl) <| x_ild1 k12081_63 <| x_ild3 k12081_64 <| x_iast k12081_65 (hK.at rfl) b1 <| x_nm fun I9 e10 => x_ild4 k12081_66 <| x_zret k12081_68 rfl (Or.inr rfl) (Nat.le_refl _) (Nat.le_refl _) <| (q2 h1 h6 I7 e8 I9 e10)) (fun h6 => x_ild2 k12081_20 <| x_ald0 k12081_21 <| x_getR k12081_22 f12_70_11 (hK.at rfl) rfl (hR _ _ _ rfl) <| x_ild1 k12081_25 <| x_iald k12081_26 (hK.at rfl) b1 <| x_icmpne (tgt := 44) k12081_27 (by decide) (fun h11 => x_iconst (v := 0) k12081_44 rfl <| x_ist4 k12081_45 (Nat.le_of_ble_eq_true rfl) rfl <| x_ild4 k12081_47 <| x_ifeqT (tgt := 66) k12081_49 (by decide) (show (0 : Int32) = 0 by decide) <| x_ild4 k12081_66 <| x_zret k12081_68 rfl (Or.inl rfl) (Nat.le_refl _) (Nat.le_refl _) <| (q3 h1 h6 h11)) (fun h11 => x_ild3 k12081_30 <| x_ald0 k12081_31 <| x_getR k12081_32 f12_73_11 (hK.at rfl) rfl (hR _ _ _ rfl) <| x_ild1 k12081_35 <| x_iald k12081_36 (hK.at rfl) b1 <| x_icmpge (tgt := 44) k12081_37 (by decide) (fun h12 => x_iconst (v := 0) k12081_44 rfl <| x_ist4 k12081_45 (Nat.le_of_ble_eq_true rfl) rfl <| x_ild4 k12081_47 <| x_ifeqT (tgt := 66) k12081_49 (by decide) (show (0 : Int32) = 0 by decide) <| x_ild4 k12081_66 <| x_zret k12081_68 rfl (Or.inl rfl) (Nat.le_refl _) (Nat.le_refl _) <| (q4 h1 h6 h11 h12)) (fun h12 => x_iconst (v := 1) k12081_40 rfl <| x_goto (tgt := 45) k12081_41 (by decide) <| x_ist4 k12081_45 (Nat.le_of_ble_eq_true rfl) rfl <| x_ild4 k12081_47 <| x_ifeqF (tgt := 66) k12081_49 (by decide) (show ¬ (1 : Int32) = 0 by decide) <| x_ald0 k12081_52 <| x_getR k12081_53 f12_70_11 (hK.at rfl) rfl (hR _ _ _ rfl) <| x_ild1 k12081_56 <| x_ild2 k12081_57 <| x_iast k12081_58 (hK.at rfl) b1 <| x_nm fun I13 e14 => x_ald0 k12081_59 <| x_getR k12081_60 f12_73_11 (hK.at rfl) rfl (hR _ _ _ rfl) <| x_ild1 k12081_63 <| x_ild3 k12081_64 <| x_iast k12081_65 (hK.at rfl) b1 <| x_nm fun I15 e16 => x_ild4 k12081_66 <| x_zret k12081_68 rfl (Or.inr rfl) (Nat.le_refl _) (Nat.le_refl _) <| (q5 h1 h6 h11 h12 I13 e14 I15 e16)))))
theorem e12080 {a : Int32} {b : Int32}    (q1 : X d 0 0 12080 0 0 2 [some (.ref 73), some (.int a), some (.int b), some (.int 0), none, none, none, none] [] (K, I, L, R, sz) Q) : X d 0 0 12080 0 0 0 (qent (qml 12080) [.ref 73, .int a, .int b]) [] (K, I, L, R, sz) Q := show X _ 0 0 12080 0 0 0 [some (.ref 73), some (.int a), some (.int b), none, none, none, none, none] [] _ _ from x_iconst (v := 0) k12080_0 rfl <| x_ist3 k12080_1 (Nat.le_of_ble_eq_true rfl) rfl <| q1
theorem g12080_2 {x1 : Int32} {x2 : Int32} {x3 : Int32}  (hK : qLay K sz) (hR : qRef R) (b1 : ¬ 80000 ≤ x3 → vp_in x3 80000) (q1 : 80000 ≤ x3 → X d 0 0 12080 0 0 23 [some (.ref 73), some (.int x1), some (.int x2), some (.int x3), none, none, none, none] [.int x1, .ref 73] (K, I, L, R, sz) Q) (q2 : ¬ 80000 ≤ x3 → ∀ I2 : Nat → Nat → Int32, I2 = va_up I 91 (upd (I 91) x3.toNatClampNeg (-1)) → X d 0 0 12080 0 0 2 [some (.ref 73), some (.int x1), some (.int x2), some (.int (x3 + 1)), none, none, none, none] [] (K, I2, L, R, sz) Q) : X d 0 0 12080 0 0 2 [some (.ref 73), some (.int x1), some (.int x2), some (.int x3), none, none, none, none] [] (K, I, L, R, sz) Q := x_ild3 k12080_2 <| x_ldcI k12080_3 c12_69 <| x_icmpge (tgt := 21) k12080_5 (by decide) (fun h1 => x_ald0 k12080_21 <| x_ild1 k12080_22 <| (q1 h1)) (fun h1 => x_ald0 k12080_8 <| x_getR k12080_9 f12_70_11 (hK.at rfl) rfl (hR _ _ _ rfl) <| x_ild3 k12080_12 <| x_iconst (v := (-1)) k12080_13 rfl <| x_iast k12080_14 (hK.at rfl) (b1 h1) <| x_nm fun I2 e3 => x_inc3 (c := 1) k12080_15 rfl (Nat.le_of_ble_eq_true rfl) rfl <| x_goto (tgt := 2) k12080_18 (by decide) <| (q2 h1 I2 e3))
theorem f12080a {a : Int32} {b : Int32} {v : Int32}  (hK : qLay K sz) (hR : qRef R) (b1 : vp_in v 80000) (q1 : ∀ I1 : Nat → Nat → Int32, I1 = va_up I 91 (upd (I 91) v.toNatClampNeg 0) → ∀ I3 : Nat → Nat → Int32, I3 = va_up I1 92 (upd (I1 92) v.toNatClampNeg 0) → ∀ I5 : Nat → Nat → Int32, I5 = va_up I3 73 (upd (I3 73) 48 (-1)) → ∀ I7 : Nat → Nat → Int32, I7 = va_up I5 73 (upd (I5 73) 49 (-1)) → X d 0 0 12080 0 0 57 [some (.ref 73), some (.int a), some (.int b), some (.int v), some (.int 1), some (.int 0), none, none] [] (K, I7, L, R, sz) Q) : X d 0 0 12080 0 0 26 [some (.ref 73), some (.int a), some (.int b), none, none, none, none, none] [.int v] (K, I, L, R, sz) Q := x_ist3 k12080_26 (Nat.le_of_ble_eq_true rfl) rfl <| x_ald0 k12080_27 <| x_getR k12080_28 f12_70_11 (hK.at rfl) rfl (hR _ _ _ rfl) <| x_ild3 k12080_31 <| x_iconst (v := 0) k12080_32 rfl <| x_iast k12080_33 (hK.at rfl) b1 <| x_nm fun I1 e2 => x_ald0 k12080_34 <| x_getR k12080_35 f12_73_11 (hK.at rfl) rfl (hR _ _ _ rfl) <| x_ild3 k12080_38 <| x_iconst (v := 0) k12080_39 rfl <| x_iast k12080_40 (hK.at rfl) b1 <| x_nm fun I3 e4 => x_ald0 k12080_41 <| x_iconst (v := (-1)) k12080_42 rfl <| x_putI k12080_43 f12_396_11 (Or.inl rfl) (hK.at rfl) <| x_nm fun I5 e6 => x_ald0 k12080_46 <| x_iconst (v := (-1)) k12080_47 rfl <| x_putI k12080_48 f12_399_11 (Or.inl rfl) (hK.at rfl) <| x_nm fun I7 e8 => x_iconst (v := 1) k12080_51 rfl <| x_ist4 k12080_52 (Nat.le_of_ble_eq_true rfl) rfl <| x_iconst (v := 0) k12080_54 rfl <| x_ist5 k12080_55 (Nat.le_of_ble_eq_true rfl) rfl <| (q1 I1 e2 I3 e4 I5 e6 I7 e8)
theorem f12080b {a : Int32} {b : Int32} {c : Int32} {e : Int32} {f : Int32} {x6 : Int32}  (hK : qLay K sz) (hR : qRef R) (b1 : (I 73 41) = ((1 <<< ((I 73 26) &&& 31)) - 1) → ¬ (I 73 48) = (-1) → vp_in x6 80000) (b2 : (I 73 41) = ((1 <<< ((I 73 26) &&& 31)) - 1) → (I 73 48) = (-1) → vp_in x6 80000) (q1 : ¬ (I 73 41) = ((1 <<< ((I 73 26) &&& 31)) - 1) → X (d + 1) 0 0 12080 0 0 191 [some (.ref 73), some (.int a), some (.int b), some (.int c), some (.int e), some (.int f), some (.int x6), none] [.int b, .int a, .ref 73] (K, I, L, R, sz) Q) (q2 : (I 73 41) = ((1 <<< ((I 73 26) &&& 31)) - 1) → ¬ (I 73 48) = (-1) → ∀ I3 : Nat → Nat → Int32, I3 = va_up I 73 (upd (I 73) 49 (if (I 92 x6.toNatClampNeg) < (I 73 49) then (I 92 x6.toNatClampNeg) else (I 73 49))) → ∀ I5 : Nat → Nat → Int32, I5 = va_up I3 73 (upd (I3 73) 48 f) → X (d + 1) 0 0 12080 0 0 191 [some (.ref 73), some (.int a), some (.int b), some (.int c), some (.int e), some (.int f), some (.int x6), none] [.int b, .int a, .ref 73] (K, I5, L, R, sz) Q) (q3 : (I 73 41) = ((1 <<< ((I 73 26) &&& 31)) - 1) → (I 73 48) = (-1) → ∀ I7 : Nat → Nat → Int32, I7 = va_up I 73 (upd (I 73) 49 (I 92 x6.toNatClampNeg)) → ∀ I9 : Nat → Nat → Int32, I9 = va_up I7 73 (upd (I7 73) 48 f) → X (d + 1) 0 0 12080 0 0 191 [some (.ref 73), some (.int a), some (.int b), some (.int c), some (.int e), some (.int f), some (.int x6), none] [.int b, .int a, .ref 73] (K, I9, L, R, sz) Q) : X (d + 1) 0 0 12080 0 0 131 [some (.ref 73), some (.int a), some (.int b), some (.int c), some (.int e), some (.int f), some (.int x6), none] [] (K, I, L, R, sz) Q := x_ald0 k12080_131 <| x_getI k12080_132 f12_369_11 (hK.at rfl) rfl <| x_iconst (v := 1) k12080_135 rfl <| x_ald0 k12080_136 <| x_getI k12080_137 f12_295_11 (hK.at rfl) rfl <| x_ishl k12080_140 <| x_iconst (v := 1) k12080_141 rfl <| x_isub k12080_142 <| x_icmpne (tgt := 188) k12080_143 (by decide) (fun h1 => x_ald0 k12080_188 <| x_ild1 k12080_189 <| x_ild2 k12080_190 <| (q1 h1)) (fun h1 => x_ald0 k12080_146 <| x_ald0 k12080_147 <| x_getI k12080_148 f12_396_11 (hK.at rfl) rfl <| x_iconst (v := (-1)) k12080_151 rfl <| x_icmpne (tgt := 165) k12080_152 (by decide) (fun h2 => x_ald0 k12080_165 <| x_getI k12080_166 f12_399_11 (hK.at rfl) rfl <| x_ald0 k12080_169 <| x_getR k12080_170 f12_73_11 (hK.at rfl) rfl (hR _ _ _ rfl) <| x_ild6 k12080_173 <| x_iald k12080_175 (hK.at rfl) (b1 h1 h2) <| x_mmin k12080_176 m12_405 qs_min qi_Math qk_min (Nat.le_of_ble_eq_true rfl) (Nat.le_refl _) (Nat.le_refl _) <| x_putI k12080_179 f12_399_11 (Or.inl rfl) (hK.at rfl) <| x_nm fun I3 e4 => x_ald0 k12080_182 <| x_ild5 k12080_183 <| x_putI k12080_185 f12_396_11 (Or.inl rfl) (hK.at rfl) <| x_nm fun I5 e6 => x_ald0 k12080_188 <| x_ild1 k12080_189 <| x_ild2 k12080_190 <| (q2 h1 h2 I3 e4 I5 e6)) (fun h2 => x_ald0 k12080_155 <| x_getR k12080_156 f12_73_11 (hK.at rfl) rfl (hR _ _ _ rfl) <| x_ild6 k12080_159 <| x_iald k12080_161 (hK.at rfl) (b2 h1 h2) <| x_goto (tgt := 179) k12080_162 (by decide) <| x_putI k12080_179 f12_399_11 (Or.inl rfl) (hK.at rfl) <| x_nm fun I7 e8 => x_ald0 k12080_182 <| x_ild5 k12080_183 <| x_putI k12080_185 f12_396_11 (Or.inl rfl) (hK.at rfl) <| x_nm fun I9 e10 => x_ald0 k12080_188 <| x_ild1 k12080_189 <| x_ild2 k12080_190 <| (q3 h1 h2 I7 e8 I9 e10)))
theorem f12080c {a : Int32} {b : Int32} {c : Int32} {e : Int32} {f : Int32} {x6 : Int32}    (q1 : X d 0 0 12080 0 0 197 [some (.ref 73), some (.int a), some (.int b), some (.int c), some (.int e), some (.int f), some (.int x6), some (.int 0)] [] (K, I, L, R, sz) Q) : X d 0 0 12080 0 0 194 [some (.ref 73), some (.int a), some (.int b), some (.int c), some (.int e), some (.int f), some (.int x6), none] [] (K, I, L, R, sz) Q := x_iconst (v := 0) k12080_194 rfl <| x_ist7 k12080_195 (Nat.le_of_ble_eq_true rfl) rfl <| q1
theorem f12080d {a : Int32} {b : Int32} {c : Int32} {e : Int32} {f : Int32} {x6 : Int32} {x7 : Int32}  (hK : qLay K sz) (hR : qRef R) (b1 : ¬ (I 73 47) ≤ x7 → vp_in x7 32) (b2 : ¬ (I 73 47) ≤ x7 → vp_in x6 80000) (q1 : (I 73 47) ≤ x7 → X d 0 0 12080 0 0 84 [some (.ref 73), some (.int a), some (.int b), some (.int c), some (.int e), some (.int f), some (.int (x6 + 1)), some (.int x7)] [] (K, I, L, R, sz) Q) (q2 : ¬ (I 73 47) ≤ x7 → X d 0 0 12080 0 0 241 [some (.ref 73), some (.int a), some (.int b), some (.int c), some (.int e), some (.int f), some (.int x6), some (.int x7)] [.int ((I 92 x6.toNatClampNeg) + (I 96 x7.toNatClampNeg)), .int (f + (I 95 x7.toNatClampNeg)), .int (I 94 x7.toNatClampNeg), .ref 73, .int e] (K, I, L, R, sz) Q) : X d 0 0 12080 0 0 197 [some (.ref 73), some (.int a), some (.int b), some (.int c), some (.int e), some (.int f), some (.int x6), some (.int x7)] [] (K, I, L, R, sz) Q := x_ild7 k12080_197 <| x_ald0 k12080_199 <| x_getI k12080_200 f12_381_11 (hK.at rfl) rfl <| x_icmpge (tgt := 261) k12080_203 (by decide) (fun h1 => x_inc6 (c := 1) k12080_261 rfl (Nat.le_of_ble_eq_true rfl) rfl <| x_goto (tgt := 84) k12080_264 (by decide) <| (q1 h1)) (fun h1 => x_ild4 k12080_206 <| x_ald0 k12080_208 <| x_ald0 k12080_209 <| x_getR k12080_210 f12_79_11 (hK.at rfl) rfl (hR _ _ _ rfl) <| x_ild7 k12080_213 <| x_iald k12080_215 (hK.at rfl) (b1 h1) <| x_ild5 k12080_216 <| x_ald0 k12080_218 <| x_getR k12080_219 f12_82_11 (hK.at rfl) rfl (hR _ _ _ rfl) <| x_ild7 k12080_222 <| x_iald k12080_224 (hK.at rfl) (b1 h1) <| x_iadd k12080_225 <| x_ald0 k12080_226 <| x_getR k12080_227 f12_73_11 (hK.at rfl) rfl (hR _ _ _ rfl) <| x_ild6 k12080_230 <| x_iald k12080_232 (hK.at rfl) (b2 h1) <| x_ald0 k12080_233 <| x_getR k12080_234 f12_85_11 (hK.at rfl) rfl (hR _ _ _ rfl) <| x_ild7 k12080_237 <| x_iald k12080_239 (hK.at rfl) (b1 h1) <| x_iadd k12080_240 <| (q2 h1))
theorem f12080e {a : Int32} {b : Int32} {c : Int32} {e : Int32} {f : Int32} {x6 : Int32} {x7 : Int32} {v : Int32}    (q1 : v = 0 → X d 0 0 12080 0 0 197 [some (.ref 73), some (.int a), some (.int b), some (.int c), some (.int (e + 0)), some (.int f), some (.int x6), some (.int (x7 + 1))] [] (K, I, L, R, sz) Q) (q2 : ¬ v = 0 → X d 0 0 12080 0 0 197 [some (.ref 73), some (.int a), some (.int b), some (.int c), some (.int (e + 1)), some (.int f), some (.int x6), some (.int (x7 + 1))] [] (K, I, L, R, sz) Q) : X d 0 0 12080 0 0 244 [some (.ref 73), some (.int a), some (.int b), some (.int c), some (.int e), some (.int f), some (.int x6), some (.int x7)] [.int v, .int e] (K, I, L, R, sz) Q := x_ifeq (tgt := 251) k12080_244 (by decide) (fun h1 => x_iconst (v := 0) k12080_251 rfl <| x_iadd k12080_252 <| x_ist4 k12080_253 (Nat.le_of_ble_eq_true rfl) rfl <| x_inc7 (c := 1) k12080_255 rfl (Nat.le_of_ble_eq_true rfl) rfl <| x_goto (tgt := 197) k12080_258 (by decide) <| (q1 h1)) (fun h1 => x_iconst (v := 1) k12080_247 rfl <| x_goto (tgt := 252) k12080_248 (by decide) <| x_iadd k12080_252 <| x_ist4 k12080_253 (Nat.le_of_ble_eq_true rfl) rfl <| x_inc7 (c := 1) k12080_255 rfl (Nat.le_of_ble_eq_true rfl) rfl <| x_goto (tgt := 197) k12080_258 (by decide) <| (q2 h1))
theorem g12080b {a : Int32} {b : Int32} {c : Int32} {e : Int32} {f : Int32}  (hK : qLay K sz)  (q1 : ¬ (I 73 48) = (-1) → Q none (K, I, L, R, sz)) (q2 : (I 73 48) = (-1) → e ≤ 0 → Q none (K, I, L, R, sz)) (q3 : (I 73 48) = (-1) → ¬ e ≤ 0 → 1000 ≤ f → Q none (K, I, L, R, sz)) (q4 : (I 73 48) = (-1) → ¬ e ≤ 0 → ¬ 1000 ≤ f → X d 0 0 12080 0 0 84 [some (.ref 73), some (.int a), some (.int b), some (.int c), some (.int 0), some (.int f), some (.int 0), none] [] (K, I, L, R, sz) Q) : X d 0 0 12080 0 0 57 [some (.ref 73), some (.int a), some (.int b), some (.int c), some (.int e), some (.int f), none, none] [] (K, I, L, R, sz) Q := x_ald0 k12080_57 <| x_getI k12080_58 f12_396_11 (hK.at rfl) rfl <| x_iconst (v := (-1)) k12080_61 rfl <| x_icmpne (tgt := 273) k12080_62 (by decide) (fun h1 => x_vret k12080_273 rfl (Nat.le_refl _) (Nat.le_refl _) <| (q1 h1)) (fun h1 => x_ild4 k12080_65 <| x_ifle (tgt := 273) k12080_67 (by decide) (fun h2 => x_vret k12080_273 rfl (Nat.le_refl _) (Nat.le_refl _) <| (q2 h1 h2)) (fun h2 => x_ild5 k12080_70 <| x_sipush (v := 1000) k12080_72 rfl <| x_icmpge (tgt := 273) k12080_75 (by decide) (fun h3 => x_vret k12080_273 rfl (Nat.le_refl _) (Nat.le_refl _) <| (q3 h1 h2 h3)) (fun h3 => x_iconst (v := 0) k12080_78 rfl <| x_ist4 k12080_79 (Nat.le_of_ble_eq_true rfl) rfl <| x_iconst (v := 0) k12080_81 rfl <| x_ist6 k12080_82 (Nat.le_of_ble_eq_true rfl) rfl <| (q4 h1 h2 h3))))
theorem g12080c {a : Int32} {b : Int32} {c : Int32} {e : Int32} {f : Int32} {x6 : Int32}  (hK : qLay K sz) (hR : qRef R) (b1 : ¬ 80000 ≤ x6 → vp_in x6 80000) (q1 : 80000 ≤ x6 → X d 0 0 12080 0 0 57 [some (.ref 73), some (.int a), some (.int b), some (.int c), some (.int e), some (.int (f + 1)), some (.int x6), none] [] (K, I, L, R, sz) Q) (q2 : ¬ 80000 ≤ x6 → (I 91 x6.toNatClampNeg) ≤ f → ¬ (I 91 x6.toNatClampNeg) = f → X d 0 0 12080 0 0 84 [some (.ref 73), some (.int a), some (.int b), some (.int c), some (.int (e + 0)), some (.int f), some (.int (x6 + 1)), none] [] (K, I, L, R, sz) Q) (q3 : ¬ 80000 ≤ x6 → (I 91 x6.toNatClampNeg) ≤ f → (I 91 x6.toNatClampNeg) = f → X d 0 0 12080 0 0 128 [some (.ref 73), some (.int a), some (.int b), some (.int c), some (.int (e + 0)), some (.int f), some (.int x6), none] [.int x6, .ref 73] (K, I, L, R, sz) Q) (q4 : ¬ 80000 ≤ x6 → ¬ (I 91 x6.toNatClampNeg) ≤ f → ¬ (I 91 x6.toNatClampNeg) = f → X d 0 0 12080 0 0 84 [some (.ref 73), some (.int a), some (.int b), some (.int c), some (.int (e + 1)), some (.int f), some (.int (x6 + 1)), none] [] (K, I, L, R, sz) Q) (q5 : ¬ 80000 ≤ x6 → ¬ (I 91 x6.toNatClampNeg) ≤ f → (I 91 x6.toNatClampNeg) = f → X d 0 0 12080 0 0 128 [some (.ref 73), some (.int a), some (.int b), some (.int c), some (.int (e + 1)), some (.int f), some (.int x6), none] [.int x6, .ref 73] (K, I, L, R, sz) Q) : X d 0 0 12080 0 0 84 [some (.ref 73), some (.int a), some (.int b), some (.int c), some (.int e), some (.int f), some (.int x6), none] [] (K, I, L, R, sz) Q := x_ild6 k12080_84 <| x_ldcI k12080_86 c12_69 <| x_icmpge (tgt := 267) k12080_88 (by decide) (fun h1 => x_inc5 (c := 1) k12080_267 rfl (Nat.le_of_ble_eq_true rfl) rfl <| x_goto (tgt := 57) k12080_270 (by decide) <| (q1 h1)) (fun h1 => x_ild4 k12080_91 <| x_ald0 k12080_93 <| x_getR k12080_94 f12_70_11 (hK.at rfl) rfl (hR _ _ _ rfl) <| x_ild6 k12080_97 <| x_iald k12080_99 (hK.at rfl) (b1 h1) <| x_ild5 k12080_100 <| x_icmple (tgt := 109) k12080_102 (by decide) (fun h2 => x_iconst (v := 0) k12080_109 rfl <| x_iadd k12080_110 <| x_ist4 k12080_111 (Nat.le_of_ble_eq_true rfl) rfl <| x_ald0 k12080_113 <| x_getR k12080_114 f12_70_11 (hK.at rfl) rfl (hR _ _ _ rfl) <| x_ild6 k12080_117 <| x_iald k12080_119 (hK.at rfl) (b1 h1) <| x_ild5 k12080_120 <| x_icmpne (tgt := 261) k12080_122 (by decide) (fun h3 => x_inc6 (c := 1) k12080_261 rfl (Nat.le_of_ble_eq_true rfl) rfl <| x_goto (tgt := 84) k12080_264 (by decide) <| (q2 h1 h2 h3)) (fun h3 => x_ald0 k12080_125 <| x_ild6 k12080_126 <| (q3 h1 h2 h3))) (fun h2 => x_iconst (v := 1) k12080_105 rfl <| x_goto (tgt := 110) k12080_106 (by decide) <| x_iadd k12080_110 <| x_ist4 k12080_111 (Nat.le_of_ble_eq_true rfl) rfl <| x_ald0 k12080_113 <| x_getR k12080_114 f12_70_11 (hK.at rfl) rfl (hR _ _ _ rfl) <| x_ild6 k12080_117 <| x_iald k12080_119 (hK.at rfl) (b1 h1) <| x_ild5 k12080_120 <| x_icmpne (tgt := 261) k12080_122 (by decide) (fun h4 => x_inc6 (c := 1) k12080_261 rfl (Nat.le_of_ble_eq_true rfl) rfl <| x_goto (tgt := 84) k12080_264 (by decide) <| (q4 h1 h2 h4)) (fun h4 => x_ald0 k12080_125 <| x_ild6 k12080_126 <| (q5 h1 h2 h4))))
theorem s12081 {c T k : Nat} (hK : qLay K sz) (hR : qRef R) (hc : c < 80000) (hy : rIs (I 91) (I 92) c T k → Q (some (.int 1)) (K, va_up (va_up I 91 (upd (I 91) c (nI T))) 92 (upd (I 92) c (nI k)), L, R, sz)) (hn : ¬ rIs (I 91) (I 92) c T k → Q (some (.int 0)) (K, I, L, R, sz)) : X d 0 0 12081 0 0 0 (qent (qml 12081) [.ref 73, .int (nI c), .int (nI T), .int (nI k)]) [] (K, I, L, R, sz) Q := by
  have ec : (nI c).toNatClampNeg = c := nI_c (by omega)
  have hm : ∀ A B : Nat → Nat → Int32, A = va_up I 91 (upd (I 91) (nI c).toNatClampNeg (nI T)) → B = va_up A 92 (upd (A 92) (nI c).toNatClampNeg (nI k)) → B = va_up (va_up I 91 (upd (I 91) c (nI T))) 92 (upd (I 92) c (nI k)) := fun A B hA hB => by
    rw [hB, hA, ec]; rfl
  refine e12081 hK hR (vI hc (by omega)) (fun a A hA B hB => ?_) (fun _ a A hA B hB => ?_) (fun a b c => hn (fun y => ?_)) (fun a b c e => hn (fun y => ?_)) (fun _ _ a b A hA B hB => ?_)
  · rw [ec] at a; rw [hm A B hA hB]; exact hy (Or.inl a)
  · rw [ec] at a; rw [hm A B hA hB]; exact hy (Or.inr (Or.inl a))
  · rw [ec] at a b c
    rcases y with y | y | y
    · exact a y
    · exact b y
    · exact c y.1
  · rw [ec] at a b e
    rcases y with y | y | y
    · exact a y
    · exact b y
    · exact absurd y.2 (Int32.not_lt.mpr e)
  · rw [ec] at a b; rw [hm A B hA hB]; exact hy (Or.inr (Or.inr ⟨a, Int32.not_le.mp b⟩))
theorem s12080 {m : Nat} {x : Int32} (hK : qLay K sz) (hR : qRef R) (cI : CI I p) (rI : RI I p) (hf : fewH p) (hm : m < pM p) (hq : ∀ J, qFr pPm I J → rOut (gQ I p m x) J → Q none (K, J, L, R, sz)) : X (d + 4) 0 0 12080 0 0 0 (qent (qml 12080) [.ref 73, .int (nI m), .int x]) [] (K, I, L, R, sz) Q := by
  have v := gQ_v (x := x) cI hf hm
  have w3 := cI.w3
  have w5 := cI.w5
  have w4 : pT p ≤ 4 := cI.1.2.1.2.2.2
  have lT : I 73 26 = nI (pT p) := by rw [rI.1.2.2.2]; exact cI.1.1.2.2.2
  have cF : ∀ J, qFr pPm I J → CI J p ∧ RI J p ∧ gQ J p m x = gQ I p m x := fun J hJ => by
    have hJQ : qFr scQ I J := hJ.mono (fun _ _ => pPm_Q)
    exact ⟨CI_fr hJQ (CI_jud hJQ (by rw [hJ.row (j := 51) (fun k q => by unfold pPm pO pU at q; omega)]) (hJ.row (fun k q => by unfold pPm pO pU at q; omega)) cI) cI, RI_fr hJQ rI, gQ_q hJQ (by omega) w5⟩
  have u91 : ∀ {A B : Nat → Nat → Int32} {g : Nat → Int32}, qFr pPm I A → B = va_up A 91 g → qFr pPm I B := fun h1 e => by rw [e]; exact h1.trans (qFr.up (fun k => Or.inr (Or.inl rfl)))
  have u92 : ∀ {A B : Nat → Nat → Int32} {g : Nat → Int32}, qFr pPm I A → B = va_up A 92 g → qFr pPm I B := fun h1 e => by rw [e]; exact h1.trans (qFr.up (fun k => Or.inr (Or.inr (Or.inl rfl))))
  have u73 : ∀ {A B : Nat → Nat → Int32} {c : Nat} {w : Int32}, c = 48 ∨ c = 49 → qFr pPm I A → B = va_up A 73 (upd (A 73) c w) → qFr pPm I B := fun hc h1 e => by rw [e]; exact h1.trans (qFr.up1 (Or.inr (Or.inr (Or.inr ⟨rfl, hc⟩))))
  have p26 : ∀ J, qFr pPm I J → J 73 26 = nI (pT p) := fun J hJ => by rw [hJ 73 26 (fun q => by unfold pPm pO pU at q; omega)]; exact lT
  have hall : (1 <<< (nI (pT p) &&& 31) : Int32) - 1 = nI (2 ^ pT p - 1) := by
    rw [show (1 <<< (nI (pT p) &&& 31) : Int32) = nI (2 ^ pT p) from shl_1 ⟨pT p, by omega⟩, show (1 : Int32) = nI 1 from rfl, pk_sub (p2_0 _)]
  obtain ⟨LF, hLF⟩ : ∃ LF : (Nat → Nat → Int32) → Nat → Nat → Nat → Prop, LF = fun J t j lf => lf ≤ 33 * j ∧ (lf = 0 → ∀ i, i < j → J 91 i = -1 ∨ ∃ T, T ≤ t ∧ J 91 i = nI T) := ⟨_, rfl⟩
  -- one round
  have h84 : ∀ (x3 : Int32) (t : Nat), t < 1000 → (∀ J lf, qFr pPm I J → rDj (gQ I p m x) (J 91) (J 92) t 80000 → rSta (gQ I p m x) J t 80000 → LF J t 80000 lf → X (d + 4) 0 0 12080 0 0 57 [some (.ref 73), some (.int (nI m)), some (.int x), some (.int x3), some (.int (nI lf)), some (.int (nI (t + 1))), none, none] [] (K, J, L, R, sz) Q) →
      ∀ (k j : Nat), j + k = 80000 → ∀ J lf, qFr pPm I J → rDj (gQ I p m x) (J 91) (J 92) t j → rSta (gQ I p m x) J t j → LF J t j lf → X (d + 4) 0 0 12080 0 0 84 [some (.ref 73), some (.int (nI m)), some (.int x), some (.int x3), some (.int (nI lf)), some (.int (nI t)), some (.int (nI j)), none] [] (K, J, L, R, sz) Q := by
    intro x3 t ht hnx k
    induction k with
    | zero =>
      intro j hj J lf hJ D S F
      have : j = 80000 := by omega
      subst this
      have hle : (80000 : Int32) ≤ nI 80000 := by decide
      refine g12080c hK hR (fun h => absurd hle h) (fun _ => ?_) (fun h => absurd hle h) (fun h => absurd hle h) (fun h => absurd hle h) (fun h => absurd hle h)
      rw [nI_1]
      exact x_wk2 (hnx J lf hJ D S F) ⟨rfl, rfl, rfl, rfl, rfl, rfl, True.intro⟩
    | succ k ih =>
      intro j hj J lf hJ D S F
      rw [hLF] at F
      obtain ⟨F1, F2⟩ := F
      have hj8 : j < 80000 := by omega
      have hnl : ¬ (80000 : Int32) ≤ nI j := nI_ge (b := 80000) hj8 (by omega)
      have ec : (nI j).toNatClampNeg = j := nI_c (by omega)
      have hskip : ∀ lf', ¬ J 91 j = nI t → (lf' = lf ∧ J 91 j ≤ nI t ∨ lf' = lf + 1) → X (d + 4) 0 0 12080 0 0 84 [some (.ref 73), some (.int (nI m)), some (.int x), some (.int x3), some (.int (nI lf')), some (.int (nI t)), some (.int (nI (j + 1))), none] [] (K, J, L, R, sz) Q := fun lf' hn hl => by
        refine ih (j + 1) (by omega) J lf' hJ (rDj_skip v ht D hj8 hn) ?_ ?_
        · rcases S with ⟨a, b, c⟩ | ⟨k0, a, b, c, e⟩
          · exact Or.inl ⟨a, b, rPN_skip v ht D hj8 c (fun z => hn z.1)⟩
          · exact Or.inr ⟨k0, a, b, c, (rPS_more v ht D hj8 e).1 (fun z => hn z.1)⟩
        · rw [hLF]
          refine ⟨by omega, fun z i hi => ?_⟩
          rcases hl with ⟨e, hle⟩ | e
          · by_cases c : i = j
            · subst c
              rcases D.1 i hj8 with u | ⟨T, k, u1, u2, u3, -⟩
              · exact Or.inl u
              · rw [u1, nI_leI (by omega) (by omega)] at hle
                exact Or.inr ⟨T, hle, u1⟩
            · exact F2 (by omega) i (by omega)
          · omega
      have hmin : ∀ lf', lf' = lf → J 91 j = nI t → X (d + 4) 0 0 12080 0 0 128 [some (.ref 73), some (.int (nI m)), some (.int x), some (.int x3), some (.int (nI lf')), some (.int (nI t)), some (.int (nI j)), none] [.int (nI j), .ref 73] (K, J, L, R, sz) Q := fun lf' hlf hmt => by
        subst hlf
        obtain ⟨T0, k0, y1, y2, y3, y4, y5⟩ := (D.1 j hj8).resolve_left (by rw [hmt]; exact m1_nI (by omega))
        have eT : T0 = t := nI_f y3 (by omega) (y1 ▸ hmt)
        subst eT
        refine x_cV1 (MCz := 0) (MSz := 0) k12080_128 v12_402_11 (hK.at rfl) (Nat.le_of_ble_eq_true rfl) (Nat.le_of_ble_eq_true rfl) (Nat.le_refl _) (Nat.le_refl _) <| s12075 (d := d + 3) hK hR hj8 (fun A hA stA => ?_)
        have hA' : qFr pPm I A := hJ.trans (hA.mono (fun _ _ q => Or.inl (Or.inl q)))
        have A91 : A 91 = J 91 := hA.row (fun k q => by unfold pU at q; omega)
        have A92 : A 92 = J 92 := hA.row (fun k q => by unfold pU at q; omega)
        have A48 : A 73 48 = J 73 48 := hA 73 48 (fun q => by unfold pU at q; omega)
        have A49 : A 73 49 = J 73 49 := hA 73 49 (fun q => by unfold pU at q; omega)
        obtain ⟨oj, -⟩ := rW_ok v y5
        have hd16 : eB (uD j) < 2 ^ pT p := (eB_bt (n := pT p) w4 (fun s hs => oj.1 s hs)).1
        have hbt : bt (eB (uD j)) = uD j := (eB_bt (n := pT p) w4 (fun s hs => oj.1 s hs)).2
        have h16 : 2 ^ pT p ≤ 16 := pw2 (k := 4) w4
        have hfull : A 73 41 = (1 <<< (A 73 26 &&& 31)) - 1 ↔ full (gQ I p m x) (uD j) := by
          rw [p26 A hA', hall, stA.1, nI_eq (by omega) (by omega), ← full_iff w4 hd16, hbt]; rfl
        -- all its ways
        have hopen : ∀ B, qFr pPm I B → B 91 = J 91 → B 92 = J 92 → rSt B (uD j) (uH j) (uR j) (uF j) → rSta (gQ I p m x) B T0 (j + 1) → X (d + 4) 0 0 12080 0 0 191 [some (.ref 73), some (.int (nI m)), some (.int x), some (.int x3), some (.int (nI lf')), some (.int (nI T0)), some (.int (nI j)), none] [.int x, .int (nI m), .ref 73] (K, B, L, R, sz) Q := fun B hB b91 b92 stB SB => by
          obtain ⟨cB, rB, gB⟩ := cF B hB
          refine x_cV2 (MCz := 0) (MSz := 0) k12080_191 v12_407_11 (hK.at rfl) (Nat.le_of_ble_eq_true rfl) (Nat.le_of_ble_eq_true rfl) (Nat.le_refl _) (Nat.le_refl _) <| s12079 (d := d) (m := m) (x := x) hK hR cB rB hf hm (by rw [gB]; exact oj) stB (fun C n hC hn c47 hWA hHW => ?_)
          rw [gB] at hWA hHW
          refine f12080c ?_
          have hCf : ∀ j k, ¬ pO j k → C j k = B j k := hC
          have C91 : C 91 = B 91 := hC.row (fun k q => by unfold pO pU at q; omega)
          have C92 : C 92 = B 92 := hC.row (fun k q => by unfold pO pU at q; omega)
          have C48 : C 73 48 = B 73 48 := hC 73 48 (fun q => by unfold pO pU at q; omega)
          have C49 : C 73 49 = B 73 49 := hC 73 49 (fun q => by unfold pO pU at q; omega)
          have hCp : qFr pPm I C := hB.trans (hC.mono (fun _ _ q => Or.inl q))
          have h197 : ∀ (k' i : Nat), i + k' = n → ∀ E lf2, qFr pPm I E → E 73 47 = nI n → E 94 = C 94 → E 95 = C 95 → E 96 = C 96 → E 73 48 = B 73 48 → E 73 49 = B 73 49 → rSnd (gQ I p m x) (E 91) (E 92) → (∀ e T k, rLe (J 91) (J 92) e T k → rLe (E 91) (E 92) e T k) → E 91 j = nI T0 → E 92 j = nI k0 → (∀ i', i' < i → ∀ c w b, c < 80000 → w < 1100 → b < 1100 → wy C i' c w b → rLe (E 91) (E 92) c (T0 + w) (k0 + b)) → lf2 ≤ lf' + i → (lf2 = 0 → lf' = 0 ∧ E 91 = J 91) → X (d + 4) 0 0 12080 0 0 197 [some (.ref 73), some (.int (nI m)), some (.int x), some (.int x3), some (.int (nI lf2)), some (.int (nI T0)), some (.int (nI j)), some (.int (nI i))] [] (K, E, L, R, sz) Q := by
            intro k'
            induction k' with
            | zero =>
              intro i hi E lf2 hE e47 e94 e95 e96 e48 e49 SE mono ej1 ej2 done hl1 hl2
              have hle : E 73 47 ≤ nI i := by rw [e47]; exact nI_le (by omega) (by omega)
              refine f12080d hK hR (fun h => absurd hle h) (fun h => absurd hle h) (fun _ => ?_) (fun h => absurd hle h)
              rw [nI_1]
              refine x_wk2 (ih (j + 1) (by omega) E lf2 hE (rDj_step v ht D hmt y2 (by omega) SE mono (fun d' h' r' f' w b he => ?_)) ?_ ?_) ⟨rfl, rfl, rfl, rfl, rfl, rfl, rfl, True.intro⟩
              · obtain ⟨i', hi', hw'⟩ := hHW _ _ _ _ _ _ he
                have hb' := rE_b v oj he
                exact done i' (by omega) _ _ _ (rW_ok v (rW_s y5 he)).2.2.1 (by omega) (by omega) hw'
              · rcases SB with ⟨a, b, c⟩ | ⟨k1, a, b, c, e⟩
                · exact Or.inl ⟨by rw [e48]; exact a, by rw [e49]; exact b, c⟩
                · exact Or.inr ⟨k1, by rw [e48]; exact a, by rw [e49]; exact b, c, e⟩
              · rw [hLF]
                refine ⟨by omega, fun z i2 hi2 => ?_⟩
                obtain ⟨z1, z2⟩ := hl2 z
                rw [z2]
                by_cases c : i2 = j
                · subst c; exact Or.inr ⟨T0, Nat.le_refl _, hmt⟩
                · exact F2 z1 i2 (by omega)
            | succ k' ih' =>
              intro i hi E lf2 hE e47 e94 e95 e96 e48 e49 SE mono ej1 ej2 done hl1 hl2
              have hnl : ¬ E 73 47 ≤ nI i := by rw [e47]; exact nI_ge (by omega) (by omega)
              have eci : (nI i).toNatClampNeg = i := nI_c (by omega)
              obtain ⟨d', h', r', f', w, b, he, hw1, hw2, hw3⟩ := hWA i (by omega)
              obtain ⟨bb1, bb2, bb3⟩ := rE_b v oj he
              have hp' := rW_s y5 he
              have hc' := (rW_ok v hp').2.2.1
              have hk' := (rW_ok v hp').2.1
              refine f12080d hK hR (fun _ => vI (by omega) (by omega)) (fun _ => vI hj8 (by omega)) (fun h => absurd h hnl) (fun _ => ?_)
              rw [ec, eci, ej2, e94, e95, e96, hw1, hw2, hw3, nI_add, nI_add]
              refine x_cV3 (MCz := 0) (MSz := 0) k12080_241 v12_409_11 (hK.at rfl) (Nat.le_of_ble_eq_true rfl) (Nat.le_of_ble_eq_true rfl) (Nat.le_refl _) (Nat.le_refl _) <| s12081 (d := d + 3) hK hR hc' (fun y => ?_) (fun y => ?_)
              · refine f12080e (fun z => absurd z (by decide)) (fun _ => ?_)
                rw [nI_1, nI_1]
                obtain ⟨r1, r2, r3⟩ := rch_y SE hc' (by omega) hk' (rSt2_c v hp') y
                have hjc : j ≠ rcd d' h' r' f' := fun z => by
                  rw [← z] at y
                  rcases y with y | y | y
                  · rw [ej1] at y; exact m1_nI (by omega) y
                  · rw [ej1, nI_ltI (by omega) (by omega)] at y; omega
                  · rw [ej1, nI_eq (by omega) (by omega)] at y; omega
                refine ih' (i + 1) (by omega) _ (lf2 + 1) (u92 (u91 hE rfl) rfl) e47 e94 e95 e96 e48 e49 r1 (fun e T k hh => r3 e T k (mono e T k hh)) ?_ ?_ (fun i' hi' c2 w2 b2' l1 l2 l3 hw' => ?_) (by omega) (fun z => absurd z (Nat.succ_ne_zero _))
                · show upd (E 91) _ _ j = _
                  unfold upd; rw [if_neg hjc]; exact ej1
                · show upd (E 92) _ _ j = _
                  unfold upd; rw [if_neg hjc]; exact ej2
                · by_cases c : i' = i
                  · subst c
                    obtain ⟨q1, q2, q3⟩ := hw'
                    rw [(nI_eq (by omega) (by omega)).mp (q1 ▸ hw1 : nI c2 = nI (rcd d' h' r' f')), (nI_eq (by omega) (by omega)).mp (q2 ▸ hw2 : nI w2 = nI w), (nI_eq (by omega) (by omega)).mp (q3 ▸ hw3 : nI b2' = nI b)]
                    exact r2
                  · exact r3 _ _ _ (done i' (by omega) _ _ _ l1 l2 l3 hw')
              · refine f12080e (fun _ => ?_) (fun z => absurd rfl z)
                rw [Int32.add_zero, nI_1]
                have r2 := rch_n SE hc' (by omega) hk' y
                refine ih' (i + 1) (by omega) E lf2 hE e47 e94 e95 e96 e48 e49 SE mono ej1 ej2 (fun i' hi' c2 w2 b2' l1 l2 l3 hw' => ?_) (by omega) hl2
                by_cases c : i' = i
                · subst c
                  obtain ⟨q1, q2, q3⟩ := hw'
                  rw [(nI_eq (by omega) (by omega)).mp (q1 ▸ hw1 : nI c2 = nI (rcd d' h' r' f')), (nI_eq (by omega) (by omega)).mp (q2 ▸ hw2 : nI w2 = nI w), (nI_eq (by omega) (by omega)).mp (q3 ▸ hw3 : nI b2' = nI b)]
                  exact r2
                · exact done i' (by omega) _ _ _ l1 l2 l3 hw'
          refine h197 n 0 (by omega) C lf' hCp c47 rfl rfl rfl C48 C49 (by rw [C91, C92, b91, b92]; exact D.1) (fun e T k hh => by rw [C91, C92, b91, b92]; exact hh) (by rw [C91, b91]; exact hmt) (by rw [C92, b92]; exact y2) (fun i' hi' => absurd hi' (Nat.not_lt_zero _)) (by omega) (fun z => ⟨z, by rw [C91, b91]⟩)
        have stU : ∀ {B : Nat → Nat → Int32}, (∀ k, 41 ≤ k → k ≤ 43 → B 73 k = A 73 k) → B 93 = A 93 → rSt B (uD j) (uH j) (uR j) (uF j) := fun h1 h2 => ⟨by rw [h1 41 (by omega) (by omega)]; exact stA.1, by rw [h1 42 (by omega) (by omega)]; exact stA.2.1, by rw [h1 43 (by omega) (by omega)]; exact stA.2.2.1, fun s hs => by rw [h2]; exact stA.2.2.2 s hs⟩
        refine f12080b (d := d + 3) hK hR (fun _ _ => vI hj8 (by omega)) (fun _ _ => vI hj8 (by omega)) (fun hnf => ?_) (fun hfu h48 B hB C hC => ?_) (fun hfu h48 B hB C hC => ?_)
        · rw [hfull] at hnf
          refine hopen A hA' A91 A92 stA ?_
          rcases S with ⟨a, b, c⟩ | ⟨k1, a, b, c, e⟩
          · exact Or.inl ⟨by rw [A48]; exact a, by rw [A49]; exact b, rPN_skip v ht D hj8 c (fun z => hnf z.2)⟩
          · exact Or.inr ⟨k1, by rw [A48]; exact a, by rw [A49]; exact b, c, (rPS_more v ht D hj8 e).1 (fun z => hnf z.2)⟩
        · rw [hfull] at hfu
          rw [A48] at h48
          rcases S with ⟨a, b, c⟩ | ⟨k1, a, b, c, e⟩
          · exact absurd a h48
          · have B73 : B 73 = upd (A 73) 49 (nI (if k0 < k1 then k0 else k1)) := by
              rw [hB, vu_s, ec, A92, y2, A49, b]
              congr 1
              by_cases z : k0 < k1
              · rw [if_pos z, if_pos (nI_lt z (by omega))]
              · rw [if_neg z, if_neg (nI_nlt (by omega) (by omega))]
            have C73 : C 73 = upd (B 73) 48 (nI T0) := by rw [hC, vu_s]
            have Cr : ∀ i, i ≠ 73 → C i = A i := fun i hi => by rw [hC, vu_n hi, hB, vu_n hi]
            refine hopen C (u73 (Or.inl rfl) (u73 (Or.inr rfl) hA' hB) hC) (by rw [Cr 91 (by decide), A91]) (by rw [Cr 92 (by decide), A92]) (stU (fun k h1 h2 => by rw [C73, B73]; unfold upd; rw [if_neg (by omega), if_neg (by omega)]) (Cr 93 (by decide))) ?_
            exact Or.inr ⟨_, by rw [C73]; rfl, by rw [C73, B73]; rfl, by split <;> omega, (rPS_more v ht D hj8 e).2 k0 hmt y2 (by omega) hfu⟩
        · rw [hfull] at hfu
          rw [A48] at h48
          rcases S with ⟨a, b, c⟩ | ⟨k1, a, b, c, e⟩
          · have B73 : B 73 = upd (A 73) 49 (nI k0) := by rw [hB, vu_s, ec, A92, y2]
            have C73 : C 73 = upd (B 73) 48 (nI T0) := by rw [hC, vu_s]
            have Cr : ∀ i, i ≠ 73 → C i = A i := fun i hi => by rw [hC, vu_n hi, hB, vu_n hi]
            refine hopen C (u73 (Or.inl rfl) (u73 (Or.inr rfl) hA' hB) hC) (by rw [Cr 91 (by decide), A91]) (by rw [Cr 92 (by decide), A92]) (stU (fun k h1 h2 => by rw [C73, B73]; unfold upd; rw [if_neg (by omega), if_neg (by omega)]) (Cr 93 (by decide))) ?_
            exact Or.inr ⟨k0, by rw [C73]; rfl, by rw [C73, B73]; rfl, by omega, rPS_first v ht D hj8 c hmt y2 (by omega) hfu⟩
          · rw [a] at h48; exact absurd h48 (m1_nI (by omega))
      refine g12080c hK hR (fun _ => vI hj8 (by omega)) (fun h => absurd h hnl) (fun _ a b => ?_) (fun _ a b => ?_) (fun _ a b => ?_) (fun _ a b => ?_)
      · rw [ec] at a b
        rw [Int32.add_zero, nI_1]
        exact hskip lf b (Or.inl ⟨rfl, a⟩)
      · rw [ec] at a b
        rw [Int32.add_zero]
        exact hmin lf rfl b
      · rw [ec] at a b
        rw [nI_1, nI_1]
        exact hskip (lf + 1) b (Or.inr rfl)
      · rw [ec] at a b
        rw [b] at a
        exact absurd (Int32.le_refl _) a
  have hkT : ∀ T k, isPl (gQ I p m x) T k → k ≤ T := fun T k h => by
    obtain ⟨⟨d', h', r', f', u, -⟩, -⟩ := h
    exact (rW_ok v u).2.1
  -- the rounds
  have h57 : ∀ (k t : Nat), t + k = 1000 → ∀ J lf x3, qFr pPm I J → rDj (gQ I p m x) (J 91) (J 92) t 0 → J 73 48 = -1 → J 73 49 = -1 → rPN (gQ I p m x) t 0 → 0 < lf → lf < 3000000 → X (d + 4) 0 0 12080 0 0 57 [some (.ref 73), some (.int (nI m)), some (.int x), some (.int x3), some (.int (nI lf)), some (.int (nI t)), none, none] [] (K, J, L, R, sz) Q := by
    intro k
    induction k with
    | zero =>
      intro t ht J lf x3 hJ D j48 j49 P h0 hb
      have : t = 1000 := by omega
      subst this
      have hle : (1000 : Int32) ≤ nI 1000 := by decide
      have hlf : ¬ nI lf ≤ 0 := nI_nle h0 (by omega)
      exact g12080b hK (fun z => absurd j48 z) (fun _ z => absurd z hlf) (fun _ _ _ => hq J hJ (Or.inl ⟨j48, j49, rPN_far v P⟩)) (fun _ _ z => absurd hle z)
    | succ k ih =>
      intro t ht J lf x3 hJ D j48 j49 P h0 hb
      have hnl : ¬ (1000 : Int32) ≤ nI t := nI_ge (b := 1000) (by omega) (by omega)
      have hlf : ¬ nI lf ≤ 0 := nI_nle h0 (by omega)
      refine g12080b hK (fun z => absurd j48 z) (fun _ z => absurd z hlf) (fun _ _ z => absurd z hnl) (fun _ _ _ => ?_)
      refine h84 x3 t (by omega) (fun J2 lf2 hJ2 D2 S2 F2 => ?_) 80000 0 (by omega) J 0 hJ D (Or.inl ⟨j48, j49, P⟩) (by rw [hLF]; exact ⟨by omega, fun _ i hi => absurd hi (Nat.not_lt_zero _)⟩)
      rw [hLF] at F2
      have D3 := rDj_next v D2
      rcases S2 with ⟨a, b, c⟩ | ⟨k1, a, b, c, e⟩
      · have P3 : rPN (gQ I p m x) (t + 1) 0 := fun d h r f T k hp hf hb => c _ _ _ _ _ _ hp hf (by
          have := (rW_ok v hp).2.2.1
          unfold bef at *; omega)
        by_cases z : lf2 = 0
        · have hle : nI lf2 ≤ 0 := by rw [z]; decide
          have hno := rPN_none v D3 P3 (F2.2 z) (by omega)
          exact g12080b hK (fun z => absurd a z) (fun _ _ => hq J2 hJ2 (Or.inl ⟨a, b, hno⟩)) (fun _ z => absurd hle z) (fun _ z => absurd hle z)
        · exact ih (t + 1) (by omega) J2 lf2 x3 hJ2 D3 a b P3 (by omega) (by omega)
      · have hne : ¬ J2 73 48 = -1 := by rw [a]; exact m1_nI (by omega)
        have hP := rPS_end v e
        exact g12080b hK (fun _ => hq J2 hJ2 (Or.inr ⟨t, k1, a, b, by omega, hkT _ _ hP, hP⟩)) (fun z => absurd z hne) (fun z => absurd z hne) (fun z => absurd z hne)
  have h2 : ∀ (k i : Nat), i + k = 80000 → ∀ J, qFr pPm I J → (∀ i', i' < i → J 91 i' = -1) → X (d + 4) 0 0 12080 0 0 2 [some (.ref 73), some (.int (nI m)), some (.int x), some (.int (nI i)), none, none, none, none] [] (K, J, L, R, sz) Q := by
    intro k
    induction k with
    | zero =>
      intro i hi J hJ j1
      have : i = 80000 := by omega
      subst this
      have hle : (80000 : Int32) ≤ nI 80000 := by decide
      obtain ⟨cJ, rJ, gJ⟩ := cF J hJ
      refine g12080_2 hK hR (fun h => absurd hle h) (fun _ => ?_) (fun h => absurd hle h)
      refine x_cV1 (MCz := 0) (MSz := 0) k12080_23 v12_393_11 (hK.at rfl) (Nat.le_of_ble_eq_true rfl) (Nat.le_of_ble_eq_true rfl) (Nat.le_refl _) (Nat.le_refl _) <| s12076 (d := d + 1) (m := m) (x := x) hK hR cJ rJ hf hm (fun A hA => ?_)
      rw [gJ]
      obtain ⟨c0, hc0⟩ : ∃ c0, c0 = rcd (fun _ => false) (fun _ => false) (g0r (gQ I p m x)) (g0f (gQ I p m x)) := ⟨_, rfl⟩
      have h0 : rW (gQ I p m x) (fun _ => false) (fun _ => false) (g0r (gQ I p m x)) (g0f (gQ I p m x)) 0 0 := ⟨0, rfl, rfl, rfl, rfl, rfl, rfl⟩
      have hc8 : c0 < 80000 := by rw [hc0]; exact (rW_ok v h0).2.2.1
      have hA' : qFr pPm I A := hJ.trans (hA.mono (fun _ _ q => Or.inl (Or.inl q)))
      have A91 : A 91 = J 91 := hA.row (fun k q => by unfold pU at q; omega)
      have hD0 := rDj_0 (g := gQ I p m x) v (mn := A 91) (fw := A 92) (fun i hi => by rw [A91]; exact j1 i hi)
      rw [← hc0] at hD0 ⊢
      refine x_wk2 (ls := [some (.ref 73), some (.int (nI m)), some (.int x), none, none, none, none, none]) (f12080a hK hR (vI hc8 (by omega)) (fun B hB C hC D hD E hE => ?_)) ⟨rfl, rfl, rfl, True.intro⟩
      rw [nI_c (by omega)] at hB hC
      have E91 : E 91 = upd (A 91) c0 0 := by rw [hE, vu_n (by decide), hD, vu_n (by decide), hC, vu_n (by decide), hB, vu_s]
      have E92 : E 92 = upd (A 92) c0 0 := by rw [hE, vu_n (by decide), hD, vu_n (by decide), hC, vu_s, hB, vu_n (by decide)]
      refine h57 1000 0 (by omega) E 1 _ (u73 (Or.inr rfl) (u73 (Or.inl rfl) (u92 (u91 hA' hB) hC) hD) hE) (by rw [E91, E92]; exact hD0) ?_ ?_ (fun d h r f T k _ _ hb => by unfold bef at hb; omega) (by omega) (by omega)
      · rw [hE, vu_s, hD, vu_s]; rfl
      · rw [hE, vu_s]; rfl
    | succ k ih =>
      intro i hi J hJ j1
      have hnl : ¬ (80000 : Int32) ≤ nI i := nI_ge (b := 80000) (by omega) (by omega)
      refine g12080_2 hK hR (fun _ => vI (by omega) (by omega)) (fun h => absurd h hnl) (fun _ A hA => ?_)
      rw [nI_c (by omega)] at hA
      rw [nI_1]
      refine ih (i + 1) (by omega) A (u91 hJ hA) (fun i' hi' => ?_)
      rw [hA, vu_s]; unfold upd
      by_cases c : i' = i
      · rw [if_pos c]
      · rw [if_neg c]; exact j1 i' (by omega)
  exact e12080 (h2 80000 0 (by omega) I qFr.refl (fun i' hi' => absurd hi' (Nat.not_lt_zero _)))

end L99j
