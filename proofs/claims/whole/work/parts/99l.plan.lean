/-! plans: the reference, fewestThanks -/
section L99l
variable {d : Nat} {K : qK} {I : Nat → Nat → Int32} {L : Nat → Nat → Int64} {R : Nat → Nat → Option Nat} {sz : Nat} {Q : Option Value → qMem → Prop} {p : qPa}
theorem e12082 {a : Int32}    (q1 : X d 0 0 12082 0 0 2 [some (.ref 73), some (.int a), some (.int 0), none, none, none] [] (K, I, L, R, sz) Q) : X d 0 0 12082 0 0 0 (qent (qml 12082) [.ref 73, .int a]) [] (K, I, L, R, sz) Q := show X _ 0 0 12082 0 0 0 [some (.ref 73), some (.int a), none, none, none, none] [] _ _ from x_iconst (v := 0) k12082_0 rfl <| x_ist2 k12082_1 (Nat.le_of_ble_eq_true rfl) rfl <| q1
theorem g12082_2 {x1 : Int32} {x2 : Int32}  (hK : qLay K sz) (hR : qRef R) (b1 : ¬ 80000 ≤ x2 → vp_in x2 80000) (q1 : 80000 ≤ x2 → X d 0 0 12082 0 0 34 [some (.ref 73), some (.int x1), some (.int x2), none, none, none] [.int x1, .ref 73, .ref 92] (K, I, L, R, sz) Q) (q2 : ¬ 80000 ≤ x2 → ∀ I2 : Nat → Nat → Int32, I2 = va_up I 92 (upd (I 92) x2.toNatClampNeg (-1)) → ∀ I4 : Nat → Nat → Int32, I4 = va_up I2 91 (upd (I2 91) x2.toNatClampNeg (-1)) → X d 0 0 12082 0 0 2 [some (.ref 73), some (.int x1), some (.int (x2 + 1)), none, none, none] [] (K, I4, L, R, sz) Q) : X d 0 0 12082 0 0 2 [some (.ref 73), some (.int x1), some (.int x2), none, none, none] [] (K, I, L, R, sz) Q := x_ild2 k12082_2 <| x_ldcI k12082_3 c12_69 <| x_icmpge (tgt := 28) k12082_5 (by decide) (fun h1 => x_ald0 k12082_28 <| x_getR k12082_29 f12_73_11 (hK.at rfl) rfl (hR _ _ _ rfl) <| x_ald0 k12082_32 <| x_ild1 k12082_33 <| (q1 h1)) (fun h1 => x_ald0 k12082_8 <| x_getR k12082_9 f12_73_11 (hK.at rfl) rfl (hR _ _ _ rfl) <| x_ild2 k12082_12 <| x_iconst (v := (-1)) k12082_13 rfl <| x_iast k12082_14 (hK.at rfl) (b1 h1) <| x_nm fun I2 e3 => x_ald0 k12082_15 <| x_getR k12082_16 f12_70_11 (hK.at rfl) rfl (hR _ _ _ rfl) <| x_ild2 k12082_19 <| x_iconst (v := (-1)) k12082_20 rfl <| x_iast k12082_21 (hK.at rfl) (b1 h1) <| x_nm fun I4 e5 => x_inc2 (c := 1) k12082_22 rfl (Nat.le_of_ble_eq_true rfl) rfl <| x_goto (tgt := 2) k12082_25 (by decide) <| (q2 h1 I2 e3 I4 e5))
theorem f12082a {a : Int32} {b : Int32} {v : Int32}  (hK : qLay K sz) (b1 : vp_in v 80000) (q1 : ∀ I1 : Nat → Nat → Int32, I1 = va_up I 92 (upd (I 92) v.toNatClampNeg 0) → X d 0 0 12082 0 0 41 [some (.ref 73), some (.int a), some (.int 0), none, none, none] [] (K, I1, L, R, sz) Q) : X d 0 0 12082 0 0 37 [some (.ref 73), some (.int a), some (.int b), none, none, none] [.int v, .ref 92] (K, I, L, R, sz) Q := x_iconst (v := 0) k12082_37 rfl <| x_iast k12082_38 (hK.at rfl) b1 <| x_nm fun I1 e2 => x_iconst (v := 0) k12082_39 rfl <| x_ist2 k12082_40 (Nat.le_of_ble_eq_true rfl) rfl <| (q1 I1 e2)
theorem f12082b {a : Int32} {b : Int32}    (q1 : 12 < b → Q (some (.int (-1))) (K, I, L, R, sz)) (q2 : ¬ 12 < b → X d 0 0 12082 0 0 49 [some (.ref 73), some (.int a), some (.int b), some (.int 1), none, none] [] (K, I, L, R, sz) Q) : X d 0 0 12082 0 0 41 [some (.ref 73), some (.int a), some (.int b), none, none, none] [] (K, I, L, R, sz) Q := x_ild2 k12082_41 <| x_bipush (v := 12) k12082_42 rfl <| x_icmpgt (tgt := 238) k12082_44 (by decide) (fun h1 => x_iconst (v := (-1)) k12082_238 rfl <| x_iret k12082_239 rfl (Nat.le_refl _) (Nat.le_refl _) <| (q1 h1)) (fun h1 => x_iconst (v := 1) k12082_47 rfl <| x_ist3 k12082_48 (Nat.le_of_ble_eq_true rfl) rfl <| (q2 h1))
theorem f12082c {a : Int32} {b : Int32} {c : Int32}    (q1 : c = 0 → X d 0 0 12082 0 0 41 [some (.ref 73), some (.int a), some (.int (b + 1)), some (.int c), none, none] [] (K, I, L, R, sz) Q) (q2 : ¬ c = 0 → X d 0 0 12082 0 0 58 [some (.ref 73), some (.int a), some (.int b), some (.int 0), some (.int 0), none] [] (K, I, L, R, sz) Q) : X d 0 0 12082 0 0 49 [some (.ref 73), some (.int a), some (.int b), some (.int c), none, none] [] (K, I, L, R, sz) Q := x_ild3 k12082_49 <| x_ifeq (tgt := 232) k12082_50 (by decide) (fun h1 => x_inc2 (c := 1) k12082_232 rfl (Nat.le_of_ble_eq_true rfl) rfl <| x_goto (tgt := 41) k12082_235 (by decide) <| (q1 h1)) (fun h1 => x_iconst (v := 0) k12082_53 rfl <| x_ist3 k12082_54 (Nat.le_of_ble_eq_true rfl) rfl <| x_iconst (v := 0) k12082_55 rfl <| x_ist4 k12082_56 (Nat.le_of_ble_eq_true rfl) rfl <| (q2 h1))
theorem f12082d {a : Int32} {b : Int32} {c : Int32} {e : Int32}  (hK : qLay K sz) (hR : qRef R) (b1 : ¬ 80000 ≤ e → vp_in e 80000) (q1 : 80000 ≤ e → X d 0 0 12082 0 0 49 [some (.ref 73), some (.int a), some (.int b), some (.int c), some (.int e), none] [] (K, I, L, R, sz) Q) (q2 : ¬ 80000 ≤ e → ¬ (I 92 e.toNatClampNeg) = b → X d 0 0 12082 0 0 58 [some (.ref 73), some (.int a), some (.int b), some (.int c), some (.int (e + 1)), none] [] (K, I, L, R, sz) Q) (q3 : ¬ 80000 ≤ e → (I 92 e.toNatClampNeg) = b → ¬ (I 91 e.toNatClampNeg) = (-1) → X d 0 0 12082 0 0 58 [some (.ref 73), some (.int a), some (.int b), some (.int c), some (.int (e + 1)), none] [] (K, I, L, R, sz) Q) (q4 : ¬ 80000 ≤ e → (I 92 e.toNatClampNeg) = b → (I 91 e.toNatClampNeg) = (-1) → ∀ I4 : Nat → Nat → Int32, I4 = va_up I 91 (upd (I 91) e.toNatClampNeg b) → X d 0 0 12082 0 0 98 [some (.ref 73), some (.int a), some (.int b), some (.int c), some (.int e), none] [.int e, .ref 73] (K, I4, L, R, sz) Q) : X d 0 0 12082 0 0 58 [some (.ref 73), some (.int a), some (.int b), some (.int c), some (.int e), none] [] (K, I, L, R, sz) Q := x_ild4 k12082_58 <| x_ldcI k12082_60 c12_69 <| x_icmpge (tgt := 229) k12082_62 (by decide) (fun h1 => x_goto (tgt := 49) k12082_229 (by decide) <| (q1 h1)) (fun h1 => x_ald0 k12082_65 <| x_getR k12082_66 f12_73_11 (hK.at rfl) rfl (hR _ _ _ rfl) <| x_ild4 k12082_69 <| x_iald k12082_71 (hK.at rfl) (b1 h1) <| x_ild2 k12082_72 <| x_icmpne (tgt := 223) k12082_73 (by decide) (fun h2 => x_inc4 (c := 1) k12082_223 rfl (Nat.le_of_ble_eq_true rfl) rfl <| x_goto (tgt := 58) k12082_226 (by decide) <| (q2 h1 h2)) (fun h2 => x_ald0 k12082_76 <| x_getR k12082_77 f12_70_11 (hK.at rfl) rfl (hR _ _ _ rfl) <| x_ild4 k12082_80 <| x_iald k12082_82 (hK.at rfl) (b1 h1) <| x_iconst (v := (-1)) k12082_83 rfl <| x_icmpne (tgt := 223) k12082_84 (by decide) (fun h3 => x_inc4 (c := 1) k12082_223 rfl (Nat.le_of_ble_eq_true rfl) rfl <| x_goto (tgt := 58) k12082_226 (by decide) <| (q3 h1 h2 h3)) (fun h3 => x_ald0 k12082_87 <| x_getR k12082_88 f12_70_11 (hK.at rfl) rfl (hR _ _ _ rfl) <| x_ild4 k12082_91 <| x_ild2 k12082_93 <| x_iast k12082_94 (hK.at rfl) (b1 h1) <| x_nm fun I4 e5 => x_ald0 k12082_95 <| x_ild4 k12082_96 <| (q4 h1 h2 h3 I4 e5))))
theorem f12082e {a : Int32} {b : Int32} {c : Int32} {e : Int32}  (hK : qLay K sz)  (q1 : ¬ (I 73 41) = ((1 <<< ((I 73 26) &&& 31)) - 1) → X d 0 0 12082 0 0 121 [some (.ref 73), some (.int a), some (.int b), some (.int c), some (.int e), none] [.int (-1), .int a, .ref 73] (K, I, L, R, sz) Q) (q2 : (I 73 41) = ((1 <<< ((I 73 26) &&& 31)) - 1) → Q (some (.int b)) (K, I, L, R, sz)) : X d 0 0 12082 0 0 101 [some (.ref 73), some (.int a), some (.int b), some (.int c), some (.int e), none] [] (K, I, L, R, sz) Q := x_ald0 k12082_101 <| x_getI k12082_102 f12_369_11 (hK.at rfl) rfl <| x_iconst (v := 1) k12082_105 rfl <| x_ald0 k12082_106 <| x_getI k12082_107 f12_295_11 (hK.at rfl) rfl <| x_ishl k12082_110 <| x_iconst (v := 1) k12082_111 rfl <| x_isub k12082_112 <| x_icmpne (tgt := 118) k12082_113 (by decide) (fun h1 => x_ald0 k12082_118 <| x_ild1 k12082_119 <| x_iconst (v := (-1)) k12082_120 rfl <| (q1 h1)) (fun h1 => x_ild2 k12082_116 <| x_iret k12082_117 rfl (Nat.le_refl _) (Nat.le_refl _) <| (q2 h1))
theorem f12082f {a : Int32} {b : Int32} {c : Int32} {e : Int32}    (q1 : X d 0 0 12082 0 0 127 [some (.ref 73), some (.int a), some (.int b), some (.int c), some (.int e), some (.int 0)] [] (K, I, L, R, sz) Q) : X d 0 0 12082 0 0 124 [some (.ref 73), some (.int a), some (.int b), some (.int c), some (.int e), none] [] (K, I, L, R, sz) Q := x_iconst (v := 0) k12082_124 rfl <| x_ist5 k12082_125 (Nat.le_of_ble_eq_true rfl) rfl <| q1
theorem f12082g {a : Int32} {b : Int32} {c : Int32} {e : Int32} {f : Int32}  (hK : qLay K sz) (hR : qRef R) (b1 : ¬ (I 73 47) ≤ f → vp_in f 32) (b2 : ¬ (I 73 47) ≤ f → vp_in (I 94 f.toNatClampNeg) 80000) (q1 : (I 73 47) ≤ f → X d 0 0 12082 0 0 58 [some (.ref 73), some (.int a), some (.int b), some (.int c), some (.int (e + 1)), some (.int f)] [] (K, I, L, R, sz) Q) (q2 : ¬ (I 73 47) ≤ f → (I 92 ((I 94 f.toNatClampNeg).toNatClampNeg)) = (-1) → ∀ I3 : Nat → Nat → Int32, I3 = va_up I 92 (upd (I 92) ((I 94 f.toNatClampNeg).toNatClampNeg) (b + (I 96 f.toNatClampNeg))) → ¬ c = 0 → X d 0 0 12082 0 0 127 [some (.ref 73), some (.int a), some (.int b), some (.int 1), some (.int e), some (.int (f + 1))] [] (K, I3, L, R, sz) Q) (q3 : ¬ (I 73 47) ≤ f → (I 92 ((I 94 f.toNatClampNeg).toNatClampNeg)) = (-1) → ∀ I3 : Nat → Nat → Int32, I3 = va_up I 92 (upd (I 92) ((I 94 f.toNatClampNeg).toNatClampNeg) (b + (I 96 f.toNatClampNeg))) → c = 0 → ¬ (I3 96 f.toNatClampNeg) = 0 → X d 0 0 12082 0 0 127 [some (.ref 73), some (.int a), some (.int b), some (.int 0), some (.int e), some (.int (f + 1))] [] (K, I3, L, R, sz) Q) (q4 : ¬ (I 73 47) ≤ f → (I 92 ((I 94 f.toNatClampNeg).toNatClampNeg)) = (-1) → ∀ I3 : Nat → Nat → Int32, I3 = va_up I 92 (upd (I 92) ((I 94 f.toNatClampNeg).toNatClampNeg) (b + (I 96 f.toNatClampNeg))) → c = 0 → (I3 96 f.toNatClampNeg) = 0 → X d 0 0 12082 0 0 127 [some (.ref 73), some (.int a), some (.int b), some (.int 1), some (.int e), some (.int (f + 1))] [] (K, I3, L, R, sz) Q) (q5 : ¬ (I 73 47) ≤ f → ¬ (I 92 ((I 94 f.toNatClampNeg).toNatClampNeg)) = (-1) → (I 92 ((I 94 f.toNatClampNeg).toNatClampNeg)) ≤ (b + (I 96 f.toNatClampNeg)) → X d 0 0 12082 0 0 127 [some (.ref 73), some (.int a), some (.int b), some (.int c), some (.int e), some (.int (f + 1))] [] (K, I, L, R, sz) Q) (q6 : ¬ (I 73 47) ≤ f → ¬ (I 92 ((I 94 f.toNatClampNeg).toNatClampNeg)) = (-1) → ¬ (I 92 ((I 94 f.toNatClampNeg).toNatClampNeg)) ≤ (b + (I 96 f.toNatClampNeg)) → ∀ I8 : Nat → Nat → Int32, I8 = va_up I 92 (upd (I 92) ((I 94 f.toNatClampNeg).toNatClampNeg) (b + (I 96 f.toNatClampNeg))) → ¬ c = 0 → X d 0 0 12082 0 0 127 [some (.ref 73), some (.int a), some (.int b), some (.int 1), some (.int e), some (.int (f + 1))] [] (K, I8, L, R, sz) Q) (q7 : ¬ (I 73 47) ≤ f → ¬ (I 92 ((I 94 f.toNatClampNeg).toNatClampNeg)) = (-1) → ¬ (I 92 ((I 94 f.toNatClampNeg).toNatClampNeg)) ≤ (b + (I 96 f.toNatClampNeg)) → ∀ I8 : Nat → Nat → Int32, I8 = va_up I 92 (upd (I 92) ((I 94 f.toNatClampNeg).toNatClampNeg) (b + (I 96 f.toNatClampNeg))) → c = 0 → ¬ (I8 96 f.toNatClampNeg) = 0 → X d 0 0 12082 0 0 127 [some (.ref 73), some (.int a), some (.int b), some (.int 0), some (.int e), some (.int (f + 1))] [] (K, I8, L, R, sz) Q) (q8 : ¬ (I 73 47) ≤ f → ¬ (I 92 ((I 94 f.toNatClampNeg).toNatClampNeg)) = (-1) → ¬ (I 92 ((I 94 f.toNatClampNeg).toNatClampNeg)) ≤ (b + (I 96 f.toNatClampNeg)) → ∀ I8 : Nat → Nat → Int32, I8 = va_up I 92 (upd (I 92) ((I 94 f.toNatClampNeg).toNatClampNeg) (b + (I 96 f.toNatClampNeg))) → c = 0 → (I8 96 f.toNatClampNeg) = 0 → X d 0 0 12082 0 0 127 [some (.ref 73), some (.int a), some (.int b), some (.int 1), some (.int e), some (.int (f + 1))] [] (K, I8, L, R, sz) Q) : X d 0 0 12082 0 0 127 [some (.ref 73), some (.int a), some (.int b), some (.int c), some (.int e), some (.int f)] [] (K, I, L, R, sz) Q := x_ild5 k12082_127 <| x_ald0 k12082_129 <| x_getI k12082_130 f12_381_11 (hK.at rfl) rfl <| x_icmpge (tgt := 223) k12082_133 (by decide) (fun h1 => x_inc4 (c := 1) k12082_223 rfl (Nat.le_of_ble_eq_true rfl) rfl <| x_goto (tgt := 58) k12082_226 (by decide) <| (q1 h1)) (fun h1 => x_ald0 k12082_136 <| x_getR k12082_137 f12_73_11 (hK.at rfl) rfl (hR _ _ _ rfl) <| x_ald0 k12082_140 <| x_getR k12082_141 f12_79_11 (hK.at rfl) rfl (hR _ _ _ rfl) <| x_ild5 k12082_144 <| x_iald k12082_146 (hK.at rfl) (b1 h1) <| x_iald k12082_147 (hK.at rfl) (b2 h1) <| x_iconst (v := (-1)) k12082_148 rfl <| x_icmpeq (tgt := 176) k12082_149 (by decide) (fun h2 => x_ald0 k12082_176 <| x_getR k12082_177 f12_73_11 (hK.at rfl) rfl (hR _ _ _ rfl) <| x_ald0 k12082_180 <| x_getR k12082_181 f12_79_11 (hK.at rfl) rfl (hR _ _ _ rfl) <| x_ild5 k12082_184 <| x_iald k12082_186 (hK.at rfl) (b1 h1) <| x_ild2 k12082_187 <| x_ald0 k12082_188 <| x_getR k12082_189 f12_85_11 (hK.at rfl) rfl (hR _ _ _ rfl) <| x_ild5 k12082_192 <| x_iald k12082_194 (hK.at rfl) (b1 h1) <| x_iadd k12082_195 <| x_iast k12082_196 (hK.at rfl) (b2 h1) <| x_nm fun I3 e4 => x_ild3 k12082_197 <| x_ifne (tgt := 211) k12082_198 (by decide) (fun h5 => x_iconst (v := 1) k12082_211 rfl <| x_goto (tgt := 216) k12082_212 (by decide) <| x_ist3 k12082_216 (Nat.le_of_ble_eq_true rfl) rfl <| x_inc5 (c := 1) k12082_217 rfl (Nat.le_of_ble_eq_true rfl) rfl <| x_goto (tgt := 127) k12082_220 (by decide) <| (q2 h1 h2 I3 e4 h5)) (fun h5 => x_ald0 k12082_201 <| x_getR k12082_202 f12_85_11 (hK.at rfl) rfl (hR _ _ _ rfl) <| x_ild5 k12082_205 <| x_iald k12082_207 (hK.at rfl) (b1 h1) <| x_ifne (tgt := 215) k12082_208 (by decide) (fun h6 => x_iconst (v := 0) k12082_215 rfl <| x_ist3 k12082_216 (Nat.le_of_ble_eq_true rfl) rfl <| x_inc5 (c := 1) k12082_217 rfl (Nat.le_of_ble_eq_true rfl) rfl <| x_goto (tgt := 127) k12082_220 (by decide) <| (q3 h1 h2 I3 e4 h5 h6)) (fun h6 => x_iconst (v := 1) k12082_211 rfl <| x_goto (tgt := 216) k12082_212 (by decide) <| x_ist3 k12082_216 (Nat.le_of_ble_eq_true rfl) rfl <| x_inc5 (c := 1) k12082_217 rfl (Nat.le_of_ble_eq_true rfl) rfl <| x_goto (tgt := 127) k12082_220 (by decide) <| (q4 h1 h2 I3 e4 h5 h6)))) (fun h2 => x_ald0 k12082_152 <| x_getR k12082_153 f12_73_11 (hK.at rfl) rfl (hR _ _ _ rfl) <| x_ald0 k12082_156 <| x_getR k12082_157 f12_79_11 (hK.at rfl) rfl (hR _ _ _ rfl) <| x_ild5 k12082_160 <| x_iald k12082_162 (hK.at rfl) (b1 h1) <| x_iald k12082_163 (hK.at rfl) (b2 h1) <| x_ild2 k12082_164 <| x_ald0 k12082_165 <| x_getR k12082_166 f12_85_11 (hK.at rfl) rfl (hR _ _ _ rfl) <| x_ild5 k12082_169 <| x_iald k12082_171 (hK.at rfl) (b1 h1) <| x_iadd k12082_172 <| x_icmple (tgt := 217) k12082_173 (by decide) (fun h7 => x_inc5 (c := 1) k12082_217 rfl (Nat.le_of_ble_eq_true rfl) rfl <| x_goto (tgt := 127) k12082_220 (by decide) <| (q5 h1 h2 h7)) (fun h7 => x_ald0 k12082_176 <| x_getR k12082_177 f12_73_11 (hK.at rfl) rfl (hR _ _ _ rfl) <| x_ald0 k12082_180 <| x_getR k12082_181 f12_79_11 (hK.at rfl) rfl (hR _ _ _ rfl) <| x_ild5 k12082_184 <| x_iald k12082_186 (hK.at rfl) (b1 h1) <| x_ild2 k12082_187 <| x_ald0 k12082_188 <| x_getR k12082_189 f12_85_11 (hK.at rfl) rfl (hR _ _ _ rfl) <| x_ild5 k12082_192 <| x_iald k12082_194 (hK.at rfl) (b1 h1) <| x_iadd k12082_195 <| x_iast k12082_196 (hK.at rfl) (b2 h1) <| x_nm fun I8 e9 => x_ild3 k12082_197 <| x_ifne (tgt := 211) k12082_198 (by decide) (fun h10 => x_iconst (v := 1) k12082_211 rfl <| x_goto (tgt := 216) k12082_212 (by decide) <| x_ist3 k12082_216 (Nat.le_of_ble_eq_true rfl) rfl <| x_inc5 (c := 1) k12082_217 rfl (Nat.le_of_ble_eq_true rfl) rfl <| x_goto (tgt := 127) k12082_220 (by decide) <| (q6 h1 h2 h7 I8 e9 h10)) (fun h10 => x_ald0 k12082_201 <| x_getR k12082_202 f12_85_11 (hK.at rfl) rfl (hR _ _ _ rfl) <| x_ild5 k12082_205 <| x_iald k12082_207 (hK.at rfl) (b1 h1) <| x_ifne (tgt := 215) k12082_208 (by decide) (fun h11 => x_iconst (v := 0) k12082_215 rfl <| x_ist3 k12082_216 (Nat.le_of_ble_eq_true rfl) rfl <| x_inc5 (c := 1) k12082_217 rfl (Nat.le_of_ble_eq_true rfl) rfl <| x_goto (tgt := 127) k12082_220 (by decide) <| (q7 h1 h2 h7 I8 e9 h10 h11)) (fun h11 => x_iconst (v := 1) k12082_211 rfl <| x_goto (tgt := 216) k12082_212 (by decide) <| x_ist3 k12082_216 (Nat.le_of_ble_eq_true rfl) rfl <| x_inc5 (c := 1) k12082_217 rfl (Nat.le_of_ble_eq_true rfl) rfl <| x_goto (tgt := 127) k12082_220 (by decide) <| (q8 h1 h2 h7 I8 e9 h10 h11))))))
theorem s12082 {m : Nat} (hK : qLay K sz) (hR : qRef R) (cI : CI I p) (rI : RI I p) (hf : fewH p) (hm : m < pM p) (hq : ∀ J v, qFr pPm I J → plF (gQ I p m (-1)) v → Q (some (.int v)) (K, J, L, R, sz)) : X (d + 4) 0 0 12082 0 0 0 (qent (qml 12082) [.ref 73, .int (nI m)]) [] (K, I, L, R, sz) Q := by
  have v := gQ_v (x := -1) cI hf hm
  have w3 := cI.w3
  have w5 := cI.w5
  have w4 : pT p ≤ 4 := cI.1.2.1.2.2.2
  have lT : I 73 26 = nI (pT p) := by rw [rI.1.2.2.2]; exact cI.1.1.2.2.2
  have cF : ∀ J, qFr pPm I J → CI J p ∧ RI J p ∧ gQ J p m (-1) = gQ I p m (-1) := fun J hJ => by
    have hJQ : qFr scQ I J := hJ.mono (fun _ _ => pPm_Q)
    exact ⟨CI_fr hJQ (CI_jud hJQ (by rw [hJ.row (j := 51) (fun k q => by unfold pPm pO pU at q; omega)]) (hJ.row (fun k q => by unfold pPm pO pU at q; omega)) cI) cI, RI_fr hJQ rI, gQ_q hJQ (by omega) w5⟩
  have u91 : ∀ {A B : Nat → Nat → Int32} {g : Nat → Int32}, qFr pPm I A → B = va_up A 91 g → qFr pPm I B := fun h1 e => by rw [e]; exact h1.trans (qFr.up (fun k => Or.inr (Or.inl rfl)))
  have u92 : ∀ {A B : Nat → Nat → Int32} {g : Nat → Int32}, qFr pPm I A → B = va_up A 92 g → qFr pPm I B := fun h1 e => by rw [e]; exact h1.trans (qFr.up (fun k => Or.inr (Or.inr (Or.inl rfl))))
  have p26 : ∀ J, qFr pPm I J → J 73 26 = nI (pT p) := fun J hJ => by rw [hJ 73 26 (fun q => by unfold pPm pO pU at q; omega)]; exact lT
  have hall : (1 <<< (nI (pT p) &&& 31) : Int32) - 1 = nI (2 ^ pT p - 1) := by
    rw [show (1 <<< (nI (pT p) &&& 31) : Int32) = nI (2 ^ pT p) from shl_1 ⟨pT p, by omega⟩, show (1 : Int32) = nI 1 from rfl, pk_sub (p2_0 _)]
  -- one pass
  have h58 : ∀ (n : Nat), n ≤ 12 → ∀ (C0 : Nat), (∀ J c x4, qFr pPm I J → fwA (gQ I p m (-1)) (J 91) (J 92) n → (c = 0 → ∀ i, i < 80000 → J 92 i = nI n → ¬ J 91 i = -1) → (¬ c = 0 → C0 < fCm (J 91)) → X (d + 4) 0 0 12082 0 0 49 [some (.ref 73), some (.int (nI m)), some (.int (nI n)), some (.int c), some (.int x4), none] [] (K, J, L, R, sz) Q) →
      ∀ (k j : Nat), j + k = 80000 → ∀ J c, qFr pPm I J → fwA (gQ I p m (-1)) (J 91) (J 92) n → (c = 0 → ∀ i, i < j → J 92 i = nI n → ¬ J 91 i = -1) → C0 ≤ fCm (J 91) → (¬ c = 0 → C0 < fCm (J 91)) → X (d + 4) 0 0 12082 0 0 58 [some (.ref 73), some (.int (nI m)), some (.int (nI n)), some (.int c), some (.int (nI j)), none] [] (K, J, L, R, sz) Q := by
    intro n hn C0 hnx k
    induction k with
    | zero =>
      intro j hj J c hJ A Z hc1 hc2
      have : j = 80000 := by omega
      subst this
      have hle : (80000 : Int32) ≤ nI 80000 := by decide
      exact f12082d hK hR (fun h => absurd hle h) (fun _ => hnx J c _ hJ A Z hc2) (fun h => absurd hle h) (fun h => absurd hle h) (fun h => absurd hle h)
    | succ k ih =>
      intro j hj J c hJ A Z hc1 hc2
      have hj8 : j < 80000 := by omega
      have hnl : ¬ (80000 : Int32) ≤ nI j := nI_ge (b := 80000) hj8 (by omega)
      have ec : (nI j).toNatClampNeg = j := nI_c (by omega)
      obtain ⟨A1, A2, A3, A4⟩ := A
      have hskip : (J 92 j = nI n → ¬ J 91 j = -1) → X (d + 4) 0 0 12082 0 0 58 [some (.ref 73), some (.int (nI m)), some (.int (nI n)), some (.int c), some (.int (nI (j + 1))), none] [] (K, J, L, R, sz) Q := fun hs =>
        ih (j + 1) (by omega) J c hJ ⟨A1, A2, A3, A4⟩ (fun z i hi h => by
          by_cases e : i = j
          · subst e; exact hs h
          · exact Z z i (by omega) h) hc1 hc2
      refine f12082d hK hR (fun _ => vI hj8 (by omega)) (fun h => absurd h hnl) (fun _ a => ?_) (fun _ a b => ?_) (fun _ a b B hB => ?_)
      · rw [ec] at a; rw [nI_1]; exact hskip (fun z => absurd z a)
      · rw [ec] at a b; rw [nI_1]; exact hskip (fun _ => b)
      · rw [ec] at a b hB
        obtain ⟨T0, k0, y1, y2, y3⟩ := (A1 j hj8).resolve_left (by rw [a]; exact m1_nI2 (by omega))
        have ek : k0 = n := nI_g (by omega) (by omega) (y1 ▸ a)
        subst ek
        have hBp : qFr pPm I B := u91 hJ hB
        have B91 : B 91 = upd (J 91) j (nI k0) := by rw [hB, vu_s]
        have Br : ∀ i, i ≠ 91 → B i = J i := fun i hi => by rw [hB, vu_n hi]
        have hcm : fCm (B 91) = fCm (J 91) + 1 := by rw [B91]; exact fCm_up hj8 b (by omega)
        refine x_cV1 (MCz := 0) (MSz := 0) k12082_98 v12_402_11 (hK.at rfl) (Nat.le_of_ble_eq_true rfl) (Nat.le_of_ble_eq_true rfl) (Nat.le_refl _) (Nat.le_refl _) <| s12075 (d := d + 3) hK hR hj8 (fun D hD stD => ?_)
        have hDp : qFr pPm I D := hBp.trans (hD.mono (fun _ _ q => Or.inl (Or.inl q)))
        have D91 : D 91 = B 91 := hD.row (fun k q => by unfold pU at q; omega)
        have D92 : D 92 = J 92 := by rw [← Br 92 (by decide)]; exact hD.row (fun k q => by unfold pU at q; omega)
        obtain ⟨oj, -⟩ := rW_ok v y3
        have hd16 : eB (uD j) < 2 ^ pT p := (eB_bt (n := pT p) w4 (fun s hs => oj.1 s hs)).1
        have hbt : bt (eB (uD j)) = uD j := (eB_bt (n := pT p) w4 (fun s hs => oj.1 s hs)).2
        have h16 : 2 ^ pT p ≤ 16 := pw2 (k := 4) w4
        have hfull : D 73 41 = (1 <<< (D 73 26 &&& 31)) - 1 ↔ full (gQ I p m (-1)) (uD j) := by
          rw [p26 D hDp, hall, stD.1, nI_eq (by omega) (by omega), ← full_iff w4 hd16, hbt]; rfl
        refine f12082e hK (fun hnf => ?_) (fun hfu => ?_)
        · rw [hfull] at hnf
          obtain ⟨cD, rD, gD⟩ := cF D hDp
          refine x_cV2 (MCz := 0) (MSz := 0) k12082_121 v12_407_11 (hK.at rfl) (Nat.le_of_ble_eq_true rfl) (Nat.le_of_ble_eq_true rfl) (Nat.le_refl _) (Nat.le_refl _) <| s12079 (d := d) (m := m) (x := -1) hK hR cD rD hf hm (by rw [gD]; exact oj) stD (fun C nw hC hnw c47 hWA hHW => ?_)
          rw [gD] at hWA hHW
          have hCp : qFr pPm I C := hDp.trans (hC.mono (fun _ _ q => Or.inl q))
          have C91 : C 91 = upd (J 91) j (nI k0) := by rw [← B91, ← D91]; exact hC.row (fun k q => by unfold pO pU at q; omega)
          have C92 : C 92 = J 92 := by rw [← D92]; exact hC.row (fun k q => by unfold pO pU at q; omega)
          refine f12082f ?_
          have h127 : ∀ (k' i : Nat), i + k' = nw → ∀ E c2, qFr pPm I E → E 73 47 = nI nw → E 94 = C 94 → E 96 = C 96 → E 91 = C 91 → fSnd (gQ I p m (-1)) (E 92) → fLv (E 91) (E 92) k0 → fLe (E 92) (rcd (fun _ => false) (fun _ => false) (g0r (gQ I p m (-1))) (g0f (gQ I p m (-1)))) 0 → (∀ e z, fLe (J 92) e z → fLe (E 92) e z) → (∀ i k, J 92 i = nI k → k ≤ k0 → E 92 i = nI k) → (∀ i', i' < i → ∀ c w b, c < 80000 → w < 1100 → b < 1100 → wy C i' c w b → fLe (E 92) c (k0 + b)) → (c2 = 0 → c = 0 ∧ ∀ i, E 92 i = nI k0 → J 92 i = nI k0) → X (d + 4) 0 0 12082 0 0 127 [some (.ref 73), some (.int (nI m)), some (.int (nI k0)), some (.int c2), some (.int (nI j)), some (.int (nI i))] [] (K, E, L, R, sz) Q := by
            intro k'
            induction k' with
            | zero =>
              intro i hi E c2 hE e47 e94 e96 e91 SE VE LE mono keep done hz
              have hle : E 73 47 ≤ nI i := by rw [e47]; exact nI_le (by omega) (by omega)
              refine f12082g hK hR (fun h => absurd hle h) (fun h => absurd hle h) (fun _ => ?_) (fun h => absurd hle h) (fun h => absurd hle h) (fun h => absurd hle h) (fun h => absurd hle h) (fun h => absurd hle h) (fun h => absurd hle h) (fun h => absurd hle h)
              rw [nI_1]
              have hE91 : fCm (E 91) = fCm (J 91) + 1 := by rw [e91, C91, ← B91]; exact hcm
              refine x_wk2 (ih (j + 1) (by omega) E c2 hE ⟨SE, fun i2 hi2 => ?_, VE, LE⟩ (fun z i2 hi2 h => ?_) (by omega) (fun _ => by omega)) ⟨rfl, rfl, rfl, rfl, rfl, True.intro⟩
              · by_cases e : i2 = j
                · subst e
                  refine Or.inr ⟨k0, keep _ _ a (Nat.le_refl _), Nat.le_refl _, hnf, fun d' h' r' f' w b he => ?_⟩
                  obtain ⟨i', hi', hw'⟩ := hHW _ _ _ _ _ _ he
                  have hb' := rE_b v oj he
                  have hb1 := rE_b1 he
                  exact done i' (by omega) _ _ _ (rW_ok v (rW_s y3 he)).2.2.1 (by omega) (by omega) hw'
                · have e1 : E 91 i2 = J 91 i2 := by rw [e91, C91]; unfold upd; rw [if_neg e]
                  rcases A2 i2 hi2 with u | ⟨k2, u1, u2, u3, u4⟩
                  · exact Or.inl (by rw [e1]; exact u)
                  · exact Or.inr ⟨k2, keep _ _ u1 u2, u2, u3, fun d' h' r' f' w b he => mono _ _ (u4 _ _ _ _ _ _ he)⟩
              · by_cases e : i2 = j
                · subst e
                  rw [e91, C91]; unfold upd; rw [if_pos rfl]; exact m1_nI2 (by omega)
                · obtain ⟨z1, z2⟩ := hz z
                  rw [e91, C91]; unfold upd; rw [if_neg e]
                  exact Z z1 i2 (by omega) (z2 i2 h)
            | succ k' ih' =>
              intro i hi E c2 hE e47 e94 e96 e91 SE VE LE mono keep done hz
              have hnl : ¬ E 73 47 ≤ nI i := by rw [e47]; exact nI_ge (by omega) (by omega)
              have eci : (nI i).toNatClampNeg = i := nI_c (by omega)
              obtain ⟨d', h', r', f', w, b, he, hw1, hw2, hw3⟩ := hWA i (by omega)
              have hb' := rE_b v oj he
              have hb1 := rE_b1 he
              have hp' := rW_s y3 he
              have hc' := (rW_ok v hp').2.2.1
              have t94 : E 94 (nI i).toNatClampNeg = nI (rcd d' h' r' f') := by rw [eci, e94, hw1]
              have t96 : E 96 (nI i).toNatClampNeg = nI b := by rw [eci, e96, hw3]
              have tc : (E 94 (nI i).toNatClampNeg).toNatClampNeg = rcd d' h' r' f' := by rw [t94]; exact nI_c (by omega)
              have tv : nI k0 + E 96 (nI i).toNatClampNeg = nI (k0 + b) := by rw [t96, nI_add]
              obtain ⟨R1, R2⟩ := f_rel (mn := E 91) SE VE hc' (by omega) hb1 (rSt2_c v hp')
              have hdone : ∀ E' : Nat → Nat → Int32, (∀ e z, fLe (E 92) e z → fLe (E' 92) e z) → fLe (E' 92) (rcd d' h' r' f') (k0 + b) → ∀ i', i' < i + 1 → ∀ c w b, c < 80000 → w < 1100 → b < 1100 → wy C i' c w b → fLe (E' 92) c (k0 + b) := fun E' hmo hnw i' hi' c2 w2 b2' l1 l2 l3 hw' => by
                by_cases e : i' = i
                · subst e
                  obtain ⟨q1, q2, q3⟩ := hw'
                  rw [(nI_eq (by omega) (by omega)).mp (q1 ▸ hw1 : nI c2 = nI (rcd d' h' r' f')), (nI_eq (by omega) (by omega)).mp (q3 ▸ hw3 : nI b2' = nI b)]
                  exact hnw
                · exact hmo _ _ (done i' (by omega) _ _ _ l1 l2 l3 hw')
              have hupd : ∀ c3, (E 92 (rcd d' h' r' f') = -1 ∨ nI (k0 + b) < E 92 (rcd d' h' r' f')) → (c3 = 0 → c2 = 0 ∧ 0 < b) → ∀ E', E' = va_up E 92 (upd (E 92) (rcd d' h' r' f') (nI (k0 + b))) → X (d + 4) 0 0 12082 0 0 127 [some (.ref 73), some (.int (nI m)), some (.int (nI k0)), some (.int c3), some (.int (nI j)), some (.int (nI (i + 1)))] [] (K, E', L, R, sz) Q := fun c3 hy hc3 E' hE' => by
                obtain ⟨r1, r2, r3, r4, r5, r6⟩ := R1 hy
                have E92 : E' 92 = upd (E 92) (rcd d' h' r' f') (nI (k0 + b)) := by rw [hE', vu_s]
                have Er : ∀ i, i ≠ 92 → E' i = E i := fun i hi => by rw [hE', vu_n hi]
                refine ih' (i + 1) (by omega) E' c3 (u92 hE hE') (by rw [Er 73 (by decide)]; exact e47) (by rw [Er 94 (by decide)]; exact e94) (by rw [Er 96 (by decide)]; exact e96) (by rw [Er 91 (by decide)]; exact e91) (by rw [E92]; exact r1) (by rw [E92, Er 91 (by decide)]; exact r2) (by rw [E92]; exact r4 _ _ LE) (fun e z hh => by rw [E92]; exact r4 _ _ (mono e z hh)) (fun i k hh hk => by rw [E92]; exact r5 _ _ (keep i k hh hk) hk) (hdone E' (fun e z hh => by rw [E92]; exact r4 _ _ hh) (by rw [E92]; exact r3)) (fun z => ?_)
                obtain ⟨z1, z2⟩ := hc3 z
                obtain ⟨z3, z4⟩ := hz z1
                exact ⟨z3, fun i2 hh => z4 i2 (r6 z2 i2 (by rw [← E92]; exact hh))⟩
              have hb0 : nI b = 0 ↔ b = 0 := nI_eq (b := 0) (by omega) (by omega)
              refine f12082g hK hR (fun _ => vI (by omega) (by omega)) (fun _ => by rw [t94]; exact vI hc' (by omega)) (fun h => absurd h hnl) (fun _ s1 E' hE' s2 => ?_) (fun _ s1 E' hE' s2 s3 => ?_) (fun _ s1 E' hE' s2 s3 => ?_) (fun _ s1 s2 => ?_) (fun _ s1 s2 E' hE' s3 => ?_) (fun _ s1 s2 E' hE' s3 s4 => ?_) (fun _ s1 s2 E' hE' s3 s4 => ?_)
              · rw [tc] at s1 hE'; rw [tv] at hE'; rw [nI_1]
                exact hupd 1 (Or.inl s1) (fun z => absurd z (by decide)) E' hE'
              · rw [tc] at s1 hE'; rw [tv] at hE'; rw [nI_1]
                have e96' : E' 96 (nI i).toNatClampNeg = nI b := by rw [hE', vu_n (by decide)]; exact t96
                rw [e96', hb0] at s3
                exact hupd 0 (Or.inl s1) (fun _ => ⟨s2, by omega⟩) E' hE'
              · rw [tc] at s1 hE'; rw [tv] at hE'; rw [nI_1]
                exact hupd 1 (Or.inl s1) (fun z => absurd z (by decide)) E' hE'
              · rw [tc] at s1 s2; rw [tv] at s2; rw [nI_1]
                have hno := R2 (fun y => by rcases y with y | y; exact s1 y; exact absurd s2 (Int32.not_le.mpr y))
                exact ih' (i + 1) (by omega) E c2 hE e47 e94 e96 e91 SE VE LE mono keep (hdone E (fun _ _ h => h) hno) hz
              · rw [tc] at s1 s2 hE'; rw [tv] at s2 hE'; rw [nI_1]
                exact hupd 1 (Or.inr (Int32.not_le.mp s2)) (fun z => absurd z (by decide)) E' hE'
              · rw [tc] at s1 s2 hE'; rw [tv] at s2 hE'; rw [nI_1]
                have e96' : E' 96 (nI i).toNatClampNeg = nI b := by rw [hE', vu_n (by decide)]; exact t96
                rw [e96', hb0] at s4
                exact hupd 0 (Or.inr (Int32.not_le.mp s2)) (fun _ => ⟨s3, by omega⟩) E' hE'
              · rw [tc] at s1 s2 hE'; rw [tv] at s2 hE'; rw [nI_1]
                exact hupd 1 (Or.inr (Int32.not_le.mp s2)) (fun z => absurd z (by decide)) E' hE'
          refine h127 nw 0 (by omega) C c hCp c47 rfl rfl rfl (by rw [C92]; exact A1) (fun i hi hmm => ?_) (by rw [C92]; exact A4) (fun e z h => by rw [C92]; exact h) (fun i k h _ => by rw [C92]; exact h) (fun i' hi' => absurd hi' (Nat.not_lt_zero _)) (fun z => ⟨z, fun i h => by rw [← C92]; exact h⟩)
          rw [C92]
          by_cases e : i = j
          · subst e; rw [C91] at hmm; unfold upd at hmm; rw [if_pos rfl] at hmm; exact absurd hmm (m1_nI2 (by omega))
          · rw [C91] at hmm; unfold upd at hmm; rw [if_neg e] at hmm; exact A3 i hi hmm
        · rw [hfull] at hfu
          exact hq D _ hDp (Or.inr ⟨k0, rfl, by omega, f_found v A1 A2 A3 A4 (by omega) hj8 a hfu⟩)
  -- a level: passes until nothing more
  have h49 : ∀ (n : Nat), n ≤ 12 → (∀ J, qFr pPm I J → fwA (gQ I p m (-1)) (J 91) (J 92) n → (∀ i, i < 80000 → J 92 i = nI n → ¬ J 91 i = -1) → X (d + 4) 0 0 12082 0 0 41 [some (.ref 73), some (.int (nI m)), some (.int (nI (n + 1))), none, none, none] [] (K, J, L, R, sz) Q) →
      ∀ (fuel : Nat) J c x4, 80000 ≤ fCm (J 91) + fuel → qFr pPm I J → fwA (gQ I p m (-1)) (J 91) (J 92) n → (c = 0 → ∀ i, i < 80000 → J 92 i = nI n → ¬ J 91 i = -1) → X (d + 4) 0 0 12082 0 0 49 [some (.ref 73), some (.int (nI m)), some (.int (nI n)), some (.int c), x4, none] [] (K, J, L, R, sz) Q := by
    intro n hn hnx fuel
    have hfree : ∀ J c x4, X (d + 4) 0 0 12082 0 0 49 [some (.ref 73), some (.int (nI m)), some (.int (nI n)), some (.int c), none, none] [] (K, J, L, R, sz) Q → X (d + 4) 0 0 12082 0 0 49 [some (.ref 73), some (.int (nI m)), some (.int (nI n)), some (.int c), x4, none] [] (K, J, L, R, sz) Q := fun J c x4 h => by
      cases x4 with
      | none => exact h
      | some w => exact x_wk2 h ⟨rfl, rfl, rfl, rfl, True.intro⟩
    have hdone : ∀ J c, qFr pPm I J → fwA (gQ I p m (-1)) (J 91) (J 92) n → c = 0 → (∀ i, i < 80000 → J 92 i = nI n → ¬ J 91 i = -1) → X (d + 4) 0 0 12082 0 0 41 [some (.ref 73), some (.int (nI m)), some (.int (nI n + 1)), some (.int c), none, none] [] (K, J, L, R, sz) Q := fun J c hJ A _ Z => by
      rw [nI_1]
      exact x_wk2 (hnx J hJ A Z) ⟨rfl, rfl, rfl, True.intro⟩
    induction fuel with
    | zero =>
      intro J c x4 hfu hJ A Z
      refine hfree J c x4 (f12082c (fun z => hdone J c hJ A z (Z z)) (fun z => ?_))
      refine h58 n hn (fCm (J 91)) (fun J2 c2 y4 hJ2 A2 Z2 hlt => ?_) 80000 0 (by omega) J 0 hJ A (fun _ i hi => absurd hi (Nat.not_lt_zero _)) (Nat.le_refl _) (fun h => absurd rfl h)
      have hle := fCm_le (J2 91)
      have hc2 : c2 = 0 := Classical.byContradiction fun h => by have := hlt h; omega
      refine x_wk2 (f12082c (fun z => hdone J2 c2 hJ2 A2 z (Z2 z)) (fun z => absurd hc2 z)) ⟨rfl, rfl, rfl, rfl, True.intro⟩
    | succ fuel ih =>
      intro J c x4 hfu hJ A Z
      refine hfree J c x4 (f12082c (fun z => hdone J c hJ A z (Z z)) (fun z => ?_))
      refine h58 n hn (fCm (J 91)) (fun J2 c2 y4 hJ2 A2 Z2 hlt => ?_) 80000 0 (by omega) J 0 hJ A (fun _ i hi => absurd hi (Nat.not_lt_zero _)) (Nat.le_refl _) (fun h => absurd rfl h)
      by_cases hc2 : c2 = 0
      · refine x_wk2 (f12082c (fun z => hdone J2 c2 hJ2 A2 z (Z2 z)) (fun z => absurd hc2 z)) ⟨rfl, rfl, rfl, rfl, True.intro⟩
      · have := hlt hc2
        exact ih J2 c2 _ (by omega) hJ2 A2 Z2
  have h41 : ∀ (k n : Nat), n + k = 13 → ∀ J, qFr pPm I J → fSnd (gQ I p m (-1)) (J 92) → (fMk (gQ I p m (-1)) (J 91) (J 92) (n - 1)) → fLv (J 91) (J 92) n → fLe (J 92) (rcd (fun _ => false) (fun _ => false) (g0r (gQ I p m (-1))) (g0f (gQ I p m (-1)))) 0 → X (d + 4) 0 0 12082 0 0 41 [some (.ref 73), some (.int (nI m)), some (.int (nI n)), none, none, none] [] (K, J, L, R, sz) Q := by
    intro k
    induction k with
    | zero =>
      intro n hn J hJ A1 A2 A3 A4
      have : n = 13 := by omega
      subst this
      have hlt : (12 : Int32) < nI 13 := by decide
      exact f12082b (fun _ => hq J _ hJ (Or.inl ⟨rfl, f_none v A1 A2 A3 A4⟩)) (fun h => absurd hlt h)
    | succ k ih =>
      intro n hn J hJ A1 A2 A3 A4
      have hnl : ¬ (12 : Int32) < nI n := nI_nlt (a := 12) (b := n) (by omega) (by omega)
      refine f12082b (fun h => absurd h hnl) (fun _ => ?_)
      have A2' : fMk (gQ I p m (-1)) (J 91) (J 92) n := fun i hi => by
        rcases A2 i hi with a | ⟨k2, a, b, c⟩
        · exact Or.inl a
        · exact Or.inr ⟨k2, a, by omega, c⟩
      exact h49 n (by omega) (fun J2 hJ2 A Z => ih (n + 1) (by omega) J2 hJ2 A.1 (by rw [Nat.add_sub_cancel]; exact A.2.1) (f_next A.2.2.1 Z) A.2.2.2) 80000 J 1 none (by omega) hJ ⟨A1, A2', A3, A4⟩ (fun h => absurd h (by decide))
  have h2 : ∀ (k i : Nat), i + k = 80000 → ∀ J, qFr pPm I J → (∀ i', i' < i → J 91 i' = -1 ∧ J 92 i' = -1) → X (d + 4) 0 0 12082 0 0 2 [some (.ref 73), some (.int (nI m)), some (.int (nI i)), none, none, none] [] (K, J, L, R, sz) Q := by
    intro k
    induction k with
    | zero =>
      intro i hi J hJ j1
      have : i = 80000 := by omega
      subst this
      have hle : (80000 : Int32) ≤ nI 80000 := by decide
      obtain ⟨cJ, rJ, gJ⟩ := cF J hJ
      refine g12082_2 hK hR (fun h => absurd hle h) (fun _ => ?_) (fun h => absurd hle h)
      refine x_cV1 (MCz := 0) (MSz := 0) k12082_34 v12_393_11 (hK.at rfl) (Nat.le_of_ble_eq_true rfl) (Nat.le_of_ble_eq_true rfl) (Nat.le_refl _) (Nat.le_refl _) <| s12076 (d := d + 1) (m := m) (x := -1) hK hR cJ rJ hf hm (fun A hA => ?_)
      rw [gJ]
      obtain ⟨c0, hc0⟩ : ∃ c0, c0 = rcd (fun _ => false) (fun _ => false) (g0r (gQ I p m (-1))) (g0f (gQ I p m (-1))) := ⟨_, rfl⟩
      have h0 : rW (gQ I p m (-1)) (fun _ => false) (fun _ => false) (g0r (gQ I p m (-1))) (g0f (gQ I p m (-1))) 0 0 := ⟨0, rfl, rfl, rfl, rfl, rfl, rfl⟩
      have hc8 : c0 < 80000 := by rw [hc0]; exact (rW_ok v h0).2.2.1
      have hst : rSt2 (gQ I p m (-1)) c0 0 0 := by rw [hc0]; exact rSt2_c v h0
      have hA' : qFr pPm I A := hJ.trans (hA.mono (fun _ _ q => Or.inl (Or.inl q)))
      have A91 : A 91 = J 91 := hA.row (fun k q => by unfold pU at q; omega)
      have A92 : A 92 = J 92 := hA.row (fun k q => by unfold pU at q; omega)
      rw [← hc0]
      refine f12082a hK (vI hc8 (by omega)) (fun B hB => ?_)
      rw [nI_c (by omega)] at hB
      have B92 : B 92 = upd (A 92) c0 0 := by rw [hB, vu_s]
      have B91 : B 91 = A 91 := by rw [hB, vu_n (by decide)]
      have hB92 : ∀ i, i < 80000 → i ≠ c0 → B 92 i = -1 := fun i hi hne => by rw [B92]; unfold upd; rw [if_neg hne, A92]; exact (j1 i hi).2
      have hB0 : B 92 c0 = nI 0 := by rw [B92]; unfold upd; rw [if_pos rfl]; rfl
      refine h41 13 0 (by omega) B (u92 hA' hB) (fun i hi => ?_) (fun i hi => Or.inl (by rw [B91, A91]; exact (j1 i hi).1)) (fun i hi _ => ?_) ⟨0, by rw [← hc0]; exact hB0, Nat.le_refl _, by omega⟩
      · by_cases e : i = c0
        · subst e; exact Or.inr ⟨0, 0, hB0, by omega, hst⟩
        · exact Or.inl (hB92 i hi e)
      · by_cases e : i = c0
        · subst e; exact Or.inr ⟨0, hB0, Nat.zero_le _, by omega⟩
        · exact Or.inl (hB92 i hi e)
    | succ k ih =>
      intro i hi J hJ j1
      have hnl : ¬ (80000 : Int32) ≤ nI i := nI_ge (b := 80000) (by omega) (by omega)
      refine g12082_2 hK hR (fun _ => vI (by omega) (by omega)) (fun h => absurd h hnl) (fun _ A hA B hB => ?_)
      rw [nI_c (by omega)] at hA hB
      rw [nI_1]
      refine ih (i + 1) (by omega) B (u91 (u92 hJ hA) hB) (fun i' hi' => ?_)
      have B91 : B 91 = upd (J 91) i (-1) := by rw [hB, vu_s, hA, vu_n (by decide)]
      have B92 : B 92 = upd (J 92) i (-1) := by rw [hB, vu_n (by decide), hA, vu_s]
      rw [B91, B92]; unfold upd
      by_cases c : i' = i
      · rw [if_pos c, if_pos c]; exact ⟨rfl, rfl⟩
      · rw [if_neg c, if_neg c]; exact j1 i' (by omega)
  exact e12082 (h2 80000 0 (by omega) I qFr.refl (fun i' hi' => absurd hi' (Nat.not_lt_zero _)))

end L99l
