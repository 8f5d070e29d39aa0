/-! rivals: the reference, the best turn -/
def sp (a b o : Nat) : Nat := (6 * a + b) * 243 + o
def bm (I : Nat → Nat → Int32) (v : Int32) : Nat → Nat → Int32 := va_up I 73 (upd (I 73) 37 v)
theorem sp_lt {a b o : Nat} (ha : a < 6) (hb : b < 6) (ho : o < 243) : sp a b o < 8748 := by unfold sp; omega
theorem sp_I {a b o : Nat} : (6 * nI a + nI b) * 243 + nI o = nI (sp a b o) := by
  rw [show (6 : Int32) = nI 6 from rfl, show (243 : Int32) = nI 243 from rfl, pk_mul, nI_add, pk_mul, nI_add]; rfl
theorem iPw.at {I : Nat → Nat → Int32} (h : iPw I) {s : Nat} (hs : s < 5) : I 99 s = nI (3 ^ s) := by
  obtain ⟨h0, h1, h2, h3, h4⟩ := h
  have : s = 0 ∨ s = 1 ∨ s = 2 ∨ s = 3 ∨ s = 4 := by omega
  rcases this with rfl | rfl | rfl | rfl | rfl
  · exact h0
  · exact h1
  · exact h2
  · exact h3
  · exact h4
section L91
variable {d : Nat} {K : qK} {I : Nat → Nat → Int32} {L : Nat → Nat → Int64} {R : Nat → Nat → Option Nat} {sz : Nat} {Q : Option Value → qMem → Prop} {p : qPa}
theorem e12089 {a : Int32} {b : Int32} {c : Int32} {e : Int32} {f : Int32}    (q1 : b = 0 → X d 0 0 12089 0 0 10 [some (.ref 73), some (.int a), some (.int b), some (.int c), some (.int e), some (.int f), none, none, none, none, none] [.int e] (K, I, L, R, sz) Q) (q2 : ¬ b = 0 → X d 0 0 12089 0 0 10 [some (.ref 73), some (.int a), some (.int b), some (.int c), some (.int e), some (.int f), none, none, none, none, none] [.int c] (K, I, L, R, sz) Q) : X d 0 0 12089 0 0 0 (qent (qml 12089) [.ref 73, .int a, .int b, .int c, .int e, .int f]) [] (K, I, L, R, sz) Q := show X _ 0 0 12089 0 0 0 [some (.ref 73), some (.int a), some (.int b), some (.int c), some (.int e), some (.int f), none, none, none, none, none] [] _ _ from x_ild2 k12089_0 <| x_ifeq (tgt := 8) k12089_1 (by decide) (fun h1 => x_ild4 k12089_8 <| (q1 h1)) (fun h1 => x_ild3 k12089_4 <| x_goto (tgt := 10) k12089_5 (by decide) <| (q2 h1))
theorem g12089_10 {x1 : Int32} {x2 : Int32} {x3 : Int32} {x4 : Int32} {x5 : Int32} {y0 : Int32}  (hK : qLay K sz) (hR : qRef R) (b1 : vp_in ((6 * x3 + x4) * 243 + x5) 8748) (q1 : X (d + 1) 0 0 12089 0 0 35 [some (.ref 73), some (.int x1), some (.int x2), some (.int x3), some (.int x4), some (.int x5), some (.int y0), some (.int (I 98 (((6 * x3 + x4) * 243 + x5).toNatClampNeg))), some (.int 1), none, none] [] (K, va_up I 73 (upd (I 73) 37 0), L, R, sz) Q) : X (d + 1) 0 0 12089 0 0 10 [some (.ref 73), some (.int x1), some (.int x2), some (.int x3), some (.int x4), some (.int x5), none, none, none, none, none] [.int y0] (K, I, L, R, sz) Q := x_ist6 k12089_10 (Nat.le_of_ble_eq_true rfl) rfl <| x_ald0 k12089_12 <| x_iconst (v := 0) k12089_13 rfl <| x_putI k12089_14 f12_359_11 (Or.inl rfl) (hK.at rfl) <| x_ald0 k12089_17 <| x_getR k12089_18 f12_91_11 (hK.at rfl) rfl (hR _ _ _ rfl) <| x_ild3 k12089_21 <| x_ild4 k12089_22 <| x_ild5 k12089_24 <| x_cS3 (MCz := 0) (MSz := 0) k12089_26 s12_421 (Nat.le_of_ble_eq_true rfl) (Nat.le_of_ble_eq_true rfl) (Nat.le_refl _) (Nat.le_refl _) <| t12088 (x_iald k12089_29 (hK.at rfl) b1 <| x_ist7 k12089_30 (Nat.le_of_ble_eq_true rfl) rfl <| x_iconst (v := 1) k12089_32 rfl <| x_ist8 k12089_33 (Nat.le_of_ble_eq_true rfl) rfl <| q1)
theorem g12089_35 {x1 : Int32} {x2 : Int32} {x3 : Int32} {x4 : Int32} {x5 : Int32} {x6 : Int32} {x7 : Int32} {x8 : Int32}  (hK : qLay K sz)  (q1 : (3 + (I 73 24)) ≤ x8 → Q (some (.int x7)) (K, I, L, R, sz)) (q2 : ¬ (3 + (I 73 24)) ≤ x8 → ¬ x8 = 1 → X (d + 1) 0 0 12089 0 0 98 [some (.ref 73), some (.int x1), some (.int x2), some (.int x3), some (.int x4), some (.int x5), some (.int x6), some (.int x7), some (.int x8), some (.int (-1)), none] [] (K, I, L, R, sz) Q) (q3 : ¬ (3 + (I 73 24)) ≤ x8 → x8 = 1 → (I 73 23) ≤ (x6 + 1) → X (d + 1) 0 0 12089 0 0 98 [some (.ref 73), some (.int x1), some (.int x2), some (.int x3), some (.int x4), some (.int x5), some (.int x6), some (.int x7), some (.int x8), some (.int (-1)), none] [] (K, I, L, R, sz) Q) (q4 : ¬ (3 + (I 73 24)) ≤ x8 → x8 = 1 → ¬ (I 73 23) ≤ (x6 + 1) → x2 = 0 → X (d + 1) 0 0 12089 0 0 226 [some (.ref 73), some (.int x1), some (.int x2), some (.int x3), some (.int x4), some (.int x5), some (.int x6), some (.int x7), some (.int x8), some (.int ((6 * x3 + (x4 + 1)) * 243 + x5)), none] [] (K, I, L, R, sz) Q) (q5 : ¬ (3 + (I 73 24)) ≤ x8 → x8 = 1 → ¬ (I 73 23) ≤ (x6 + 1) → ¬ x2 = 0 → X (d + 1) 0 0 12089 0 0 226 [some (.ref 73), some (.int x1), some (.int x2), some (.int x3), some (.int x4), some (.int x5), some (.int x6), some (.int x7), some (.int x8), some (.int ((6 * (x3 + 1) + x4) * 243 + x5)), none] [] (K, I, L, R, sz) Q) : X (d + 1) 0 0 12089 0 0 35 [some (.ref 73), some (.int x1), some (.int x2), some (.int x3), some (.int x4), some (.int x5), some (.int x6), some (.int x7), some (.int x8), none, none] [] (K, I, L, R, sz) Q := x_ild8 k12089_35 <| x_iconst (v := 3) k12089_37 rfl <| x_ald0 k12089_38 <| x_getI k12089_39 f12_289_11 (hK.at rfl) rfl <| x_iadd k12089_42 <| x_icmpge (tgt := 284) k12089_43 (by decide) (fun h1 => x_ild7 k12089_284 <| x_iret k12089_286 rfl (Nat.le_refl _) (Nat.le_refl _) <| (q1 h1)) (fun h1 => x_iconst (v := (-1)) k12089_46 rfl <| x_ist9 k12089_47 (Nat.le_of_ble_eq_true rfl) rfl <| x_ild8 k12089_49 <| x_iconst (v := 1) k12089_51 rfl <| x_icmpne (tgt := 98) k12089_52 (by decide) (fun h2 => (q2 h1 h2)) (fun h2 => x_ild6 k12089_55 <| x_iconst (v := 1) k12089_57 rfl <| x_iadd k12089_58 <| x_ald0 k12089_59 <| x_getI k12089_60 f12_286_11 (hK.at rfl) rfl <| x_icmpge (tgt := 98) k12089_63 (by decide) (fun h3 => (q3 h1 h2 h3)) (fun h3 => x_ild2 k12089_66 <| x_ifeq (tgt := 83) k12089_67 (by decide) (fun h4 => x_ild3 k12089_83 <| x_ild4 k12089_84 <| x_iconst (v := 1) k12089_86 rfl <| x_iadd k12089_87 <| x_ild5 k12089_88 <| x_cS3 (MCz := 0) (MSz := 0) k12089_90 s12_421 (Nat.le_of_ble_eq_true rfl) (Nat.le_of_ble_eq_true rfl) (Nat.le_refl _) (Nat.le_refl _) <| t12088 (x_ist9 k12089_93 (Nat.le_of_ble_eq_true rfl) rfl <| x_goto (tgt := 226) k12089_95 (by decide) <| (q4 h1 h2 h3 h4))) (fun h4 => x_ild3 k12089_70 <| x_iconst (v := 1) k12089_71 rfl <| x_iadd k12089_72 <| x_ild4 k12089_73 <| x_ild5 k12089_75 <| x_cS3 (MCz := 0) (MSz := 0) k12089_77 s12_421 (Nat.le_of_ble_eq_true rfl) (Nat.le_of_ble_eq_true rfl) (Nat.le_refl _) (Nat.le_refl _) <| t12088 (x_goto (tgt := 93) k12089_80 (by decide) <| x_ist9 k12089_93 (Nat.le_of_ble_eq_true rfl) rfl <| x_goto (tgt := 226) k12089_95 (by decide) <| (q5 h1 h2 h3 h4))))))
theorem g12089_98 {x1 : Int32} {x2 : Int32} {x3 : Int32} {x4 : Int32} {x5 : Int32} {x6 : Int32} {x7 : Int32} {x8 : Int32} {x9 : Int32}    (q1 : ¬ x8 = 2 → X (d + 1) 0 0 12089 0 0 141 [some (.ref 73), some (.int x1), some (.int x2), some (.int x3), some (.int x4), some (.int x5), some (.int x6), some (.int x7), some (.int x8), some (.int x9), none] [] (K, I, L, R, sz) Q) (q2 : x8 = 2 → x6 ≤ 0 → X (d + 1) 0 0 12089 0 0 141 [some (.ref 73), some (.int x1), some (.int x2), some (.int x3), some (.int x4), some (.int x5), some (.int x6), some (.int x7), some (.int x8), some (.int x9), none] [] (K, I, L, R, sz) Q) (q3 : x8 = 2 → ¬ x6 ≤ 0 → x2 = 0 → X (d + 1) 0 0 12089 0 0 226 [some (.ref 73), some (.int x1), some (.int x2), some (.int x3), some (.int x4), some (.int x5), some (.int x6), some (.int x7), some (.int x8), some (.int ((6 * x3 + (x4 - 1)) * 243 + x5)), none] [] (K, I, L, R, sz) Q) (q4 : x8 = 2 → ¬ x6 ≤ 0 → ¬ x2 = 0 → X (d + 1) 0 0 12089 0 0 226 [some (.ref 73), some (.int x1), some (.int x2), some (.int x3), some (.int x4), some (.int x5), some (.int x6), some (.int x7), some (.int x8), some (.int ((6 * (x3 - 1) + x4) * 243 + x5)), none] [] (K, I, L, R, sz) Q) : X (d + 1) 0 0 12089 0 0 98 [some (.ref 73), some (.int x1), some (.int x2), some (.int x3), some (.int x4), some (.int x5), some (.int x6), some (.int x7), some (.int x8), some (.int x9), none] [] (K, I, L, R, sz) Q := x_ild8 k12089_98 <| x_iconst (v := 2) k12089_100 rfl <| x_icmpne (tgt := 141) k12089_101 (by decide) (fun h1 => (q1 h1)) (fun h1 => x_ild6 k12089_104 <| x_ifle (tgt := 141) k12089_106 (by decide) (fun h2 => (q2 h1 h2)) (fun h2 => x_ild2 k12089_109 <| x_ifeq (tgt := 126) k12089_110 (by decide) (fun h3 => x_ild3 k12089_126 <| x_ild4 k12089_127 <| x_iconst (v := 1) k12089_129 rfl <| x_isub k12089_130 <| x_ild5 k12089_131 <| x_cS3 (MCz := 0) (MSz := 0) k12089_133 s12_421 (Nat.le_of_ble_eq_true rfl) (Nat.le_of_ble_eq_true rfl) (Nat.le_refl _) (Nat.le_refl _) <| t12088 (x_ist9 k12089_136 (Nat.le_of_ble_eq_true rfl) rfl <| x_goto (tgt := 226) k12089_138 (by decide) <| (q3 h1 h2 h3))) (fun h3 => x_ild3 k12089_113 <| x_iconst (v := 1) k12089_114 rfl <| x_isub k12089_115 <| x_ild4 k12089_116 <| x_ild5 k12089_118 <| x_cS3 (MCz := 0) (MSz := 0) k12089_120 s12_421 (Nat.le_of_ble_eq_true rfl) (Nat.le_of_ble_eq_true rfl) (Nat.le_refl _) (Nat.le_refl _) <| t12088 (x_goto (tgt := 136) k12089_123 (by decide) <| x_ist9 k12089_136 (Nat.le_of_ble_eq_true rfl) rfl <| x_goto (tgt := 226) k12089_138 (by decide) <| (q4 h1 h2 h3)))))
theorem g12089_226 {x1 : Int32} {x2 : Int32} {x3 : Int32} {x4 : Int32} {x5 : Int32} {x6 : Int32} {x7 : Int32} {x8 : Int32} {x9 : Int32}  (hK : qLay K sz) (hR : qRef R) (b1 : ¬ x9 = (-1) → x2 = 0 → vp_in x9 8748) (b2 : ¬ x9 = (-1) → ¬ x2 = 0 → vp_in x9 8748) (q1 : x9 = (-1) → X d 0 0 12089 0 0 35 [some (.ref 73), some (.int x1), some (.int x2), some (.int x3), some (.int x4), some (.int x5), some (.int x6), some (.int x7), some (.int (x8 + 1)), none, none] [] (K, I, L, R, sz) Q) (q2 : ¬ x9 = (-1) → x2 = 0 → x7 ≤ (I 98 x9.toNatClampNeg) → X d 0 0 12089 0 0 35 [some (.ref 73), some (.int x1), some (.int x2), some (.int x3), some (.int x4), some (.int x5), some (.int x6), some (.int x7), some (.int (x8 + 1)), none, none] [] (K, I, L, R, sz) Q) (q3 : ¬ x9 = (-1) → x2 = 0 → ¬ x7 ≤ (I 98 x9.toNatClampNeg) → X d 0 0 12089 0 0 35 [some (.ref 73), some (.int x1), some (.int x2), some (.int x3), some (.int x4), some (.int x5), some (.int x6), some (.int (I 98 x9.toNatClampNeg)), some (.int (x8 + 1)), none, none] [] (K, va_up I 73 (upd (I 73) 37 x8), L, R, sz) Q) (q4 : ¬ x9 = (-1) → ¬ x2 = 0 → (I 98 x9.toNatClampNeg) ≤ x7 → X d 0 0 12089 0 0 35 [some (.ref 73), some (.int x1), some (.int x2), some (.int x3), some (.int x4), some (.int x5), some (.int x6), some (.int x7), some (.int (x8 + 1)), none, none] [] (K, I, L, R, sz) Q) (q5 : ¬ x9 = (-1) → ¬ x2 = 0 → ¬ (I 98 x9.toNatClampNeg) ≤ x7 → X d 0 0 12089 0 0 35 [some (.ref 73), some (.int x1), some (.int x2), some (.int x3), some (.int x4), some (.int x5), some (.int x6), some (.int (I 98 x9.toNatClampNeg)), some (.int (x8 + 1)), none, none] [] (K, va_up I 73 (upd (I 73) 37 x8), L, R, sz) Q) : X d 0 0 12089 0 0 226 [some (.ref 73), some (.int x1), some (.int x2), some (.int x3), some (.int x4), some (.int x5), some (.int x6), some (.int x7), some (.int x8), some (.int x9), none] [] (K, I, L, R, sz) Q := x_ild9 k12089_226 <| x_iconst (v := (-1)) k12089_228 rfl <| x_icmpeq (tgt := 278) k12089_229 (by decide) (fun h1 => x_inc8 (c := 1) k12089_278 rfl (Nat.le_of_ble_eq_true rfl) rfl <| x_goto (tgt := 35) k12089_281 (by decide) <| x_wk (ls := [some (.ref 73), some (.int x1), some (.int x2), some (.int x3), some (.int x4), some (.int x5), some (.int x6), some (.int x7), some (.int (x8 + 1)), none, none]) ⟨rfl, ⟨rfl, ⟨rfl, ⟨rfl, ⟨rfl, ⟨rfl, ⟨rfl, ⟨rfl, ⟨rfl, True.intro⟩⟩⟩⟩⟩⟩⟩⟩⟩ <| (q1 h1)) (fun h1 => x_ild2 k12089_232 <| x_ifeq (tgt := 251) k12089_233 (by decide) (fun h2 => x_ald0 k12089_251 <| x_getR k12089_252 f12_91_11 (hK.at rfl) rfl (hR _ _ _ rfl) <| x_ild9 k12089_255 <| x_iald k12089_257 (hK.at rfl) (b1 h1 h2) <| x_ild7 k12089_258 <| x_icmpge (tgt := 278) k12089_260 (by decide) (fun h3 => x_inc8 (c := 1) k12089_278 rfl (Nat.le_of_ble_eq_true rfl) rfl <| x_goto (tgt := 35) k12089_281 (by decide) <| x_wk (ls := [some (.ref 73), some (.int x1), some (.int x2), some (.int x3), some (.int x4), some (.int x5), some (.int x6), some (.int x7), some (.int (x8 + 1)), none, none]) ⟨rfl, ⟨rfl, ⟨rfl, ⟨rfl, ⟨rfl, ⟨rfl, ⟨rfl, ⟨rfl, ⟨rfl, True.intro⟩⟩⟩⟩⟩⟩⟩⟩⟩ <| (q2 h1 h2 h3)) (fun h3 => x_ald0 k12089_263 <| x_getR k12089_264 f12_91_11 (hK.at rfl) rfl (hR _ _ _ rfl) <| x_ild9 k12089_267 <| x_iald k12089_269 (hK.at rfl) (b1 h1 h2) <| x_ist7 k12089_270 (Nat.le_of_ble_eq_true rfl) rfl <| x_ald0 k12089_272 <| x_ild8 k12089_273 <| x_putI k12089_275 f12_359_11 (Or.inl rfl) (hK.at rfl) <| x_inc8 (c := 1) k12089_278 rfl (Nat.le_of_ble_eq_true rfl) rfl <| x_goto (tgt := 35) k12089_281 (by decide) <| x_wk (ls := [some (.ref 73), some (.int x1), some (.int x2), some (.int x3), some (.int x4), some (.int x5), some (.int x6), some (.int (I 98 x9.toNatClampNeg)), some (.int (x8 + 1)), none, none]) ⟨rfl, ⟨rfl, ⟨rfl, ⟨rfl, ⟨rfl, ⟨rfl, ⟨rfl, ⟨rfl, ⟨rfl, True.intro⟩⟩⟩⟩⟩⟩⟩⟩⟩ <| (q3 h1 h2 h3))) (fun h2 => x_ald0 k12089_236 <| x_getR k12089_237 f12_91_11 (hK.at rfl) rfl (hR _ _ _ rfl) <| x_ild9 k12089_240 <| x_iald k12089_242 (hK.at rfl) (b2 h1 h2) <| x_ild7 k12089_243 <| x_icmple (tgt := 278) k12089_245 (by decide) (fun h4 => x_inc8 (c := 1) k12089_278 rfl (Nat.le_of_ble_eq_true rfl) rfl <| x_goto (tgt := 35) k12089_281 (by decide) <| x_wk (ls := [some (.ref 73), some (.int x1), some (.int x2), some (.int x3), some (.int x4), some (.int x5), some (.int x6), some (.int x7), some (.int (x8 + 1)), none, none]) ⟨rfl, ⟨rfl, ⟨rfl, ⟨rfl, ⟨rfl, ⟨rfl, ⟨rfl, ⟨rfl, ⟨rfl, True.intro⟩⟩⟩⟩⟩⟩⟩⟩⟩ <| (q4 h1 h2 h4)) (fun h4 => x_goto (tgt := 263) k12089_248 (by decide) <| x_ald0 k12089_263 <| x_getR k12089_264 f12_91_11 (hK.at rfl) rfl (hR _ _ _ rfl) <| x_ild9 k12089_267 <| x_iald k12089_269 (hK.at rfl) (b2 h1 h2) <| x_ist7 k12089_270 (Nat.le_of_ble_eq_true rfl) rfl <| x_ald0 k12089_272 <| x_ild8 k12089_273 <| x_putI k12089_275 f12_359_11 (Or.inl rfl) (hK.at rfl) <| x_inc8 (c := 1) k12089_278 rfl (Nat.le_of_ble_eq_true rfl) rfl <| x_goto (tgt := 35) k12089_281 (by decide) <| x_wk (ls := [some (.ref 73), some (.int x1), some (.int x2), some (.int x3), some (.int x4), some (.int x5), some (.int x6), some (.int (I 98 x9.toNatClampNeg)), some (.int (x8 + 1)), none, none]) ⟨rfl, ⟨rfl, ⟨rfl, ⟨rfl, ⟨rfl, ⟨rfl, ⟨rfl, ⟨rfl, ⟨rfl, True.intro⟩⟩⟩⟩⟩⟩⟩⟩⟩ <| (q5 h1 h2 h4))))
theorem g12089_141 {x1 : Int32} {x2 : Int32} {x3 : Int32} {x4 : Int32} {x5 : Int32} {x6 : Int32} {x7 : Int32} {x8 : Int32} {x9 : Int32}  (hK : qLay K sz) (hR : qRef R) (b1 : ¬ x8 ≤ 2 → vp_in (3 * (x8 - 3) + 0) 34) (b2 : ¬ x8 ≤ 2 → (I 85 ((3 * (x8 - 3) + 0).toNatClampNeg)) = x6 → qIn 5 (x8 - 3)) (b3 : ¬ x8 ≤ 2 → (I 85 ((3 * (x8 - 3) + 0).toNatClampNeg)) = x6 → ¬ I 85 (3 * ((x8 - 3)).toNatClampNeg + 1) = x1 → vp_in (x8 - 3) 5) (b4 : ¬ x8 ≤ 2 → (I 85 ((3 * (x8 - 3) + 0).toNatClampNeg)) = x6 → ¬ I 85 (3 * ((x8 - 3)).toNatClampNeg + 1) = x1 → ¬ (I 99 ((x8 - 3).toNatClampNeg)) = 0) (q1 : x8 ≤ 2 → X (d + 2) 0 0 12089 0 0 226 [some (.ref 73), some (.int x1), some (.int x2), some (.int x3), some (.int x4), some (.int x5), some (.int x6), some (.int x7), some (.int x8), some (.int x9), none] [] (K, I, L, R, sz) Q) (q2 : ¬ x8 ≤ 2 → ¬ (I 85 ((3 * (x8 - 3) + 0).toNatClampNeg)) = x6 → X (d + 2) 0 0 12089 0 0 226 [some (.ref 73), some (.int x1), some (.int x2), some (.int x3), some (.int x4), some (.int x5), some (.int x6), some (.int x7), some (.int x8), some (.int x9), none] [] (K, I, L, R, sz) Q) (q3 : ¬ x8 ≤ 2 → (I 85 ((3 * (x8 - 3) + 0).toNatClampNeg)) = x6 → ¬ I 85 (3 * ((x8 - 3)).toNatClampNeg + 1) = x1 → x2 = 0 → X (d + 2) 0 0 12089 0 0 226 [some (.ref 73), some (.int x1), some (.int x2), some (.int x3), some (.int x4), some (.int x5), some (.int x6), some (.int x7), some (.int x8), some (.int ((6 * x3 + x4) * 243 + (x5 + ((2 - ((x5 / (I 99 ((x8 - 3).toNatClampNeg))) - (x5 / (I 99 ((x8 - 3).toNatClampNeg))) / 3 * 3)) * (I 99 ((x8 - 3).toNatClampNeg)))))), none] [] (K, I, L, R, sz) Q) (q4 : ¬ x8 ≤ 2 → (I 85 ((3 * (x8 - 3) + 0).toNatClampNeg)) = x6 → ¬ I 85 (3 * ((x8 - 3)).toNatClampNeg + 1) = x1 → ¬ x2 = 0 → X (d + 2) 0 0 12089 0 0 226 [some (.ref 73), some (.int x1), some (.int x2), some (.int x3), some (.int x4), some (.int x5), some (.int x6), some (.int x7), some (.int x8), some (.int ((6 * x3 + x4) * 243 + (x5 + ((1 - ((x5 / (I 99 ((x8 - 3).toNatClampNeg))) - (x5 / (I 99 ((x8 - 3).toNatClampNeg))) / 3 * 3)) * (I 99 ((x8 - 3).toNatClampNeg)))))), none] [] (K, I, L, R, sz) Q) (q5 : ¬ x8 ≤ 2 → (I 85 ((3 * (x8 - 3) + 0).toNatClampNeg)) = x6 → I 85 (3 * ((x8 - 3)).toNatClampNeg + 1) = x1 → X (d + 2) 0 0 12089 0 0 226 [some (.ref 73), some (.int x1), some (.int x2), some (.int x3), some (.int x4), some (.int x5), some (.int x6), some (.int x7), some (.int x8), some (.int x9), none] [] (K, I, L, R, sz) Q) : X (d + 2) 0 0 12089 0 0 141 [some (.ref 73), some (.int x1), some (.int x2), some (.int x3), some (.int x4), some (.int x5), some (.int x6), some (.int x7), some (.int x8), some (.int x9), none] [] (K, I, L, R, sz) Q := x_ild8 k12089_141 <| x_iconst (v := 2) k12089_143 rfl <| x_icmple (tgt := 226) k12089_144 (by decide) (fun h1 => (q1 h1)) (fun h1 => x_ald0 k12089_147 <| x_getR k12089_148 f12_43_11 (hK.at rfl) rfl (hR _ _ _ rfl) <| x_ild8 k12089_151 <| x_iconst (v := 3) k12089_153 rfl <| x_isub k12089_154 <| x_iconst (v := 0) k12089_155 rfl <| x_cS2 (MCz := 0) (MSz := 0) k12089_156 s12_238 (Nat.le_of_ble_eq_true rfl) (Nat.le_of_ble_eq_true rfl) (Nat.le_refl _) (Nat.le_refl _) <| t12033 (x_iald k12089_159 (hK.at rfl) (b1 h1) <| x_ild6 k12089_160 <| x_icmpne (tgt := 226) k12089_162 (by decide) (fun h2 => (q2 h1 h2)) (fun h2 => x_ald0 k12089_165 <| x_ild1 k12089_166 <| x_ild8 k12089_167 <| x_iconst (v := 3) k12089_169 rfl <| x_isub k12089_170 <| x_cV2 (MCz := 0) (MSz := 0) k12089_171 v12_324_11 (hK.at rfl) (Nat.le_of_ble_eq_true rfl) (Nat.le_of_ble_eq_true rfl) (Nat.le_refl _) (Nat.le_refl _) <| u12048 hK hR (b2 h1 h2) (fun g3 => x_ifeqF (tgt := 226) k12089_174 (by decide) (show ¬ (1 : Int32) = 0 by decide) <| x_ild5 k12089_177 <| x_ald0 k12089_179 <| x_getR k12089_180 f12_94_11 (hK.at rfl) rfl (hR _ _ _ rfl) <| x_ild8 k12089_183 <| x_iconst (v := 3) k12089_185 rfl <| x_isub k12089_186 <| x_iald k12089_187 (hK.at rfl) (b3 h1 h2 g3) <| x_idiv k12089_188 (b4 h1 h2 g3) <| x_iconst (v := 3) k12089_189 rfl <| x_irem k12089_190 (by decide) <| x_ist10 k12089_191 (Nat.le_of_ble_eq_true rfl) rfl <| x_ild3 k12089_193 <| x_ild4 k12089_194 <| x_ild5 k12089_196 <| x_ild2 k12089_198 <| x_ifeq (tgt := 206) k12089_199 (by decide) (fun h4 => x_iconst (v := 2) k12089_206 rfl <| x_ild10 k12089_207 <| x_isub k12089_209 <| x_ald0 k12089_210 <| x_getR k12089_211 f12_94_11 (hK.at rfl) rfl (hR _ _ _ rfl) <| x_ild8 k12089_214 <| x_iconst (v := 3) k12089_216 rfl <| x_isub k12089_217 <| x_iald k12089_218 (hK.at rfl) (b3 h1 h2 g3) <| x_imul k12089_219 <| x_iadd k12089_220 <| x_cS3 (MCz := 0) (MSz := 0) k12089_221 s12_421 (Nat.le_of_ble_eq_true rfl) (Nat.le_of_ble_eq_true rfl) (Nat.le_refl _) (Nat.le_refl _) <| t12088 (x_ist9 k12089_224 (Nat.le_of_ble_eq_true rfl) rfl <| x_wk (ls := [some (.ref 73), some (.int x1), some (.int x2), some (.int x3), some (.int x4), some (.int x5), some (.int x6), some (.int x7), some (.int x8), some (.int ((6 * x3 + x4) * 243 + (x5 + ((2 - ((x5 / (I 99 ((x8 - 3).toNatClampNeg))) - (x5 / (I 99 ((x8 - 3).toNatClampNeg))) / 3 * 3)) * (I 99 ((x8 - 3).toNatClampNeg)))))), none]) ⟨rfl, ⟨rfl, ⟨rfl, ⟨rfl, ⟨rfl, ⟨rfl, ⟨rfl, ⟨rfl, ⟨rfl, ⟨rfl, True.intro⟩⟩⟩⟩⟩⟩⟩⟩⟩⟩ <| (q3 h1 h2 g3 h4))) (fun h4 => x_iconst (v := 1) k12089_202 rfl <| x_goto (tgt := 207) k12089_203 (by decide) <| x_ild10 k12089_207 <| x_isub k12089_209 <| x_ald0 k12089_210 <| x_getR k12089_211 f12_94_11 (hK.at rfl) rfl (hR _ _ _ rfl) <| x_ild8 k12089_214 <| x_iconst (v := 3) k12089_216 rfl <| x_isub k12089_217 <| x_iald k12089_218 (hK.at rfl) (b3 h1 h2 g3) <| x_imul k12089_219 <| x_iadd k12089_220 <| x_cS3 (MCz := 0) (MSz := 0) k12089_221 s12_421 (Nat.le_of_ble_eq_true rfl) (Nat.le_of_ble_eq_true rfl) (Nat.le_refl _) (Nat.le_refl _) <| t12088 (x_ist9 k12089_224 (Nat.le_of_ble_eq_true rfl) rfl <| x_wk (ls := [some (.ref 73), some (.int x1), some (.int x2), some (.int x3), some (.int x4), some (.int x5), some (.int x6), some (.int x7), some (.int x8), some (.int ((6 * x3 + x4) * 243 + (x5 + ((1 - ((x5 / (I 99 ((x8 - 3).toNatClampNeg))) - (x5 / (I 99 ((x8 - 3).toNatClampNeg))) / 3 * 3)) * (I 99 ((x8 - 3).toNatClampNeg)))))), none]) ⟨rfl, ⟨rfl, ⟨rfl, ⟨rfl, ⟨rfl, ⟨rfl, ⟨rfl, ⟨rfl, ⟨rfl, ⟨rfl, True.intro⟩⟩⟩⟩⟩⟩⟩⟩⟩⟩ <| (q4 h1 h2 g3 h4)))) (fun g5 => x_ifeqT (tgt := 226) k12089_174 (by decide) (show (0 : Int32) = 0 by decide) <| (q5 h1 h2 g5)))))
theorem s12089 {m m1 m2 a b o : Nat} {x2 : Int32} {f : Bool} (hK : qLay K sz) (hR : qRef R) (cI : CI I p) (rI : RI I p) (hpw : iPw I) (hx : x2 = if f then 1 else 0) (hm : m = if f then m1 else m2) (ha : a < pR p) (hb : b < pR p) (ho : o < 3 ^ pS p) (hq : ∀ r, r = rvS I p m1 m2 f (fun a b o => I 98 (sp a b o)) a b o → Q (some (.int r.1)) (K, bm I r.2, L, R, sz)) : X (d + 2) 0 0 12089 0 0 0 (qent (qml 12089) [.ref 73, .int (nI m), .int x2, .int (nI a), .int (nI b), .int (nI o)]) [] (K, I, L, R, sz) Q := by
  have w5 := cI.w5
  have w6 : pR p ≤ 6 := cI.1.2.1.1
  have w9 := p3_5 w5
  have w0 := p3_0 (pS p)
  have lR : I 73 23 = nI (pR p) := by rw [rI.1.1]; exact cI.1.1.1
  have lS : I 73 24 = nI (pS p) := rI.mS cI
  obtain ⟨mv, hmv⟩ : ∃ mv : Int32, mv = if f then 1 else 2 := ⟨_, rfl⟩
  obtain ⟨w, hw⟩ : ∃ w : Nat, w = if f then 1 else 2 := ⟨_, rfl⟩
  obtain ⟨rm, hrm⟩ : ∃ rm : Nat, rm = if f then a else b := ⟨_, rfl⟩
  obtain ⟨up, hup⟩ : ∃ up : Nat, up = if f then sp (a + 1) b o else sp a (b + 1) o := ⟨_, rfl⟩
  obtain ⟨dn, hdn⟩ : ∃ dn : Nat, dn = if f then sp (a - 1) b o else sp a (b - 1) o := ⟨_, rfl⟩
  have hx0 : x2 = 0 ↔ f = false := by rw [hx]; cases f <;> decide
  have hrS : rvS I p m1 m2 f (fun a b o => I 98 (sp a b o)) a b o = dBest I p mv m rm (I 98 (sp a b o)) (I 98 up) (I 98 dn) (fun s => I 98 (sp a b (thk w o s))) := by
    unfold rvS
    cases f
    · rw [hmv, hm, hrm, hup, hdn, hw]; rfl
    · rw [hmv, hm, hrm, hup, hdn, hw]; rfl
  have hrm6 : rm < pR p := by rw [hrm]; cases f; exact hb; exact ha
  have hG0 : ∀ (r : Int32 × Int32) (x8 : Int32), X (d + 2) 0 0 12089 0 0 35 [some (.ref 73), some (.int (nI m)), some (.int x2), some (.int (nI a)), some (.int (nI b)), some (.int (nI o)), some (.int (nI rm)), some (.int r.1), some (.int (x8 + 1)), none, none] [] (K, bm I r.2, L, R, sz) Q → X (d + 2) 0 0 12089 0 0 226 [some (.ref 73), some (.int (nI m)), some (.int x2), some (.int (nI a)), some (.int (nI b)), some (.int (nI o)), some (.int (nI rm)), some (.int r.1), some (.int x8), some (.int (-1)), none] [] (K, bm I r.2, L, R, sz) Q := fun r x8 h =>
    g12089_226 hK hR (fun q => absurd rfl q) (fun q => absurd rfl q) (fun _ => h) (fun q => absurd rfl q) (fun q => absurd rfl q) (fun q => absurd rfl q) (fun q => absurd rfl q)
  have hG1 : ∀ (r : Int32 × Int32) (x8 : Int32) (t : Nat), t < 8748 → X (d + 2) 0 0 12089 0 0 35 [some (.ref 73), some (.int (nI m)), some (.int x2), some (.int (nI a)), some (.int (nI b)), some (.int (nI o)), some (.int (nI rm)), some (.int (betP mv r (I 98 t) x8).1), some (.int (x8 + 1)), none, none] [] (K, bm I (betP mv r (I 98 t) x8).2, L, R, sz) Q → X (d + 2) 0 0 12089 0 0 226 [some (.ref 73), some (.int (nI m)), some (.int x2), some (.int (nI a)), some (.int (nI b)), some (.int (nI o)), some (.int (nI rm)), some (.int r.1), some (.int x8), some (.int (nI t)), none] [] (K, bm I r.2, L, R, sz) Q := fun r x8 t ht h => by
    have et : (nI t).toNatClampNeg = t := nI_c (by omega)
    have hne : ¬ nI t = -1 := fun q => by
      have h1 := congrArg Int32.toInt q
      rw [nI_i (by omega)] at h1
      have e1 : (-1 : Int32).toInt = -1 := rfl
      rw [e1] at h1
      omega
    have hbm : ∀ v, (bm I v) 98 = I 98 := fun v => vu_n (by decide)
    have hbb : ∀ v w : Int32, va_up (bm I v) 73 (upd (bm I v 73) 37 w) = bm I w := fun v w => by
      unfold bm
      rw [vu_t, vu_s]
      congr 1
      funext k
      unfold upd
      split <;> rfl
    refine g12089_226 hK hR (fun _ _ => vI ht (by omega)) (fun _ _ => vI ht (by omega)) (fun q => absurd q hne) (fun _ g1 g2 => ?_) (fun _ g1 g2 => ?_) (fun _ g1 g2 => ?_) (fun _ g1 g2 => ?_)
    · have hf := hx0.mp g1
      rw [hf] at hmv
      rw [et, hbm] at g2
      have e : betP mv r (I 98 t) x8 = r := by
        rw [hmv]; unfold betP
        rw [if_neg Bool.false_ne_true, if_neg (by decide), if_neg (Int32.not_lt.mpr g2)]
      rw [e] at h; exact h
    · have hf := hx0.mp g1
      rw [hf] at hmv
      rw [et, hbm] at g2
      have e : betP mv r (I 98 t) x8 = (I 98 t, x8) := by
        rw [hmv]; unfold betP
        rw [if_neg Bool.false_ne_true, if_neg (by decide), if_pos (Int32.not_le.mp g2)]
      rw [e] at h
      rw [et, hbm, hbb]; exact h
    · have hf : f = true := by cases f; exact absurd (hx0.mpr rfl) g1; rfl
      rw [hf] at hmv
      rw [et, hbm] at g2
      have e : betP mv r (I 98 t) x8 = r := by
        rw [hmv]; unfold betP
        rw [if_pos rfl, if_pos rfl, if_neg (Int32.not_lt.mpr g2)]
      rw [e] at h; exact h
    · have hf : f = true := by cases f; exact absurd (hx0.mpr rfl) g1; rfl
      rw [hf] at hmv
      rw [et, hbm] at g2
      have e : betP mv r (I 98 t) x8 = (I 98 t, x8) := by
        rw [hmv]; unfold betP
        rw [if_pos rfl, if_pos rfl, if_pos (Int32.not_le.mp g2)]
      rw [e] at h
      rw [et, hbm, hbb]; exact h
  have hb24 : ∀ v, (bm I v) 73 24 = nI (pS p) := fun v => lS
  have hb23 : ∀ v, (bm I v) 73 23 = nI (pR p) := fun v => lR
  have hb85 : ∀ v, (bm I v) 85 = I 85 := fun v => vu_n (by decide)
  have hb99 : ∀ v, (bm I v) 99 = I 99 := fun v => vu_n (by decide)
  have h3 : ∀ s, 3 + nI s = nI (3 + s) := fun s => by rw [show (3 : Int32) = nI 3 from rfl, nI_add]
  have hsp := sp_lt (show a < 6 by omega) (show b < 6 by omega) (show o < 243 by omega)
  have hT : ∀ (r2 : Int32 × Int32), (∀ r, r = bsT mv (dTh I m rm) (fun s => I 98 (sp a b (thk w o s))) r2 (pS p) → Q (some (.int r.1)) (K, bm I r.2, L, R, sz)) → ∀ (k s : Nat), s + k = pS p → ∀ r, r = bsT mv (dTh I m rm) (fun s => I 98 (sp a b (thk w o s))) r2 s → X (d + 2) 0 0 12089 0 0 35 [some (.ref 73), some (.int (nI m)), some (.int x2), some (.int (nI a)), some (.int (nI b)), some (.int (nI o)), some (.int (nI rm)), some (.int r.1), some (.int (nI (3 + s))), none, none] [] (K, bm I r.2, L, R, sz) Q := by
    intro r2 hfin k
    induction k with
    | zero =>
      intro s hs r hr
      have hle : 3 + (bm I r.2) 73 24 ≤ nI (3 + s) := by rw [hb24, h3]; exact nI_le (by omega) (by omega)
      have : s = pS p := by omega
      subst this
      exact g12089_35 (d := d + 1) hK (fun _ => hfin r hr) (fun h => absurd hle h) (fun h => absurd hle h) (fun h => absurd hle h) (fun h => absurd hle h)
    | succ k ih =>
      intro s hs r hr
      have hnl : ¬ 3 + (bm I r.2) 73 24 ≤ nI (3 + s) := by rw [hb24, h3]; exact nI_ge (by omega) (by omega)
      have n1 : ¬ nI (3 + s) = 1 := fun q => by
        have := (nI_eq (a := 3 + s) (b := 1) (by omega) (by omega)).mp q; omega
      have n2 : ¬ nI (3 + s) = 2 := fun q => by
        have := (nI_eq (a := 3 + s) (b := 2) (by omega) (by omega)).mp q; omega
      have n3 : ¬ nI (3 + s) ≤ 2 := nI_ge (a := 2) (by omega) (by omega)
      have e3 : nI (3 + s) - 3 = nI s := by
        rw [show (3 : Int32) = nI 3 from rfl, pk_sub (by omega)]; congr 1; omega
      have es : (nI s).toNatClampNeg = s := nI_c (by omega)
      have ei : 3 * nI s + 0 = nI (3 * s) := by rw [Int32.add_zero, show (3 : Int32) = nI 3 from rfl, pk_mul]
      have eic : (nI (3 * s)).toNatClampNeg = 3 * s := nI_c (by omega)
      have r0 : I 85 (3 * s) = I (24 + s) 0 := rI.2.1.1 s 0 (by omega) (by omega) (by omega)
      have r1 : I 85 (3 * s + 1) = I (24 + s) 1 := rI.2.1.1 s 1 (by omega) (by omega) (by omega)
      have ep : I 99 s = nI (3 ^ s) := hpw.at (by omega)
      have ps := p3_0 s
      have ps9 := p3_5 (show s ≤ 5 by omega)
      have hadv : ∀ r', r' = bsT mv (dTh I m rm) (fun s => I 98 (sp a b (thk w o s))) r2 (s + 1) → X (d + 2) 0 0 12089 0 0 35 [some (.ref 73), some (.int (nI m)), some (.int x2), some (.int (nI a)), some (.int (nI b)), some (.int (nI o)), some (.int (nI rm)), some (.int r'.1), some (.int (nI (3 + s) + 1)), none, none] [] (K, bm I r'.2, L, R, sz) Q := fun r' h => by
        rw [nI_1]; exact ih (s + 1) (by omega) r' h
      have hskip : dTh I m rm s = false → X (d + 2) 0 0 12089 0 0 226 [some (.ref 73), some (.int (nI m)), some (.int x2), some (.int (nI a)), some (.int (nI b)), some (.int (nI o)), some (.int (nI rm)), some (.int r.1), some (.int (nI (3 + s))), some (.int (-1)), none] [] (K, bm I r.2, L, R, sz) Q := fun h =>
        hG0 r _ (hadv r (by rw [bsT, h]; exact hr))
      have htk : ∀ w', w' ≤ 2 → thk w' o s < 3 ^ pS p := fun w' hw' => thk_lt w5 (by omega) ho hw'
      have hgo : dTh I m rm s = true → X (d + 2) 0 0 12089 0 0 226 [some (.ref 73), some (.int (nI m)), some (.int x2), some (.int (nI a)), some (.int (nI b)), some (.int (nI o)), some (.int (nI rm)), some (.int r.1), some (.int (nI (3 + s))), some (.int (nI (sp a b (thk w o s)))), none] [] (K, bm I r.2, L, R, sz) Q := fun h => by
        refine hG1 r _ _ (sp_lt (by omega) (by omega) (Nat.lt_of_lt_of_le (htk w (by rw [hw]; cases f <;> decide)) w9)) (hadv _ ?_)
        rw [bsT, if_pos h, hr]
      have hto : ∀ w' : Nat, nI w' = nI w' → (6 * nI a + nI b) * 243 + (nI o + (nI w' - (nI o / I 99 s - nI o / I 99 s / 3 * 3)) * I 99 s) = nI (sp a b (thk w' o s)) := fun w' _ => by
        have hdv : o / 3 ^ s ≤ o := Nat.div_le_self _ _
        have h9 : o / 3 ^ s - o / 3 ^ s / 3 * 3 = owN o s := by unfold owN; omega
        rw [ep, pk_div (by omega) ps (by omega), show (3 : Int32) = nI 3 from rfl, pk_div (by omega) (by omega) (by omega), pk_mul, pk_sub (by omega), h9, thk_I]
        exact sp_I
      refine g12089_35 (d := d + 1) hK (fun h => absurd h hnl) (fun _ _ => ?_) (fun _ h => absurd h n1) (fun _ h => absurd h n1) (fun _ h => absurd h n1)
      refine g12089_98 (d := d + 1) (fun _ => ?_) (fun h => absurd h n2) (fun h => absurd h n2) (fun h => absurd h n2)
      refine g12089_141 (d := d) hK hR (fun _ => ?_) (fun _ _ => ?_) (fun _ _ _ => ?_) (fun _ _ _ => ?_) (fun h => absurd h n3) (fun _ g1 => ?_) (fun _ g1 g2 g3 => ?_) (fun _ g1 g2 g3 => ?_) (fun _ g1 g2 => ?_)
      · rw [e3, ei]; exact vI (by omega) (by omega)
      · rw [e3]; exact ⟨s, by omega, rfl⟩
      · rw [e3]; exact vI (by omega) (by omega)
      · rw [e3, es, hb99, ep]; exact nI_ne0 ps (by omega)
      · rw [e3, ei, eic, hb85, r0] at g1
        exact hskip (by unfold dTh; rw [decide_eq_false g1]; rfl)
      · rw [e3, ei, eic, hb85, r0] at g1
        rw [e3, es, hb85, r1] at g2
        have hf := hx0.mp g3
        have ew : w = 2 := by rw [hw, hf]; rfl
        rw [e3, es, hb99, show (2 : Int32) = nI 2 from rfl, hto 2 rfl]
        have hh := hgo (by unfold dTh mayI; rw [decide_eq_true g1, decide_eq_false g2]; rfl)
        rw [ew] at hh; exact hh
      · rw [e3, ei, eic, hb85, r0] at g1
        rw [e3, es, hb85, r1] at g2
        have hf : f = true := by cases f; exact absurd (hx0.mpr rfl) g3; rfl
        have ew : w = 1 := by rw [hw, hf]; rfl
        rw [e3, es, hb99, show (1 : Int32) = nI 1 from rfl, hto 1 rfl]
        have hh := hgo (by unfold dTh mayI; rw [decide_eq_true g1, decide_eq_false g2]; rfl)
        rw [ew] at hh; exact hh
      · rw [e3, es, hb85, r1] at g2
        exact hskip (by unfold dTh mayI; rw [decide_eq_true g2, Bool.not_true, Bool.and_false])
  have hdn0 : nI rm ≤ 0 ↔ ¬ 0 < rm := by
    rw [show (0 : Int32) = nI 0 from rfl, nI_leI (by omega) (by omega)]; omega
  have hup0 : nI (pR p) ≤ nI rm + 1 ↔ ¬ rm + 1 < pR p := by
    rw [nI_1, nI_leI (by omega) (by omega)]; omega
  have hfin : ∀ r2, r2 = bs2 mv (decide (rm + 1 < pR p)) (decide (0 < rm)) (I 98 (sp a b o)) (I 98 up) (I 98 dn) → X (d + 2) 0 0 12089 0 0 35 [some (.ref 73), some (.int (nI m)), some (.int x2), some (.int (nI a)), some (.int (nI b)), some (.int (nI o)), some (.int (nI rm)), some (.int r2.1), some (.int 3), none, none] [] (K, bm I r2.2, L, R, sz) Q := fun r2 h2 =>
    hT r2 (fun r hr => hq r (by rw [hrS]; unfold dBest; rw [hr, h2])) (pS p) 0 (by omega) r2 rfl
  have h2 : ∀ r1, r1 = (if decide (rm + 1 < pR p) then betP mv (I 98 (sp a b o), 0) (I 98 up) 1 else (I 98 (sp a b o), 0)) → X (d + 2) 0 0 12089 0 0 35 [some (.ref 73), some (.int (nI m)), some (.int x2), some (.int (nI a)), some (.int (nI b)), some (.int (nI o)), some (.int (nI rm)), some (.int r1.1), some (.int 2), none, none] [] (K, bm I r1.2, L, R, sz) Q := fun r1 h1 => by
    have hnl : ¬ 3 + (bm I r1.2) 73 24 ≤ 2 := by rw [hb24, h3]; exact nI_ge (a := 2) (by omega) (by omega)
    refine g12089_35 (d := d + 1) hK (fun h => absurd h hnl) (fun _ _ => ?_) (fun _ h => absurd h (by decide)) (fun _ h => absurd h (by decide)) (fun _ h => absurd h (by decide))
    have hno : ¬ 0 < rm → X (d + 2) 0 0 12089 0 0 226 [some (.ref 73), some (.int (nI m)), some (.int x2), some (.int (nI a)), some (.int (nI b)), some (.int (nI o)), some (.int (nI rm)), some (.int r1.1), some (.int 2), some (.int (-1)), none] [] (K, bm I r1.2, L, R, sz) Q := fun h => hG0 r1 2 (hfin r1 (by rw [h1]; unfold bs2; rw [decide_eq_false h, if_neg Bool.false_ne_true]))
    have hye : 0 < rm → X (d + 2) 0 0 12089 0 0 226 [some (.ref 73), some (.int (nI m)), some (.int x2), some (.int (nI a)), some (.int (nI b)), some (.int (nI o)), some (.int (nI rm)), some (.int r1.1), some (.int 2), some (.int (nI dn)), none] [] (K, bm I r1.2, L, R, sz) Q := fun h => by
      have hd8 : dn < 8748 := by
        rw [hdn]
        split
        · exact sp_lt (by omega) (by omega) (by omega)
        · exact sp_lt (by omega) (by omega) (by omega)
      exact hG1 r1 2 dn hd8 (hfin _ (by rw [h1]; unfold bs2; rw [decide_eq_true h, if_pos rfl]))
    refine g12089_98 (d := d + 1) (fun h => absurd rfl h) (fun _ g => ?_) (fun _ g1 g2 => ?_) (fun _ g1 g2 => ?_)
    · exact g12089_141 (d := d) hK hR (fun h => absurd (by decide) h) (fun h => absurd (by decide) h) (fun h => absurd (by decide) h) (fun h => absurd (by decide) h) (fun _ => hno (hdn0.mp g)) (fun h => absurd (by decide) h) (fun h => absurd (by decide) h) (fun h => absurd (by decide) h) (fun h => absurd (by decide) h)
    · have hp : 0 < rm := Classical.byContradiction fun q => g1 (hdn0.mpr q)
      have hf := hx0.mp g2
      have hbb : 0 < b := by rw [hrm, hf] at hp; exact hp
      rw [show (1 : Int32) = nI 1 from rfl, pk_sub hbb, sp_I, show sp a (b - 1) o = dn by rw [hdn, hf]; rfl]
      exact hye hp
    · have hp : 0 < rm := Classical.byContradiction fun q => g1 (hdn0.mpr q)
      have hf : f = true := by cases f; exact absurd (hx0.mpr rfl) g2; rfl
      have hbb : 0 < a := by rw [hrm, hf] at hp; exact hp
      rw [show (1 : Int32) = nI 1 from rfl, pk_sub hbb, sp_I, show sp (a - 1) b o = dn by rw [hdn, hf]; rfl]
      exact hye hp
  have h1 : X (d + 2) 0 0 12089 0 0 35 [some (.ref 73), some (.int (nI m)), some (.int x2), some (.int (nI a)), some (.int (nI b)), some (.int (nI o)), some (.int (nI rm)), some (.int (I 98 (sp a b o))), some (.int 1), none, none] [] (K, bm I 0, L, R, sz) Q := by
    have hnl : ¬ 3 + (bm I 0) 73 24 ≤ 1 := by rw [hb24, h3]; exact nI_ge (a := 1) (by omega) (by omega)
    refine g12089_35 (d := d + 1) hK (fun h => absurd h hnl) (fun _ h => absurd rfl h) (fun _ _ g => ?_) (fun _ _ g1 g2 => ?_) (fun _ _ g1 g2 => ?_)
    · rw [hb23, hup0] at g
      refine g12089_98 (d := d + 1) (fun _ => ?_) (fun h => absurd h (by decide)) (fun h => absurd h (by decide)) (fun h => absurd h (by decide))
      exact g12089_141 (d := d) hK hR (fun h => absurd (by decide) h) (fun h => absurd (by decide) h) (fun h => absurd (by decide) h) (fun h => absurd (by decide) h) (fun _ => hG0 (I 98 (sp a b o), 0) 1 (h2 _ (by rw [decide_eq_false g]; rfl))) (fun h => absurd (by decide) h) (fun h => absurd (by decide) h) (fun h => absurd (by decide) h) (fun h => absurd (by decide) h)
    · rw [hb23] at g1
      have hp : rm + 1 < pR p := Classical.byContradiction fun q => g1 (hup0.mpr q)
      have hf := hx0.mp g2
      have hbb : b + 1 < 6 := by rw [hrm, hf] at hp; exact Nat.lt_of_lt_of_le hp w6
      rw [nI_1, sp_I, show sp a (b + 1) o = up by rw [hup, hf]; rfl]
      exact hG1 (I 98 (sp a b o), 0) 1 up (by rw [hup, hf]; exact sp_lt (by omega) hbb (by omega)) (h2 _ (by rw [decide_eq_true hp]; rfl))
    · rw [hb23] at g1
      have hp : rm + 1 < pR p := Classical.byContradiction fun q => g1 (hup0.mpr q)
      have hf : f = true := by cases f; exact absurd (hx0.mpr rfl) g2; rfl
      have hbb : a + 1 < 6 := by rw [hrm, hf] at hp; exact Nat.lt_of_lt_of_le hp w6
      rw [nI_1, sp_I, show sp (a + 1) b o = up by rw [hup, hf]; rfl]
      exact hG1 (I 98 (sp a b o), 0) 1 up (by rw [hup, hf]; exact sp_lt hbb (by omega) (by omega)) (h2 _ (by rw [decide_eq_true hp]; rfl))
  have h10 : X (d + 2) 0 0 12089 0 0 10 [some (.ref 73), some (.int (nI m)), some (.int x2), some (.int (nI a)), some (.int (nI b)), some (.int (nI o)), none, none, none, none, none] [.int (nI rm)] (K, I, L, R, sz) Q := by
    refine g12089_10 (d := d + 1) hK hR (by rw [sp_I]; exact vI hsp (by omega)) ?_
    rw [sp_I, nI_c (by omega)]
    exact h1
  refine e12089 (d := d + 2) (fun g => ?_) (fun g => ?_)
  · have hf := hx0.mp g
    rw [hrm, hf] at h10; exact h10
  · have hf : f = true := by cases f; exact absurd (hx0.mpr rfl) g; rfl
    rw [hrm, hf] at h10; exact h10

end L91
