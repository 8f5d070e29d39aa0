/-! plans: the class, a task done with some hands -/
section L99a
variable {I J : Nat → Nat → Int32} {p : qPa} {m : Nat} {x : Int32} {q : Nat}
theorem cSt_sc {g : qPg} (v : gV g) {d h : Nat → Bool} {r : Nat} {f : Nat → Nat} {T k : Nat} (hp : cW g d h r f T k) : sc g d h r f < nst g ∧ cSt g (sc g d h r f) T k := by
  obtain ⟨n, hn⟩ := hp
  obtain ⟨h0, e1, e2, e3, e4⟩ := sc_ok v (c_inv v n _ _ _ _ _ _ hn).1
  refine ⟨h0, ?_⟩
  unfold cSt
  rw [e1, e2, e3, e4]
  exact ⟨n, hn⟩
theorem sub_d {a b S : Nat} (hS : S ≤ 3) (ha : a < 2 ^ S) (hb : b < 2 ^ S) (h : ∀ s, bt a s = true → bt b s = true) : a ≤ b ∧ (nI b &&& (nI a ^^^ (-1))) = nI (b - a) ∧ b - a < 2 ^ S ∧ bt (b - a) = fun s => bt b s && !bt a s := by
  have h8 : 2 ^ S ≤ 8 := pw2 (k := 3) hS
  obtain ⟨g1, g2, g3⟩ := (bs_d ⟨a, by omega⟩ ⟨b, by omega⟩).2 (fun s hs => h s hs)
  refine ⟨g1, g2, by omega, ?_⟩
  funext s
  by_cases c : s < 3
  · exact g3 ⟨s, c⟩
  · have hb3 : b - a < 2 ^ 3 := Nat.lt_of_le_of_lt (Nat.sub_le _ _) (by omega)
    have hb4 : b < 2 ^ 3 := by omega
    rw [bt_big hb3 (by omega), bt_big hb4 (by omega)]; rfl
theorem wk_s {g : qPg} {H : Nat → Bool} {t : Nat} {f : Nat → Nat} (n : Nat) : wk g H t f (n + 1) = wk g H t f n + (if H n then ds (gTr g t) (f n) else 0) := rfl
theorem wk_mono {g : qPg} {H : Nat → Bool} {t : Nat} {f : Nat → Nat} (k n : Nat) : wk g H t f k ≤ wk g H t f (k + n) := by
  induction n with
  | zero => exact Nat.le_refl _
  | succ n ih => rw [← Nat.add_assoc, wk_s]; omega
theorem gQ_lo (h : qLo I J) (hf : fewH p) (hm : m < pM p) (cI : CI I p) : gQ J p m x = gQ I p m x := by
  have w3 := cI.w3
  have w5 := cI.w5
  have h34 : ∀ t, t < 4 → J (34 + t) = I (34 + t) := fun t ht => h _ (by omega)
  have e1 : (fun s => decide (s < 5) && (!decide (nI s = x) && mayI J m s)) = fun s => decide (s < 5) && (!decide (nI s = x) && mayI I m s) := by
    funext s
    by_cases c : s < 5
    · unfold mayI; rw [h (24 + s) (by omega)]
    · rw [decide_eq_false c, Bool.false_and, Bool.false_and]
  have e2 : ∀ k, (fun t => if t < 4 then (J (34 + t) k).toNatClampNeg else 0) = fun t => if t < 4 then (I (34 + t) k).toNatClampNeg else 0 := fun k => by
    funext t
    by_cases c : t < 4
    · rw [if_pos c, if_pos c, h34 t c]
    · rw [if_neg c, if_neg c]
  have e3 : (fun (d : Nat → Bool) t => decide (t < 4) && (decide (J (34 + t) 3 = -1) || d (J (34 + t) 3).toNatClampNeg)) = fun d t => decide (t < 4) && (decide (I (34 + t) 3 = -1) || d (I (34 + t) 3).toNatClampNeg) := by
    funext d t
    by_cases c : t < 4
    · rw [h34 t c]
    · rw [decide_eq_false c, Bool.false_and, Bool.false_and]
  have e4 : (fun s => if s < pS p then (J (24 + s) 0).toNatClampNeg else 0) = fun s => if s < pS p then (I (24 + s) 0).toNatClampNeg else 0 := by
    funext s
    by_cases c : s < pS p
    · rw [if_pos c, if_pos c, h (24 + s) (by omega)]
    · rw [if_neg c, if_neg c]
  unfold gQ
  rw [e1, e2 0, e2 1, e2 2, e3, e4, h 0 (by omega), h (30 + m) (by omega)]
end L99a
section L99
variable {d : Nat} {K : qK} {I : Nat → Nat → Int32} {L : Nat → Nat → Int64} {R : Nat → Nat → Option Nat} {sz : Nat} {Q : Option Value → qMem → Prop} {p : qPa} {q : Nat}
theorem e6010 {a : Int32} {b : Int32}  {q : Nat} (hK : qLay K sz) (hR : qRef R) (hl : qPn K R sz q) (b1 : vp_in a 4) (q1 : X d 0 0 6010 0 0 26 [some (.ref q), some (.int a), some (.int b), some (.int (I (34 + a.toNatClampNeg) 2)), some (.int 0), some (.int ((I 22 1) - 1)), none, none] [] (K, I, L, R, sz) Q) : X d 0 0 6010 0 0 0 (qent (qml 6010) [.ref q, .int a, .int b]) [] (K, I, L, R, sz) Q := show X _ 0 0 6010 0 0 0 [some (.ref q), some (.int a), some (.int b), none, none, none, none, none] [] _ _ from x_ald0 k6010_0 <| x_getR k6010_1 f6_24_6 hl.1 rfl hl.2.2.2.2.2 <| x_getR k6010_4 f6_115_1 (hK.at rfl) rfl (hR _ _ _ rfl) <| x_ild1 k6010_7 <| x_aald k6010_8 (hK.at rfl) b1 (qrowR33 hR b1) <| x_iconst (v := 2) k6010_9 rfl <| x_iald k6010_10 (qrowK33 hK b1) (qvp (by decide)) <| x_ist3 k6010_11 (Nat.le_of_ble_eq_true rfl) rfl <| x_iconst (v := 0) k6010_12 rfl <| x_ist4 k6010_13 (Nat.le_of_ble_eq_true rfl) rfl <| x_ald0 k6010_15 <| x_getR k6010_16 f6_24_6 hl.1 rfl hl.2.2.2.2.2 <| x_getI k6010_19 f6_78_1 (hK.at rfl) rfl <| x_iconst (v := 1) k6010_22 rfl <| x_isub k6010_23 <| x_ist5 k6010_24 (Nat.le_of_ble_eq_true rfl) rfl <| q1
theorem g6010_26 {q : Nat} {x1 : Int32} {x2 : Int32} {x3 : Int32} {x4 : Int32} {x5 : Int32}  (hK : qLay K sz) (hR : qRef R) (hl : qPn K R sz q) (b1 : ¬ x5 < 0 → ¬ ((x2 >>> (x5 &&& 31)) &&& 1) = 1 → vp_in x5 3) (b2 : ¬ x5 < 0 → ((x2 >>> (x5 &&& 31)) &&& 1) = 1 → vp_in x1 4) (b3 : ¬ x5 < 0 → ((x2 >>> (x5 &&& 31)) &&& 1) = 1 → vp_in x5 3) (q1 : x5 < 0 → (I q 5) = 0 → X (d + 1) 0 0 6010 0 0 165 [some (.ref q), some (.int x1), some (.int x2), some (.int x3), some (.int x4), some (.int (I q 11)), none, none] [.int ((I q 13) + (x3 * (I q 6))), .int x4, .int (I q 12), .int (I q 11), .int ((I q 10) ||| (1 <<< (x1 &&& 31))), .ref q] (K, I, L, R, sz) Q) (q2 : x5 < 0 → ¬ (I q 5) = 0 → X (d + 1) 0 0 6010 0 0 165 [some (.ref q), some (.int x1), some (.int x2), some (.int x3), some (.int x4), some (.int ((I q 11) &&& (x2 ^^^ (-1)))), none, none] [.int ((I q 13) + (x3 * (I q 6))), .int x4, .int (I q 12), .int ((I q 11) &&& (x2 ^^^ (-1))), .int ((I q 10) ||| (1 <<< (x1 &&& 31))), .ref q] (K, I, L, R, sz) Q) (q3 : ¬ x5 < 0 → ¬ ((x2 >>> (x5 &&& 31)) &&& 1) = 1 → X (d + 1) 0 0 6010 0 0 26 [some (.ref q), some (.int x1), some (.int x2), some (.int (x3 + (if 0 ≤ ((I (q + 2) x5.toNatClampNeg) - (I (q + 2) x5.toNatClampNeg)) then ((I (q + 2) x5.toNatClampNeg) - (I (q + 2) x5.toNatClampNeg)) else 0 - ((I (q + 2) x5.toNatClampNeg) - (I (q + 2) x5.toNatClampNeg))))), some (.int ((x4 * (I 22 0)) + (I (q + 2) x5.toNatClampNeg))), some (.int (x5 + (-1))), none, none] [] (K, I, L, R, sz) Q) (q4 : ¬ x5 < 0 → ((x2 >>> (x5 &&& 31)) &&& 1) = 1 → X (d + 1) 0 0 6010 0 0 26 [some (.ref q), some (.int x1), some (.int x2), some (.int (x3 + (if 0 ≤ ((I (34 + x1.toNatClampNeg) 0) - (I (q + 2) x5.toNatClampNeg)) then ((I (34 + x1.toNatClampNeg) 0) - (I (q + 2) x5.toNatClampNeg)) else 0 - ((I (34 + x1.toNatClampNeg) 0) - (I (q + 2) x5.toNatClampNeg))))), some (.int ((x4 * (I 22 0)) + (I (34 + x1.toNatClampNeg) 0))), some (.int (x5 + (-1))), none, none] [] (K, I, L, R, sz) Q) : X (d + 1) 0 0 6010 0 0 26 [some (.ref q), some (.int x1), some (.int x2), some (.int x3), some (.int x4), some (.int x5), none, none] [] (K, I, L, R, sz) Q := x_ild5 k6010_26 <| x_iflt (tgt := 113) k6010_28 (by decide) (fun h1 => x_ald0 k6010_113 <| x_getI k6010_114 f6_35_6 hl.1 rfl <| x_ifeq (tgt := 131) k6010_117 (by decide) (fun h2 => x_ald0 k6010_131 <| x_getI k6010_132 f6_104_6 hl.1 rfl <| x_ist5 k6010_135 (Nat.le_of_ble_eq_true rfl) rfl <| x_ald0 k6010_137 <| x_ald0 k6010_138 <| x_getI k6010_139 f6_57_6 hl.1 rfl <| x_iconst (v := 1) k6010_142 rfl <| x_ild1 k6010_143 <| x_ishl k6010_144 <| x_ior k6010_145 <| x_ild5 k6010_146 <| x_ald0 k6010_148 <| x_getI k6010_149 f6_101_6 hl.1 rfl <| x_ild4 k6010_152 <| x_ald0 k6010_154 <| x_getI k6010_155 f6_60_6 hl.1 rfl <| x_ild3 k6010_158 <| x_ald0 k6010_159 <| x_getI k6010_160 f6_39_6 hl.1 rfl <| x_imul k6010_163 <| x_iadd k6010_164 <| (q1 h1 h2)) (fun h2 => x_ald0 k6010_120 <| x_getI k6010_121 f6_104_6 hl.1 rfl <| x_ild2 k6010_124 <| x_iconst (v := (-1)) k6010_125 rfl <| x_ixor k6010_126 <| x_iand k6010_127 <| x_goto (tgt := 135) k6010_128 (by decide) <| x_ist5 k6010_135 (Nat.le_of_ble_eq_true rfl) rfl <| x_ald0 k6010_137 <| x_ald0 k6010_138 <| x_getI k6010_139 f6_57_6 hl.1 rfl <| x_iconst (v := 1) k6010_142 rfl <| x_ild1 k6010_143 <| x_ishl k6010_144 <| x_ior k6010_145 <| x_ild5 k6010_146 <| x_ald0 k6010_148 <| x_getI k6010_149 f6_101_6 hl.1 rfl <| x_ild4 k6010_152 <| x_ald0 k6010_154 <| x_getI k6010_155 f6_60_6 hl.1 rfl <| x_ild3 k6010_158 <| x_ald0 k6010_159 <| x_getI k6010_160 f6_39_6 hl.1 rfl <| x_imul k6010_163 <| x_iadd k6010_164 <| (q2 h1 h2))) (fun h1 => x_ild2 k6010_31 <| x_ild5 k6010_32 <| x_ishr k6010_34 <| x_iconst (v := 1) k6010_35 rfl <| x_iand k6010_36 <| x_iconst (v := 1) k6010_37 rfl <| x_icmpne (tgt := 45) k6010_38 (by decide) (fun h3 => x_iconst (v := 0) k6010_45 rfl <| x_ist6 k6010_46 (Nat.le_of_ble_eq_true rfl) rfl <| x_ild6 k6010_48 <| x_ifeqT (tgt := 67) k6010_50 (by decide) (show (0 : Int32) = 0 by decide) <| x_ald0 k6010_67 <| x_getR k6010_68 f6_16_6 hl.1 rfl hl.2.2.2.2.1 <| x_ild5 k6010_71 <| x_iald k6010_73 hl.2.2.1 (b1 h1 h3) <| x_ist7 k6010_74 (Nat.le_of_ble_eq_true rfl) rfl <| x_ild3 k6010_76 <| x_ild7 k6010_77 <| x_ald0 k6010_79 <| x_getR k6010_80 f6_16_6 hl.1 rfl hl.2.2.2.2.1 <| x_ild5 k6010_83 <| x_iald k6010_85 hl.2.2.1 (b1 h1 h3) <| x_isub k6010_86 <| x_mabs k6010_87 m6_111 qs_abs qi_Math qk_abs (Nat.le_of_ble_eq_true rfl) (Nat.le_refl _) (Nat.le_refl _) <| x_iadd k6010_90 <| x_ist3 k6010_91 (Nat.le_of_ble_eq_true rfl) rfl <| x_ild4 k6010_92 <| x_ald0 k6010_94 <| x_getR k6010_95 f6_24_6 hl.1 rfl hl.2.2.2.2.2 <| x_getI k6010_98 f6_81_1 (hK.at rfl) rfl <| x_imul k6010_101 <| x_ild7 k6010_102 <| x_iadd k6010_104 <| x_ist4 k6010_105 (Nat.le_of_ble_eq_true rfl) rfl <| x_inc5 (c := (-1)) k6010_107 rfl (Nat.le_of_ble_eq_true rfl) rfl <| x_goto (tgt := 26) k6010_110 (by decide) <| x_wk (ls := [some (.ref q), some (.int x1), some (.int x2), some (.int (x3 + (if 0 ≤ ((I (q + 2) x5.toNatClampNeg) - (I (q + 2) x5.toNatClampNeg)) then ((I (q + 2) x5.toNatClampNeg) - (I (q + 2) x5.toNatClampNeg)) else 0 - ((I (q + 2) x5.toNatClampNeg) - (I (q + 2) x5.toNatClampNeg))))), some (.int ((x4 * (I 22 0)) + (I (q + 2) x5.toNatClampNeg))), some (.int (x5 + (-1))), none, none]) ⟨rfl, ⟨rfl, ⟨rfl, ⟨rfl, ⟨rfl, ⟨rfl, True.intro⟩⟩⟩⟩⟩⟩ <| (q3 h1 h3)) (fun h3 => x_iconst (v := 1) k6010_41 rfl <| x_goto (tgt := 46) k6010_42 (by decide) <| x_ist6 k6010_46 (Nat.le_of_ble_eq_true rfl) rfl <| x_ild6 k6010_48 <| x_ifeqF (tgt := 67) k6010_50 (by decide) (show ¬ (1 : Int32) = 0 by decide) <| x_ald0 k6010_53 <| x_getR k6010_54 f6_24_6 hl.1 rfl hl.2.2.2.2.2 <| x_getR k6010_57 f6_115_1 (hK.at rfl) rfl (hR _ _ _ rfl) <| x_ild1 k6010_60 <| x_aald k6010_61 (hK.at rfl) (b2 h1 h3) (qrowR33 hR (b2 h1 h3)) <| x_iconst (v := 0) k6010_62 rfl <| x_iald k6010_63 (qrowK33 hK (b2 h1 h3)) (qvp (by decide)) <| x_goto (tgt := 74) k6010_64 (by decide) <| x_ist7 k6010_74 (Nat.le_of_ble_eq_true rfl) rfl <| x_ild3 k6010_76 <| x_ild7 k6010_77 <| x_ald0 k6010_79 <| x_getR k6010_80 f6_16_6 hl.1 rfl hl.2.2.2.2.1 <| x_ild5 k6010_83 <| x_iald k6010_85 hl.2.2.1 (b3 h1 h3) <| x_isub k6010_86 <| x_mabs k6010_87 m6_111 qs_abs qi_Math qk_abs (Nat.le_of_ble_eq_true rfl) (Nat.le_refl _) (Nat.le_refl _) <| x_iadd k6010_90 <| x_ist3 k6010_91 (Nat.le_of_ble_eq_true rfl) rfl <| x_ild4 k6010_92 <| x_ald0 k6010_94 <| x_getR k6010_95 f6_24_6 hl.1 rfl hl.2.2.2.2.2 <| x_getI k6010_98 f6_81_1 (hK.at rfl) rfl <| x_imul k6010_101 <| x_ild7 k6010_102 <| x_iadd k6010_104 <| x_ist4 k6010_105 (Nat.le_of_ble_eq_true rfl) rfl <| x_inc5 (c := (-1)) k6010_107 rfl (Nat.le_of_ble_eq_true rfl) rfl <| x_goto (tgt := 26) k6010_110 (by decide) <| x_wk (ls := [some (.ref q), some (.int x1), some (.int x2), some (.int (x3 + (if 0 ≤ ((I (34 + x1.toNatClampNeg) 0) - (I (q + 2) x5.toNatClampNeg)) then ((I (34 + x1.toNatClampNeg) 0) - (I (q + 2) x5.toNatClampNeg)) else 0 - ((I (34 + x1.toNatClampNeg) 0) - (I (q + 2) x5.toNatClampNeg))))), some (.int ((x4 * (I 22 0)) + (I (34 + x1.toNatClampNeg) 0))), some (.int (x5 + (-1))), none, none]) ⟨rfl, ⟨rfl, ⟨rfl, ⟨rfl, ⟨rfl, ⟨rfl, True.intro⟩⟩⟩⟩⟩⟩ <| (q4 h1 h3)))
theorem f6010 {q : Nat} {a : Int32} {b : Int32} {c : Int32} {e : Int32} {f : Int32}    (q1 : Q none (K, I, L, R, sz)) : X d 0 0 6010 0 0 168 [some (.ref q), some (.int a), some (.int b), some (.int c), some (.int e), some (.int f), none, none] [] (K, I, L, R, sz) Q := x_vret k6010_168 rfl (Nat.le_refl _) (Nat.le_refl _) <| q1
theorem e6009     (q1 : X d 0 0 6009 0 0 2 [some (.ref q), some (.int 0), none, none, none, none] [] (K, I, L, R, sz) Q) : X d 0 0 6009 0 0 0 (qent (qml 6009) [.ref q]) [] (K, I, L, R, sz) Q := show X _ 0 0 6009 0 0 0 [some (.ref q), none, none, none, none, none] [] _ _ from x_iconst (v := 0) k6009_0 rfl <| x_ist1 k6009_1 (Nat.le_of_ble_eq_true rfl) rfl <| q1
theorem g6009_2 {q : Nat} {x1 : Int32}  (hK : qLay K sz) (hR : qRef R) (hl : qPn K R sz q) (b1 : ¬ (I 22 3) ≤ x1 → vp_in x1 4) (q1 : (I 22 3) ≤ x1 → Q none (K, I, L, R, sz)) (q2 : ¬ (I 22 3) ≤ x1 → (I (34 + x1.toNatClampNeg) 3) = (-1) → ¬ (((I q 10) >>> (x1 &&& 31)) &&& 1) = 0 → X d 0 0 6009 0 0 2 [some (.ref q), some (.int (x1 + 1)), none, none, none, none] [] (K, I, L, R, sz) Q) (q3 : ¬ (I 22 3) ≤ x1 → (I (34 + x1.toNatClampNeg) 3) = (-1) → (((I q 10) >>> (x1 &&& 31)) &&& 1) = 0 → X d 0 0 6009 0 0 66 [some (.ref q), some (.int x1), some (.int (I (34 + x1.toNatClampNeg) 3)), some (.int 1), some (.int 1), none] [] (K, I, L, R, sz) Q) (q4 : ¬ (I 22 3) ≤ x1 → ¬ (I (34 + x1.toNatClampNeg) 3) = (-1) → ¬ (((I q 10) >>> ((I (34 + x1.toNatClampNeg) 3) &&& 31)) &&& 1) = 1 → X d 0 0 6009 0 0 2 [some (.ref q), some (.int (x1 + 1)), none, none, none, none] [] (K, I, L, R, sz) Q) (q5 : ¬ (I 22 3) ≤ x1 → ¬ (I (34 + x1.toNatClampNeg) 3) = (-1) → (((I q 10) >>> ((I (34 + x1.toNatClampNeg) 3) &&& 31)) &&& 1) = 1 → ¬ (((I q 10) >>> (x1 &&& 31)) &&& 1) = 0 → X d 0 0 6009 0 0 2 [some (.ref q), some (.int (x1 + 1)), none, none, none, none] [] (K, I, L, R, sz) Q) (q6 : ¬ (I 22 3) ≤ x1 → ¬ (I (34 + x1.toNatClampNeg) 3) = (-1) → (((I q 10) >>> ((I (34 + x1.toNatClampNeg) 3) &&& 31)) &&& 1) = 1 → (((I q 10) >>> (x1 &&& 31)) &&& 1) = 0 → X d 0 0 6009 0 0 66 [some (.ref q), some (.int x1), some (.int (I (34 + x1.toNatClampNeg) 3)), some (.int 1), some (.int 1), none] [] (K, I, L, R, sz) Q) : X d 0 0 6009 0 0 2 [some (.ref q), some (.int x1), none, none, none, none] [] (K, I, L, R, sz) Q := x_ild1 k6009_2 <| x_ald0 k6009_3 <| x_getR k6009_4 f6_24_6 hl.1 rfl hl.2.2.2.2.2 <| x_getI k6009_7 f6_45_1 (hK.at rfl) rfl <| x_icmpge (tgt := 137) k6009_10 (by decide) (fun h1 => x_vret k6009_137 rfl (Nat.le_refl _) (Nat.le_refl _) <| (q1 h1)) (fun h1 => x_ald0 k6009_13 <| x_getR k6009_14 f6_24_6 hl.1 rfl hl.2.2.2.2.2 <| x_getR k6009_17 f6_115_1 (hK.at rfl) rfl (hR _ _ _ rfl) <| x_ild1 k6009_20 <| x_aald k6009_21 (hK.at rfl) (b1 h1) (qrowR33 hR (b1 h1)) <| x_iconst (v := 3) k6009_22 rfl <| x_iald k6009_23 (qrowK33 hK (b1 h1)) (qvp (by decide)) <| x_ist2 k6009_24 (Nat.le_of_ble_eq_true rfl) rfl <| x_ild2 k6009_25 <| x_iconst (v := (-1)) k6009_26 rfl <| x_icmpeq (tgt := 42) k6009_27 (by decide) (fun h2 => x_iconst (v := 1) k6009_42 rfl <| x_goto (tgt := 47) k6009_43 (by decide) <| x_ist3 k6009_47 (Nat.le_of_ble_eq_true rfl) rfl <| x_ild3 k6009_48 <| x_ifeqF (tgt := 131) k6009_49 (by decide) (show ¬ (1 : Int32) = 0 by decide) <| x_ald0 k6009_52 <| x_getI k6009_53 f6_57_6 hl.1 rfl <| x_ild1 k6009_56 <| x_ishr k6009_57 <| x_iconst (v := 1) k6009_58 rfl <| x_iand k6009_59 <| x_ifne (tgt := 131) k6009_60 (by decide) (fun h3 => x_inc1 (c := 1) k6009_131 rfl (Nat.le_of_ble_eq_true rfl) rfl <| x_goto (tgt := 2) k6009_134 (by decide) <| x_wk (ls := [some (.ref q), some (.int (x1 + 1)), none, none, none, none]) ⟨rfl, ⟨rfl, True.intro⟩⟩ <| (q2 h1 h2 h3)) (fun h3 => x_iconst (v := 1) k6009_63 rfl <| x_ist4 k6009_64 (Nat.le_of_ble_eq_true rfl) rfl <| (q3 h1 h2 h3))) (fun h2 => x_ald0 k6009_30 <| x_getI k6009_31 f6_57_6 hl.1 rfl <| x_ild2 k6009_34 <| x_ishr k6009_35 <| x_iconst (v := 1) k6009_36 rfl <| x_iand k6009_37 <| x_iconst (v := 1) k6009_38 rfl <| x_icmpne (tgt := 46) k6009_39 (by decide) (fun h4 => x_iconst (v := 0) k6009_46 rfl <| x_ist3 k6009_47 (Nat.le_of_ble_eq_true rfl) rfl <| x_ild3 k6009_48 <| x_ifeqT (tgt := 131) k6009_49 (by decide) (show (0 : Int32) = 0 by decide) <| x_inc1 (c := 1) k6009_131 rfl (Nat.le_of_ble_eq_true rfl) rfl <| x_goto (tgt := 2) k6009_134 (by decide) <| x_wk (ls := [some (.ref q), some (.int (x1 + 1)), none, none, none, none]) ⟨rfl, ⟨rfl, True.intro⟩⟩ <| (q4 h1 h2 h4)) (fun h4 => x_iconst (v := 1) k6009_42 rfl <| x_goto (tgt := 47) k6009_43 (by decide) <| x_ist3 k6009_47 (Nat.le_of_ble_eq_true rfl) rfl <| x_ild3 k6009_48 <| x_ifeqF (tgt := 131) k6009_49 (by decide) (show ¬ (1 : Int32) = 0 by decide) <| x_ald0 k6009_52 <| x_getI k6009_53 f6_57_6 hl.1 rfl <| x_ild1 k6009_56 <| x_ishr k6009_57 <| x_iconst (v := 1) k6009_58 rfl <| x_iand k6009_59 <| x_ifne (tgt := 131) k6009_60 (by decide) (fun h5 => x_inc1 (c := 1) k6009_131 rfl (Nat.le_of_ble_eq_true rfl) rfl <| x_goto (tgt := 2) k6009_134 (by decide) <| x_wk (ls := [some (.ref q), some (.int (x1 + 1)), none, none, none, none]) ⟨rfl, ⟨rfl, True.intro⟩⟩ <| (q5 h1 h2 h4 h5)) (fun h5 => x_iconst (v := 1) k6009_63 rfl <| x_ist4 k6009_64 (Nat.le_of_ble_eq_true rfl) rfl <| (q6 h1 h2 h4 h5)))))
theorem g6009_66 {q : Nat} {x1 : Int32} {x2 : Int32} {x3 : Int32} {x4 : Int32}  (hK : qLay K sz) (hR : qRef R) (hl : qPn K R sz q) (b1 : ¬ (I q 11) < x4 → vp_in x1 4) (q1 : (I q 11) < x4 → X (d + 1) 0 0 6009 0 0 2 [some (.ref q), some (.int (x1 + 1)), none, none, none, none] [] (K, I, L, R, sz) Q) (q2 : ¬ (I q 11) < x4 → ¬ (bc x4) = (I (34 + x1.toNatClampNeg) 1) → X (d + 1) 0 0 6009 0 0 66 [some (.ref q), some (.int x1), some (.int x2), some (.int x3), some (.int (x4 + 1)), none] [] (K, I, L, R, sz) Q) (q3 : ¬ (I q 11) < x4 → (bc x4) = (I (34 + x1.toNatClampNeg) 1) → ¬ (x4 &&& ((I q 11) ^^^ (-1))) = 0 → X (d + 1) 0 0 6009 0 0 66 [some (.ref q), some (.int x1), some (.int x2), some (.int x3), some (.int (x4 + 1)), none] [] (K, I, L, R, sz) Q) (q4 : ¬ (I q 11) < x4 → (bc x4) = (I (34 + x1.toNatClampNeg) 1) → (x4 &&& ((I q 11) ^^^ (-1))) = 0 → X (d + 1) 0 0 6009 0 0 122 [some (.ref q), some (.int x1), some (.int x2), some (.int x3), some (.int x4), some (.int 1)] [.int x4, .int x1, .ref q] (K, I, L, R, sz) Q) : X (d + 1) 0 0 6009 0 0 66 [some (.ref q), some (.int x1), some (.int x2), some (.int x3), some (.int x4), none] [] (K, I, L, R, sz) Q := x_ild4 k6009_66 <| x_ald0 k6009_68 <| x_getI k6009_69 f6_104_6 hl.1 rfl <| x_icmpgt (tgt := 131) k6009_72 (by decide) (fun h1 => x_inc1 (c := 1) k6009_131 rfl (Nat.le_of_ble_eq_true rfl) rfl <| x_goto (tgt := 2) k6009_134 (by decide) <| x_wk (ls := [some (.ref q), some (.int (x1 + 1)), none, none, none, none]) ⟨rfl, ⟨rfl, True.intro⟩⟩ <| (q1 h1)) (fun h1 => x_ild4 k6009_75 <| x_cS1 (MCz := 0) (MSz := 0) k6009_77 s6_118 (Nat.le_of_ble_eq_true rfl) (Nat.le_of_ble_eq_true rfl) (Nat.le_refl _) (Nat.le_refl _) <| s14000 (x_ald0 k6009_80 <| x_getR k6009_81 f6_24_6 hl.1 rfl hl.2.2.2.2.2 <| x_getR k6009_84 f6_115_1 (hK.at rfl) rfl (hR _ _ _ rfl) <| x_ild1 k6009_87 <| x_aald k6009_88 (hK.at rfl) (b1 h1) (qrowR33 hR (b1 h1)) <| x_iconst (v := 1) k6009_89 rfl <| x_iald k6009_90 (qrowK33 hK (b1 h1)) (qvp (by decide)) <| x_icmpne (tgt := 98) k6009_91 (by decide) (fun h2 => x_iconst (v := 0) k6009_98 rfl <| x_ist5 k6009_99 (Nat.le_of_ble_eq_true rfl) rfl <| x_ild5 k6009_101 <| x_ifeqT (tgt := 125) k6009_103 (by decide) (show (0 : Int32) = 0 by decide) <| x_inc4 (c := 1) k6009_125 rfl (Nat.le_of_ble_eq_true rfl) rfl <| x_goto (tgt := 66) k6009_128 (by decide) <| x_wk (ls := [some (.ref q), some (.int x1), some (.int x2), some (.int x3), some (.int (x4 + 1)), none]) ⟨rfl, ⟨rfl, ⟨rfl, ⟨rfl, ⟨rfl, True.intro⟩⟩⟩⟩⟩ <| (q2 h1 h2)) (fun h2 => x_iconst (v := 1) k6009_94 rfl <| x_goto (tgt := 99) k6009_95 (by decide) <| x_ist5 k6009_99 (Nat.le_of_ble_eq_true rfl) rfl <| x_ild5 k6009_101 <| x_ifeqF (tgt := 125) k6009_103 (by decide) (show ¬ (1 : Int32) = 0 by decide) <| x_ild4 k6009_106 <| x_ald0 k6009_108 <| x_getI k6009_109 f6_104_6 hl.1 rfl <| x_iconst (v := (-1)) k6009_112 rfl <| x_ixor k6009_113 <| x_iand k6009_114 <| x_ifne (tgt := 125) k6009_115 (by decide) (fun h3 => x_inc4 (c := 1) k6009_125 rfl (Nat.le_of_ble_eq_true rfl) rfl <| x_goto (tgt := 66) k6009_128 (by decide) <| x_wk (ls := [some (.ref q), some (.int x1), some (.int x2), some (.int x3), some (.int (x4 + 1)), none]) ⟨rfl, ⟨rfl, ⟨rfl, ⟨rfl, ⟨rfl, True.intro⟩⟩⟩⟩⟩ <| (q3 h1 h2 h3)) (fun h3 => x_ald0 k6009_118 <| x_ild1 k6009_119 <| x_ild4 k6009_120 <| (q4 h1 h2 h3)))))
theorem f6009 {q : Nat} {a : Int32} {b : Int32} {c : Int32} {e : Int32} {f : Int32}    (q1 : X d 0 0 6009 0 0 66 [some (.ref q), some (.int a), some (.int b), some (.int c), some (.int (e + 1)), some (.int f)] [] (K, I, L, R, sz) Q) : X d 0 0 6009 0 0 125 [some (.ref q), some (.int a), some (.int b), some (.int c), some (.int e), some (.int f)] [] (K, I, L, R, sz) Q := x_inc4 (c := 1) k6009_125 rfl (Nat.le_of_ble_eq_true rfl) rfl <| x_goto (tgt := 66) k6009_128 (by decide) <| q1
theorem s6010 {j T0 k0 c m t hx : Nat} {x : Int32} (hK : qLay K sz) (hR : qRef R) (hl : qPn K R sz q) (h107 : 107 ≤ q) (cI : CI I p) (hf : fewH p) (hm : m < pM p) (hj : j < nst (gQ I p m x)) (hs : qPs I q p m x c (gOc (gQ I p m x))) (ht : qPt I q p j (T0 * c + k0)) (htN : t < pT p) (hdt : bt (iD (pS p) (pR p) j) t = false) (hxS : hx < 2 ^ pS p) (hsub : ∀ s, bt hx s = true → bt (iH (pS p) (pR p) j) s = true)
    (hq : Q none (K, va_up I (q + 1) (rch (I (q + 1)) (sc (gQ I p m x) (va_up (bt (iD (pS p) (pR p) j)) t true) (if gOc (gQ I p m x) then fun s => bt (iH (pS p) (pR p) j) s && !bt hx s else bt (iH (pS p) (pR p) j)) (iR (pS p) (pR p) j) (fun s => if bt hx s then gTr (gQ I p m x) t else iF (pS p) (pR p) j s)) (nI ((T0 + (gTm (gQ I p m x) t + wk (gQ I p m x) (bt hx) t (iF (pS p) (pR p) j) (pS p))) * c + (k0 + 0)))), L, R, sz)) : X (d + 1) 0 0 6010 0 0 0 (qent (qml 6010) [.ref q, .int (nI t), .int (nI hx)]) [] (K, I, L, R, sz) Q := by
  have v := gQ_v (x := x) cI hf hm
  obtain ⟨f1, f2⟩ := hf
  have w4 : pT p ≤ 4 := cI.1.2.1.2.2.2
  have lS := cI.lS
  have lR : I 22 0 = nI (pR p) := cI.1.1.1
  obtain ⟨s3, s4', s5', s6', s7', s8', s9'⟩ := hs
  obtain ⟨t10, t11, t12, t13, t2⟩ := ht
  obtain ⟨-, o1, o2, o3, o4, o5⟩ := i_ok (S := pS p) (R := pR p) (N := pT p) hj
  have hpw2 := pw2 (n := pS p) (k := 3) f1
  have hpw4 := pw2 (n := pT p) (k := 4) w4
  have hp5 := pw5 _ _ f2 f1
  obtain ⟨q0, q1, q2, q3, q4, q5, q6, q7⟩ := @gQ_t I p m x cI t htN
  obtain ⟨f', hf'⟩ : ∃ f' : Nat → Nat, f' = fun s => if bt hx s then gTr (gQ I p m x) t else iF (pS p) (pR p) j s := ⟨_, rfl⟩
  have hf4 : ∀ s, s < pS p → f' s < pR p := fun s hs => by
    rw [hf']; show (if bt hx s = true then _ else _) < pR p
    split
    · exact q1
    · exact o4 s hs
  have hf5 : ∀ s, pS p ≤ s → f' s = 0 := fun s hs => by
    rw [hf']; show (if bt hx s = true then _ else _) = 0
    rw [bt_big hxS hs, if_neg Bool.false_ne_true]; exact o5 s hs
  rw [← hf'] at hq
  have etc : (nI t).toNatClampNeg = t := nI_c (by omega)
  have hwk4 := @wk_le (gQ I p m x) (bt hx) t (iF (pS p) (pR p) j) (pS p) (fun s hs => by have := ds_lt q1 (o4 s hs); omega)
  obtain ⟨z1, z2, z3, z4⟩ := sub_d f1 hxS o2 hsub
  obtain ⟨b1, b2⟩ := bt_up w4 o1 htN hdt
  have hcost : nI (T0 * c + k0) + nI (gTm (gQ I p m x) t + wk (gQ I p m x) (bt hx) t (iF (pS p) (pR p) j) (pS p)) * nI c = nI ((T0 + (gTm (gQ I p m x) t + wk (gQ I p m x) (bt hx) t (iF (pS p) (pR p) j) (pS p))) * c + (k0 + 0)) := by
    rw [pk_mul, nI_add]
    congr 1
    rw [Nat.add_mul T0]; omega
  have hpl : dgs f' (pR p) (pS p) 0 < pR p ^ pS p := dgs_lt _ _ (fun s _ hs => hf4 s (by omega))
  have hend : ∀ left : Nat, left < 2 ^ pS p → bt left = (if gOc (gQ I p m x) then fun s => bt (iH (pS p) (pR p) j) s && !bt hx s else bt (iH (pS p) (pR p) j)) → X (d + 1) 0 0 6010 0 0 165 [some (.ref q), some (.int (nI t)), some (.int (nI hx)), some (.int (nI (gTm (gQ I p m x) t + wk (gQ I p m x) (bt hx) t (iF (pS p) (pR p) j) (pS p)))), some (.int (nI (dgs f' (pR p) (pS p) 0))), some (.int (nI left)), none, none] [.int (I q 13 + nI (gTm (gQ I p m x) t + wk (gQ I p m x) (bt hx) t (iF (pS p) (pR p) j) (pS p)) * I q 6), .int (nI (dgs f' (pR p) (pS p) 0)), .int (I q 12), .int (nI left), .int (I q 10 ||| (1 <<< (nI t &&& 31))), .ref q] (K, I, L, R, sz) Q := fun left hl1 hl2 => by
    rw [t13, s6', t12, t10, br_o (by omega) (by omega) hdt, hcost]
    refine x_cV5 (MCz := 0) (MSz := 0) k6010_165 v6_94_6 hl.1 (Nat.le_of_ble_eq_true rfl) (Nat.le_of_ble_eq_true rfl) (Nat.le_refl _) (Nat.le_refl _) <| s6007 hK hl f1 f2 w4 s7' s8' s9' lR b1 hl1 o3 hpl ?_
    refine f6010 ?_
    have hcode : sN (pS p) (pR p) (iD (pS p) (pR p) j + 2 ^ t) left (iR (pS p) (pR p) j) (dgs f' (pR p) (pS p) 0) = sc (gQ I p m x) (va_up (bt (iD (pS p) (pR p) j)) t true) (if gOc (gQ I p m x) then fun s => bt (iH (pS p) (pR p) j) s && !bt hx s else bt (iH (pS p) (pR p) j)) (iR (pS p) (pR p) j) f' := by
      show _ = sN (pS p) (pR p) (eB (va_up (bt (iD (pS p) (pR p) j)) t true)) (eB (if gOc (gQ I p m x) then fun s => bt (iH (pS p) (pR p) j) s && !bt hx s else bt (iH (pS p) (pR p) j))) (iR (pS p) (pR p) j) (dgs f' (pR p) (pS p) 0)
      rw [← hl2, eB_b (by omega) hl1, ← b2, eB_b w4 b1]
    rw [hcode]
    exact hq
  have hloop : ∀ (n k : Nat), n + k = pS p → X (d + 1) 0 0 6010 0 0 26 [some (.ref q), some (.int (nI t)), some (.int (nI hx)), some (.int (nI (gTm (gQ I p m x) t + (wk (gQ I p m x) (bt hx) t (iF (pS p) (pR p) j) (pS p) - wk (gQ I p m x) (bt hx) t (iF (pS p) (pR p) j) k)))), some (.int (nI (dgs f' (pR p) n k))), some (.int (nI k - 1)), none, none] [] (K, I, L, R, sz) Q := by
    intro n k
    induction k generalizing n with
    | zero =>
      intro hn
      have hlt : nI 0 - 1 < 0 := by decide
      have e0 : wk (gQ I p m x) (bt hx) t (iF (pS p) (pR p) j) 0 = 0 := rfl
      rw [show n = pS p by omega, e0, Nat.sub_zero]
      refine g6010_26 hK hR hl (fun h => absurd hlt h) (fun h => absurd hlt h) (fun h => absurd hlt h) (fun _ h => ?_) (fun _ h => ?_) (fun h => absurd hlt h) (fun h => absurd hlt h)
      · have hoc : gOc (gQ I p m x) = false := by
          cases e : gOc (gQ I p m x)
          · rfl
          · rw [s5', e] at h; exact absurd h (by decide)
        rw [t11]
        refine x_wk2 (hend (iH (pS p) (pR p) j) o2 (by rw [hoc, if_neg Bool.false_ne_true])) ⟨rfl, rfl, rfl, rfl, rfl, rfl, True.intro⟩
      · have hoc : gOc (gQ I p m x) = true := by
          cases e : gOc (gQ I p m x)
          · rw [s5', e] at h; exact absurd rfl h
          · rfl
        rw [t11, z2]
        refine x_wk2 (hend (iH (pS p) (pR p) j - hx) z3 (by rw [hoc, if_pos rfl]; exact z4)) ⟨rfl, rfl, rfl, rfl, rfl, rfl, True.intro⟩
    | succ k ih =>
      intro hn
      have e1 : nI (k + 1) - 1 = nI k := by rw [show (1 : Int32) = nI 1 from rfl, pk_sub (by omega)]; rfl
      have hnl : ¬ nI (k + 1) - 1 < 0 := by rw [e1]; exact nI_pos (by omega)
      have e2 : nI k + (-1) = nI k - 1 := (Int32.sub_eq_add_neg _ _).symm
      have ek : (nI k).toNatClampNeg = k := nI_c (by omega)
      have hbit : ((nI hx >>> (nI k &&& 31)) &&& 1) = 1 ↔ bt hx k = true := br_1 (by omega) (by omega)
      have hfk := o4 k (by omega)
      have hw1 := @wk_s (gQ I p m x) (bt hx) t (iF (pS p) (pR p) j) k
      have hw2 := @wk_mono (gQ I p m x) (bt hx) t (iF (pS p) (pR p) j) (k + 1) n
      rw [show k + 1 + n = pS p by omega] at hw2
      have hih := ih (n + 1) (by omega)
      rw [dgs] at hih
      refine g6010_26 hK hR hl (fun _ _ => by rw [e1]; exact vI (by omega) (by omega)) (fun _ _ => vI (by omega) (by omega)) (fun _ _ => by rw [e1]; exact vI (by omega) (by omega)) (fun h => absurd h hnl) (fun h => absurd h hnl) (fun _ h => ?_) (fun _ h => ?_)
      · rw [e1, hbit] at h
        have hb : bt hx k = false := by cases e : bt hx k; rfl; exact absurd e h
        have e3 : f' k = iF (pS p) (pR p) j k := by rw [hf']; show (if bt hx k = true then _ else _) = _; rw [hb, if_neg Bool.false_ne_true]
        rw [hb, if_neg Bool.false_ne_true] at hw1
        rw [e3] at hih
        rw [e1, ek, t2 k (by omega), absN (by omega) (by omega), lR, pk_mul, nI_add, nI_add, e2]
        rw [show gTm (gQ I p m x) t + (wk (gQ I p m x) (bt hx) t (iF (pS p) (pR p) j) (pS p) - wk (gQ I p m x) (bt hx) t (iF (pS p) (pR p) j) (k + 1)) + ((iF (pS p) (pR p) j k - iF (pS p) (pR p) j k) + (iF (pS p) (pR p) j k - iF (pS p) (pR p) j k)) = gTm (gQ I p m x) t + (wk (gQ I p m x) (bt hx) t (iF (pS p) (pR p) j) (pS p) - wk (gQ I p m x) (bt hx) t (iF (pS p) (pR p) j) k) by omega]
        exact hih
      · rw [e1, hbit] at h
        have e3 : f' k = gTr (gQ I p m x) t := by rw [hf']; show (if bt hx k = true then _ else _) = _; rw [h, if_pos rfl]
        rw [h, if_pos rfl] at hw1
        rw [e3] at hih
        rw [e1, ek, etc, q0, t2 k (by omega), absN (by omega) (by omega), lR, pk_mul, nI_add, nI_add, e2]
        have hds : ds (gTr (gQ I p m x) t) (iF (pS p) (pR p) j k) = (gTr (gQ I p m x) t - iF (pS p) (pR p) j k) + (iF (pS p) (pR p) j k - gTr (gQ I p m x) t) := rfl
        rw [hds] at hw1
        rw [show gTm (gQ I p m x) t + (wk (gQ I p m x) (bt hx) t (iF (pS p) (pR p) j) (pS p) - wk (gQ I p m x) (bt hx) t (iF (pS p) (pR p) j) (k + 1)) + ((gTr (gQ I p m x) t - iF (pS p) (pR p) j k) + (iF (pS p) (pR p) j k - gTr (gQ I p m x) t)) = gTm (gQ I p m x) t + (wk (gQ I p m x) (bt hx) t (iF (pS p) (pR p) j) (pS p) - wk (gQ I p m x) (bt hx) t (iF (pS p) (pR p) j) k) by omega]
        exact hih
  refine e6010 hK hR hl (vI (by omega) (by omega)) ?_
  rw [etc, q5, lS]
  have := hloop 0 (pS p) (by omega)
  rw [Nat.sub_self, Nat.add_zero] at this
  exact this
/-- all tasks, with all hands -/
theorem s6009 {j T0 k0 c m : Nat} {x : Int32} (hK : qLay K sz) (hR : qRef R) (hl : qPn K R sz q) (h107 : 107 ≤ q) (cI : CI I p) (hf : fewH p) (hm : m < pM p) (hc : c ≤ 1000) (hj : j < nst (gQ I p m x)) (hs : qPs I q p m x c (gOc (gQ I p m x))) (ht : qPt I q p j (T0 * c + k0)) (hp0 : cSt (gQ I p m x) j T0 k0) (hsn : cSnd (gQ I p m x) c (I (q + 1)))
    (hq : ∀ l, cSnd (gQ I p m x) c l → (∀ y w, lv (I (q + 1)) y w → lv l y w) → (∀ t H, t < pT p → bt (iD (pS p) (pR p) j) t = false → gOp (gQ I p m x) (bt (iD (pS p) (pR p) j)) t = true → (∀ s, H s = true → bt (iH (pS p) (pR p) j) s = true) → cb H (pS p) = gTh (gQ I p m x) t → lv l (sc (gQ I p m x) (va_up (bt (iD (pS p) (pR p) j)) t true) (if gOc (gQ I p m x) then fun s => bt (iH (pS p) (pR p) j) s && !H s else bt (iH (pS p) (pR p) j)) (iR (pS p) (pR p) j) (fun s => if H s then gTr (gQ I p m x) t else iF (pS p) (pR p) j s)) ((T0 + (gTm (gQ I p m x) t + wk (gQ I p m x) H t (iF (pS p) (pR p) j) (pS p))) * c + (k0 + 0))) → Q none (K, va_up I (q + 1) l, L, R, sz)) : X (d + 2) 0 0 6009 0 0 0 (qent (qml 6009) [.ref q]) [] (K, I, L, R, sz) Q := by
  have v := gQ_v (x := x) cI hf hm
  have hf0 := hf
  obtain ⟨f1, f2⟩ := hf
  have w4 : pT p ≤ 4 := cI.1.2.1.2.2.2
  have lT : I 22 3 = nI (pT p) := cI.1.1.2.2.2
  have hs' := hs
  obtain ⟨s3, s4', s5', s6', s7', s8', s9'⟩ := hs'
  have ht' := ht
  obtain ⟨t10, t11, t12, t13, t2⟩ := ht'
  obtain ⟨-, o1, o2, o3, o4, o5⟩ := i_ok (S := pS p) (R := pR p) (N := pT p) hj
  have hpw2 := pw2 (n := pS p) (k := 3) f1
  have hpw4 := pw2 (n := pT p) (k := 4) w4
  obtain ⟨Z, hZ⟩ : ∃ Z : Nat → (Nat → Bool) → (Nat → Int32) → Prop, Z = fun t H l => lv l (sc (gQ I p m x) (va_up (bt (iD (pS p) (pR p) j)) t true) (if gOc (gQ I p m x) then fun s => bt (iH (pS p) (pR p) j) s && !H s else bt (iH (pS p) (pR p) j)) (iR (pS p) (pR p) j) (fun s => if H s then gTr (gQ I p m x) t else iF (pS p) (pR p) j s)) ((T0 + (gTm (gQ I p m x) t + wk (gQ I p m x) H t (iF (pS p) (pR p) j) (pS p))) * c + (k0 + 0)) := ⟨_, rfl⟩
  have hZe : ∀ t H l, Z t H l = lv l (sc (gQ I p m x) (va_up (bt (iD (pS p) (pR p) j)) t true) (if gOc (gQ I p m x) then fun s => bt (iH (pS p) (pR p) j) s && !H s else bt (iH (pS p) (pR p) j)) (iR (pS p) (pR p) j) (fun s => if H s then gTr (gQ I p m x) t else iF (pS p) (pR p) j s)) ((T0 + (gTm (gQ I p m x) t + wk (gQ I p m x) H t (iF (pS p) (pR p) j) (pS p))) * c + (k0 + 0)) := fun t H l => by rw [hZ]
  have hq' : ∀ l, cSnd (gQ I p m x) c l → (∀ y w, lv (I (q + 1)) y w → lv l y w) → (∀ t H, t < pT p → bt (iD (pS p) (pR p) j) t = false → gOp (gQ I p m x) (bt (iD (pS p) (pR p) j)) t = true → (∀ s, H s = true → bt (iH (pS p) (pR p) j) s = true) → cb H (pS p) = gTh (gQ I p m x) t → Z t H l) → Q none (K, va_up I (q + 1) l, L, R, sz) := fun l a b e => hq l a b (fun t H u1 u2 u3 u4 u5 => by rw [← hZe]; exact e t H u1 u2 u3 u4 u5)
  clear hq
  have eq0 : ∀ l, (va_up I (q + 1) l) q = I q := fun l => vu_n (by omega)
  have e34 : ∀ l t, t < 4 → (va_up I (q + 1) l) (34 + t) = I (34 + t) := fun l t h => vu_n (by omega)
  have h66 : ∀ t x2 x3, t < pT p → bt (iD (pS p) (pR p) j) t = false → gOp (gQ I p m x) (bt (iD (pS p) (pR p) j)) t = true → (∀ l, cSnd (gQ I p m x) c l → (∀ y w, lv (I (q + 1)) y w → lv l y w) → (∀ t' H, t' < t + 1 → bt (iD (pS p) (pR p) j) t' = false → gOp (gQ I p m x) (bt (iD (pS p) (pR p) j)) t' = true → (∀ s, H s = true → bt (iH (pS p) (pR p) j) s = true) → cb H (pS p) = gTh (gQ I p m x) t' → Z t' H l) → X (d + 2) 0 0 6009 0 0 2 [some (.ref q), some (.int (nI (t + 1))), none, none, none, none] [] (K, va_up I (q + 1) l, L, R, sz) Q) →
      ∀ (k y : Nat), y + k = iH (pS p) (pR p) j + 1 → ∀ l, cSnd (gQ I p m x) c l → (∀ y w, lv (I (q + 1)) y w → lv l y w) → (∀ t' H, t' < t → bt (iD (pS p) (pR p) j) t' = false → gOp (gQ I p m x) (bt (iD (pS p) (pR p) j)) t' = true → (∀ s, H s = true → bt (iH (pS p) (pR p) j) s = true) → cb H (pS p) = gTh (gQ I p m x) t' → Z t' H l) → (∀ H, (∀ s, H s = true → bt (iH (pS p) (pR p) j) s = true) → cb H (pS p) = gTh (gQ I p m x) t → eB H < y → Z t H l) → X (d + 2) 0 0 6009 0 0 66 [some (.ref q), some (.int (nI t)), some (.int x2), some (.int x3), some (.int (nI y)), none] [] (K, va_up I (q + 1) l, L, R, sz) Q := by
    intro t x2 x3 htN hdt hop hnx k
    have etc : (nI t).toNatClampNeg = t := nI_c (by omega)
    obtain ⟨q0, q1, q2, q3, q4, q5, q6, q7⟩ := @gQ_t I p m x cI t htN
    have hsubE : ∀ H : Nat → Bool, (∀ s, H s = true → bt (iH (pS p) (pR p) j) s = true) → eB H < 2 ^ pS p ∧ bt (eB H) = H ∧ eB H ≤ iH (pS p) (pR p) j := fun H hH => by
      have hz : ∀ s, pS p ≤ s → H s = false := fun s hs => by
        cases e : H s
        · rfl
        · have := hH s e
          rw [bt_big o2 hs] at this; cases this
      obtain ⟨a1, a2⟩ := eB_bt (by omega) hz
      exact ⟨a1, a2, (sub_d f1 a1 o2 (by rw [a2]; exact hH)).1⟩
    induction k with
    | zero =>
      intro y hy l g1 g2 g3 g4
      have hlt : (va_up I (q + 1) l) q 11 < nI y := by rw [eq0, t11]; exact nI_lt (by omega) (by omega)
      refine g6009_66 (d := d + 1) hK hR hl (fun h => absurd hlt h) (fun _ => ?_) (fun h => absurd hlt h) (fun h => absurd hlt h) (fun h => absurd hlt h)
      rw [nI_1]
      refine hnx l g1 g2 (fun t' H u1 u2 u3 u4 u5 => ?_)
      by_cases e : t' = t
      · subst e; exact g4 H u4 u5 (by have := (hsubE H u4).2.2; omega)
      · exact g3 t' H (by omega) u2 u3 u4 u5
    | succ k ih =>
      intro y hy l g1 g2 g3 g4
      have hnl : ¬ (va_up I (q + 1) l) q 11 < nI y := by rw [eq0, t11]; exact nI_nlt (by omega) (by omega)
      have hy2 : y < 2 ^ pS p := by omega
      have hskip : ¬ ((∀ s, bt y s = true → bt (iH (pS p) (pR p) j) s = true) ∧ cb (bt y) (pS p) = gTh (gQ I p m x) t) → X (d + 2) 0 0 6009 0 0 66 [some (.ref q), some (.int (nI t)), some (.int x2), some (.int x3), some (.int (nI y + 1)), none] [] (K, va_up I (q + 1) l, L, R, sz) Q := fun hn => by
        rw [nI_1]
        refine ih (y + 1) (by omega) l g1 g2 g3 (fun H a b hlt => ?_)
        by_cases e : eB H = y
        · obtain ⟨a1, a2, a3⟩ := hsubE H a
          rw [e] at a2
          exact absurd ⟨by rw [a2]; exact a, by rw [a2]; exact b⟩ hn
        · exact g4 H a b (by omega)
      have hbc : bc (nI y) = (va_up I (q + 1) l) (34 + (nI t).toNatClampNeg) 1 ↔ cb (bt y) (pS p) = gTh (gQ I p m x) t := by
        have hb3 : bc (nI y) = nI (cb (bt y) 3) := bc_d ⟨y, by omega⟩
        rw [etc, e34 l t (by omega), q2, hb3, nI_eq (by have := cb_le (bt y) 3; omega) (by omega), cb_lt f1 hy2]
      have hss : (nI y &&& ((va_up I (q + 1) l) q 11 ^^^ (-1))) = 0 ↔ ∀ s, bt y s = true → bt (iH (pS p) (pR p) j) s = true := by
        rw [eq0, t11, (bs_d ⟨y, by omega⟩ ⟨iH (pS p) (pR p) j, by omega⟩).1]
        constructor
        · intro h s hs
          have : s < 3 := Nat.lt_of_not_le fun c => by
            have := bt_big (n := 3) (show y < 2 ^ 3 by omega) c
            rw [this] at hs; cases hs
          exact h ⟨s, this⟩ hs
        · intro h s hs; exact h s hs
      refine g6009_66 (d := d + 1) hK hR hl (fun _ => vI (by omega) (by omega)) (fun h => absurd h hnl) (fun _ h => hskip (fun a => h (hbc.mpr a.2))) (fun _ _ h => hskip (fun a => h (hss.mpr a.1))) (fun _ h1 h2 => ?_)
      rw [hbc] at h1
      rw [hss] at h2
      have hlo : qLo I (va_up I (q + 1) l) := qLo.refl.up (by omega)
      have hgq : gQ (va_up I (q + 1) l) p m x = gQ I p m x := gQ_lo hlo hf0 hm cI
      have hE : cE (gQ I p m x) (bt (iD (pS p) (pR p) j)) (bt (iH (pS p) (pR p) j)) (iR (pS p) (pR p) j) (iF (pS p) (pR p) j) (va_up (bt (iD (pS p) (pR p) j)) t true) (if gOc (gQ I p m x) then fun s => bt (iH (pS p) (pR p) j) s && !bt y s else bt (iH (pS p) (pR p) j)) (iR (pS p) (pR p) j) (fun s => if bt y s then gTr (gQ I p m x) t else iF (pS p) (pR p) j s) (gTm (gQ I p m x) t + wk (gQ I p m x) (bt y) t (iF (pS p) (pR p) j) (pS p)) 0 := Or.inr ⟨t, bt y, htN, hdt, hop, h2, h1, rfl, rfl, rfl, rfl, rfl, rfl⟩
      obtain ⟨hx, hSt⟩ := cSt_sc v (cW_s hp0 hE)
      obtain ⟨r1, r2, r3⟩ := rch_1 v hc g1 hx hSt
      refine x_cV2 (MCz := 0) (MSz := 0) k6009_122 v6_123_6 hl.1 (Nat.le_of_ble_eq_true rfl) (Nat.le_of_ble_eq_true rfl) (Nat.le_refl _) (Nat.le_refl _) <| s6010 (j := j) (T0 := T0) (k0 := k0) (c := c) (m := m) (x := x) hK hR hl h107 (hlo.af cI).2 hf0 hm (by rw [hgq]; exact hj) (by rw [hgq]; unfold qPs; rw [eq0]; exact hs) (by unfold qPt; rw [eq0, vu_n (show q + 2 ≠ q + 1 by omega)]; exact ht) htN hdt hy2 h2 ?_
      rw [hgq, vu_t, vu_s]
      refine f6009 ?_
      rw [nI_1]
      refine x_wk2 (ih (y + 1) (by omega) _ r1 (fun y w h => r3 y w (g2 y w h)) (fun t' H u1 u2 u3 u4 u5 => ?_) (fun H a b hlt => ?_)) ⟨rfl, rfl, rfl, rfl, rfl, True.intro⟩
      · rw [hZe]
        have := g3 t' H u1 u2 u3 u4 u5
        rw [hZe] at this
        exact r3 _ _ this
      · by_cases e : eB H = y
        · obtain ⟨a1, a2, a3⟩ := hsubE H a
          rw [e] at a2
          rw [hZe, ← a2]
          exact r2
        · have := g4 H a b (by omega)
          rw [hZe] at this ⊢
          exact r3 _ _ this
  have h2 : ∀ (k t : Nat), t + k = pT p → ∀ l, cSnd (gQ I p m x) c l → (∀ y w, lv (I (q + 1)) y w → lv l y w) → (∀ t' H, t' < t → bt (iD (pS p) (pR p) j) t' = false → gOp (gQ I p m x) (bt (iD (pS p) (pR p) j)) t' = true → (∀ s, H s = true → bt (iH (pS p) (pR p) j) s = true) → cb H (pS p) = gTh (gQ I p m x) t' → Z t' H l) → X (d + 2) 0 0 6009 0 0 2 [some (.ref q), some (.int (nI t)), none, none, none, none] [] (K, va_up I (q + 1) l, L, R, sz) Q := by
    intro k
    induction k with
    | zero =>
      intro t hk l g1 g2 g3
      have hle : (va_up I (q + 1) l) 22 3 ≤ nI t := by rw [vu_n (by omega), lT]; exact nI_le (by omega) (by omega)
      refine g6009_2 hK hR hl (fun h => absurd hle h) (fun _ => hq' l g1 g2 (fun t' H u1 => g3 t' H (by omega))) (fun h => absurd hle h) (fun h => absurd hle h) (fun h => absurd hle h) (fun h => absurd hle h) (fun h => absurd hle h)
    | succ k ih =>
      intro t hk l g1 g2 g3
      have hnl : ¬ (va_up I (q + 1) l) 22 3 ≤ nI t := by rw [vu_n (by omega), lT]; exact nI_ge (by omega) (by omega)
      have etc : (nI t).toNatClampNeg = t := nI_c (by omega)
      have htN : t < pT p := by omega
      have h22 : (va_up I (q + 1) l) (34 + (nI t).toNatClampNeg) 3 = I (34 + t) 3 := by rw [etc, e34 l t (by omega)]
      have hopD : gOp (gQ I p m x) (bt (iD (pS p) (pR p) j)) t = (decide (I (34 + t) 3 = -1) || bt (iD (pS p) (pR p) j) (I (34 + t) 3).toNatClampNeg) := by
        show (decide (t < 4) && (decide (I (34 + t) 3 = -1) || bt (iD (pS p) (pR p) j) (I (34 + t) 3).toNatClampNeg)) = _
        rw [decide_eq_true (show t < 4 by omega), Bool.true_and]
      have hd0 : (((va_up I (q + 1) l) q 10 >>> (nI t &&& 31)) &&& 1) = 0 ↔ bt (iD (pS p) (pR p) j) t = false := by rw [eq0, t10]; exact br_0 (by omega) (by omega)
      have hskip : ¬ (bt (iD (pS p) (pR p) j) t = false ∧ gOp (gQ I p m x) (bt (iD (pS p) (pR p) j)) t = true) → X (d + 2) 0 0 6009 0 0 2 [some (.ref q), some (.int (nI t + 1)), none, none, none, none] [] (K, va_up I (q + 1) l, L, R, sz) Q := fun hn => by
        rw [nI_1]
        refine ih (t + 1) (by omega) l g1 g2 (fun t' H u1 u2 u3 u4 u5 => ?_)
        by_cases e : t' = t
        · rw [e] at u2 u3; exact absurd ⟨u2, u3⟩ hn
        · exact g3 t' H (by omega) u2 u3 u4 u5
      have hgo : ∀ x2 x3, bt (iD (pS p) (pR p) j) t = false → gOp (gQ I p m x) (bt (iD (pS p) (pR p) j)) t = true → X (d + 2) 0 0 6009 0 0 66 [some (.ref q), some (.int (nI t)), some (.int x2), some (.int x3), some (.int 1), none] [] (K, va_up I (q + 1) l, L, R, sz) Q := fun x2 x3 a b => by
        refine h66 t x2 x3 htN a b (fun l' => ih (t + 1) (by omega) l') (iH (pS p) (pR p) j) 1 (by omega) l g1 g2 g3 (fun H u4 u5 hlt => ?_)
        have hH0 : ∀ s, s < pS p → H s = false := fun s hs => by
          cases e : H s
          · rfl
          · have hz : ∀ s, pS p ≤ s → H s = false := fun s hs => by
              cases e : H s
              · rfl
              · have := u4 s e
                rw [bt_big o2 hs] at this; cases this
            obtain ⟨a1, a2⟩ := eB_bt (by omega) hz
            rw [show eB H = 0 by omega] at a2
            rw [← a2] at e
            have : bt 0 s = false := by unfold bt; rw [Nat.zero_div]; rfl
            rw [this] at e; cases e
        have := cb_cong (B := fun _ => false) (pS p) hH0
        have e0 : cb (fun _ => false) (pS p) = 0 := sm_0 _
        have := (@gQ_t I p m x cI t htN).2.2.2.1
        omega
      have haft : ¬ I (34 + t) 3 = -1 → ∃ a, a < t ∧ I (34 + t) 3 = nI a := fun h => (cI.1.2.2.2.2 t htN).2.2.2.resolve_left h
      refine g6009_2 hK hR hl (fun _ => vI (by omega) (by omega)) (fun h => absurd h hnl) (fun _ h1 h2 => hskip (fun a => h2 (hd0.mpr a.1))) (fun _ h1 h2 => ?_) (fun _ h1 h2 => hskip (fun a => ?_)) (fun _ h1 h2 h3 => hskip (fun a => h3 (hd0.mpr a.1))) (fun _ h1 h2 h3 => ?_)
      · rw [h22] at h1 ⊢
        exact hgo _ _ (hd0.mp h2) (by rw [hopD, decide_eq_true h1]; rfl)
      · rw [h22] at h1 h2
        obtain ⟨b, hb, eb⟩ := haft h1
        rw [eb, eq0, t10, br_1 (by omega) (by omega)] at h2
        have := a.2
        rw [hopD, decide_eq_false h1, eb, nI_c (by omega), Bool.false_or] at this
        exact h2 this
      · rw [h22] at h1 h2 ⊢
        obtain ⟨b, hb, eb⟩ := haft h1
        rw [eb, eq0, t10, br_1 (by omega) (by omega)] at h2
        exact hgo _ _ (hd0.mp h3) (by rw [hopD, decide_eq_false h1, eb, nI_c (by omega), Bool.false_or]; exact h2)
  have := h2 (pT p) 0 (by omega) (I (q + 1)) hsn (fun _ _ h => h) (fun t' H h => absurd h (by omega))
  rw [vu_id] at this
  exact e6009 this

end L99
