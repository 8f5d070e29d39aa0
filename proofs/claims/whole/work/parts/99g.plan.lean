/-! plans: the reference, start, hands, ways -/
section L99ga
variable {I J : Nat → Nat → Int32} {p : qPa} {m : Nat} {x : Int32}
def elT (g : qPg) (h : Nat → Bool) (f : Nat → Nat) (t s : Nat) : Bool := h s && decide (f s = gTr g t)
def hfN (g : qPg) (d h : Nat → Bool) (f : Nat → Nat) (t : Nat) : Nat := if (d t = false ∧ gOp g d t = true) ∧ cb (lowS (elT g h f t) (gTh g t)) (gS g) = gTh g t then eB (lowS (elT g h f t) (gTh g t)) else 0
theorem cb_cut {A : Nat → Bool} {s : Nat} : ∀ n, s ≤ n → cb (fun i => A i && decide (i < s)) n = cb A s := by
  have h0 : cb (fun i => A i && decide (i < s)) s = cb A s := cb_cong s (fun i hi => by rw [decide_eq_true hi, Bool.and_true])
  intro n hn
  induction n with
  | zero => have : s = 0 := by omega
            subst this; rfl
  | succ n ih =>
    by_cases e : s = n + 1
    · rw [← e]; exact h0
    · rw [cb_s, ih (by omega), decide_eq_false (show ¬ n < s by omega), Bool.and_false, if_neg Bool.false_ne_true, Nat.add_zero]
def pO (j k : Nat) : Prop := pU j k ∨ (94 ≤ j ∧ j ≤ 96) ∨ (j = 73 ∧ k = 47)
theorem pO_Q {j k : Nat} (h : pO j k) : scQ j k := fun q => by unfold pO pU at h; unfold kpQ at q; omega
theorem rSt_fr (h : qFr (fun j k => (94 ≤ j ∧ j ≤ 96) ∨ (j = 73 ∧ k = 47)) I J) {d a : Nat → Bool} {r : Nat} {f : Nat → Nat} (s : rSt I d a r f) : rSt J d a r f := by
  obtain ⟨h1, h2, h3, h4⟩ := s
  refine ⟨?_, ?_, ?_, fun s hs => ?_⟩
  · rw [h 73 41 (by omega)]; exact h1
  · rw [h 73 42 (by omega)]; exact h2
  · rw [h 73 43 (by omega)]; exact h3
  · rw [h 93 s (by omega)]; exact h4 s hs
end L99ga
section L99g
variable {d : Nat} {K : qK} {I : Nat → Nat → Int32} {L : Nat → Nat → Int64} {R : Nat → Nat → Option Nat} {sz : Nat} {Q : Option Value → qMem → Prop} {p : qPa}
theorem e12076 {a : Int32}  (hK : qLay K sz) (hR : qRef R) (b1 : ∀ I1 : Nat → Nat → Int32, I1 = va_up I 73 (upd (I 73) 41 0) → vp_in (15 + a) 34) (q1 : ∀ I1 : Nat → Nat → Int32, I1 = va_up I 73 (upd (I 73) 41 0) → ∀ I3 : Nat → Nat → Int32, I3 = va_up I1 73 (upd (I1 73) 42 (I1 85 ((15 + a).toNatClampNeg))) → ∀ I5 : Nat → Nat → Int32, I5 = va_up I3 73 (upd (I3 73) 43 0) → X (d + 1) 0 0 12076 0 0 25 [some (.ref 73), some (.int a), some (.int 0)] [] (K, I5, L, R, sz) Q) : X (d + 1) 0 0 12076 0 0 0 (qent (qml 12076) [.ref 73, .int a]) [] (K, I, L, R, sz) Q := show X _ 0 0 12076 0 0 0 [some (.ref 73), some (.int a), none] [] _ _ from x_ald0 k12076_0 <| x_iconst (v := 0) k12076_1 rfl <| x_putI k12076_2 f12_369_11 (Or.inl rfl) (hK.at rfl) <| x_nm fun I1 e2 => x_ald0 k12076_5 <| x_ald0 k12076_6 <| x_getR k12076_7 f12_43_11 (hK.at rfl) rfl (hR _ _ _ rfl) <| x_ild1 k12076_10 <| x_cS1 (MCz := 0) (MSz := 0) k12076_11 s12_245 (Nat.le_of_ble_eq_true rfl) (Nat.le_of_ble_eq_true rfl) (Nat.le_refl _) (Nat.le_refl _) <| t12034 (x_iald k12076_14 (hK.at rfl) (b1 I1 e2) <| x_putI k12076_15 f12_372_11 (Or.inl rfl) (hK.at rfl) <| x_nm fun I3 e4 => x_ald0 k12076_18 <| x_iconst (v := 0) k12076_19 rfl <| x_putI k12076_20 f12_375_11 (Or.inl rfl) (hK.at rfl) <| x_nm fun I5 e6 => x_iconst (v := 0) k12076_23 rfl <| x_ist2 k12076_24 (Nat.le_of_ble_eq_true rfl) rfl <| (q1 I1 e2 I3 e4 I5 e6))
theorem g12076_25 {x1 : Int32} {x2 : Int32}  (hK : qLay K sz) (hR : qRef R) (b1 : ¬ 3 ≤ x2 → (I 73 24) ≤ x2 → vp_in x2 3) (b2 : ¬ 3 ≤ x2 → ¬ (I 73 24) ≤ x2 → vp_in (3 * x2 + 0) 34) (b3 : ¬ 3 ≤ x2 → ¬ (I 73 24) ≤ x2 → vp_in x2 3) (q1 : 3 ≤ x2 → X (d + 1) 0 0 12076 0 0 65 [some (.ref 73), some (.int x1), some (.int x2)] [.ref 73] (K, I, L, R, sz) Q) (q2 : ¬ 3 ≤ x2 → (I 73 24) ≤ x2 → ∀ I3 : Nat → Nat → Int32, I3 = va_up I 93 (upd (I 93) x2.toNatClampNeg 0) → X (d + 1) 0 0 12076 0 0 25 [some (.ref 73), some (.int x1), some (.int (x2 + 1))] [] (K, I3, L, R, sz) Q) (q3 : ¬ 3 ≤ x2 → ¬ (I 73 24) ≤ x2 → ∀ I5 : Nat → Nat → Int32, I5 = va_up I 93 (upd (I 93) x2.toNatClampNeg (I 85 ((3 * x2 + 0).toNatClampNeg))) → X (d + 1) 0 0 12076 0 0 25 [some (.ref 73), some (.int x1), some (.int (x2 + 1))] [] (K, I5, L, R, sz) Q) : X (d + 1) 0 0 12076 0 0 25 [some (.ref 73), some (.int x1), some (.int x2)] [] (K, I, L, R, sz) Q := x_ild2 k12076_25 <| x_iconst (v := 3) k12076_26 rfl <| x_icmpge (tgt := 64) k12076_27 (by decide) (fun h1 => x_ald0 k12076_64 <| (q1 h1)) (fun h1 => x_ald0 k12076_30 <| x_getR k12076_31 f12_76_11 (hK.at rfl) rfl (hR _ _ _ rfl) <| x_ild2 k12076_34 <| x_ild2 k12076_35 <| x_ald0 k12076_36 <| x_getI k12076_37 f12_289_11 (hK.at rfl) rfl <| x_icmpge (tgt := 56) k12076_40 (by decide) (fun h2 => x_iconst (v := 0) k12076_56 rfl <| x_iast k12076_57 (hK.at rfl) (b1 h1 h2) <| x_nm fun I3 e4 => x_inc2 (c := 1) k12076_58 rfl (Nat.le_of_ble_eq_true rfl) rfl <| x_goto (tgt := 25) k12076_61 (by decide) <| (q2 h1 h2 I3 e4)) (fun h2 => x_ald0 k12076_43 <| x_getR k12076_44 f12_43_11 (hK.at rfl) rfl (hR _ _ _ rfl) <| x_ild2 k12076_47 <| x_iconst (v := 0) k12076_48 rfl <| x_cS2 (MCz := 0) (MSz := 0) k12076_49 s12_238 (Nat.le_of_ble_eq_true rfl) (Nat.le_of_ble_eq_true rfl) (Nat.le_refl _) (Nat.le_refl _) <| t12033 (x_iald k12076_52 (hK.at rfl) (b2 h1 h2) <| x_goto (tgt := 57) k12076_53 (by decide) <| x_iast k12076_57 (hK.at rfl) (b3 h1 h2) <| x_nm fun I5 e6 => x_inc2 (c := 1) k12076_58 rfl (Nat.le_of_ble_eq_true rfl) rfl <| x_goto (tgt := 25) k12076_61 (by decide) <| (q3 h1 h2 I5 e6))))
theorem e12077 {a : Int32}  (hK : qLay K sz) (hR : qRef R) (b1 : vp_in (18 + 4 * a + 3) 34) (q1 : (((I 73 41) >>> (a &&& 31)) &&& 1) = 1 → Q (some (.int 0)) (K, I, L, R, sz)) (q2 : ¬ (((I 73 41) >>> (a &&& 31)) &&& 1) = 1 → (I 85 ((18 + 4 * a + 3).toNatClampNeg)) = (-1) → X (d + 1) 0 0 12077 0 0 45 [some (.ref 73), some (.int a), some (.int (I 85 ((18 + 4 * a + 3).toNatClampNeg))), some (.int 0), some (.int 0), none] [] (K, I, L, R, sz) Q) (q3 : ¬ (((I 73 41) >>> (a &&& 31)) &&& 1) = 1 → ¬ (I 85 ((18 + 4 * a + 3).toNatClampNeg)) = (-1) → (((I 73 41) >>> ((I 85 ((18 + 4 * a + 3).toNatClampNeg)) &&& 31)) &&& 1) = 1 → X (d + 1) 0 0 12077 0 0 45 [some (.ref 73), some (.int a), some (.int (I 85 ((18 + 4 * a + 3).toNatClampNeg))), some (.int 0), some (.int 0), none] [] (K, I, L, R, sz) Q) (q4 : ¬ (((I 73 41) >>> (a &&& 31)) &&& 1) = 1 → ¬ (I 85 ((18 + 4 * a + 3).toNatClampNeg)) = (-1) → ¬ (((I 73 41) >>> ((I 85 ((18 + 4 * a + 3).toNatClampNeg)) &&& 31)) &&& 1) = 1 → Q (some (.int 0)) (K, I, L, R, sz)) : X (d + 1) 0 0 12077 0 0 0 (qent (qml 12077) [.ref 73, .int a]) [] (K, I, L, R, sz) Q := show X _ 0 0 12077 0 0 0 [some (.ref 73), some (.int a), none, none, none, none] [] _ _ from x_ald0 k12077_0 <| x_getR k12077_1 f12_43_11 (hK.at rfl) rfl (hR _ _ _ rfl) <| x_ild1 k12077_4 <| x_iconst (v := 3) k12077_5 rfl <| x_cS2 (MCz := 0) (MSz := 0) k12077_6 s12_251 (Nat.le_of_ble_eq_true rfl) (Nat.le_of_ble_eq_true rfl) (Nat.le_refl _) (Nat.le_refl _) <| t12035 (x_iald k12077_9 (hK.at rfl) b1 <| x_ist2 k12077_10 (Nat.le_of_ble_eq_true rfl) rfl <| x_ald0 k12077_11 <| x_getI k12077_12 f12_369_11 (hK.at rfl) rfl <| x_ild1 k12077_15 <| x_cS2 (MCz := 0) (MSz := 0) k12077_16 s12_263 (Nat.le_of_ble_eq_true rfl) (Nat.le_of_ble_eq_true rfl) (Nat.le_refl _) (Nat.le_refl _) <| t12001 (fun g1 => x_ifneT (tgt := 38) k12077_19 (by decide) (show ¬ (1 : Int32) = 0 by decide) <| x_iconst (v := 0) k12077_38 rfl <| x_iret k12077_39 rfl (Nat.le_refl _) (Nat.le_refl _) <| (q1 g1)) (fun g2 => x_ifneF (tgt := 38) k12077_19 (by decide) (show (0 : Int32) = 0 by decide) <| x_ild2 k12077_22 <| x_iconst (v := (-1)) k12077_23 rfl <| x_icmpeq (tgt := 40) k12077_24 (by decide) (fun h3 => x_iconst (v := 0) k12077_40 rfl <| x_ist3 k12077_41 (Nat.le_of_ble_eq_true rfl) rfl <| x_iconst (v := 0) k12077_42 rfl <| x_ist4 k12077_43 (Nat.le_of_ble_eq_true rfl) rfl <| (q2 g2 h3)) (fun h3 => x_ald0 k12077_27 <| x_getI k12077_28 f12_369_11 (hK.at rfl) rfl <| x_ild2 k12077_31 <| x_cS2 (MCz := 0) (MSz := 0) k12077_32 s12_263 (Nat.le_of_ble_eq_true rfl) (Nat.le_of_ble_eq_true rfl) (Nat.le_refl _) (Nat.le_refl _) <| t12001 (fun g4 => x_ifneT (tgt := 40) k12077_35 (by decide) (show ¬ (1 : Int32) = 0 by decide) <| x_iconst (v := 0) k12077_40 rfl <| x_ist3 k12077_41 (Nat.le_of_ble_eq_true rfl) rfl <| x_iconst (v := 0) k12077_42 rfl <| x_ist4 k12077_43 (Nat.le_of_ble_eq_true rfl) rfl <| (q3 g2 h3 g4)) (fun g5 => x_ifneF (tgt := 40) k12077_35 (by decide) (show (0 : Int32) = 0 by decide) <| x_iconst (v := 0) k12077_38 rfl <| x_iret k12077_39 rfl (Nat.le_refl _) (Nat.le_refl _) <| (q4 g2 h3 g5)))))
theorem g12077_45 {x1 : Int32} {x2 : Int32} {x3 : Int32} {x4 : Int32}  (hK : qLay K sz) (hR : qRef R) (b1 : (I 73 24) ≤ x4 → vp_in (18 + 4 * x1 + 1) 34) (b2 : ¬ (I 73 24) ≤ x4 → (((I 73 43) >>> (x4 &&& 31)) &&& 1) = 1 → vp_in x4 3) (b3 : ¬ (I 73 24) ≤ x4 → (((I 73 43) >>> (x4 &&& 31)) &&& 1) = 1 → vp_in (18 + 4 * x1 + 0) 34) (b4 : ¬ (I 73 24) ≤ x4 → (((I 73 43) >>> (x4 &&& 31)) &&& 1) = 1 → (I 93 x4.toNatClampNeg) = (I 85 ((18 + 4 * x1 + 0).toNatClampNeg)) → vp_in (18 + 4 * x1 + 1) 34) (q1 : (I 73 24) ≤ x4 → ¬ (bc x3) = (I 85 ((18 + 4 * x1 + 1).toNatClampNeg)) → Q (some (.int 0)) (K, I, L, R, sz)) (q2 : (I 73 24) ≤ x4 → (bc x3) = (I 85 ((18 + 4 * x1 + 1).toNatClampNeg)) → Q (some (.int x3)) (K, I, L, R, sz)) (q3 : ¬ (I 73 24) ≤ x4 → (((I 73 43) >>> (x4 &&& 31)) &&& 1) = 1 → ¬ (I 93 x4.toNatClampNeg) = (I 85 ((18 + 4 * x1 + 0).toNatClampNeg)) → X (d + 1) 0 0 12077 0 0 45 [some (.ref 73), some (.int x1), some (.int x2), some (.int (x3 ||| 0)), some (.int (x4 + 1)), none] [] (K, I, L, R, sz) Q) (q4 : ¬ (I 73 24) ≤ x4 → (((I 73 43) >>> (x4 &&& 31)) &&& 1) = 1 → (I 93 x4.toNatClampNeg) = (I 85 ((18 + 4 * x1 + 0).toNatClampNeg)) → (I 85 ((18 + 4 * x1 + 1).toNatClampNeg)) ≤ (bc x3) → X (d + 1) 0 0 12077 0 0 45 [some (.ref 73), some (.int x1), some (.int x2), some (.int (x3 ||| 0)), some (.int (x4 + 1)), none] [] (K, I, L, R, sz) Q) (q5 : ¬ (I 73 24) ≤ x4 → (((I 73 43) >>> (x4 &&& 31)) &&& 1) = 1 → (I 93 x4.toNatClampNeg) = (I 85 ((18 + 4 * x1 + 0).toNatClampNeg)) → ¬ (I 85 ((18 + 4 * x1 + 1).toNatClampNeg)) ≤ (bc x3) → X (d + 1) 0 0 12077 0 0 45 [some (.ref 73), some (.int x1), some (.int x2), some (.int (x3 ||| (1 <<< (x4 &&& 31)))), some (.int (x4 + 1)), none] [] (K, I, L, R, sz) Q) (q6 : ¬ (I 73 24) ≤ x4 → ¬ (((I 73 43) >>> (x4 &&& 31)) &&& 1) = 1 → X (d + 1) 0 0 12077 0 0 45 [some (.ref 73), some (.int x1), some (.int x2), some (.int (x3 ||| 0)), some (.int (x4 + 1)), none] [] (K, I, L, R, sz) Q) : X (d + 1) 0 0 12077 0 0 45 [some (.ref 73), some (.int x1), some (.int x2), some (.int x3), some (.int x4), none] [] (K, I, L, R, sz) Q := x_ild4 k12077_45 <| x_ald0 k12077_47 <| x_getI k12077_48 f12_289_11 (hK.at rfl) rfl <| x_icmpge (tgt := 132) k12077_51 (by decide) (fun h1 => x_ild3 k12077_132 <| x_cS1 (MCz := 0) (MSz := 0) k12077_133 s12_354 (Nat.le_of_ble_eq_true rfl) (Nat.le_of_ble_eq_true rfl) (Nat.le_refl _) (Nat.le_refl _) <| s14000 (x_ald0 k12077_136 <| x_getR k12077_137 f12_43_11 (hK.at rfl) rfl (hR _ _ _ rfl) <| x_ild1 k12077_140 <| x_iconst (v := 1) k12077_141 rfl <| x_cS2 (MCz := 0) (MSz := 0) k12077_142 s12_251 (Nat.le_of_ble_eq_true rfl) (Nat.le_of_ble_eq_true rfl) (Nat.le_refl _) (Nat.le_refl _) <| t12035 (x_iald k12077_145 (hK.at rfl) (b1 h1) <| x_icmpne (tgt := 153) k12077_146 (by decide) (fun h2 => x_iconst (v := 0) k12077_153 rfl <| x_iret k12077_154 rfl (Nat.le_refl _) (Nat.le_refl _) <| (q1 h1 h2)) (fun h2 => x_ild3 k12077_149 <| x_goto (tgt := 154) k12077_150 (by decide) <| x_iret k12077_154 rfl (Nat.le_refl _) (Nat.le_refl _) <| (q2 h1 h2))))) (fun h1 => x_ald0 k12077_54 <| x_getI k12077_55 f12_375_11 (hK.at rfl) rfl <| x_ild4 k12077_58 <| x_cS2 (MCz := 0) (MSz := 0) k12077_60 s12_263 (Nat.le_of_ble_eq_true rfl) (Nat.le_of_ble_eq_true rfl) (Nat.le_refl _) (Nat.le_refl _) <| t12001 (fun g3 => x_ifeqF (tgt := 107) k12077_63 (by decide) (show ¬ (1 : Int32) = 0 by decide) <| x_ald0 k12077_66 <| x_getR k12077_67 f12_76_11 (hK.at rfl) rfl (hR _ _ _ rfl) <| x_ild4 k12077_70 <| x_iald k12077_72 (hK.at rfl) (b2 h1 g3) <| x_ald0 k12077_73 <| x_getR k12077_74 f12_43_11 (hK.at rfl) rfl (hR _ _ _ rfl) <| x_ild1 k12077_77 <| x_iconst (v := 0) k12077_78 rfl <| x_cS2 (MCz := 0) (MSz := 0) k12077_79 s12_251 (Nat.le_of_ble_eq_true rfl) (Nat.le_of_ble_eq_true rfl) (Nat.le_refl _) (Nat.le_refl _) <| t12035 (x_iald k12077_82 (hK.at rfl) (b3 h1 g3) <| x_icmpne (tgt := 107) k12077_83 (by decide) (fun h4 => x_iconst (v := 0) k12077_107 rfl <| x_ist5 k12077_108 (Nat.le_of_ble_eq_true rfl) rfl <| x_ild3 k12077_110 <| x_ild5 k12077_111 <| x_ifeqT (tgt := 123) k12077_113 (by decide) (show (0 : Int32) = 0 by decide) <| x_iconst (v := 0) k12077_123 rfl <| x_ior k12077_124 <| x_ist3 k12077_125 (Nat.le_of_ble_eq_true rfl) rfl <| x_inc4 (c := 1) k12077_126 rfl (Nat.le_of_ble_eq_true rfl) rfl <| x_goto (tgt := 45) k12077_129 (by decide) <| x_wk (ls := [some (.ref 73), some (.int x1), some (.int x2), some (.int (x3 ||| 0)), some (.int (x4 + 1)), none]) ⟨rfl, ⟨rfl, ⟨rfl, ⟨rfl, ⟨rfl, True.intro⟩⟩⟩⟩⟩ <| (q3 h1 g3 h4)) (fun h4 => x_ild3 k12077_86 <| x_cS1 (MCz := 0) (MSz := 0) k12077_87 s12_354 (Nat.le_of_ble_eq_true rfl) (Nat.le_of_ble_eq_true rfl) (Nat.le_refl _) (Nat.le_refl _) <| s14000 (x_ald0 k12077_90 <| x_getR k12077_91 f12_43_11 (hK.at rfl) rfl (hR _ _ _ rfl) <| x_ild1 k12077_94 <| x_iconst (v := 1) k12077_95 rfl <| x_cS2 (MCz := 0) (MSz := 0) k12077_96 s12_251 (Nat.le_of_ble_eq_true rfl) (Nat.le_of_ble_eq_true rfl) (Nat.le_refl _) (Nat.le_refl _) <| t12035 (x_iald k12077_99 (hK.at rfl) (b4 h1 g3 h4) <| x_icmpge (tgt := 107) k12077_100 (by decide) (fun h5 => x_iconst (v := 0) k12077_107 rfl <| x_ist5 k12077_108 (Nat.le_of_ble_eq_true rfl) rfl <| x_ild3 k12077_110 <| x_ild5 k12077_111 <| x_ifeqT (tgt := 123) k12077_113 (by decide) (show (0 : Int32) = 0 by decide) <| x_iconst (v := 0) k12077_123 rfl <| x_ior k12077_124 <| x_ist3 k12077_125 (Nat.le_of_ble_eq_true rfl) rfl <| x_inc4 (c := 1) k12077_126 rfl (Nat.le_of_ble_eq_true rfl) rfl <| x_goto (tgt := 45) k12077_129 (by decide) <| x_wk (ls := [some (.ref 73), some (.int x1), some (.int x2), some (.int (x3 ||| 0)), some (.int (x4 + 1)), none]) ⟨rfl, ⟨rfl, ⟨rfl, ⟨rfl, ⟨rfl, True.intro⟩⟩⟩⟩⟩ <| (q4 h1 g3 h4 h5)) (fun h5 => x_iconst (v := 1) k12077_103 rfl <| x_goto (tgt := 108) k12077_104 (by decide) <| x_ist5 k12077_108 (Nat.le_of_ble_eq_true rfl) rfl <| x_ild3 k12077_110 <| x_ild5 k12077_111 <| x_ifeqF (tgt := 123) k12077_113 (by decide) (show ¬ (1 : Int32) = 0 by decide) <| x_iconst (v := 1) k12077_116 rfl <| x_ild4 k12077_117 <| x_ishl k12077_119 <| x_goto (tgt := 124) k12077_120 (by decide) <| x_ior k12077_124 <| x_ist3 k12077_125 (Nat.le_of_ble_eq_true rfl) rfl <| x_inc4 (c := 1) k12077_126 rfl (Nat.le_of_ble_eq_true rfl) rfl <| x_goto (tgt := 45) k12077_129 (by decide) <| x_wk (ls := [some (.ref 73), some (.int x1), some (.int x2), some (.int (x3 ||| (1 <<< (x4 &&& 31)))), some (.int (x4 + 1)), none]) ⟨rfl, ⟨rfl, ⟨rfl, ⟨rfl, ⟨rfl, True.intro⟩⟩⟩⟩⟩ <| (q5 h1 g3 h4 h5))))))) (fun g6 => x_ifeqT (tgt := 107) k12077_63 (by decide) (show (0 : Int32) = 0 by decide) <| x_iconst (v := 0) k12077_107 rfl <| x_ist5 k12077_108 (Nat.le_of_ble_eq_true rfl) rfl <| x_ild3 k12077_110 <| x_ild5 k12077_111 <| x_ifeqT (tgt := 123) k12077_113 (by decide) (show (0 : Int32) = 0 by decide) <| x_iconst (v := 0) k12077_123 rfl <| x_ior k12077_124 <| x_ist3 k12077_125 (Nat.le_of_ble_eq_true rfl) rfl <| x_inc4 (c := 1) k12077_126 rfl (Nat.le_of_ble_eq_true rfl) rfl <| x_goto (tgt := 45) k12077_129 (by decide) <| x_wk (ls := [some (.ref 73), some (.int x1), some (.int x2), some (.int (x3 ||| 0)), some (.int (x4 + 1)), none]) ⟨rfl, ⟨rfl, ⟨rfl, ⟨rfl, ⟨rfl, True.intro⟩⟩⟩⟩⟩ <| (q6 h1 g6)))
theorem s12076 {m : Nat} {x : Int32} (hK : qLay K sz) (hR : qRef R) (cI : CI I p) (rI : RI I p) (hf : fewH p) (hm : m < pM p) (hq : ∀ J, qFr pU I J → Q (some (.int (nI (rcd (fun _ => false) (fun _ => false) (g0r (gQ I p m x)) (g0f (gQ I p m x)))))) (K, J, L, R, sz)) : X (d + 2) 0 0 12076 0 0 0 (qent (qml 12076) [.ref 73, .int (nI m)]) [] (K, I, L, R, sz) Q := by
  have w3 := cI.w3
  obtain ⟨f1, f2⟩ := hf
  have hg0 := @gQ_r I p m x cI hm
  have hgs : ∀ s, pS p ≤ s → g0f (gQ I p m x) s = 0 := fun s hs => by
    show (if s < pS p then (I (24 + s) 0).toNatClampNeg else 0) = 0
    rw [if_neg (Nat.not_lt.mpr hs)]
  have ok : okR (fun _ => false) (fun _ => false) (g0r (gQ I p m x)) (g0f (gQ I p m x)) := by
    refine ⟨fun _ _ => rfl, fun _ _ => rfl, by omega, fun s hs => ?_, fun s hs => hgs s (by omega)⟩
    by_cases c : s < pS p
    · have := (@gQ_s I p m x cI s c).2; omega
    · rw [hgs s (by omega)]; omega
  have lS : I 73 24 = nI (pS p) := rI.mS cI
  have h25 : ∀ (k s : Nat), s + k = 3 → ∀ J, qFr pU I J → J 73 41 = 0 → J 73 42 = nI (g0r (gQ I p m x)) → J 73 43 = 0 → (∀ s', s' < s → J 93 s' = nI (g0f (gQ I p m x) s')) → X (d + 2) 0 0 12076 0 0 25 [some (.ref 73), some (.int (nI m)), some (.int (nI s))] [] (K, J, L, R, sz) Q := by
    intro k
    induction k with
    | zero =>
      intro s hs J hJ j1 j2 j3 j4
      have : s = 3 := by omega
      subst this
      have hle : (3 : Int32) ≤ nI 3 := by decide
      refine g12076_25 (d := d + 1) hK hR (fun h => absurd hle h) (fun h => absurd hle h) (fun h => absurd hle h) (fun _ => ?_) (fun h => absurd hle h) (fun h => absurd hle h)
      refine x_cV0 (MCz := 0) (MSz := 0) k12076_65 v12_378_11 (hK.at rfl) (Nat.le_of_ble_eq_true rfl) (Nat.le_of_ble_eq_true rfl) (Nat.le_refl _) (Nat.le_refl _) <| s12074 (d := d) hK hR ok ⟨j1, j2, j3, j4⟩ ?_
      exact x_iret k12076_68 rfl (Nat.le_refl _) (Nat.le_refl _) (hq J hJ)
    | succ k ih =>
      intro s hs J hJ j1 j2 j3 j4
      have hnl : ¬ (3 : Int32) ≤ nI s := nI_ge (b := 3) (by omega) (by omega)
      have ec : (nI s).toNatClampNeg = s := nI_c (by omega)
      have lSJ : J 73 24 = nI (pS p) := by rw [hJ 73 24 (by unfold pU; omega)]; exact lS
      have hss : J 73 24 ≤ nI s ↔ pS p ≤ s := by rw [lSJ, nI_leI (by omega) (by omega)]
      have e3 : 3 * nI s + 0 = nI (3 * s) := by rw [Int32.add_zero, show (3 : Int32) = nI 3 from rfl, pk_mul]
      have hnx : ∀ v, v = nI (g0f (gQ I p m x) s) → X (d + 2) 0 0 12076 0 0 25 [some (.ref 73), some (.int (nI m)), some (.int (nI s + 1))] [] (K, va_up J 93 (upd (J 93) s v), L, R, sz) Q := fun v hv => by
        rw [nI_1]
        refine ih (s + 1) (by omega) _ (hJ.trans (qFr.up (fun k => Or.inl rfl))) j1 j2 j3 (fun s' hs' => ?_)
        rw [vu_s]; unfold upd
        by_cases c : s' = s
        · rw [if_pos c, hv, c]
        · rw [if_neg c]; exact j4 s' (by omega)
      refine g12076_25 (d := d + 1) hK hR (fun _ _ => vI (by omega) (by omega)) (fun _ _ => by rw [e3]; exact vI (by omega) (by omega)) (fun _ _ => vI (by omega) (by omega)) (fun h => absurd h hnl) (fun _ h A hA => ?_) (fun _ h A hA => ?_)
      · rw [hss] at h
        rw [hA, ec]
        exact hnx 0 (by rw [hgs s h]; rfl)
      · rw [hss] at h
        rw [hA, ec, e3, nI_c (by omega), hJ 85 _ (by unfold pU; omega)]
        refine hnx _ ?_
        have r0 : I 85 (3 * s) = I (24 + s) 0 := rI.2.1.1 s 0 (by omega) (by omega) (by omega)
        rw [r0]
        exact (@gQ_s I p m x cI s (by omega)).1
  have e15 : (15 : Int32) + nI m = nI (15 + m) := by rw [show (15 : Int32) = nI 15 from rfl, nI_add]
  refine e12076 (d := d + 1) hK hR (fun _ _ => by rw [e15]; exact vI (by omega) (by omega)) (fun A hA B hB C hC => ?_)
  have A85 : A 85 = I 85 := by rw [hA, vu_n (by decide)]
  rw [e15, nI_c (by omega), A85, rI.2.1.2.1 m (by omega) (by omega), hg0.1] at hB
  have A73 : A 73 = upd (I 73) 41 0 := by rw [hA, vu_s]
  have B73 : B 73 = upd (A 73) 42 (nI (g0r (gQ I p m x))) := by rw [hB, vu_s]
  have C73 : C 73 = upd (B 73) 43 0 := by rw [hC, vu_s]
  have u73 : ∀ {P : Nat → Nat → Int32} {c : Nat} {w : Int32}, 41 ≤ c → c ≤ 43 → qFr pU P (va_up P 73 (upd (P 73) c w)) := fun h1 h2 => qFr.up1 (Or.inr ⟨rfl, h1, h2⟩)
  refine h25 3 0 (by omega) C ?_ (by rw [C73, B73, A73]; rfl) (by rw [C73, B73]; rfl) (by rw [C73]; rfl) (fun s' h => absurd h (by omega))
  rw [hC]; refine qFr.trans ?_ (u73 (by omega) (by omega))
  rw [hB]; refine qFr.trans ?_ (u73 (by omega) (by omega))
  rw [hA]; exact u73 (by omega) (by omega)
theorem s12077 {m t : Nat} {x : Int32} {dd h : Nat → Bool} {r : Nat} {f : Nat → Nat} (hK : qLay K sz) (hR : qRef R) (cI : CI I p) (rI : RI I p) (hf : fewH p) (o : okS (gQ I p m x) dd h r f) (st : rSt I dd h r f) (ht : t < pT p) (hq : Q (some (.int (nI (hfN (gQ I p m x) dd h f t)))) (K, I, L, R, sz)) : X (d + 1) 0 0 12077 0 0 0 (qent (qml 12077) [.ref 73, .int (nI t)]) [] (K, I, L, R, sz) Q := by
  obtain ⟨f1, f2⟩ := hf
  have w4 : pT p ≤ 4 := cI.1.2.1.2.2.2
  obtain ⟨o1, o2, o3, o4, o5⟩ := o
  obtain ⟨t1, t2, t3, t4⟩ := st
  have lS : I 73 24 = nI (pS p) := rI.mS cI
  obtain ⟨d1, d2⟩ := eB_bt (A := dd) (n := 4) (by omega) (fun s hs => o1 s (by show pT p ≤ s; omega))
  obtain ⟨h1, h2⟩ := eB_bt (A := h) (n := 3) (by omega) (fun s hs => o2 s (by show pS p ≤ s; omega))
  have hd16 : eB dd < 16 := d1
  have hh8 : eB h < 8 := h1
  obtain ⟨q0, q1, q2, q3, q4, q5, q6, q7⟩ := @gQ_t I p m x cI t ht
  have r85 : ∀ k, k < 4 → I 85 (18 + 4 * t + k) = I (34 + t) k := fun k hk => rI.2.1.2.2 t k (by omega) (by omega) hk
  have ix : ∀ k, k < 4 → (18 + 4 * nI t + nI k : Int32) = nI (18 + 4 * t + k) := fun k _ => e18 t k
  have ixc : ∀ k, k < 4 → I 85 ((18 + 4 * nI t + nI k : Int32).toNatClampNeg) = I (34 + t) k := fun k hk => by rw [ix k hk, nI_c (by omega), r85 k hk]
  have ixv : ∀ k, k < 4 → vp_in (18 + 4 * nI t + nI k) 34 := fun k hk => by rw [ix k hk]; exact vI (by omega) (by omega)
  have hbd : ((I 73 41 >>> (nI t &&& 31)) &&& 1) = 1 ↔ dd t = true := by rw [t1, br_1 (by omega) (by omega), d2]
  obtain ⟨e, he⟩ : ∃ e, e = elT (gQ I p m x) h f t := ⟨_, rfl⟩
  obtain ⟨n, hn⟩ : ∃ n, n = gTh (gQ I p m x) t := ⟨_, rfl⟩
  have hz : ∀ s, pS p ≤ s → lowS e n s = false := fun s hs => by
    have : h s = false := o2 s hs
    rw [he]; unfold lowS elT; rw [this]; rfl
  have hB : ∀ s, eB (fun i => lowS e n i && decide (i < s)) < 8 ∧ bt (eB (fun i => lowS e n i && decide (i < s))) = fun i => lowS e n i && decide (i < s) := fun s => eB_bt (n := 3) (by omega) (fun i hi => by rw [hz i (by omega)]; rfl)
  have hcb : ∀ s, s ≤ 3 → bc (nI (eB (fun i => lowS e n i && decide (i < s)))) = nI (cb (lowS e n) s) := fun s hs => by
    have a := bc_d ⟨eB (fun i => lowS e n i && decide (i < s)), (hB s).1⟩
    rw [show (⟨eB (fun i => lowS e n i && decide (i < s)), (hB s).1⟩ : Fin 8).val = eB (fun i => lowS e n i && decide (i < s)) from rfl, (hB s).2, cb_cut 3 hs] at a
    exact a
  have hfin : (dd t = false ∧ gOp (gQ I p m x) dd t = true) → ∀ (k s : Nat), s + k = pS p → ∀ x2, X (d + 1) 0 0 12077 0 0 45 [some (.ref 73), some (.int (nI t)), some (.int x2), some (.int (nI (eB (fun i => lowS e n i && decide (i < s))))), some (.int (nI s)), none] [] (K, I, L, R, sz) Q := by
    intro hop k
    induction k with
    | zero =>
      intro s hs x2
      have : s = pS p := by omega
      subst this
      have hle : I 73 24 ≤ nI (pS p) := by rw [lS]; exact nI_le (Nat.le_refl _) (by omega)
      have hall : (fun i => lowS e n i && decide (i < pS p)) = lowS e n := by
        funext i
        by_cases c : i < pS p
        · rw [decide_eq_true c, Bool.and_true]
        · rw [hz i (by omega)]; rfl
      have hcnd : bc (nI (eB (fun i => lowS e n i && decide (i < pS p)))) = I 85 ((18 + 4 * nI t + nI 1 : Int32).toNatClampNeg) ↔ cb (lowS e n) (pS p) = n := by
        rw [hcb _ (by omega), ixc 1 (by omega), q2, hn, nI_eq (by have := cb_le (lowS e (gTh (gQ I p m x) t)) (pS p); omega) (by omega)]
      unfold hfN at hq
      rw [← he, ← hn] at hq
      refine g12077_45 hK hR (fun _ => ixv 1 (by omega)) (fun h => absurd hle h) (fun h => absurd hle h) (fun h => absurd hle h) (fun _ hc => ?_) (fun _ hc => ?_) (fun h => absurd hle h) (fun h => absurd hle h) (fun h => absurd hle h) (fun h => absurd hle h)
      · rw [if_neg (fun z => hc (hcnd.mpr z.2))] at hq; exact hq
      · rw [if_pos ⟨hop, hcnd.mp hc⟩] at hq
        rw [hall]; exact hq
    | succ k ih =>
      intro s hs x2
      have hnl : ¬ I 73 24 ≤ nI s := by rw [lS]; exact nI_ge (by omega) (by omega)
      have ec : (nI s).toNatClampNeg = s := nI_c (by omega)
      have hbs : ((I 73 43 >>> (nI s &&& 31)) &&& 1) = 1 ↔ h s = true := by rw [t3, br_1 (by omega) (by omega), h2]
      have hfs : f s < 5 := by have := o4 s (by show s < pS p; omega); have e : gR (gQ I p m x) = pR p := rfl; omega
      have hsp : I 93 (nI s).toNatClampNeg = I 85 ((18 + 4 * nI t + nI 0 : Int32).toNatClampNeg) ↔ f s = gTr (gQ I p m x) t := by
        rw [ec, t4 s (by omega), ixc 0 (by omega), q0, nI_eq (by omega) (by omega)]
      have hct := lowS_cb e n s
      have hce := cb_le e s
      have hcl := cb_le (lowS e n) s
      have hcn : I 85 ((18 + 4 * nI t + nI 1 : Int32).toNatClampNeg) ≤ bc (nI (eB (fun i => lowS e n i && decide (i < s)))) ↔ n ≤ cb e s := by
        rw [hcb s (by omega), ixc 1 (by omega), q2, ← hn, nI_leI (by omega) (by omega), hct]
        split <;> omega
      have hskip : lowS e n s = false → ∀ x2, X (d + 1) 0 0 12077 0 0 45 [some (.ref 73), some (.int (nI t)), some (.int x2), some (.int (nI (eB (fun i => lowS e n i && decide (i < s))) ||| 0)), some (.int (nI s + 1)), none] [] (K, I, L, R, sz) Q := fun hl x2 => by
        have : (fun i => lowS e n i && decide (i < s + 1)) = fun i => lowS e n i && decide (i < s) := by
          funext i
          by_cases c : i = s
          · rw [c, hl]; rfl
          · by_cases c2 : i < s
            · rw [decide_eq_true c2, decide_eq_true (show i < s + 1 by omega)]
            · rw [decide_eq_false c2, decide_eq_false (show ¬ i < s + 1 by omega)]
        have hih := ih (s + 1) (by omega) x2
        rw [this] at hih
        rw [Int32.or_zero, nI_1]; exact hih
      have hes : e s = (h s && decide (f s = gTr (gQ I p m x) t)) := by rw [he]; rfl
      refine g12077_45 hK hR (fun h => absurd h hnl) (fun _ _ => vI (by omega) (by omega)) (fun _ _ => ixv 0 (by omega)) (fun _ _ _ => ixv 1 (by omega)) (fun h => absurd h hnl) (fun h => absurd h hnl) (fun _ a b => ?_) (fun _ a b c => ?_) (fun _ a b c => ?_) (fun _ a => ?_)
      · refine hskip ?_ x2
        have b' : ¬ f s = gTr (gQ I p m x) t := fun z => b (hsp.mpr z)
        unfold lowS; rw [hes, decide_eq_false b', Bool.and_false]; rfl
      · refine hskip ?_ x2
        have c' := hcn.mp c
        unfold lowS; rw [decide_eq_false (show ¬ cb e s < n by omega), Bool.and_false]
      · have c' : ¬ n ≤ cb e s := fun z => c (hcn.mpr z)
        have hl : lowS e n s = true := by
          unfold lowS
          rw [hes, hbs.mp a, decide_eq_true (hsp.mp b), decide_eq_true (show cb e s < n by omega)]; rfl
        have hbn : bt (eB (fun i => lowS e n i && decide (i < s))) s = false := by
          rw [(hB s).2]; show (lowS e n s && decide (s < s)) = false
          rw [decide_eq_false (Nat.lt_irrefl s), Bool.and_false]
        have hup : (fun i => lowS e n i && decide (i < s + 1)) = va_up (fun i => lowS e n i && decide (i < s)) s true := by
          funext i
          by_cases c : i = s
          · subst c; rw [vu_s, hl, decide_eq_true (Nat.lt_succ_self i)]; rfl
          · rw [vu_n c]
            by_cases c2 : i < s
            · rw [decide_eq_true c2, decide_eq_true (show i < s + 1 by omega)]
            · rw [decide_eq_false c2, decide_eq_false (show ¬ i < s + 1 by omega)]
        have hih := ih (s + 1) (by omega) x2
        rw [hup, eB_up (n := 3) (by omega) (fun i hi => by rw [hz i (by omega)]; rfl) (by omega) (by show (lowS e n s && decide (s < s)) = false; rw [decide_eq_false (Nat.lt_irrefl s), Bool.and_false])] at hih
        rw [br_o (by have := (hB s).1; omega) (by omega) hbn, nI_1]
        exact hih
      · refine hskip ?_ x2
        have a' : h s = false := by cases z : h s; rfl; exact absurd (hbs.mpr z) a
        unfold lowS; rw [hes, a']; rfl
  have h0 : eB (fun i => lowS e n i && decide (i < 0)) = 0 := by
    have : (fun i => lowS e n i && decide (i < 0)) = fun _ => false := by funext i; rw [decide_eq_false (Nat.not_lt_zero i), Bool.and_false]
    rw [this]; decide
  have hgo : ∀ x2, (dd t = false ∧ gOp (gQ I p m x) dd t = true) → X (d + 1) 0 0 12077 0 0 45 [some (.ref 73), some (.int (nI t)), some (.int x2), some (.int 0), some (.int 0), none] [] (K, I, L, R, sz) Q := fun x2 hop => by
    have := hfin hop (pS p) 0 (by omega) x2
    rw [h0] at this; exact this
  have hno : ¬ (dd t = false ∧ gOp (gQ I p m x) dd t = true) → Q (some (.int 0)) (K, I, L, R, sz) := fun hop => by
    unfold hfN at hq
    rw [if_neg (fun z => hop z.1)] at hq; exact hq
  have hopD : gOp (gQ I p m x) dd t = (decide (I (34 + t) 3 = -1) || dd (I (34 + t) 3).toNatClampNeg) := by
    show (decide (t < 4) && (decide (I (34 + t) 3 = -1) || dd (I (34 + t) 3).toNatClampNeg)) = _
    rw [decide_eq_true (show t < 4 by omega), Bool.true_and]
  have i3 : I 85 ((18 + 4 * nI t + 3 : Int32).toNatClampNeg) = I (34 + t) 3 := ixc 3 (by omega)
  have haft : ¬ I (34 + t) 3 = -1 → ∃ a, a < t ∧ I (34 + t) 3 = nI a := fun h => (cI.1.2.2.2.2 t ht).2.2.2.resolve_left h
  refine e12077 hK hR (ixv 3 (by omega)) (fun a => ?_) (fun a b => ?_) (fun a b c => ?_) (fun a b c => ?_)
  · exact hno (fun z => by rw [hbd.mp a] at z; exact absurd z.1 (by decide))
  · rw [i3] at b ⊢
    have a' : dd t = false := by cases z : dd t; rfl; exact absurd (hbd.mpr z) a
    exact hgo _ ⟨a', by rw [hopD, decide_eq_true b]; rfl⟩
  · rw [i3] at b c ⊢
    have a' : dd t = false := by cases z : dd t; rfl; exact absurd (hbd.mpr z) a
    obtain ⟨y, hy, ey⟩ := haft b
    rw [ey, t1, br_1 (by omega) (by omega), d2] at c
    exact hgo _ ⟨a', by rw [hopD, decide_eq_false b, ey, nI_c (by omega), Bool.false_or]; exact c⟩
  · rw [i3] at b c
    obtain ⟨y, hy, ey⟩ := haft b
    rw [ey, t1, br_1 (by omega) (by omega), d2] at c
    exact hno (fun z => c (by have := z.2; rw [hopD, decide_eq_false b, ey, nI_c (by omega), Bool.false_or] at this; exact this))

end L99g
