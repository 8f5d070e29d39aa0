/-! fewest -/
def rc1 (may : Int32 → Nat → Prop) (b : Int32) (s k : Nat) : Prop := ∃ m, m < k ∧ bitP b m ∧ may (nI m) s
def rcE (may : Int32 → Nat → Prop) (p : qPa) (b : Int32) : Prop := ∀ s, s < pS p → rc1 may b s (pM p)
noncomputable def fFewest (I : Nat → Nat → Int32) (p : qPa) : Int32 := alB (fun b => ¬ b = 0 ∧ rcE (mayC I) p b) (2 ^ pM p)
theorem rc1_y {may : Int32 → Nat → Prop} {b : Int32} {s k : Nat} (h1 : bitP b k) (h2 : may (nI k) s) : rc1 may b s (k + 1) := ⟨k, Nat.lt_succ_self k, h1, h2⟩
theorem rc1_n {may : Int32 → Nat → Prop} {b : Int32} {s k : Nat} (h : ¬ (bitP b k ∧ may (nI k) s)) : rc1 may b s (k + 1) ↔ rc1 may b s k := by
  constructor
  · rintro ⟨m, h1, h2, h3⟩
    by_cases hm : m = k
    · subst hm; exact absurd ⟨h2, h3⟩ h
    · exact ⟨m, by omega, h2, h3⟩
  · rintro ⟨m, h1, h2⟩; exact ⟨m, by omega, h2⟩
theorem rc1_up {may : Int32 → Nat → Prop} {b : Int32} {s k : Nat} (h : rc1 may b s k) : rc1 may b s (k + 1) := by
  obtain ⟨m, h1, h2⟩ := h
  exact ⟨m, by omega, h2⟩
theorem rcE_cong {may may' : Int32 → Nat → Prop} {p : qPa} {b : Int32} (h : ∀ m s, s < pS p → (may' m s ↔ may m s)) : rcE may' p b ↔ rcE may p b := by
  constructor
  · intro q s hs
    obtain ⟨m, h1, h2, h3⟩ := q s hs
    exact ⟨m, h1, h2, (h _ s hs).mp h3⟩
  · intro q s hs
    obtain ⟨m, h1, h2, h3⟩ := q s hs
    exact ⟨m, h1, h2, (h _ s hs).mpr h3⟩
section L48
variable {d : Nat} {K : qK} {I : Nat → Nat → Int32} {L : Nat → Nat → Int64} {R : Nat → Nat → Option Nat} {sz : Nat} {Q : Option Value → qMem → Prop} {p : qPa}
theorem e11050 {a : Int32}    (q1 : X d 0 0 11050 0 0 2 [some (.ref 0), some (.int a), some (.int 0), none, none] [] (K, I, L, R, sz) Q) : X d 0 0 11050 0 0 0 (qent (qml 11050) [.ref 0, .int a]) [] (K, I, L, R, sz) Q := show X _ 0 0 11050 0 0 0 [some (.ref 0), some (.int a), none, none, none] [] _ _ from x_iconst (v := 0) k11050_0 rfl <| x_ist2 k11050_1 (Nat.le_of_ble_eq_true rfl) rfl <| q1
theorem g11050_2 {x1 : Int32} {x2 : Int32}  (hK : qLay K sz) (hR : qRef R)  (q1 : (I 22 1) ≤ x2 → Q (some (.int 1)) (K, I, L, R, sz)) (q2 : ¬ (I 22 1) ≤ x2 → X d 0 0 11050 0 0 18 [some (.ref 0), some (.int x1), some (.int x2), some (.int 0), some (.int 0)] [] (K, I, L, R, sz) Q) : X d 0 0 11050 0 0 2 [some (.ref 0), some (.int x1), some (.int x2), none, none] [] (K, I, L, R, sz) Q := x_ild2 k11050_2 <| x_ald0 k11050_3 <| x_getR k11050_4 f11_35_10 (hK.at rfl) rfl (hR _ _ _ rfl) <| x_getI k11050_7 f11_118_1 (hK.at rfl) rfl <| x_icmpge (tgt := 73) k11050_10 (by decide) (fun h1 => x_iconst (v := 1) k11050_73 rfl <| x_zret k11050_74 rfl (Or.inr rfl) (Nat.le_refl _) (Nat.le_refl _) <| (q1 h1)) (fun h1 => x_iconst (v := 0) k11050_13 rfl <| x_ist3 k11050_14 (Nat.le_of_ble_eq_true rfl) rfl <| x_iconst (v := 0) k11050_15 rfl <| x_ist4 k11050_16 (Nat.le_of_ble_eq_true rfl) rfl <| (q2 h1))
theorem g11050_18 {x1 : Int32} {x2 : Int32} {x3 : Int32} {x4 : Int32}  (hK : qLay K sz) (hR : qRef R) (b1 : ¬ (I 22 2) ≤ x4 → ((x1 >>> (x4 &&& 31)) &&& 1) = 1 → qIn 5 x2) (q1 : (I 22 2) ≤ x4 → ¬ x3 = 0 → X (d + 1) 0 0 11050 0 0 2 [some (.ref 0), some (.int x1), some (.int (x2 + 1)), none, none] [] (K, I, L, R, sz) Q) (q2 : (I 22 2) ≤ x4 → x3 = 0 → Q (some (.int 0)) (K, I, L, R, sz)) (q3 : ¬ (I 22 2) ≤ x4 → ¬ ((x1 >>> (x4 &&& 31)) &&& 1) = 1 → X (d + 1) 0 0 11050 0 0 18 [some (.ref 0), some (.int x1), some (.int x2), some (.int x3), some (.int (x4 + 1))] [] (K, I, L, R, sz) Q) (q4 : ¬ (I 22 2) ≤ x4 → ((x1 >>> (x4 &&& 31)) &&& 1) = 1 → ¬ I (24 + (x2).toNatClampNeg) 1 = x4 → X (d + 1) 0 0 11050 0 0 18 [some (.ref 0), some (.int x1), some (.int x2), some (.int 1), some (.int (x4 + 1))] [] (K, I, L, R, sz) Q) (q5 : ¬ (I 22 2) ≤ x4 → ((x1 >>> (x4 &&& 31)) &&& 1) = 1 → I (24 + (x2).toNatClampNeg) 1 = x4 → X (d + 1) 0 0 11050 0 0 18 [some (.ref 0), some (.int x1), some (.int x2), some (.int x3), some (.int (x4 + 1))] [] (K, I, L, R, sz) Q) : X (d + 1) 0 0 11050 0 0 18 [some (.ref 0), some (.int x1), some (.int x2), some (.int x3), some (.int x4)] [] (K, I, L, R, sz) Q := x_ild4 k11050_18 <| x_ald0 k11050_20 <| x_getR k11050_21 f11_35_10 (hK.at rfl) rfl (hR _ _ _ rfl) <| x_getI k11050_24 f11_280_1 (hK.at rfl) rfl <| x_icmpge (tgt := 61) k11050_27 (by decide) (fun h1 => x_ild3 k11050_61 <| x_ifne (tgt := 67) k11050_62 (by decide) (fun h2 => x_inc2 (c := 1) k11050_67 rfl (Nat.le_of_ble_eq_true rfl) rfl <| x_goto (tgt := 2) k11050_70 (by decide) <| x_wk (ls := [some (.ref 0), some (.int x1), some (.int (x2 + 1)), none, none]) ⟨rfl, ⟨rfl, ⟨rfl, True.intro⟩⟩⟩ <| (q1 h1 h2)) (fun h2 => x_iconst (v := 0) k11050_65 rfl <| x_zret k11050_66 rfl (Or.inl rfl) (Nat.le_refl _) (Nat.le_refl _) <| (q2 h1 h2))) (fun h1 => x_ild1 k11050_30 <| x_ild4 k11050_31 <| x_ishr k11050_33 <| x_iconst (v := 1) k11050_34 rfl <| x_iand k11050_35 <| x_iconst (v := 1) k11050_36 rfl <| x_icmpne (tgt := 55) k11050_37 (by decide) (fun h3 => x_inc4 (c := 1) k11050_55 rfl (Nat.le_of_ble_eq_true rfl) rfl <| x_goto (tgt := 18) k11050_58 (by decide) <| (q3 h1 h3)) (fun h3 => x_ald0 k11050_40 <| x_getR k11050_41 f11_35_10 (hK.at rfl) rfl (hR _ _ _ rfl) <| x_ild4 k11050_44 <| x_ild2 k11050_46 <| x_cV2 (MCz := 0) (MSz := 0) k11050_47 v11_218_1 (hK.at rfl) (Nat.le_of_ble_eq_true rfl) (Nat.le_of_ble_eq_true rfl) (Nat.le_refl _) (Nat.le_refl _) <| u1004 hK hR (b1 h1 h3) (fun g4 => x_ifeqF (tgt := 55) k11050_50 (by decide) (show ¬ (1 : Int32) = 0 by decide) <| x_iconst (v := 1) k11050_53 rfl <| x_ist3 k11050_54 (Nat.le_of_ble_eq_true rfl) rfl <| x_inc4 (c := 1) k11050_55 rfl (Nat.le_of_ble_eq_true rfl) rfl <| x_goto (tgt := 18) k11050_58 (by decide) <| (q4 h1 h3 g4)) (fun g5 => x_ifeqT (tgt := 55) k11050_50 (by decide) (show (0 : Int32) = 0 by decide) <| x_inc4 (c := 1) k11050_55 rfl (Nat.le_of_ble_eq_true rfl) rfl <| x_goto (tgt := 18) k11050_58 (by decide) <| (q5 h1 h3 g5))))
theorem l11050b {b : Int32} {s : Nat} (hK : qLay K sz) (hR : qRef R) (lM : I 22 2 = nI (pM p)) (w3 : pM p ≤ 3) (hs : s < 5) (ht : rc1 (mayC I) b s (pM p) → X (d + 1) 0 0 11050 0 0 2 [some (.ref 0), some (.int b), some (.int (nI (s + 1))), none, none] [] (K, I, L, R, sz) Q) (hf : ¬ rc1 (mayC I) b s (pM p) → Q (some (.int 0)) (K, I, L, R, sz)) : ∀ (k j : Nat) (v : Int32), j + k = pM p → (v = 1 ∧ rc1 (mayC I) b s j) ∨ (v = 0 ∧ ¬ rc1 (mayC I) b s j) → X (d + 1) 0 0 11050 0 0 18 [some (.ref 0), some (.int b), some (.int (nI s)), some (.int v), some (.int (nI j))] [] (K, I, L, R, sz) Q := by
  intro k
  induction k with
  | zero =>
    intro j v hj hv
    have hle : I 22 2 ≤ nI j := by rw [lM]; exact nI_le (by omega) (by omega)
    have : j = pM p := by omega
    subst this
    refine g11050_18 hK hR (fun h => absurd hle h) (fun _ h => ?_) (fun _ h => ?_) (fun h => absurd hle h) (fun h => absurd hle h) (fun h => absurd hle h)
    · rw [nI_1]; exact ht (hv.resolve_right (fun q => h q.1)).2
    · exact hf (hv.resolve_left (fun q => by rw [h] at q; exact absurd q.1 (by decide))).2
  | succ k ih =>
    intro j v hj hv
    have hnl : ¬ I 22 2 ≤ nI j := by rw [lM]; exact nI_ge (by omega) (by omega)
    have hcs : (nI s).toNatClampNeg = s := nI_c (by omega)
    have hno : ¬ (bitP b j ∧ mayC I (nI j) s) → (v = 1 ∧ rc1 (mayC I) b s (j + 1)) ∨ (v = 0 ∧ ¬ rc1 (mayC I) b s (j + 1)) := fun h => by rw [rc1_n h]; exact hv
    refine g11050_18 hK hR (fun _ _ => ⟨s, hs, rfl⟩) (fun h => absurd h hnl) (fun h => absurd h hnl) ?_ ?_ ?_ <;> rw [nI_1] <;> intro _ h1
    · exact ih (j + 1) v (by omega) (hno (fun q => h1 q.1))
    · rw [hcs]; intro h2
      exact ih (j + 1) 1 (by omega) (Or.inl ⟨rfl, rc1_y h1 h2⟩)
    · rw [hcs]; intro h2
      exact ih (j + 1) v (by omega) (hno (fun q => q.2 h2))
theorem l11050 {b : Int32} (hK : qLay K sz) (hR : qRef R) (lS : I 22 1 = nI (pS p)) (w5 : pS p ≤ 5) (lM : I 22 2 = nI (pM p)) (w3 : pM p ≤ 3) (ht : rcE (mayC I) p b → Q (some (.int 1)) (K, I, L, R, sz)) (hf : ¬ rcE (mayC I) p b → Q (some (.int 0)) (K, I, L, R, sz)) : ∀ (k i : Nat), i + k = pS p → (∀ s, s < i → rc1 (mayC I) b s (pM p)) → X (d + 1) 0 0 11050 0 0 2 [some (.ref 0), some (.int b), some (.int (nI i)), none, none] [] (K, I, L, R, sz) Q := by
  intro k
  induction k with
  | zero =>
    intro i hi hs
    have hle : I 22 1 ≤ nI i := by rw [lS]; exact nI_le (by omega) (by omega)
    have : i = pS p := by omega
    subst this
    exact g11050_2 hK hR (fun _ => ht hs) (fun h => absurd hle h)
  | succ k ih =>
    intro i hi hs
    have hnl : ¬ I 22 1 ≤ nI i := by rw [lS]; exact nI_ge (by omega) (by omega)
    refine g11050_2 hK hR (fun h => absurd h hnl) (fun _ => ?_)
    refine l11050b (p := p) hK hR lM w3 (by omega) (fun h => ih (i + 1) (by omega) (fun s hs' => ?_)) (fun h => hf (fun q => h (q i (by omega)))) (pM p) 0 0 (by omega) (Or.inr ⟨rfl, fun ⟨m, hm, _⟩ => absurd hm (by omega)⟩)
    by_cases hsi : s = i
    · subst hsi; exact h
    · exact hs s (by omega)
theorem s11050 {b : Int32} (hK : qLay K sz) (hR : qRef R) (cI : CI I p) (ht : rcE (mayC I) p b → Q (some (.int 1)) (K, I, L, R, sz)) (hf : ¬ rcE (mayC I) p b → Q (some (.int 0)) (K, I, L, R, sz)) : X (d + 1) 0 0 11050 0 0 0 (qent (qml 11050) [.ref 0, .int b]) [] (K, I, L, R, sz) Q :=
  e11050 (l11050 hK hR cI.lS cI.w5 cI.lM cI.w3 ht hf (pS p) 0 (by omega) (fun s hs => absurd hs (by omega)))
theorem e11027     (q1 : X d 0 0 11027 0 0 4 [some (.ref 0), some (.int (-1)), some (.int 1), none] [] (K, I, L, R, sz) Q) : X d 0 0 11027 0 0 0 (qent (qml 11027) [.ref 0]) [] (K, I, L, R, sz) Q := show X _ 0 0 11027 0 0 0 [some (.ref 0), none, none, none] [] _ _ from x_iconst (v := (-1)) k11027_0 rfl <| x_ist1 k11027_1 (Nat.le_of_ble_eq_true rfl) rfl <| x_iconst (v := 1) k11027_2 rfl <| x_ist2 k11027_3 (Nat.le_of_ble_eq_true rfl) rfl <| q1
theorem g11027_4 {x1 : Int32} {x2 : Int32}  (hK : qLay K sz) (hR : qRef R) (cI : CI I p)  (q1 : (1 <<< ((I 22 2) &&& 31)) ≤ x2 → Q (some (.int x1)) (K, I, L, R, sz)) (q2 : ¬ (1 <<< ((I 22 2) &&& 31)) ≤ x2 → x1 = (-1) → rcE (mayC I) p x2 → X (d + 2) 0 0 11027 0 0 4 [some (.ref 0), some (.int x2), some (.int (x2 + 1)), none] [] (K, I, L, R, sz) Q) (q3 : ¬ (1 <<< ((I 22 2) &&& 31)) ≤ x2 → x1 = (-1) → ¬ rcE (mayC I) p x2 → X (d + 2) 0 0 11027 0 0 4 [some (.ref 0), some (.int x1), some (.int (x2 + 1)), none] [] (K, I, L, R, sz) Q) (q4 : ¬ (1 <<< ((I 22 2) &&& 31)) ≤ x2 → ¬ x1 = (-1) → (bc x1) ≤ (bc x2) → X (d + 2) 0 0 11027 0 0 4 [some (.ref 0), some (.int x1), some (.int (x2 + 1)), none] [] (K, I, L, R, sz) Q) (q5 : ¬ (1 <<< ((I 22 2) &&& 31)) ≤ x2 → ¬ x1 = (-1) → ¬ (bc x1) ≤ (bc x2) → rcE (mayC I) p x2 → X (d + 2) 0 0 11027 0 0 4 [some (.ref 0), some (.int x2), some (.int (x2 + 1)), none] [] (K, I, L, R, sz) Q) (q6 : ¬ (1 <<< ((I 22 2) &&& 31)) ≤ x2 → ¬ x1 = (-1) → ¬ (bc x1) ≤ (bc x2) → ¬ rcE (mayC I) p x2 → X (d + 2) 0 0 11027 0 0 4 [some (.ref 0), some (.int x1), some (.int (x2 + 1)), none] [] (K, I, L, R, sz) Q) : X (d + 2) 0 0 11027 0 0 4 [some (.ref 0), some (.int x1), some (.int x2), none] [] (K, I, L, R, sz) Q := x_ild2 k11027_4 <| x_iconst (v := 1) k11027_5 rfl <| x_ald0 k11027_6 <| x_getR k11027_7 f11_35_10 (hK.at rfl) rfl (hR _ _ _ rfl) <| x_getI k11027_10 f11_280_1 (hK.at rfl) rfl <| x_ishl k11027_13 <| x_icmpge (tgt := 59) k11027_14 (by decide) (fun h1 => x_ild1 k11027_59 <| x_iret k11027_60 rfl (Nat.le_refl _) (Nat.le_refl _) <| (q1 h1)) (fun h1 => x_ild1 k11027_17 <| x_iconst (v := (-1)) k11027_18 rfl <| x_icmpeq (tgt := 33) k11027_19 (by decide) (fun h2 => x_iconst (v := 1) k11027_33 rfl <| x_goto (tgt := 38) k11027_34 (by decide) <| x_ist3 k11027_38 (Nat.le_of_ble_eq_true rfl) rfl <| x_ild3 k11027_39 <| x_ifeqF (tgt := 53) k11027_40 (by decide) (show ¬ (1 : Int32) = 0 by decide) <| x_ald0 k11027_43 <| x_ild2 k11027_44 <| x_cV1 (MCz := 0) (MSz := 0) k11027_45 v11_288_10 (hK.at rfl) (Nat.le_of_ble_eq_true rfl) (Nat.le_of_ble_eq_true rfl) (Nat.le_refl _) (Nat.le_refl _) <| s11050 hK hR cI (fun g3 => x_ifeqF (tgt := 53) k11027_48 (by decide) (show ¬ (1 : Int32) = 0 by decide) <| x_ild2 k11027_51 <| x_ist1 k11027_52 (Nat.le_of_ble_eq_true rfl) rfl <| x_inc2 (c := 1) k11027_53 rfl (Nat.le_of_ble_eq_true rfl) rfl <| x_goto (tgt := 4) k11027_56 (by decide) <| x_wk (ls := [some (.ref 0), some (.int x2), some (.int (x2 + 1)), none]) ⟨rfl, ⟨rfl, ⟨rfl, True.intro⟩⟩⟩ <| (q2 h1 h2 g3)) (fun g4 => x_ifeqT (tgt := 53) k11027_48 (by decide) (show (0 : Int32) = 0 by decide) <| x_inc2 (c := 1) k11027_53 rfl (Nat.le_of_ble_eq_true rfl) rfl <| x_goto (tgt := 4) k11027_56 (by decide) <| x_wk (ls := [some (.ref 0), some (.int x1), some (.int (x2 + 1)), none]) ⟨rfl, ⟨rfl, ⟨rfl, True.intro⟩⟩⟩ <| (q3 h1 h2 g4))) (fun h2 => x_ild2 k11027_22 <| x_cS1 (MCz := 0) (MSz := 0) k11027_23 s11_283 (Nat.le_of_ble_eq_true rfl) (Nat.le_of_ble_eq_true rfl) (Nat.le_refl _) (Nat.le_refl _) <| s14000 (x_ild1 k11027_26 <| x_cS1 (MCz := 0) (MSz := 0) k11027_27 s11_283 (Nat.le_of_ble_eq_true rfl) (Nat.le_of_ble_eq_true rfl) (Nat.le_refl _) (Nat.le_refl _) <| s14000 (x_icmpge (tgt := 37) k11027_30 (by decide) (fun h5 => x_iconst (v := 0) k11027_37 rfl <| x_ist3 k11027_38 (Nat.le_of_ble_eq_true rfl) rfl <| x_ild3 k11027_39 <| x_ifeqT (tgt := 53) k11027_40 (by decide) (show (0 : Int32) = 0 by decide) <| x_inc2 (c := 1) k11027_53 rfl (Nat.le_of_ble_eq_true rfl) rfl <| x_goto (tgt := 4) k11027_56 (by decide) <| x_wk (ls := [some (.ref 0), some (.int x1), some (.int (x2 + 1)), none]) ⟨rfl, ⟨rfl, ⟨rfl, True.intro⟩⟩⟩ <| (q4 h1 h2 h5)) (fun h5 => x_iconst (v := 1) k11027_33 rfl <| x_goto (tgt := 38) k11027_34 (by decide) <| x_ist3 k11027_38 (Nat.le_of_ble_eq_true rfl) rfl <| x_ild3 k11027_39 <| x_ifeqF (tgt := 53) k11027_40 (by decide) (show ¬ (1 : Int32) = 0 by decide) <| x_ald0 k11027_43 <| x_ild2 k11027_44 <| x_cV1 (MCz := 0) (MSz := 0) k11027_45 v11_288_10 (hK.at rfl) (Nat.le_of_ble_eq_true rfl) (Nat.le_of_ble_eq_true rfl) (Nat.le_refl _) (Nat.le_refl _) <| s11050 hK hR cI (fun g6 => x_ifeqF (tgt := 53) k11027_48 (by decide) (show ¬ (1 : Int32) = 0 by decide) <| x_ild2 k11027_51 <| x_ist1 k11027_52 (Nat.le_of_ble_eq_true rfl) rfl <| x_inc2 (c := 1) k11027_53 rfl (Nat.le_of_ble_eq_true rfl) rfl <| x_goto (tgt := 4) k11027_56 (by decide) <| x_wk (ls := [some (.ref 0), some (.int x2), some (.int (x2 + 1)), none]) ⟨rfl, ⟨rfl, ⟨rfl, True.intro⟩⟩⟩ <| (q5 h1 h2 h5 g6)) (fun g7 => x_ifeqT (tgt := 53) k11027_48 (by decide) (show (0 : Int32) = 0 by decide) <| x_inc2 (c := 1) k11027_53 rfl (Nat.le_of_ble_eq_true rfl) rfl <| x_goto (tgt := 4) k11027_56 (by decide) <| x_wk (ls := [some (.ref 0), some (.int x1), some (.int (x2 + 1)), none]) ⟨rfl, ⟨rfl, ⟨rfl, True.intro⟩⟩⟩ <| (q6 h1 h2 h5 g7)))))))
theorem e12094     (q1 : X d 0 0 12094 0 0 4 [some (.ref 73), some (.int (-1)), some (.int 1), none, none, none, none] [] (K, I, L, R, sz) Q) : X d 0 0 12094 0 0 0 (qent (qml 12094) [.ref 73]) [] (K, I, L, R, sz) Q := show X _ 0 0 12094 0 0 0 [some (.ref 73), none, none, none, none, none, none] [] _ _ from x_iconst (v := (-1)) k12094_0 rfl <| x_ist1 k12094_1 (Nat.le_of_ble_eq_true rfl) rfl <| x_iconst (v := 1) k12094_2 rfl <| x_ist2 k12094_3 (Nat.le_of_ble_eq_true rfl) rfl <| q1
theorem g12094_4 {x1 : Int32} {x2 : Int32}  (hK : qLay K sz)  (q1 : (1 <<< ((I 73 25) &&& 31)) ≤ x2 → Q (some (.int x1)) (K, I, L, R, sz)) (q2 : ¬ (1 <<< ((I 73 25) &&& 31)) ≤ x2 → X d 0 0 12094 0 0 19 [some (.ref 73), some (.int x1), some (.int x2), some (.int 1), some (.int 0), none, none] [] (K, I, L, R, sz) Q) : X d 0 0 12094 0 0 4 [some (.ref 73), some (.int x1), some (.int x2), none, none, none, none] [] (K, I, L, R, sz) Q := x_ild2 k12094_4 <| x_iconst (v := 1) k12094_5 rfl <| x_ald0 k12094_6 <| x_getI k12094_7 f12_292_11 (hK.at rfl) rfl <| x_ishl k12094_10 <| x_icmpge (tgt := 134) k12094_11 (by decide) (fun h1 => x_ild1 k12094_134 <| x_iret k12094_135 rfl (Nat.le_refl _) (Nat.le_refl _) <| (q1 h1)) (fun h1 => x_iconst (v := 1) k12094_14 rfl <| x_ist3 k12094_15 (Nat.le_of_ble_eq_true rfl) rfl <| x_iconst (v := 0) k12094_16 rfl <| x_ist4 k12094_17 (Nat.le_of_ble_eq_true rfl) rfl <| (q2 h1))
theorem g12094_19 {x1 : Int32} {x2 : Int32} {x3 : Int32} {x4 : Int32}  (hK : qLay K sz)  (q1 : (I 73 24) ≤ x4 → x3 = 0 → X (d + 1) 0 0 12094 0 0 4 [some (.ref 73), some (.int x1), some (.int (x2 + 1)), none, none, none, none] [] (K, I, L, R, sz) Q) (q2 : (I 73 24) ≤ x4 → ¬ x3 = 0 → x1 = (-1) → X (d + 1) 0 0 12094 0 0 4 [some (.ref 73), some (.int x2), some (.int (x2 + 1)), none, none, none, none] [] (K, I, L, R, sz) Q) (q3 : (I 73 24) ≤ x4 → ¬ x3 = 0 → ¬ x1 = (-1) → (bc x1) ≤ (bc x2) → X (d + 1) 0 0 12094 0 0 4 [some (.ref 73), some (.int x1), some (.int (x2 + 1)), none, none, none, none] [] (K, I, L, R, sz) Q) (q4 : (I 73 24) ≤ x4 → ¬ x3 = 0 → ¬ x1 = (-1) → ¬ (bc x1) ≤ (bc x2) → X (d + 1) 0 0 12094 0 0 4 [some (.ref 73), some (.int x2), some (.int (x2 + 1)), none, none, none, none] [] (K, I, L, R, sz) Q) (q5 : ¬ (I 73 24) ≤ x4 → X (d + 1) 0 0 12094 0 0 34 [some (.ref 73), some (.int x1), some (.int x2), some (.int x3), some (.int x4), some (.int 0), some (.int 0)] [] (K, I, L, R, sz) Q) : X (d + 1) 0 0 12094 0 0 19 [some (.ref 73), some (.int x1), some (.int x2), some (.int x3), some (.int x4), none, none] [] (K, I, L, R, sz) Q := x_ild4 k12094_19 <| x_ald0 k12094_21 <| x_getI k12094_22 f12_289_11 (hK.at rfl) rfl <| x_icmpge (tgt := 102) k12094_25 (by decide) (fun h1 => x_ild3 k12094_102 <| x_ifeq (tgt := 126) k12094_103 (by decide) (fun h2 => x_ild1 k12094_126 <| x_ist1 k12094_127 (Nat.le_of_ble_eq_true rfl) rfl <| x_inc2 (c := 1) k12094_128 rfl (Nat.le_of_ble_eq_true rfl) rfl <| x_goto (tgt := 4) k12094_131 (by decide) <| x_wk (ls := [some (.ref 73), some (.int x1), some (.int (x2 + 1)), none, none, none, none]) ⟨rfl, ⟨rfl, ⟨rfl, True.intro⟩⟩⟩ <| (q1 h1 h2)) (fun h2 => x_ild1 k12094_106 <| x_iconst (v := (-1)) k12094_107 rfl <| x_icmpeq (tgt := 122) k12094_108 (by decide) (fun h3 => x_ild2 k12094_122 <| x_goto (tgt := 127) k12094_123 (by decide) <| x_ist1 k12094_127 (Nat.le_of_ble_eq_true rfl) rfl <| x_inc2 (c := 1) k12094_128 rfl (Nat.le_of_ble_eq_true rfl) rfl <| x_goto (tgt := 4) k12094_131 (by decide) <| x_wk (ls := [some (.ref 73), some (.int x2), some (.int (x2 + 1)), none, none, none, none]) ⟨rfl, ⟨rfl, ⟨rfl, True.intro⟩⟩⟩ <| (q2 h1 h2 h3)) (fun h3 => x_ild2 k12094_111 <| x_cS1 (MCz := 0) (MSz := 0) k12094_112 s12_354 (Nat.le_of_ble_eq_true rfl) (Nat.le_of_ble_eq_true rfl) (Nat.le_refl _) (Nat.le_refl _) <| s14000 (x_ild1 k12094_115 <| x_cS1 (MCz := 0) (MSz := 0) k12094_116 s12_354 (Nat.le_of_ble_eq_true rfl) (Nat.le_of_ble_eq_true rfl) (Nat.le_refl _) (Nat.le_refl _) <| s14000 (x_icmpge (tgt := 126) k12094_119 (by decide) (fun h4 => x_ild1 k12094_126 <| x_ist1 k12094_127 (Nat.le_of_ble_eq_true rfl) rfl <| x_inc2 (c := 1) k12094_128 rfl (Nat.le_of_ble_eq_true rfl) rfl <| x_goto (tgt := 4) k12094_131 (by decide) <| x_wk (ls := [some (.ref 73), some (.int x1), some (.int (x2 + 1)), none, none, none, none]) ⟨rfl, ⟨rfl, ⟨rfl, True.intro⟩⟩⟩ <| (q3 h1 h2 h3 h4)) (fun h4 => x_ild2 k12094_122 <| x_goto (tgt := 127) k12094_123 (by decide) <| x_ist1 k12094_127 (Nat.le_of_ble_eq_true rfl) rfl <| x_inc2 (c := 1) k12094_128 rfl (Nat.le_of_ble_eq_true rfl) rfl <| x_goto (tgt := 4) k12094_131 (by decide) <| x_wk (ls := [some (.ref 73), some (.int x2), some (.int (x2 + 1)), none, none, none, none]) ⟨rfl, ⟨rfl, ⟨rfl, True.intro⟩⟩⟩ <| (q4 h1 h2 h3 h4))))))) (fun h1 => x_iconst (v := 0) k12094_28 rfl <| x_ist5 k12094_29 (Nat.le_of_ble_eq_true rfl) rfl <| x_iconst (v := 0) k12094_31 rfl <| x_ist6 k12094_32 (Nat.le_of_ble_eq_true rfl) rfl <| (q5 h1))
theorem g12094_34 {x1 : Int32} {x2 : Int32} {x3 : Int32} {x4 : Int32} {x5 : Int32} {x6 : Int32}  (hK : qLay K sz) (hR : qRef R) (b1 : ¬ (I 73 25) ≤ x6 → x5 = 0 → ((x2 >>> (x6 &&& 31)) &&& 1) = 1 → qIn 5 x4) (q1 : (I 73 25) ≤ x6 → x3 = 0 → X (d + 2) 0 0 12094 0 0 19 [some (.ref 73), some (.int x1), some (.int x2), some (.int 0), some (.int (x4 + 1)), none, none] [] (K, I, L, R, sz) Q) (q2 : (I 73 25) ≤ x6 → ¬ x3 = 0 → x5 = 0 → X (d + 2) 0 0 12094 0 0 19 [some (.ref 73), some (.int x1), some (.int x2), some (.int 0), some (.int (x4 + 1)), none, none] [] (K, I, L, R, sz) Q) (q3 : (I 73 25) ≤ x6 → ¬ x3 = 0 → ¬ x5 = 0 → X (d + 2) 0 0 12094 0 0 19 [some (.ref 73), some (.int x1), some (.int x2), some (.int 1), some (.int (x4 + 1)), none, none] [] (K, I, L, R, sz) Q) (q4 : ¬ (I 73 25) ≤ x6 → ¬ x5 = 0 → X (d + 2) 0 0 12094 0 0 34 [some (.ref 73), some (.int x1), some (.int x2), some (.int x3), some (.int x4), some (.int 1), some (.int (x6 + 1))] [] (K, I, L, R, sz) Q) (q5 : ¬ (I 73 25) ≤ x6 → x5 = 0 → ((x2 >>> (x6 &&& 31)) &&& 1) = 1 → ¬ I 85 (3 * (x4).toNatClampNeg + 1) = x6 → X (d + 2) 0 0 12094 0 0 34 [some (.ref 73), some (.int x1), some (.int x2), some (.int x3), some (.int x4), some (.int 1), some (.int (x6 + 1))] [] (K, I, L, R, sz) Q) (q6 : ¬ (I 73 25) ≤ x6 → x5 = 0 → ((x2 >>> (x6 &&& 31)) &&& 1) = 1 → I 85 (3 * (x4).toNatClampNeg + 1) = x6 → X (d + 2) 0 0 12094 0 0 34 [some (.ref 73), some (.int x1), some (.int x2), some (.int x3), some (.int x4), some (.int 0), some (.int (x6 + 1))] [] (K, I, L, R, sz) Q) (q7 : ¬ (I 73 25) ≤ x6 → x5 = 0 → ¬ ((x2 >>> (x6 &&& 31)) &&& 1) = 1 → X (d + 2) 0 0 12094 0 0 34 [some (.ref 73), some (.int x1), some (.int x2), some (.int x3), some (.int x4), some (.int 0), some (.int (x6 + 1))] [] (K, I, L, R, sz) Q) : X (d + 2) 0 0 12094 0 0 34 [some (.ref 73), some (.int x1), some (.int x2), some (.int x3), some (.int x4), some (.int x5), some (.int x6)] [] (K, I, L, R, sz) Q := x_ild6 k12094_34 <| x_ald0 k12094_36 <| x_getI k12094_37 f12_292_11 (hK.at rfl) rfl <| x_icmpge (tgt := 81) k12094_40 (by decide) (fun h1 => x_ild3 k12094_81 <| x_ifeq (tgt := 94) k12094_82 (by decide) (fun h2 => x_iconst (v := 0) k12094_94 rfl <| x_ist3 k12094_95 (Nat.le_of_ble_eq_true rfl) rfl <| x_inc4 (c := 1) k12094_96 rfl (Nat.le_of_ble_eq_true rfl) rfl <| x_goto (tgt := 19) k12094_99 (by decide) <| x_wk (ls := [some (.ref 73), some (.int x1), some (.int x2), some (.int 0), some (.int (x4 + 1)), none, none]) ⟨rfl, ⟨rfl, ⟨rfl, ⟨rfl, ⟨rfl, True.intro⟩⟩⟩⟩⟩ <| (q1 h1 h2)) (fun h2 => x_ild5 k12094_85 <| x_ifeq (tgt := 94) k12094_87 (by decide) (fun h3 => x_iconst (v := 0) k12094_94 rfl <| x_ist3 k12094_95 (Nat.le_of_ble_eq_true rfl) rfl <| x_inc4 (c := 1) k12094_96 rfl (Nat.le_of_ble_eq_true rfl) rfl <| x_goto (tgt := 19) k12094_99 (by decide) <| x_wk (ls := [some (.ref 73), some (.int x1), some (.int x2), some (.int 0), some (.int (x4 + 1)), none, none]) ⟨rfl, ⟨rfl, ⟨rfl, ⟨rfl, ⟨rfl, True.intro⟩⟩⟩⟩⟩ <| (q2 h1 h2 h3)) (fun h3 => x_iconst (v := 1) k12094_90 rfl <| x_goto (tgt := 95) k12094_91 (by decide) <| x_ist3 k12094_95 (Nat.le_of_ble_eq_true rfl) rfl <| x_inc4 (c := 1) k12094_96 rfl (Nat.le_of_ble_eq_true rfl) rfl <| x_goto (tgt := 19) k12094_99 (by decide) <| x_wk (ls := [some (.ref 73), some (.int x1), some (.int x2), some (.int 1), some (.int (x4 + 1)), none, none]) ⟨rfl, ⟨rfl, ⟨rfl, ⟨rfl, ⟨rfl, True.intro⟩⟩⟩⟩⟩ <| (q3 h1 h2 h3)))) (fun h1 => x_ild5 k12094_43 <| x_ifne (tgt := 68) k12094_45 (by decide) (fun h4 => x_iconst (v := 1) k12094_68 rfl <| x_goto (tgt := 73) k12094_69 (by decide) <| x_ist5 k12094_73 (Nat.le_of_ble_eq_true rfl) rfl <| x_inc6 (c := 1) k12094_75 rfl (Nat.le_of_ble_eq_true rfl) rfl <| x_goto (tgt := 34) k12094_78 (by decide) <| (q4 h1 h4)) (fun h4 => x_ild2 k12094_48 <| x_ild6 k12094_49 <| x_cS2 (MCz := 0) (MSz := 0) k12094_51 s12_263 (Nat.le_of_ble_eq_true rfl) (Nat.le_of_ble_eq_true rfl) (Nat.le_refl _) (Nat.le_refl _) <| t12001 (fun g5 => x_ifeqF (tgt := 72) k12094_54 (by decide) (show ¬ (1 : Int32) = 0 by decide) <| x_ald0 k12094_57 <| x_ild6 k12094_58 <| x_ild4 k12094_60 <| x_cV2 (MCz := 0) (MSz := 0) k12094_62 v12_324_11 (hK.at rfl) (Nat.le_of_ble_eq_true rfl) (Nat.le_of_ble_eq_true rfl) (Nat.le_refl _) (Nat.le_refl _) <| u12048 hK hR (b1 h1 h4 g5) (fun g6 => x_ifeqF (tgt := 72) k12094_65 (by decide) (show ¬ (1 : Int32) = 0 by decide) <| x_iconst (v := 1) k12094_68 rfl <| x_goto (tgt := 73) k12094_69 (by decide) <| x_ist5 k12094_73 (Nat.le_of_ble_eq_true rfl) rfl <| x_inc6 (c := 1) k12094_75 rfl (Nat.le_of_ble_eq_true rfl) rfl <| x_goto (tgt := 34) k12094_78 (by decide) <| (q5 h1 h4 g5 g6)) (fun g7 => x_ifeqT (tgt := 72) k12094_65 (by decide) (show (0 : Int32) = 0 by decide) <| x_iconst (v := 0) k12094_72 rfl <| x_ist5 k12094_73 (Nat.le_of_ble_eq_true rfl) rfl <| x_inc6 (c := 1) k12094_75 rfl (Nat.le_of_ble_eq_true rfl) rfl <| x_goto (tgt := 34) k12094_78 (by decide) <| (q6 h1 h4 g5 g7))) (fun g8 => x_ifeqT (tgt := 72) k12094_54 (by decide) (show (0 : Int32) = 0 by decide) <| x_iconst (v := 0) k12094_72 rfl <| x_ist5 k12094_73 (Nat.le_of_ble_eq_true rfl) rfl <| x_inc6 (c := 1) k12094_75 rfl (Nat.le_of_ble_eq_true rfl) rfl <| x_goto (tgt := 34) k12094_78 (by decide) <| (q7 h1 h4 g8))))
theorem l11027 {ok : Int32 → Prop} (hK : qLay K sz) (hR : qRef R) (cI : CI I p) (hok : ∀ b, ¬ b = 0 → (rcE (mayC I) p b ↔ ok b)) (hq : Q (some (.int (alB ok (2 ^ pM p)))) (K, I, L, R, sz)) : ∀ (k i : Nat), i + k = 2 ^ pM p → 0 < i → X (d + 2) 0 0 11027 0 0 4 [some (.ref 0), some (.int (alB ok i)), some (.int (nI i)), none] [] (K, I, L, R, sz) Q := by
  have w3 := cI.w3
  obtain ⟨hs, h32⟩ := shl_n (n := pM p) (by omega)
  have lM := cI.lM
  intro k
  induction k with
  | zero =>
    intro i hi _
    have hle : 1 <<< (I 22 2 &&& 31) ≤ nI i := by rw [lM, hs]; exact nI_le (by omega) (by omega)
    refine g11027_4 hK hR cI (fun _ => ?_) (fun h => absurd hle h) (fun h => absurd hle h) (fun h => absurd hle h) (fun h => absurd hle h) (fun h => absurd hle h)
    rw [show i = 2 ^ pM p from by omega]; exact hq
  | succ k ih =>
    intro i hi h0
    have hnl : ¬ 1 <<< (I 22 2 &&& 31) ≤ nI i := by rw [lM, hs]; exact nI_ge (by omega) (by omega)
    have hst : ∀ v, alB ok (i + 1) = v → X (d + 2) 0 0 11027 0 0 4 [some (.ref 0), some (.int v), some (.int (nI i + 1)), none] [] (K, I, L, R, sz) Q := fun v hv => by
      subst hv
      rw [nI_1]
      exact ih (i + 1) (by omega) (by omega)
    have hno : (¬ ((alB ok i = -1 ∨ bc (nI i) < bc (alB ok i)) ∧ ok (nI i))) → alB ok (i + 1) = alB ok i := fun h => by rw [alB, if_neg h]
    have hye : ((alB ok i = -1 ∨ bc (nI i) < bc (alB ok i)) ∧ ok (nI i)) → alB ok (i + 1) = nI i := fun h => by rw [alB, if_pos h]
    have hlt : ¬ bc (alB ok i) ≤ bc (nI i) → bc (nI i) < bc (alB ok i) := fun h => Classical.not_not.mp (fun w => h (le_nlt.mpr w))
    have ho := hok (nI i) (nI_ne0 h0 (by omega))
    exact g11027_4 hK hR cI (fun h => absurd h hnl) (fun _ h1 h2 => hst _ (hye ⟨Or.inl h1, ho.mp h2⟩)) (fun _ h1 h2 => hst _ (hno (fun q => h2 (ho.mpr q.2)))) (fun _ h1 h2 => hst _ (hno (fun q => q.1.elim h1 (le_nlt.mp h2)))) (fun _ h1 h0 h2 => hst _ (hye ⟨Or.inr (hlt h0), ho.mp h2⟩)) (fun _ h1 h0 h2 => hst _ (hno (fun q => h2 (ho.mpr q.2))))
theorem alB_1 {ok : Int32 → Prop} (h : ¬ ok 0) : alB ok 1 = -1 := by
  rw [alB, if_neg (fun q => h q.2)]
  rfl
theorem s11027 (hK : qLay K sz) (hR : qRef R) (cI : CI I p) (hq : Q (some (.int (fFewest I p))) (K, I, L, R, sz)) : X (d + 2) 0 0 11027 0 0 0 (qent (qml 11027) [.ref 0]) [] (K, I, L, R, sz) Q := by
  refine e11027 ?_
  have h1 : 1 ≤ 2 ^ pM p := Nat.one_le_two_pow
  have := l11027 (d := d) (Q := Q) (L := L) (ok := fun b => ¬ b = 0 ∧ rcE (mayC I) p b) hK hR cI (fun b hb => ⟨fun h => ⟨hb, h⟩, fun h => h.2⟩) hq (2 ^ pM p - 1) 1 (by omega) (by omega)
  rw [alB_1 (fun q => q.1 rfl)] at this
  exact this
theorem l12094c {x1 b x3 : Int32} {s : Nat} (hK : qLay K sz) (hR : qRef R) (mM : I 73 25 = nI (pM p)) (w3 : pM p ≤ 3) (hs : s < 5) (hk : ∀ v : Int32, (v = 1 ∧ ¬ x3 = 0 ∧ rc1 (mayR I) b s (pM p)) ∨ (v = 0 ∧ ¬ (¬ x3 = 0 ∧ rc1 (mayR I) b s (pM p))) → X (d + 2) 0 0 12094 0 0 19 [some (.ref 73), some (.int x1), some (.int b), some (.int v), some (.int (nI (s + 1))), none, none] [] (K, I, L, R, sz) Q) : ∀ (k j : Nat) (v : Int32), j + k = pM p → (v = 1 ∧ rc1 (mayR I) b s j) ∨ (v = 0 ∧ ¬ rc1 (mayR I) b s j) → X (d + 2) 0 0 12094 0 0 34 [some (.ref 73), some (.int x1), some (.int b), some (.int x3), some (.int (nI s)), some (.int v), some (.int (nI j))] [] (K, I, L, R, sz) Q := by
  intro k
  induction k with
  | zero =>
    intro j v hj hv
    have hle : I 73 25 ≤ nI j := by rw [mM]; exact nI_le (by omega) (by omega)
    have : j = pM p := by omega
    subst this
    refine g12094_34 hK hR (fun h => absurd hle h) (fun _ h => ?_) (fun _ h h1 => ?_) (fun _ h h1 => ?_) (fun h => absurd hle h) (fun h => absurd hle h) (fun h => absurd hle h) (fun h => absurd hle h) <;> rw [nI_1]
    · exact hk 0 (Or.inr ⟨rfl, fun q => q.1 h⟩)
    · exact hk 0 (Or.inr ⟨rfl, fun q => (hv.resolve_left (fun w => by rw [h1] at w; exact absurd w.1 (by decide))).2 q.2⟩)
    · exact hk 1 (Or.inl ⟨rfl, h, (hv.resolve_right (fun q => h1 q.1)).2⟩)
  | succ k ih =>
    intro j v hj hv
    have hnl : ¬ I 73 25 ≤ nI j := by rw [mM]; exact nI_ge (by omega) (by omega)
    have hcs : (nI s).toNatClampNeg = s := nI_c (by omega)
    refine g12094_34 hK hR (fun _ _ _ => ⟨s, hs, rfl⟩) (fun h => absurd h hnl) (fun h => absurd h hnl) (fun h => absurd h hnl) ?_ ?_ ?_ ?_ <;> rw [nI_1] <;> intro _ h1
    · exact ih (j + 1) 1 (by omega) (Or.inl ⟨rfl, rc1_up (hv.resolve_right (fun q => h1 q.1)).2⟩)
    · rw [hcs]; intro h2 h3
      exact ih (j + 1) 1 (by omega) (Or.inl ⟨rfl, rc1_y h2 h3⟩)
    · rw [hcs]; intro h2 h3
      refine ih (j + 1) 0 (by omega) (Or.inr ⟨rfl, ?_⟩)
      rw [rc1_n (may := mayR I) (fun q => (q.2 : ¬ I 85 (3 * s + 1) = nI j) h3)]
      exact (hv.resolve_left (fun w => by rw [h1] at w; exact absurd w.1 (by decide))).2
    · intro h2
      refine ih (j + 1) 0 (by omega) (Or.inr ⟨rfl, ?_⟩)
      rw [rc1_n (fun q => h2 q.1)]
      exact (hv.resolve_left (fun w => by rw [h1] at w; exact absurd w.1 (by decide))).2
theorem l12094b {x1 b : Int32} (hK : qLay K sz) (hR : qRef R) (mS : I 73 24 = nI (pS p)) (w5 : pS p ≤ 5) (mM : I 73 25 = nI (pM p)) (w3 : pM p ≤ 3) (hk : ∀ v : Int32, v = (if x1 = -1 ∨ bc b < bc x1 then b else x1) → rcE (mayR I) p b → X (d + 2) 0 0 12094 0 0 4 [some (.ref 73), some (.int v), some (.int (b + 1)), none, none, none, none] [] (K, I, L, R, sz) Q) (hn : ¬ rcE (mayR I) p b → X (d + 2) 0 0 12094 0 0 4 [some (.ref 73), some (.int x1), some (.int (b + 1)), none, none, none, none] [] (K, I, L, R, sz) Q) : ∀ (k i : Nat) (v : Int32), i + k = pS p → (v = 1 ∧ ∀ s, s < i → rc1 (mayR I) b s (pM p)) ∨ (v = 0 ∧ ¬ ∀ s, s < i → rc1 (mayR I) b s (pM p)) → X (d + 2) 0 0 12094 0 0 19 [some (.ref 73), some (.int x1), some (.int b), some (.int v), some (.int (nI i)), none, none] [] (K, I, L, R, sz) Q := by
  intro k
  induction k with
  | zero =>
    intro i v hi hv
    have hle : I 73 24 ≤ nI i := by rw [mS]; exact nI_le (by omega) (by omega)
    have : i = pS p := by omega
    subst this
    refine g12094_19 (d := d + 1) hK (fun _ h => ?_) (fun _ h h1 => ?_) (fun _ h h1 h2 => ?_) (fun _ h h1 h2 => ?_) (fun h => absurd hle h)
    · exact hn (hv.resolve_left (fun q => by rw [h] at q; exact absurd q.1 (by decide))).2
    · exact hk _ (by rw [if_pos (Or.inl h1)]) (hv.resolve_right (fun q => h q.1)).2
    · exact hk _ (by rw [if_neg (fun q => q.elim h1 (le_nlt.mp h2))]) (hv.resolve_right (fun q => h q.1)).2
    · exact hk _ (by rw [if_pos (Or.inr (Classical.not_not.mp (fun w => h2 (le_nlt.mpr w))))]) (hv.resolve_right (fun q => h q.1)).2
  | succ k ih =>
    intro i v hi hv
    have hnl : ¬ I 73 24 ≤ nI i := by rw [mS]; exact nI_ge (by omega) (by omega)
    refine g12094_19 (d := d + 1) hK (fun h => absurd h hnl) (fun h => absurd h hnl) (fun h => absurd h hnl) (fun h => absurd h hnl) (fun _ => ?_)
    refine l12094c (p := p) hK hR mM w3 (by omega) (fun v' hv' => ih (i + 1) v' (by omega) ?_) (pM p) 0 0 (by omega) (Or.inr ⟨rfl, fun ⟨m, hm, _⟩ => absurd hm (by omega)⟩)
    rcases hv' with ⟨e, h1, h2⟩ | ⟨e, h1⟩
    · refine Or.inl ⟨e, fun s hs => ?_⟩
      by_cases hsi : s = i
      · subst hsi; exact h2
      · exact (hv.resolve_right (fun q => h1 q.1)).2 s (by omega)
    · refine Or.inr ⟨e, fun q => ?_⟩
      have h2 : ¬ v = 0 := fun h0 => (hv.resolve_left (fun w => by rw [h0] at w; exact absurd w.1 (by decide))).2 (fun s hs => q s (by omega))
      exact h1 ⟨h2, q i (by omega)⟩
theorem l12094 {ok : Int32 → Prop} (hK : qLay K sz) (hR : qRef R) (cI : CI I p) (rI : RI I p) (hok : ∀ b, ¬ b = 0 → (rcE (mayR I) p b ↔ ok b)) (hq : Q (some (.int (alB ok (2 ^ pM p)))) (K, I, L, R, sz)) : ∀ (k i : Nat), i + k = 2 ^ pM p → 0 < i → X (d + 2) 0 0 12094 0 0 4 [some (.ref 73), some (.int (alB ok i)), some (.int (nI i)), none, none, none, none] [] (K, I, L, R, sz) Q := by
  have w3 := cI.w3
  obtain ⟨hs, h32⟩ := shl_n (n := pM p) (by omega)
  have mM := rI.mM cI
  intro k
  induction k with
  | zero =>
    intro i hi _
    have hle : 1 <<< (I 73 25 &&& 31) ≤ nI i := by rw [mM, hs]; exact nI_le (by omega) (by omega)
    refine g12094_4 hK (fun _ => ?_) (fun h => absurd hle h)
    rw [show i = 2 ^ pM p from by omega]; exact hq
  | succ k ih =>
    intro i hi h0
    have hnl : ¬ 1 <<< (I 73 25 &&& 31) ≤ nI i := by rw [mM, hs]; exact nI_ge (by omega) (by omega)
    have ho := hok (nI i) (nI_ne0 h0 (by omega))
    have ih' := ih (i + 1) (by omega) (by omega)
    refine g12094_4 hK (fun h => absurd h hnl) (fun _ => ?_)
    refine l12094b (p := p) hK hR (rI.mS cI) cI.w5 mM w3 (fun v hv hr => ?_) (fun hr => ?_) (pS p) 0 1 (by omega) (Or.inl ⟨rfl, fun s hs => absurd hs (by omega)⟩) <;> rw [nI_1]
    · have e : alB ok (i + 1) = v := by
        rw [alB, hv]
        by_cases hc : alB ok i = -1 ∨ bc (nI i) < bc (alB ok i)
        · rw [if_pos ⟨hc, ho.mp hr⟩, if_pos hc]
        · rw [if_neg (fun q => hc q.1), if_neg hc]
      rw [← e]; exact ih'
    · rw [alB, if_neg (fun q => hr (ho.mpr q.2))] at ih'
      exact ih'
theorem s12094 (hK : qLay K sz) (hR : qRef R) (cI : CI I p) (rI : RI I p) (hq : Q (some (.int (fFewest I p))) (K, I, L, R, sz)) : X (d + 2) 0 0 12094 0 0 0 (qent (qml 12094) [.ref 73]) [] (K, I, L, R, sz) Q := by
  refine e12094 ?_
  have h1 : 1 ≤ 2 ^ pM p := Nat.one_le_two_pow
  have w5 := cI.w5
  have := l12094 (d := d) (Q := Q) (L := L) (ok := fun b => ¬ b = 0 ∧ rcE (mayC I) p b) hK hR cI rI (fun b hb => by
    rw [rcE_cong (may := mayC I) (fun m s hs => mayR_C rI (by omega) (by omega))]
    exact ⟨fun h => ⟨hb, h⟩, fun h => h.2⟩) hq (2 ^ pM p - 1) 1 (by omega) (by omega)
  rw [alB_1 (fun q => q.1 rfl)] at this
  exact this
theorem fFewest_fr {J : Nat → Nat → Int32} (hf : qFr scQ I J) (cI : CI I p) : fFewest J p = fFewest I p := by
  unfold fFewest
  have w5 := cI.w5
  refine alB_cong (fun b => ?_) _
  rw [rcE_cong (may := mayC I) (fun m s hs => mayC_fr hf (by omega))]
end L48
