/-! rows: the class's, stretches -/
def mayI (I : Nat → Nat → Int32) (m s : Nat) : Bool := !decide (I (24 + s) 1 = nI m)
def mtF (f : Nat → Int32) (s d : Nat) : Bool := decide (f s = -1) || (if f s = 9 then d == 0 else decide (nI d = f s + 1))
theorem bt_i1 : ∀ x : Fin 32, ∀ s : Fin 5, ((nI x.val &&& (1 <<< (nI s.val &&& 31))) = 0 ↔ bt x.val s.val = false) ∧ (bt x.val s.val = true → (nI x.val ^^^ (1 <<< (nI s.val &&& 31))) = nI (x.val - 2 ^ s.val)) ∧ (((nI x.val >>> (nI s.val &&& 31)) &&& 1) = 0 ↔ bt x.val s.val = false) := by decide +kernel
theorem bt_and {x s : Nat} (hx : x < 32) (hs : s < 5) : (nI x &&& (1 <<< (nI s &&& 31))) = 0 ↔ bt x s = false := (bt_i1 ⟨x, hx⟩ ⟨s, hs⟩).1
theorem bt_xor {x s : Nat} (hx : x < 32) (hs : s < 5) (h : bt x s = true) : (nI x ^^^ (1 <<< (nI s &&& 31))) = nI (x - 2 ^ s) := (bt_i1 ⟨x, hx⟩ ⟨s, hs⟩).2.1 h
theorem bt_shr {x s : Nat} (hx : x < 32) (hs : s < 5) : ((nI x >>> (nI s &&& 31)) &&& 1) = 0 ↔ bt x s = false := (bt_i1 ⟨x, hx⟩ ⟨s, hs⟩).2.2
theorem shl_1 : ∀ n : Fin 6, (1 <<< (nI n.val &&& 31) : Int32) = nI (2 ^ n.val) := by decide +kernel
theorem pw_le {n : Nat} (h : n ≤ 5) : 2 ^ n ≤ 32 := by
  have := Nat.pow_le_pow_right (n := 2) (by omega) h
  exact this
section L81
variable {d : Nat} {K : qK} {I : Nat → Nat → Int32} {L : Nat → Nat → Int64} {R : Nat → Nat → Option Nat} {sz : Nat} {Q : Option Value → qMem → Prop} {p : qPa} {W : Nat → Nat}
theorem e8006 {b : Int32}    (q1 : X d 0 0 8006 0 0 4 [some (.ref 22), some (.int b), some (.int 0), some (.int 0)] [] (K, I, L, R, sz) Q) : X d 0 0 8006 0 0 0 (qent (qml 8006) [.ref 22, .int b]) [] (K, I, L, R, sz) Q := show X _ 0 0 8006 0 0 0 [some (.ref 22), some (.int b), none, none] [] _ _ from x_iconst (v := 0) k8006_0 rfl <| x_ist2 k8006_1 (Nat.le_of_ble_eq_true rfl) rfl <| x_iconst (v := 0) k8006_2 rfl <| x_ist3 k8006_3 (Nat.le_of_ble_eq_true rfl) rfl <| q1
theorem g8006_4 {x1 : Int32} {x2 : Int32} {x3 : Int32}  (hK : qLay K sz) (hR : qRef R) (b1 : ¬ (I 22 2) ≤ x3 → qIn 5 x1) (q1 : (I 22 2) ≤ x3 → Q (some (.int x2)) (K, I, L, R, sz)) (q2 : ¬ (I 22 2) ≤ x3 → ¬ I (24 + (x1).toNatClampNeg) 1 = x3 → X (d + 1) 0 0 8006 0 0 4 [some (.ref 22), some (.int x1), some (.int (x2 + 1)), some (.int (x3 + 1))] [] (K, I, L, R, sz) Q) (q3 : ¬ (I 22 2) ≤ x3 → I (24 + (x1).toNatClampNeg) 1 = x3 → X (d + 1) 0 0 8006 0 0 4 [some (.ref 22), some (.int x1), some (.int (x2 + 0)), some (.int (x3 + 1))] [] (K, I, L, R, sz) Q) : X (d + 1) 0 0 8006 0 0 4 [some (.ref 22), some (.int x1), some (.int x2), some (.int x3)] [] (K, I, L, R, sz) Q := x_ild3 k8006_4 <| x_ald0 k8006_5 <| x_getI k8006_6 f8_50_1 (hK.at rfl) rfl <| x_icmpge (tgt := 35) k8006_9 (by decide) (fun h1 => x_ild2 k8006_35 <| x_iret k8006_36 rfl (Nat.le_refl _) (Nat.le_refl _) <| (q1 h1)) (fun h1 => x_ild2 k8006_12 <| x_ald0 k8006_13 <| x_ild3 k8006_14 <| x_ild1 k8006_15 <| x_cV2 (MCz := 0) (MSz := 0) k8006_16 v8_46_1 (hK.at rfl) (Nat.le_of_ble_eq_true rfl) (Nat.le_of_ble_eq_true rfl) (Nat.le_refl _) (Nat.le_refl _) <| u1004 hK hR (b1 h1) (fun g2 => x_ifeqF (tgt := 26) k8006_19 (by decide) (show ¬ (1 : Int32) = 0 by decide) <| x_iconst (v := 1) k8006_22 rfl <| x_goto (tgt := 27) k8006_23 (by decide) <| x_iadd k8006_27 <| x_ist2 k8006_28 (Nat.le_of_ble_eq_true rfl) rfl <| x_inc3 (c := 1) k8006_29 rfl (Nat.le_of_ble_eq_true rfl) rfl <| x_goto (tgt := 4) k8006_32 (by decide) <| (q2 h1 g2)) (fun g3 => x_ifeqT (tgt := 26) k8006_19 (by decide) (show (0 : Int32) = 0 by decide) <| x_iconst (v := 0) k8006_26 rfl <| x_iadd k8006_27 <| x_ist2 k8006_28 (Nat.le_of_ble_eq_true rfl) rfl <| x_inc3 (c := 1) k8006_29 rfl (Nat.le_of_ble_eq_true rfl) rfl <| x_goto (tgt := 4) k8006_32 (by decide) <| (q3 h1 g3)))
theorem s8006 {b : Int32} (hK : qLay K sz) (hR : qRef R) (cI : CI I p) (hb : qIn (pS p) b) (hq : Q (some (.int (nI (rwT (pM p) (mayI I) (Int32.toNatClampNeg b))))) (K, I, L, R, sz)) : X (d + 1) 0 0 8006 0 0 0 (qent (qml 8006) [.ref 22, .int b]) [] (K, I, L, R, sz) Q := by
  obtain ⟨s, hs, rfl⟩ := hb
  rw [nI_c (by have := cI.w5; omega)] at hq
  have w3 := cI.w3
  have lM := cI.lM
  have hl : ∀ (k i : Nat), i + k = pM p → X (d + 1) 0 0 8006 0 0 4 [some (.ref 22), some (.int (nI s)), some (.int (nI (sm (fun m => if mayI I m s then 1 else 0) i))), some (.int (nI i))] [] (K, I, L, R, sz) Q := by
    intro k
    induction k with
    | zero =>
      intro i hi
      have hle : I 22 2 ≤ nI i := by rw [lM]; exact nI_le (by omega) (by omega)
      have : i = pM p := by omega
      subst this
      exact g8006_4 hK hR (fun h => absurd hle h) (fun _ => hq) (fun h => absurd hle h) (fun h => absurd hle h)
    | succ k ih =>
      intro i hi
      have hnl : ¬ I 22 2 ≤ nI i := by rw [lM]; exact nI_ge (by omega) (by omega)
      have ih' := ih (i + 1) (by omega)
      refine g8006_4 hK hR (fun _ => ⟨s, by have := cI.w5; omega, rfl⟩) (fun h => absurd h hnl) (fun _ h => ?_) (fun _ h => ?_) <;> rw [nI_c (by have := cI.w5; omega)] at h
      · have hm : mayI I i s = true := by unfold mayI; simp [h]
        rw [sm, if_pos hm] at ih'
        rw [nI_1, nI_1 i]; exact ih'
      · have hm : ¬ mayI I i s = true := by unfold mayI; simp [h]
        rw [sm, if_neg hm, Nat.add_zero] at ih'
        rw [nI_1, Int32.add_zero]; exact ih'
  exact e8006 (hl (pM p) 0 (by omega))
theorem e8005 {b : Int32}  (hK : qLay K sz) (hR : qRef R) (cI : CI I p) (b1 : vp_in b 5) (b2 : ¬ (I 58 b.toNatClampNeg) = (-1) → ¬ (I 58 b.toNatClampNeg) = 9 → qIn 5 b) (b3 : (I 58 b.toNatClampNeg) = (-1) → qIn (pS p) b) (q1 : ¬ (I 58 b.toNatClampNeg) = (-1) → (I 58 b.toNatClampNeg) = 9 → Q (some (.int 0)) (K, I, L, R, sz)) (q2 : ¬ (I 58 b.toNatClampNeg) = (-1) → ¬ (I 58 b.toNatClampNeg) = 9 → ¬ I (24 + (b).toNatClampNeg) 1 = (I 58 b.toNatClampNeg) → Q (some (.int 1)) (K, I, L, R, sz)) (q3 : ¬ (I 58 b.toNatClampNeg) = (-1) → ¬ (I 58 b.toNatClampNeg) = 9 → I (24 + (b).toNatClampNeg) 1 = (I 58 b.toNatClampNeg) → Q (some (.int 0)) (K, I, L, R, sz)) (q4 : (I 58 b.toNatClampNeg) = (-1) → Q (some (.int (nI (rwT (pM p) (mayI I) (Int32.toNatClampNeg b))))) (K, I, L, R, sz)) : X (d + 2) 0 0 8005 0 0 0 (qent (qml 8005) [.ref 57, .ref 22, .int b]) [] (K, I, L, R, sz) Q := show X _ 0 0 8005 0 0 0 [some (.ref 57), some (.ref 22), some (.int b), none] [] _ _ from x_ald0 k8005_0 <| x_getR k8005_1 f8_9_7 (hK.at rfl) rfl (hR _ _ _ rfl) <| x_ild2 k8005_4 <| x_iald k8005_5 (hK.at rfl) b1 <| x_ist3 k8005_6 (Nat.le_of_ble_eq_true rfl) rfl <| x_ild3 k8005_7 <| x_iconst (v := (-1)) k8005_8 rfl <| x_icmpne (tgt := 18) k8005_9 (by decide) (fun h1 => x_ild3 k8005_18 <| x_bipush (v := 9) k8005_19 rfl <| x_icmpeq (tgt := 37) k8005_21 (by decide) (fun h2 => x_iconst (v := 0) k8005_37 rfl <| x_iret k8005_38 rfl (Nat.le_refl _) (Nat.le_refl _) <| (q1 h1 h2)) (fun h2 => x_ald1 k8005_24 <| x_ild3 k8005_25 <| x_ild2 k8005_26 <| x_cV2 (MCz := 0) (MSz := 0) k8005_27 v8_46_1 (hK.at rfl) (Nat.le_of_ble_eq_true rfl) (Nat.le_of_ble_eq_true rfl) (Nat.le_refl _) (Nat.le_refl _) <| u1004 hK hR (b2 h1 h2) (fun g3 => x_ifeqF (tgt := 37) k8005_30 (by decide) (show ¬ (1 : Int32) = 0 by decide) <| x_iconst (v := 1) k8005_33 rfl <| x_goto (tgt := 38) k8005_34 (by decide) <| x_iret k8005_38 rfl (Nat.le_refl _) (Nat.le_refl _) <| (q2 h1 h2 g3)) (fun g4 => x_ifeqT (tgt := 37) k8005_30 (by decide) (show (0 : Int32) = 0 by decide) <| x_iconst (v := 0) k8005_37 rfl <| x_iret k8005_38 rfl (Nat.le_refl _) (Nat.le_refl _) <| (q3 h1 h2 g4)))) (fun h1 => x_ald1 k8005_12 <| x_ild2 k8005_13 <| x_cS2 (MCz := 0) (MSz := 0) k8005_14 s8_39 (Nat.le_of_ble_eq_true rfl) (Nat.le_of_ble_eq_true rfl) (Nat.le_refl _) (Nat.le_refl _) <| s8006 hK hR cI (b3 h1) (x_iret k8005_17 rfl (Nat.le_refl _) (Nat.le_refl _) <| (q4 h1)))
theorem e8007 {b : Int32}    (q1 : X d 0 0 8007 0 0 2 [some (.ref 57), some (.ref 22), some (.int b), some (.int 0), none] [] (K, I, L, R, sz) Q) : X d 0 0 8007 0 0 0 (qent (qml 8007) [.ref 57, .ref 22, .int b]) [] (K, I, L, R, sz) Q := show X _ 0 0 8007 0 0 0 [some (.ref 57), some (.ref 22), some (.int b), none, none] [] _ _ from x_iconst (v := 0) k8007_0 rfl <| x_ist3 k8007_1 (Nat.le_of_ble_eq_true rfl) rfl <| q1
theorem g8007_2 {x2 : Int32} {x3 : Int32}  (hK : qLay K sz) (hR : qRef R) (b1 : ¬ (I 22 1) ≤ x3 → vp_in x3 5) (q1 : (I 22 1) ≤ x3 → Q (some (.int 1)) (K, I, L, R, sz)) (q2 : ¬ (I 22 1) ≤ x3 → (I 58 x3.toNatClampNeg) = (-1) → X d 0 0 8007 0 0 2 [some (.ref 57), some (.ref 22), some (.int x2), some (.int (x3 + 1)), none] [] (K, I, L, R, sz) Q) (q3 : ¬ (I 22 1) ≤ x3 → ¬ (I 58 x3.toNatClampNeg) = (-1) → (I 58 x3.toNatClampNeg) = 9 → X d 0 0 8007 0 0 2 [some (.ref 57), some (.ref 22), some (.int x2), some (.int (x3 + 1)), none] [] (K, I, L, R, sz) Q) (q4 : ¬ (I 22 1) ≤ x3 → ¬ (I 58 x3.toNatClampNeg) = (-1) → ¬ (I 58 x3.toNatClampNeg) = 9 → ¬ ((x2 >>> (x3 &&& 31)) &&& 1) = 0 → X d 0 0 8007 0 0 2 [some (.ref 57), some (.ref 22), some (.int x2), some (.int (x3 + 1)), none] [] (K, I, L, R, sz) Q) (q5 : ¬ (I 22 1) ≤ x3 → ¬ (I 58 x3.toNatClampNeg) = (-1) → ¬ (I 58 x3.toNatClampNeg) = 9 → ((x2 >>> (x3 &&& 31)) &&& 1) = 0 → Q (some (.int 0)) (K, I, L, R, sz)) : X d 0 0 8007 0 0 2 [some (.ref 57), some (.ref 22), some (.int x2), some (.int x3), none] [] (K, I, L, R, sz) Q := x_ild3 k8007_2 <| x_ald1 k8007_3 <| x_getI k8007_4 f8_25_1 (hK.at rfl) rfl <| x_icmpge (tgt := 59) k8007_7 (by decide) (fun h1 => x_iconst (v := 1) k8007_59 rfl <| x_zret k8007_60 rfl (Or.inr rfl) (Nat.le_refl _) (Nat.le_refl _) <| (q1 h1)) (fun h1 => x_ald0 k8007_10 <| x_getR k8007_11 f8_9_7 (hK.at rfl) rfl (hR _ _ _ rfl) <| x_ild3 k8007_14 <| x_iald k8007_15 (hK.at rfl) (b1 h1) <| x_iconst (v := (-1)) k8007_16 rfl <| x_icmpeq (tgt := 35) k8007_17 (by decide) (fun h2 => x_iconst (v := 0) k8007_35 rfl <| x_ist4 k8007_36 (Nat.le_of_ble_eq_true rfl) rfl <| x_ild4 k8007_38 <| x_ifeqT (tgt := 53) k8007_40 (by decide) (show (0 : Int32) = 0 by decide) <| x_inc3 (c := 1) k8007_53 rfl (Nat.le_of_ble_eq_true rfl) rfl <| x_goto (tgt := 2) k8007_56 (by decide) <| x_wk (ls := [some (.ref 57), some (.ref 22), some (.int x2), some (.int (x3 + 1)), none]) ⟨rfl, ⟨rfl, ⟨rfl, ⟨rfl, True.intro⟩⟩⟩⟩ <| (q2 h1 h2)) (fun h2 => x_ald0 k8007_20 <| x_getR k8007_21 f8_9_7 (hK.at rfl) rfl (hR _ _ _ rfl) <| x_ild3 k8007_24 <| x_iald k8007_25 (hK.at rfl) (b1 h1) <| x_bipush (v := 9) k8007_26 rfl <| x_icmpeq (tgt := 35) k8007_28 (by decide) (fun h3 => x_iconst (v := 0) k8007_35 rfl <| x_ist4 k8007_36 (Nat.le_of_ble_eq_true rfl) rfl <| x_ild4 k8007_38 <| x_ifeqT (tgt := 53) k8007_40 (by decide) (show (0 : Int32) = 0 by decide) <| x_inc3 (c := 1) k8007_53 rfl (Nat.le_of_ble_eq_true rfl) rfl <| x_goto (tgt := 2) k8007_56 (by decide) <| x_wk (ls := [some (.ref 57), some (.ref 22), some (.int x2), some (.int (x3 + 1)), none]) ⟨rfl, ⟨rfl, ⟨rfl, ⟨rfl, True.intro⟩⟩⟩⟩ <| (q3 h1 h2 h3)) (fun h3 => x_iconst (v := 1) k8007_31 rfl <| x_goto (tgt := 36) k8007_32 (by decide) <| x_ist4 k8007_36 (Nat.le_of_ble_eq_true rfl) rfl <| x_ild4 k8007_38 <| x_ifeqF (tgt := 53) k8007_40 (by decide) (show ¬ (1 : Int32) = 0 by decide) <| x_ild2 k8007_43 <| x_ild3 k8007_44 <| x_ishr k8007_45 <| x_iconst (v := 1) k8007_46 rfl <| x_iand k8007_47 <| x_ifne (tgt := 53) k8007_48 (by decide) (fun h4 => x_inc3 (c := 1) k8007_53 rfl (Nat.le_of_ble_eq_true rfl) rfl <| x_goto (tgt := 2) k8007_56 (by decide) <| x_wk (ls := [some (.ref 57), some (.ref 22), some (.int x2), some (.int (x3 + 1)), none]) ⟨rfl, ⟨rfl, ⟨rfl, ⟨rfl, True.intro⟩⟩⟩⟩ <| (q4 h1 h2 h3 h4)) (fun h4 => x_iconst (v := 0) k8007_51 rfl <| x_zret k8007_52 rfl (Or.inl rfl) (Nat.le_refl _) (Nat.le_refl _) <| (q5 h1 h2 h3 h4)))))
theorem s8005 {b : Int32} (hK : qLay K sz) (hR : qRef R) (cI : CI I p) (hb : qIn (pS p) b) (hs : qSee (pM p) (I 58 (Int32.toNatClampNeg b))) (hq : Q (some (.int (nI (rwL (pM p) (mayI I) (mtF (I 58)) (Int32.toNatClampNeg b))))) (K, I, L, R, sz)) : X (d + 2) 0 0 8005 0 0 0 (qent (qml 8005) [.ref 57, .ref 22, .int b]) [] (K, I, L, R, sz) Q := by
  have w5 := cI.w5
  have w3 := cI.w3
  have hb5 : qIn 5 b := hb.to5 w5
  have hbv := hb
  obtain ⟨s, hs5, rfl⟩ := hbv
  have ec : (nI s).toNatClampNeg = s := nI_c (by omega)
  rw [ec] at hs hq
  have hlast : ∀ m0, m0 < pM p → I 58 s = nI m0 → rwL (pM p) (mayI I) (mtF (I 58)) s = if mayI I m0 s then 1 else 0 := by
    intro m0 h0 e
    unfold rwL
    have hmt : ∀ m, m < pM p → mtF (I 58) s (m + 1) = decide (m = m0) := by
      intro m hm
      have e1 : ¬ nI m0 = -1 := nI_m1 (by omega)
      have e9 : ¬ nI m0 = 9 := fun q => by have := (nI_eq (a := m0) (b := 9) (by omega) (by omega)).mp q; omega
      unfold mtF
      rw [e, if_neg e9, nI_1, decide_eq_false e1, Bool.false_or]
      by_cases hmm : m = m0
      · rw [hmm]; simp
      · rw [decide_eq_false hmm, decide_eq_false]
        intro q
        have := (nI_eq (by omega) (by omega)).mp q
        omega
    rw [sm_one h0 (fun j hj hne => by rw [hmt j hj, decide_eq_false hne]; simp), hmt m0 h0]
    simp
  refine e8005 (p := p) hK hR cI (qIn_vp hb w5 (by omega)) (fun _ _ => hb5) (fun _ => hb) (fun h1 h2 => ?_) (fun h1 h2 h3 => ?_) (fun h1 h2 h3 => ?_) (fun h1 => ?_) <;> simp only [ec] at *
  · have : rwL (pM p) (mayI I) (mtF (I 58)) s = 0 := by
      unfold rwL
      rw [sm_cong (pM p) (g := fun _ => 0) (fun m hm => ?_), sm_0]
      unfold mtF
      rw [h2]
      simp
    rw [this] at hq
    exact hq
  · obtain ⟨m0, h4, h5⟩ := (hs.resolve_left h1).resolve_left h2
    rw [hlast m0 h4 h5, if_pos (by unfold mayI; rw [← h5]; simp [h3])] at hq
    exact hq
  · obtain ⟨m0, h4, h5⟩ := (hs.resolve_left h1).resolve_left h2
    rw [hlast m0 h4 h5, if_neg (by unfold mayI; rw [← h5]; simp [h3])] at hq
    exact hq
  · have : rwL (pM p) (mayI I) (mtF (I 58)) s = rwT (pM p) (mayI I) s := by
      unfold rwL rwT
      refine sm_cong (pM p) (fun m hm => ?_)
      unfold mtF
      rw [h1]
      simp
    rw [this] at hq
    exact hq
theorem s8007 {b : Int32} (hK : qLay K sz) (hR : qRef R) (cI : CI I p) (hb : qIn 32 b) (hsee : ∀ s, s < pS p → qSee (pM p) (I 58 s)) (ht : allB (fun s => bt (Int32.toNatClampNeg b) s || mtF (I 58) s 0) (pS p) = true → Q (some (.int 1)) (K, I, L, R, sz)) (hf : ¬ allB (fun s => bt (Int32.toNatClampNeg b) s || mtF (I 58) s 0) (pS p) = true → Q (some (.int 0)) (K, I, L, R, sz)) : X d 0 0 8007 0 0 0 (qent (qml 8007) [.ref 57, .ref 22, .int b]) [] (K, I, L, R, sz) Q := by
  obtain ⟨x, hx, rfl⟩ := hb
  rw [nI_c (by omega)] at ht hf
  have w5 := cI.w5
  have w3 := cI.w3
  have lS := cI.lS
  have hl : ∀ (k i : Nat), i + k = pS p → (∀ s, s < i → (bt x s || mtF (I 58) s 0) = true) → X d 0 0 8007 0 0 2 [some (.ref 57), some (.ref 22), some (.int (nI x)), some (.int (nI i)), none] [] (K, I, L, R, sz) Q := by
    intro k
    induction k with
    | zero =>
      intro i hi hall
      have hle : I 22 1 ≤ nI i := by rw [lS]; exact nI_le (by omega) (by omega)
      have : i = pS p := by omega
      subst this
      exact g8007_2 hK hR (fun h => absurd hle h) (fun _ => ht ((allB_iff _).mpr hall)) (fun h => absurd hle h) (fun h => absurd hle h) (fun h => absurd hle h) (fun h => absurd hle h)
    | succ k ih =>
      intro i hi hall
      have hnl : ¬ I 22 1 ≤ nI i := by rw [lS]; exact nI_ge (by omega) (by omega)
      have hgo : (bt x i || mtF (I 58) i 0) = true → X d 0 0 8007 0 0 2 [some (.ref 57), some (.ref 22), some (.int (nI x)), some (.int (nI i + 1)), none] [] (K, I, L, R, sz) Q := by
        intro h
        rw [nI_1]
        refine ih (i + 1) (by omega) (fun s hs => ?_)
        by_cases hsi : s = i
        · rw [hsi]; exact h
        · exact hall s (by omega)
      have ec : (nI i).toNatClampNeg = i := nI_c (by omega)
      refine g8007_2 hK hR (fun _ => vI (by omega) (by omega)) (fun h => absurd h hnl) (fun _ h => ?_) (fun _ h1 h => ?_) (fun _ h1 h2 h => ?_) (fun _ h1 h2 h => ?_) <;> rw [ec] at *
      · exact hgo (by unfold mtF; rw [h]; simp)
      · exact hgo (by unfold mtF; rw [h]; simp)
      · rw [bt_shr hx (by omega)] at h
        exact hgo (by cases hbb : bt x i <;> simp_all)
      · rw [bt_shr hx (by omega)] at h
        refine hf (fun q => ?_)
        have := (allB_iff _).mp q i (by omega)
        rw [h, Bool.false_or] at this
        obtain ⟨m0, h4, h5⟩ := ((hsee i (by omega)).resolve_left h1).resolve_left h2
        unfold mtF at this
        rw [decide_eq_false h1, if_neg h2, Bool.false_or, h5, nI_1] at this
        have := of_decide_eq_true this
        have := (nI_eq (a := 0) (by omega) (by omega)).mp this
        omega
  exact e8007 (hl (pS p) 0 (by omega) (fun s hs => by omega))
theorem e8004 {b : Int32}    (q1 : X d 0 0 8004 0 0 5 [some (.ref 57), some (.ref 22), some (.int b), some (.long 0), none, some (.int 0), none] [] (K, I, L, R, sz) Q) : X d 0 0 8004 0 0 0 (qent (qml 8004) [.ref 57, .ref 22, .int b]) [] (K, I, L, R, sz) Q := show X _ 0 0 8004 0 0 0 [some (.ref 57), some (.ref 22), some (.int b), none, none, none, none] [] _ _ from x_lconst (v := 0) k8004_0 rfl <| x_lst3 k8004_1 (Nat.le_of_ble_eq_true rfl) rfl <| x_iconst (v := 0) k8004_2 rfl <| x_ist5 k8004_3 (Nat.le_of_ble_eq_true rfl) rfl <| q1
theorem g8004_5 {x2 : Int32} {x3 : Int64} {x5 : Int32}  (hK : qLay K sz) (hR : qRef R) (cI : CI I p) (b1 : ¬ (I 22 1) ≤ x5 → ¬ (x2 &&& (1 <<< (x5 &&& 31))) = 0 → vp_in x2 32) (b2 : ¬ (I 22 1) ≤ x5 → ¬ (x2 &&& (1 <<< (x5 &&& 31))) = 0 → qIn (pS p) x5) (b3 : ¬ (I 22 1) ≤ x5 → ¬ (x2 &&& (1 <<< (x5 &&& 31))) = 0 → vp_in (x2 ^^^ (1 <<< (x5 &&& 31))) 32) (b4 : ¬ (I 22 1) ≤ x5 → ¬ (x2 &&& (1 <<< (x5 &&& 31))) = 0 → qSee (pM p) (I 58 (Int32.toNatClampNeg x5))) (q1 : (I 22 1) ≤ x5 → Q (some (.long x3)) (K, I, L, R, sz)) (q2 : ¬ (I 22 1) ≤ x5 → (x2 &&& (1 <<< (x5 &&& 31))) = 0 → X (d + 3) 0 0 8004 0 0 5 [some (.ref 57), some (.ref 22), some (.int x2), some (.long x3), none, some (.int (x5 + 1)), none] [] (K, I, L, R, sz) Q) (q3 : ¬ (I 22 1) ≤ x5 → ¬ (x2 &&& (1 <<< (x5 &&& 31))) = 0 → X (d + 3) 0 0 8004 0 0 5 [some (.ref 57), some (.ref 22), some (.int x2), some (.long ((x3 + ((L 59 x2.toNatClampNeg) * ((nI (rwT (pM p) (mayI I) (Int32.toNatClampNeg x5))).toInt64))) + ((L 59 ((x2 ^^^ (1 <<< (x5 &&& 31))).toNatClampNeg)) * ((nI (rwL (pM p) (mayI I) (mtF (I 58)) (Int32.toNatClampNeg x5))).toInt64)))), none, some (.int (x5 + 1)), none] [] (K, I, L, R, sz) Q) : X (d + 3) 0 0 8004 0 0 5 [some (.ref 57), some (.ref 22), some (.int x2), some (.long x3), none, some (.int x5), none] [] (K, I, L, R, sz) Q := x_ild5 k8004_5 <| x_ald1 k8004_7 <| x_getI k8004_8 f8_25_1 (hK.at rfl) rfl <| x_icmpge (tgt := 71) k8004_11 (by decide) (fun h1 => x_lld3 k8004_71 <| x_lret k8004_72 rfl (Nat.le_refl _) (Nat.le_refl _) <| (q1 h1)) (fun h1 => x_iconst (v := 1) k8004_14 rfl <| x_ild5 k8004_15 <| x_ishl k8004_17 <| x_ist6 k8004_18 (Nat.le_of_ble_eq_true rfl) rfl <| x_ild2 k8004_20 <| x_ild6 k8004_21 <| x_iand k8004_23 <| x_ifeq (tgt := 65) k8004_24 (by decide) (fun h2 => x_inc5 (c := 1) k8004_65 rfl (Nat.le_of_ble_eq_true rfl) rfl <| x_goto (tgt := 5) k8004_68 (by decide) <| x_wk (ls := [some (.ref 57), some (.ref 22), some (.int x2), some (.long x3), none, some (.int (x5 + 1)), none]) ⟨rfl, ⟨rfl, ⟨rfl, ⟨rfl, ⟨rfl, True.intro⟩⟩⟩⟩⟩ <| (q2 h1 h2)) (fun h2 => x_lld3 k8004_27 <| x_ald0 k8004_28 <| x_getR k8004_29 f8_15_7 (hK.at rfl) rfl (hR _ _ _ rfl) <| x_ild2 k8004_32 <| x_lald k8004_33 (hK.at rfl) (b1 h1 h2) <| x_ald1 k8004_34 <| x_ild5 k8004_35 <| x_cS2 (MCz := 0) (MSz := 0) k8004_37 s8_39 (Nat.le_of_ble_eq_true rfl) (Nat.le_of_ble_eq_true rfl) (Nat.le_refl _) (Nat.le_refl _) <| s8006 hK hR cI (b2 h1 h2) (x_i2l k8004_40 <| x_lmul k8004_41 <| x_ladd k8004_42 <| x_lst3 k8004_43 (Nat.le_of_ble_eq_true rfl) rfl <| x_lld3 k8004_44 <| x_ald0 k8004_45 <| x_getR k8004_46 f8_15_7 (hK.at rfl) rfl (hR _ _ _ rfl) <| x_ild2 k8004_49 <| x_ild6 k8004_50 <| x_ixor k8004_52 <| x_lald k8004_53 (hK.at rfl) (b3 h1 h2) <| x_ald0 k8004_54 <| x_ald1 k8004_55 <| x_ild5 k8004_56 <| x_cV2 (MCz := 0) (MSz := 0) k8004_58 v8_43_7 (hK.at rfl) (Nat.le_of_ble_eq_true rfl) (Nat.le_of_ble_eq_true rfl) (Nat.le_refl _) (Nat.le_refl _) <| s8005 hK hR cI (b2 h1 h2) (b4 h1 h2) (x_i2l k8004_61 <| x_lmul k8004_62 <| x_ladd k8004_63 <| x_lst3 k8004_64 (Nat.le_of_ble_eq_true rfl) rfl <| x_inc5 (c := 1) k8004_65 rfl (Nat.le_of_ble_eq_true rfl) rfl <| x_goto (tgt := 5) k8004_68 (by decide) <| x_wk (ls := [some (.ref 57), some (.ref 22), some (.int x2), some (.long ((x3 + ((L 59 x2.toNatClampNeg) * ((nI (rwT (pM p) (mayI I) (Int32.toNatClampNeg x5))).toInt64))) + ((L 59 ((x2 ^^^ (1 <<< (x5 &&& 31))).toNatClampNeg)) * ((nI (rwL (pM p) (mayI I) (mtF (I 58)) (Int32.toNatClampNeg x5))).toInt64)))), none, some (.int (x5 + 1)), none]) ⟨rfl, ⟨rfl, ⟨rfl, ⟨rfl, ⟨rfl, True.intro⟩⟩⟩⟩⟩ <| (q3 h1 h2)))))
theorem s8004 {b : Int32} (hK : qLay K sz) (hR : qRef R) (cI : CI I p) (hb : qIn (2 ^ pS p) b) (hsee : ∀ s, s < pS p → qSee (pM p) (I 58 s)) (hW : ∀ y, y ≤ Int32.toNatClampNeg b → L 59 y = lN (W y)) (hq : Q (some (.long (lN (wol (pS p) (rwT (pM p) (mayI I)) (rwL (pM p) (mayI I) (mtF (I 58))) W (Int32.toNatClampNeg b))))) (K, I, L, R, sz)) : X (d + 3) 0 0 8004 0 0 0 (qent (qml 8004) [.ref 57, .ref 22, .int b]) [] (K, I, L, R, sz) Q := by
  obtain ⟨x, hx, rfl⟩ := hb
  have w5 := cI.w5
  have w3 := cI.w3
  have lS := cI.lS
  have hx32 : x < 32 := Nat.lt_of_lt_of_le hx (pw_le w5)
  rw [nI_c (by omega)] at hW hq
  have hl : ∀ (k i : Nat), i + k = pS p → X (d + 3) 0 0 8004 0 0 5 [some (.ref 57), some (.ref 22), some (.int (nI x)), some (.long (lN (sm (fun s => if bt x s then W x * rwT (pM p) (mayI I) s + W (x - 2 ^ s) * rwL (pM p) (mayI I) (mtF (I 58)) s else 0) i))), none, some (.int (nI i)), none] [] (K, I, L, R, sz) Q := by
    intro k
    induction k with
    | zero =>
      intro i hi
      have hle : I 22 1 ≤ nI i := by rw [lS]; exact nI_le (by omega) (by omega)
      have : i = pS p := by omega
      subst this
      exact g8004_5 (p := p) hK hR cI (fun h => absurd hle h) (fun h => absurd hle h) (fun h => absurd hle h) (fun h => absurd hle h) (fun _ => hq) (fun h => absurd hle h) (fun h => absurd hle h)
    | succ k ih =>
      intro i hi
      have hnl : ¬ I 22 1 ≤ nI i := by rw [lS]; exact nI_ge (by omega) (by omega)
      have ih' := ih (i + 1) (by omega)
      have ec : (nI i).toNatClampNeg = i := nI_c (by omega)
      have hand := bt_and hx32 (s := i) (by omega)
      refine g8004_5 (p := p) hK hR cI (fun _ _ => vI hx32 (by omega)) (fun _ _ => ⟨i, by omega, rfl⟩) (fun _ h => ?_) (fun _ _ => by rw [ec]; exact hsee i (by omega)) (fun h => absurd h hnl) (fun _ h => ?_) (fun _ h => ?_)
      · have hbt : bt x i = true := by cases hb : bt x i with
          | true => rfl
          | false => exact absurd (hand.mpr hb) h
        rw [bt_xor hx32 (by omega) hbt]
        exact vI (Nat.lt_of_le_of_lt (Nat.sub_le _ _) hx32) (by omega)
      · rw [hand] at h
        rw [sm, h] at ih'
        rw [nI_1]
        exact ih'
      · have hbt : bt x i = true := by cases hb : bt x i with
          | true => rfl
          | false => exact absurd (hand.mpr hb) h
        rw [sm, hbt] at ih'
        have hT : rwT (pM p) (mayI I) i < 2147483648 := by
          have h1 : rwT (pM p) (mayI I) i ≤ sm (fun _ => 1) (pM p) := sm_le _ (fun m _ => by split <;> omega)
          have h2 : ∀ n, sm (fun _ => 1) n = n := fun n => by induction n with
            | zero => rfl
            | succ n ih => rw [sm, ih]
          rw [h2] at h1; omega
        have hLb : rwL (pM p) (mayI I) (mtF (I 58)) i < 2147483648 := by
          have h1 : rwL (pM p) (mayI I) (mtF (I 58)) i ≤ sm (fun _ => 1) (pM p) := sm_le _ (fun m _ => by split <;> omega)
          have h2 : ∀ n, sm (fun _ => 1) n = n := fun n => by induction n with
            | zero => rfl
            | succ n ih => rw [sm, ih]
          rw [h2] at h1; omega
        have hxs : x - 2 ^ i < 2147483648 := Nat.lt_of_le_of_lt (Nat.sub_le _ _) (by omega)
        rw [ec, bt_xor hx32 (by omega) hbt, nI_c (by omega), nI_c hxs, hW x (Nat.le_refl _), hW (x - 2 ^ i) (Nat.sub_le _ _), nI_l hT, nI_l hLb, lN_mul, lN_mul, lN_add, lN_add, nI_1, Nat.add_assoc]
        exact ih'
  exact e8004 (hl (pS p) 0 (by omega))
theorem e8003 {b : Int32}  (hK : qLay K sz)  (q1 : X d 0 0 8003 0 0 10 [some (.ref 57), some (.ref 22), some (.int b), some (.int (1 <<< ((I 22 1) &&& 31))), some (.int 0), none, none] [] (K, I, L, R, sz) Q) : X d 0 0 8003 0 0 0 (qent (qml 8003) [.ref 57, .ref 22, .int b]) [] (K, I, L, R, sz) Q := show X _ 0 0 8003 0 0 0 [some (.ref 57), some (.ref 22), some (.int b), none, none, none, none] [] _ _ from x_iconst (v := 1) k8003_0 rfl <| x_ald1 k8003_1 <| x_getI k8003_2 f8_25_1 (hK.at rfl) rfl <| x_ishl k8003_5 <| x_ist3 k8003_6 (Nat.le_of_ble_eq_true rfl) rfl <| x_iconst (v := 0) k8003_7 rfl <| x_ist4 k8003_8 (Nat.le_of_ble_eq_true rfl) rfl <| q1
theorem g8003_10 {x2 : Int32} {x3 : Int32} {x4 : Int32}  (hK : qLay K sz) (hR : qRef R) (b1 : ¬ x3 ≤ x4 → ¬ x4 = 0 → vp_in x4 32) (b2 : ¬ x3 ≤ x4 → x4 = 0 → vp_in x4 32) (q1 : x3 ≤ x4 → X d 0 0 8003 0 0 42 [some (.ref 57), some (.ref 22), some (.int x2), some (.int x3), some (.int 0), none, none] [] (K, I, L, R, sz) Q) (q2 : ¬ x3 ≤ x4 → ¬ x4 = 0 → X d 0 0 8003 0 0 10 [some (.ref 57), some (.ref 22), some (.int x2), some (.int x3), some (.int (x4 + 1)), none, none] [] (K, I, va_up L 59 (vp_updL (L 59) x4.toNatClampNeg 0), R, sz) Q) (q3 : ¬ x3 ≤ x4 → x4 = 0 → X d 0 0 8003 0 0 10 [some (.ref 57), some (.ref 22), some (.int x2), some (.int x3), some (.int (x4 + 1)), none, none] [] (K, I, va_up L 59 (vp_updL (L 59) x4.toNatClampNeg 1), R, sz) Q) : X d 0 0 8003 0 0 10 [some (.ref 57), some (.ref 22), some (.int x2), some (.int x3), some (.int x4), none, none] [] (K, I, L, R, sz) Q := x_ild4 k8003_10 <| x_ild3 k8003_12 <| x_icmpge (tgt := 39) k8003_13 (by decide) (fun h1 => x_iconst (v := 0) k8003_39 rfl <| x_ist4 k8003_40 (Nat.le_of_ble_eq_true rfl) rfl <| (q1 h1)) (fun h1 => x_ald0 k8003_16 <| x_getR k8003_17 f8_15_7 (hK.at rfl) rfl (hR _ _ _ rfl) <| x_ild4 k8003_20 <| x_ild4 k8003_22 <| x_ifne (tgt := 31) k8003_24 (by decide) (fun h2 => x_lconst (v := 0) k8003_31 rfl <| x_last k8003_32 (hK.at rfl) (b1 h1 h2) <| x_inc4 (c := 1) k8003_33 rfl (Nat.le_of_ble_eq_true rfl) rfl <| x_goto (tgt := 10) k8003_36 (by decide) <| (q2 h1 h2)) (fun h2 => x_lconst (v := 1) k8003_27 rfl <| x_goto (tgt := 32) k8003_28 (by decide) <| x_last k8003_32 (hK.at rfl) (b2 h1 h2) <| x_inc4 (c := 1) k8003_33 rfl (Nat.le_of_ble_eq_true rfl) rfl <| x_goto (tgt := 10) k8003_36 (by decide) <| (q3 h1 h2)))
theorem g8003_42 {x2 : Int32} {x3 : Int32} {x4 : Int32}    (q1 : x2 ≤ x4 → X d 0 0 8003 0 0 90 [some (.ref 57), some (.ref 22), some (.int x2), some (.int x3), some (.long 0), none, some (.int 0)] [] (K, I, L, R, sz) Q) (q2 : ¬ x2 ≤ x4 → X d 0 0 8003 0 0 53 [some (.ref 57), some (.ref 22), some (.int x2), some (.int x3), some (.int x4), some (.int (x3 - 1)), none] [] (K, I, L, R, sz) Q) : X d 0 0 8003 0 0 42 [some (.ref 57), some (.ref 22), some (.int x2), some (.int x3), some (.int x4), none, none] [] (K, I, L, R, sz) Q := x_ild4 k8003_42 <| x_ild2 k8003_44 <| x_icmpge (tgt := 84) k8003_45 (by decide) (fun h1 => x_lconst (v := 0) k8003_84 rfl <| x_lst4 k8003_85 (Nat.le_of_ble_eq_true rfl) rfl <| x_iconst (v := 0) k8003_87 rfl <| x_ist6 k8003_88 (Nat.le_of_ble_eq_true rfl) rfl <| (q1 h1)) (fun h1 => x_ild3 k8003_48 <| x_iconst (v := 1) k8003_49 rfl <| x_isub k8003_50 <| x_ist5 k8003_51 (Nat.le_of_ble_eq_true rfl) rfl <| (q2 h1))
theorem g8003_90 {x2 : Int32} {x3 : Int32} {x4 : Int64} {x6 : Int32}  (hK : qLay K sz) (hR : qRef R) (cI : CI I p) (b1 : ¬ x3 ≤ x6 → qIn 32 x6) (b2 : ¬ x3 ≤ x6 → ∀ s, s < pS p → qSee (pM p) (I 58 s)) (b3 : ¬ x3 ≤ x6 → allB (fun s => bt (Int32.toNatClampNeg x6) s || mtF (I 58) s 0) (pS p) = true → vp_in x6 32) (q1 : x3 ≤ x6 → Q (some (.long x4)) (K, I, L, R, sz)) (q2 : ¬ x3 ≤ x6 → allB (fun s => bt (Int32.toNatClampNeg x6) s || mtF (I 58) s 0) (pS p) = true → X (d + 1) 0 0 8003 0 0 90 [some (.ref 57), some (.ref 22), some (.int x2), some (.int x3), some (.long (x4 + (L 59 x6.toNatClampNeg))), none, some (.int (x6 + 1))] [] (K, I, L, R, sz) Q) (q3 : ¬ x3 ≤ x6 → ¬ allB (fun s => bt (Int32.toNatClampNeg x6) s || mtF (I 58) s 0) (pS p) = true → X (d + 1) 0 0 8003 0 0 90 [some (.ref 57), some (.ref 22), some (.int x2), some (.int x3), some (.long (x4 + 0)), none, some (.int (x6 + 1))] [] (K, I, L, R, sz) Q) : X (d + 1) 0 0 8003 0 0 90 [some (.ref 57), some (.ref 22), some (.int x2), some (.int x3), some (.long x4), none, some (.int x6)] [] (K, I, L, R, sz) Q := x_ild6 k8003_90 <| x_ild3 k8003_92 <| x_icmpge (tgt := 128) k8003_93 (by decide) (fun h1 => x_lld4 k8003_128 <| x_lret k8003_130 rfl (Nat.le_refl _) (Nat.le_refl _) <| (q1 h1)) (fun h1 => x_lld4 k8003_96 <| x_ald0 k8003_98 <| x_ald1 k8003_99 <| x_ild6 k8003_100 <| x_cV2 (MCz := 0) (MSz := 0) k8003_102 v8_35_7 (hK.at rfl) (Nat.le_of_ble_eq_true rfl) (Nat.le_of_ble_eq_true rfl) (Nat.le_refl _) (Nat.le_refl _) <| s8007 hK hR cI (b1 h1) (b2 h1) (fun g2 => x_ifeqF (tgt := 118) k8003_105 (by decide) (show ¬ (1 : Int32) = 0 by decide) <| x_ald0 k8003_108 <| x_getR k8003_109 f8_15_7 (hK.at rfl) rfl (hR _ _ _ rfl) <| x_ild6 k8003_112 <| x_lald k8003_114 (hK.at rfl) (b3 h1 g2) <| x_goto (tgt := 119) k8003_115 (by decide) <| x_ladd k8003_119 <| x_lst4 k8003_120 (Nat.le_of_ble_eq_true rfl) rfl <| x_inc6 (c := 1) k8003_122 rfl (Nat.le_of_ble_eq_true rfl) rfl <| x_goto (tgt := 90) k8003_125 (by decide) <| (q2 h1 g2)) (fun g3 => x_ifeqT (tgt := 118) k8003_105 (by decide) (show (0 : Int32) = 0 by decide) <| x_lconst (v := 0) k8003_118 rfl <| x_ladd k8003_119 <| x_lst4 k8003_120 (Nat.le_of_ble_eq_true rfl) rfl <| x_inc6 (c := 1) k8003_122 rfl (Nat.le_of_ble_eq_true rfl) rfl <| x_goto (tgt := 90) k8003_125 (by decide) <| (q3 h1 g3)))
theorem g8003_53 {x2 : Int32} {x3 : Int32} {x4 : Int32} {x5 : Int32}  (hK : qLay K sz) (hR : qRef R) (cI : CI I p) (b1 : ¬ x5 < 0 → qIn (2 ^ pS p) x5) (b2 : ¬ x5 < 0 → ∀ s, s < pS p → qSee (pM p) (I 58 s)) (b3 : ¬ x5 < 0 → ∀ y, y ≤ Int32.toNatClampNeg x5 → L 59 y = lN (W y)) (b4 : ¬ x5 < 0 → vp_in x5 32) (q1 : x5 < 0 → X (d + 4) 0 0 8003 0 0 42 [some (.ref 57), some (.ref 22), some (.int x2), some (.int x3), some (.int (x4 + 1)), none, none] [] (K, I, L, R, sz) Q) (q2 : ¬ x5 < 0 → X (d + 4) 0 0 8003 0 0 53 [some (.ref 57), some (.ref 22), some (.int x2), some (.int x3), some (.int x4), some (.int (x5 + (-1))), none] [] (K, I, va_up L 59 (vp_updL (L 59) x5.toNatClampNeg (lN (wol (pS p) (rwT (pM p) (mayI I)) (rwL (pM p) (mayI I) (mtF (I 58))) W (Int32.toNatClampNeg x5)))), R, sz) Q) : X (d + 4) 0 0 8003 0 0 53 [some (.ref 57), some (.ref 22), some (.int x2), some (.int x3), some (.int x4), some (.int x5), none] [] (K, I, L, R, sz) Q := x_ild5 k8003_53 <| x_iflt (tgt := 78) k8003_55 (by decide) (fun h1 => x_inc4 (c := 1) k8003_78 rfl (Nat.le_of_ble_eq_true rfl) rfl <| x_goto (tgt := 42) k8003_81 (by decide) <| x_wk (ls := [some (.ref 57), some (.ref 22), some (.int x2), some (.int x3), some (.int (x4 + 1)), none, none]) ⟨rfl, ⟨rfl, ⟨rfl, ⟨rfl, ⟨rfl, True.intro⟩⟩⟩⟩⟩ <| (q1 h1)) (fun h1 => x_ald0 k8003_58 <| x_getR k8003_59 f8_15_7 (hK.at rfl) rfl (hR _ _ _ rfl) <| x_ild5 k8003_62 <| x_ald0 k8003_64 <| x_ald1 k8003_65 <| x_ild5 k8003_66 <| x_cV2 (MCz := 0) (MSz := 0) k8003_68 v8_31_7 (hK.at rfl) (Nat.le_of_ble_eq_true rfl) (Nat.le_of_ble_eq_true rfl) (Nat.le_refl _) (Nat.le_refl _) <| s8004 hK hR cI (b1 h1) (b2 h1) (b3 h1) (x_last k8003_71 (hK.at rfl) (b4 h1) <| x_inc5 (c := (-1)) k8003_72 rfl (Nat.le_of_ble_eq_true rfl) rfl <| x_goto (tgt := 53) k8003_75 (by decide) <| (q2 h1)))
end L81
