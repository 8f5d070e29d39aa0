/-! rivals: the class's answer, a duel made at need -/
section L90a
variable {K : qK} {I : Nat → Nat → Int32} {R : Nat → Nat → Option Nat} {sz : Nat}
theorem qAt_n {i : Nat} {k k' : Nat ⊕ (Nat × Nat)} (h : qAt K sz i k) : qAt (va_up K sz k') (sz + 1) i k := ⟨Nat.lt_succ_of_lt h.1, by rw [vu_n (Nat.ne_of_lt h.1)]; exact h.2⟩
theorem qAt_s {k : Nat ⊕ (Nat × Nat)} : qAt (va_up K sz k) (sz + 1) sz k := ⟨Nat.lt_succ_self _, vu_s⟩
theorem qLay_n {k' : Nat ⊕ (Nat × Nat)} (h : qLay K sz) : qLay (va_up K sz k') (sz + 1) := ⟨Nat.le_succ_of_le h.1, fun i k e => (qAt_n (h.at e)).2⟩
/-- memory after a call that may have made a duel, u -/
def qGr (K : qK) (I : Nat → Nat → Int32) (R : Nat → Nat → Option Nat) (sz : Nat) (K' : qK) (I' : Nat → Nat → Int32) (R' : Nat → Nat → Option Nat) (sz' u : Nat) : Prop := (sz ≤ sz' ∧ (sz' = sz ∨ (R 0 17 = none ∧ sz' ≤ sz + 4))) ∧ (∀ j, j < sz → K' j = K j) ∧ qLo I I' ∧ (∀ j, j ≠ 0 → j < sz → j ≠ u → R' j = R j) ∧ (∀ k, k ≠ 17 → R' 0 k = R 0 k) ∧ R' 0 17 = some u ∧ qDu K' R' sz' u
def rvG (p : qPa) (a b c e : Int32) : Prop := qIn (pM p) a ∧ qIn (pM p) b ∧ ¬ a = b ∧ ¬ c < 1 ∧ ¬ 8 < c ∧ (e = 0 ∨ e = 1)
noncomputable def rvA (I : Nat → Nat → Int32) (p : qPa) (a b c : Int32) : Int32 × Int32 := rvS I p a.toNatClampNeg b.toNatClampNeg true (rvV I p a.toNatClampNeg b.toNatClampNeg (2 * c.toNatClampNeg - 1)) (I (30 + a.toNatClampNeg) 0).toNatClampNeg (I (30 + b.toNatClampNeg) 0).toNatClampNeg 0
noncomputable def fRivals (I : Nat → Nat → Int32) (p : qPa) (a b c e : Int32) : Int32 := by
  classical
  exact if rvG p a b c e then (if e = 0 then (rvA I p a b c).1 else (rvA I p a b c).2) else -1000000
end L90a
section L90
variable {d : Nat} {K : qK} {I : Nat → Nat → Int32} {L : Nat → Nat → Int64} {R : Nat → Nat → Option Nat} {sz : Nat} {Q : Option Value → qMem → Prop} {p : qPa} {nw tn u m1 m2 : Nat}
theorem e11024 {MC MS uc us : Nat} (hc : uc ≤ MC) (hs : us ≤ MS) {a : Int32} {b : Int32} {c : Int32} {e : Int32}  (hK : qLay K sz) (hR : qRef R) (cI : CI I p)  (q1 : qIn (pM p) a → qIn (pM p) b → ¬ a = b → c < 1 → Q (some (.int (-1000000))) (K, I, L, R, sz)) (q2 : qIn (pM p) a → qIn (pM p) b → ¬ a = b → ¬ c < 1 → 8 < c → Q (some (.int (-1000000))) (K, I, L, R, sz)) (q3 : qIn (pM p) a → qIn (pM p) b → ¬ a = b → ¬ c < 1 → ¬ 8 < c → e = 0 ∨ e = 1 → X (d + 1) MC MS 11024 uc us 46 [some (.ref 0), some (.int a), some (.int b), some (.int c), some (.int e)] [] (K, I, L, R, sz) Q) (q4 : qIn (pM p) a → qIn (pM p) b → ¬ a = b → ¬ c < 1 → ¬ 8 < c → ¬ (e = 0 ∨ e = 1) → Q (some (.int (-1000000))) (K, I, L, R, sz)) (q5 : qIn (pM p) a → qIn (pM p) b → a = b → Q (some (.int (-1000000))) (K, I, L, R, sz)) (q6 : qIn (pM p) a → ¬ qIn (pM p) b → Q (some (.int (-1000000))) (K, I, L, R, sz)) (q7 : ¬ qIn (pM p) a → Q (some (.int (-1000000))) (K, I, L, R, sz)) : X (d + 1) MC MS 11024 uc us 0 (qent (qml 11024) [.ref 0, .int a, .int b, .int c, .int e]) [] (K, I, L, R, sz) Q := show X _ MC MS 11024 uc us 0 [some (.ref 0), some (.int a), some (.int b), some (.int c), some (.int e)] [] _ _ from x_ald0 k11024_0 <| x_ild1 k11024_1 <| x_cV1 (MCz := 0) (MSz := 0) k11024_2 v11_144_10 (hK.at rfl) (Nat.le_of_ble_eq_true rfl) (Nat.le_of_ble_eq_true rfl) hc hs <| u11040 hK hR cI (fun g1 => x_ifeqF (tgt := 21) k11024_5 (by decide) (show ¬ (1 : Int32) = 0 by decide) <| x_ald0 k11024_8 <| x_ild2 k11024_9 <| x_cV1 (MCz := 0) (MSz := 0) k11024_10 v11_144_10 (hK.at rfl) (Nat.le_of_ble_eq_true rfl) (Nat.le_of_ble_eq_true rfl) hc hs <| u11040 hK hR cI (fun g2 => x_ifeqF (tgt := 21) k11024_13 (by decide) (show ¬ (1 : Int32) = 0 by decide) <| x_ild1 k11024_16 <| x_ild2 k11024_17 <| x_icmpne (tgt := 24) k11024_18 (by decide) (fun h3 => x_ild3 k11024_24 <| x_iconst (v := 1) k11024_25 rfl <| x_icmplt (tgt := 43) k11024_26 (by decide) (fun h4 => x_ldcI k11024_43 c11_153 <| x_iret k11024_45 rfl hc hs <| (q1 g1 g2 h3 h4)) (fun h4 => x_ild3 k11024_29 <| x_bipush (v := 8) k11024_30 rfl <| x_icmpgt (tgt := 43) k11024_32 (by decide) (fun h5 => x_ldcI k11024_43 c11_153 <| x_iret k11024_45 rfl hc hs <| (q2 g1 g2 h3 h4 h5)) (fun h5 => x_ild4 k11024_35 <| x_cS1 (MCz := 0) (MSz := 0) k11024_37 s11_212 (Nat.le_of_ble_eq_true rfl) (Nat.le_of_ble_eq_true rfl) hc hs <| s11041 (fun g6 => x_ifneT (tgt := 46) k11024_40 (by decide) (show ¬ (1 : Int32) = 0 by decide) <| (q3 g1 g2 h3 h4 h5 g6)) (fun g7 => x_ifneF (tgt := 46) k11024_40 (by decide) (show (0 : Int32) = 0 by decide) <| x_ldcI k11024_43 c11_153 <| x_iret k11024_45 rfl hc hs <| (q4 g1 g2 h3 h4 h5 g7))))) (fun h3 => x_ldcI k11024_21 c11_153 <| x_iret k11024_23 rfl hc hs <| (q5 g1 g2 h3))) (fun g8 => x_ifeqT (tgt := 21) k11024_13 (by decide) (show (0 : Int32) = 0 by decide) <| x_ldcI k11024_21 c11_153 <| x_iret k11024_23 rfl hc hs <| (q6 g1 g8))) (fun g9 => x_ifeqT (tgt := 21) k11024_5 (by decide) (show (0 : Int32) = 0 by decide) <| x_ldcI k11024_21 c11_153 <| x_iret k11024_23 rfl hc hs <| (q7 g9))
theorem m11024 {MC MS uc us : Nat} (hc : uc ≤ MC) (hs : us ≤ MS) {a : Int32} {b : Int32} {c : Int32} {e : Int32}  {u : Nat} (hK : qLay K sz) (h17 : R 0 17 = some u) (hu : qAt K sz u (.inl 0))  (q1 : X d MC MS 11024 uc us 64 [some (.ref 0), some (.int a), some (.int b), some (.int c), some (.int e)] [] (K, I, L, R, sz) Q) : X d MC MS 11024 uc us 46 [some (.ref 0), some (.int a), some (.int b), some (.int c), some (.int e)] [] (K, I, L, R, sz) Q := x_ald0 k11024_46 <| x_getR k11024_47 f11_251_10 (hK.at rfl) rfl h17 <| x_ifnonnull (tgt := 64) k11024_50 (by decide) <| q1
theorem n11024 {MC MS uc us : Nat} (hc : uc ≤ MC) (hs : us ≤ MS) {a : Int32} {b : Int32} {c : Int32} {e : Int32}  {u : Nat} (hK : qLay K sz) (hR : qRef R) (h17 : R 0 17 = some u) (hu : qAt K sz u (.inl 0))  (q1 : X d MC MS 11024 uc us 75 [some (.ref 0), some (.int a), some (.int b), some (.int c), some (.int e)] [.int c, .int b, .int a, .ref 22, .ref u] (K, I, L, R, sz) Q) : X d MC MS 11024 uc us 64 [some (.ref 0), some (.int a), some (.int b), some (.int c), some (.int e)] [] (K, I, L, R, sz) Q := x_ald0 k11024_64 <| x_getR k11024_65 f11_251_10 (hK.at rfl) rfl h17 <| x_ald0 k11024_68 <| x_getR k11024_69 f11_35_10 (hK.at rfl) rfl (hR _ _ _ rfl) <| x_ild1 k11024_72 <| x_ild2 k11024_73 <| x_ild3 k11024_74 <| q1
theorem p11024 {MC MS uc us : Nat} (hc : uc ≤ MC) (hs : us ≤ MS) {a : Int32} {b : Int32} {c : Int32} {e : Int32}  {u : Nat} (hK : qLay K sz) (h17 : R 0 17 = some u) (hu : qAt K sz u (.inl 0))  (q1 : ¬ e = 0 → Q (some (.int (I u 1))) (K, I, L, R, sz)) (q2 : e = 0 → Q (some (.int (I u 0))) (K, I, L, R, sz)) : X d MC MS 11024 uc us 78 [some (.ref 0), some (.int a), some (.int b), some (.int c), some (.int e)] [] (K, I, L, R, sz) Q := x_ild4 k11024_78 <| x_ifne (tgt := 93) k11024_80 (by decide) (fun h1 => x_ald0 k11024_93 <| x_getR k11024_94 f11_251_10 (hK.at rfl) rfl h17 <| x_getI k11024_97 f11_265_0 hu rfl <| x_iret k11024_100 rfl hc hs <| (q1 h1)) (fun h1 => x_ald0 k11024_83 <| x_getR k11024_84 f11_251_10 (hK.at rfl) rfl h17 <| x_getI k11024_87 f11_262_0 hu rfl <| x_goto (tgt := 100) k11024_90 (by decide) <| x_iret k11024_100 rfl hc hs <| (q2 h1))
/-- the arguments in order, the rest is the play -/
theorem r11024 {a b c e : Int32} {MC MS uc us : Nat} (hc : uc ≤ MC) (hs : us ≤ MS) (hK : qLay K sz) (hR : qRef R) (cI : CI I p) (hd0 : qDl0 K R sz u nw tn) (dn : qDn u nw tn) (h17 : R 0 17 = some u) (g : rvG p a b c e) (hq : ∀ I' R', qLo I I' → (∀ j, j ≠ u → R' j = R j) → qDu K R' sz u → Q (some (.int (fRivals I p a b c e))) (K, I', L, R', sz)) : X (d + 5) MC MS 11024 uc us 64 [some (.ref 0), some (.int a), some (.int b), some (.int c), some (.int e)] [] (K, I, L, R, sz) Q := by
  unfold fRivals at hq
  rw [if_pos g] at hq
  obtain ⟨ga, gb, gab, gc1, gc8, ge⟩ := g
  have hu := dn.1
  have w3 := cI.w3
  have w6 : pR p ≤ 6 := cI.1.2.1.1
  obtain ⟨n, hn, rfl⟩ := nI_of (x := c) (fun h => gc1 (Int32.lt_trans h (by decide)))
  have hn1 : 1 ≤ n := by
    rw [show (1 : Int32) = nI 1 from rfl, nI_ltI hn (by omega)] at gc1; omega
  have hn8 : n ≤ 8 := by
    rw [show (8 : Int32) = nI 8 from rfl, nI_ltI (by omega) hn] at gc8; omega
  obtain ⟨m1, hm1, rfl⟩ := ga
  obtain ⟨m2, hm2, rfl⟩ := gb
  obtain ⟨r1, w1, h1⟩ := cI.1.2.2.2.1 m1 hm1
  obtain ⟨r2, w2, h2⟩ := cI.1.2.2.2.1 m2 hm2
  have hA : rvA I p (nI m1) (nI m2) (nI n) = rvS I p m1 m2 true (rvV I p m1 m2 (2 * n - 1)) r1 r2 0 := by
    unfold rvA
    rw [nI_c (by omega), nI_c (by omega), nI_c (by omega), h1, h2, nI_c (by omega), nI_c (by omega)]
  rw [hA] at hq
  refine n11024 hc hs hK hR h17 hd0.1 ?_
  refine x_cV4 (MCz := 0) (MSz := 0) k11024_75 v11_258_0 hd0.1 (Nat.le_of_ble_eq_true rfl) (Nat.le_of_ble_eq_true rfl) hc hs <| s1 hK hR hd0 dn cI hm1 hm2 h1 h2 w1 w2 hn1 hn8 (fun J R' hJ hR' hdu v t => ?_)
  have h17' : R' 0 17 = some u := by rw [hR' 0 (by omega)]; exact h17
  refine p11024 hc hs hK h17' hd0.1 (fun q => ?_) (fun q => ?_)
  · have := hq J R' hJ hR' hdu
    rw [if_neg q] at this
    rw [t]; exact this
  · have := hq J R' hJ hR' hdu
    rw [if_pos q] at this
    rw [v]; exact this
theorem s11024h {a b c e : Int32} (hK : qLay K sz) (hR : qRef R) (cI : CI I p) (g : ¬ rvG p a b c e) (hq : Q (some (.int (fRivals I p a b c e))) (K, I, L, R, sz)) : X (d + 5) 0 0 11024 0 0 0 (qent (qml 11024) [.ref 0, .int a, .int b, .int c, .int e]) [] (K, I, L, R, sz) Q := by
  unfold fRivals at hq
  rw [if_neg g] at hq
  exact e11024 (d := d + 4) (Nat.le_refl _) (Nat.le_refl _) hK hR cI (fun _ _ _ _ => hq) (fun _ _ _ _ _ => hq) (fun h1 h2 h3 h4 h5 h6 => absurd ⟨h1, h2, h3, h4, h5, h6⟩ g) (fun _ _ _ _ _ _ => hq) (fun _ _ _ => hq) (fun _ _ => hq) (fun _ => hq)
theorem a11024 {a b c e : Int32} {MC MS : Nat} (hK : qLay K sz) (hR : qRef R) (cI : CI I p) (g : rvG p a b c e) (hq : X (d + 5) MC MS 11024 0 0 46 [some (.ref 0), some (.int a), some (.int b), some (.int c), some (.int e)] [] (K, I, L, R, sz) Q) : X (d + 5) MC MS 11024 0 0 0 (qent (qml 11024) [.ref 0, .int a, .int b, .int c, .int e]) [] (K, I, L, R, sz) Q := by
  obtain ⟨h1, h2, h3, h4, h5, h6⟩ := g
  exact e11024 (d := d + 4) (Nat.zero_le _) (Nat.zero_le _) hK hR cI (fun _ _ _ q => absurd q h4) (fun _ _ _ _ q => absurd q h5) (fun _ _ _ _ _ _ => hq) (fun _ _ _ _ _ q => absurd h6 q) (fun _ _ q => absurd q h3) (fun _ q => absurd h2 q) (fun q => absurd h1 q)
theorem s11024m {a b c e : Int32} (hK : qLay K sz) (hR : qRef R) (cI : CI I p) (hdu : qDu K R sz u) (h17 : R 0 17 = some u) (g : rvG p a b c e) (hq : ∀ K' I' R' sz', qGr K I R sz K' I' R' sz' u → Q (some (.int (fRivals I p a b c e))) (K', I', L, R', sz')) : X (d + 5) 0 0 11024 0 0 0 (qent (qml 11024) [.ref 0, .int a, .int b, .int c, .int e]) [] (K, I, L, R, sz) Q := by
  obtain ⟨hu, hsz, k0, k1, k2, k3, hf, h4⟩ := hdu
  have hu1 : qAt K sz u (.inl 0) := ⟨by omega, k0⟩
  refine a11024 hK hR cI g (m11024 (Nat.le_refl _) (Nat.le_refl _) hK h17 hu1 ?_)
  have hfin : ∀ I' R', qLo I I' → (∀ j, j ≠ u → R' j = R j) → qDu K R' sz u → Q (some (.int (fRivals I p a b c e))) (K, I', L, R', sz) := fun I' R' g1 g2 g3 => hq K I' R' sz ⟨⟨Nat.le_refl _, Or.inl rfl⟩, fun _ _ => rfl, g1, fun j _ _ q => g2 j q, fun k _ => by rw [g2 0 (by omega)], by rw [g2 0 (by omega)]; exact h17, g3⟩
  rcases hf with ⟨f1, f2⟩ | ⟨f1, f2⟩
  · exact r11024 (nw := u + 1) (tn := u + 2) (Nat.le_refl _) (Nat.le_refl _) hK hR cI ⟨hu1, ⟨by omega, k1⟩, ⟨by omega, k2⟩, ⟨by omega, k3⟩, f1, f2, h4⟩ ⟨hu, Or.inl ⟨rfl, rfl⟩⟩ h17 g hfin
  · exact r11024 (nw := u + 2) (tn := u + 1) (Nat.le_refl _) (Nat.le_refl _) hK hR cI ⟨hu1, ⟨by omega, k2⟩, ⟨by omega, k1⟩, ⟨by omega, k3⟩, f1, f2, h4⟩ ⟨hu, Or.inr ⟨rfl, rfl⟩⟩ h17 g hfin
theorem fRv_lo {J : Nat → Nat → Int32} (h : qLo I J) (c : CI I p) {a b e f : Int32} : fRivals J p a b e f = fRivals I p a b e f := by
  unfold fRivals
  by_cases g : rvG p a b e f
  · rw [if_pos g, if_pos g]
    have hA : rvA J p a b e = rvA I p a b e := by
      have w5 := c.w5
      have w3 := c.w3
      obtain ⟨m1, h1, rfl⟩ := g.1
      obtain ⟨m2, h2, rfl⟩ := g.2.1
      unfold rvA
      rw [nI_c (show m1 < 2147483648 by omega), nI_c (show m2 < 2147483648 by omega), h (30 + m1) (by omega), h (30 + m2) (by omega)]
      have hV : ∀ k, rvV J p m1 m2 k = rvV I p m1 m2 k := fun k => by
        induction k with
        | zero => rfl
        | succ k ih =>
          funext a b o
          rw [rvV, rvV, ih]
          exact congrArg Prod.fst (rvS_lo h w5)
      rw [hV]
      exact rvS_lo h w5
    rw [hA]
  · rw [if_neg g, if_neg g]
theorem s11024n {a b c e : Int32} (hK : qLay K sz) (hR : qRef R) (cI : CI I p) (h17 : R 0 17 = none) (hsz : sz < 900000) (g : rvG p a b c e) (hq : ∀ K' I' R' sz', qGr K I R sz K' I' R' sz' sz → Q (some (.int (fRivals I p a b c e))) (K', I', L, R', sz')) : X (d + 5) 4 17510 11024 0 0 0 (qent (qml 11024) [.ref 0, .int a, .int b, .int c, .int e]) [] (K, I, L, R, sz) Q := by
  have h107 := hK.1
  refine a11024 hK hR cI g ?_
  refine x_ald0 k11024_46 <| x_getN k11024_47 f11_251_10 (hK.at rfl) rfl h17 <| x_ifnonnullN k11024_50 <| x_ald0 k11024_53 <| x_new k11024_54 w11_255 (by decide) (by decide) (by omega) <| x_dup k11024_57 rfl <| x_cN0 (MCz := 3) (MSz := 17501) k11024_58 n11_257 rfl (Nat.le_of_ble_eq_true rfl) (Nat.le_of_ble_eq_true rfl) (by decide) (by decide) ?_
  have a0 : qAt (va_up K sz (.inl 0)) (sz + 1) sz (.inl 0) := qAt_s
  refine show X (d + 4) 3 17501 0 0 0 0 [some (.ref sz)] [] _ _ from x_ald0 k0_0 <| x_obj k0_1 o0_5 qo_inst qo_code (Nat.le_of_ble_eq_true rfl) <| x_ald0 k0_4 <| x_sipush (v := 8748) k0_5 rfl <| x_newI (n := 8748) k0_8 qa_int (by decide) (by decide) (by decide) (by decide) (by decide) (by omega) <| x_putR k0_10 f0_11_0 (Or.inl rfl) (qAt_n a0) rfl ⟨rfl, fun _ => ⟨rfl, rfl⟩⟩ <| x_ald0 k0_13 <| x_sipush (v := 8748) k0_14 rfl <| x_newI (n := 8748) k0_17 qa_int (by decide) (by decide) (by decide) (by decide) (by decide) (by omega) <| x_putR k0_19 f0_15_0 (Or.inl rfl) (qAt_n (qAt_n a0)) rfl ⟨rfl, fun _ => ⟨rfl, rfl⟩⟩ <| x_ald0 k0_22 <| x_iconst (v := 5) k0_23 rfl <| x_newI (n := 5) k0_24 qa_int (by decide) (by decide) (by decide) (by decide) (by decide) (by omega) <| x_putR k0_26 f0_18_0 (Or.inr ⟨rfl, rfl⟩) (qAt_n (qAt_n (qAt_n a0))) rfl ⟨rfl, fun _ => ⟨rfl, rfl⟩⟩ <| x_vret k0_29 rfl (by decide) (by decide) ?_
  have hK4 := qLay_n (k' := .inr (0, 5)) (qLay_n (k' := .inr (0, 8748)) (qLay_n (k' := .inr (0, 8748)) (qLay_n (k' := .inl 0) hK)))
  refine x_putR k11024_61 f11_251_10 (Or.inl rfl) (hK4.at rfl) rfl ⟨rfl, fun _ => ⟨rfl, rfl⟩⟩ ?_
  have k0 : qAt (va_up (va_up (va_up (va_up K sz (.inl 0)) (sz + 1) (.inr (0, 8748))) (sz + 1 + 1) (.inr (0, 8748))) (sz + 1 + 1 + 1) (.inr (0, 5))) (sz + 1 + 1 + 1 + 1) sz (.inl 0) := qAt_n (qAt_n (qAt_n qAt_s))
  have k1 : qAt (va_up (va_up (va_up (va_up K sz (.inl 0)) (sz + 1) (.inr (0, 8748))) (sz + 1 + 1) (.inr (0, 8748))) (sz + 1 + 1 + 1) (.inr (0, 5))) (sz + 1 + 1 + 1 + 1) (sz + 1) (.inr (0, 8748)) := qAt_n (qAt_n qAt_s)
  have k2 : qAt (va_up (va_up (va_up (va_up K sz (.inl 0)) (sz + 1) (.inr (0, 8748))) (sz + 1 + 1) (.inr (0, 8748))) (sz + 1 + 1 + 1) (.inr (0, 5))) (sz + 1 + 1 + 1 + 1) (sz + 1 + 1) (.inr (0, 8748)) := qAt_n qAt_s
  have k3 : qAt (va_up (va_up (va_up (va_up K sz (.inl 0)) (sz + 1) (.inr (0, 8748))) (sz + 1 + 1) (.inr (0, 8748))) (sz + 1 + 1 + 1) (.inr (0, 5))) (sz + 1 + 1 + 1 + 1) (sz + 3) (.inr (0, 5)) := qAt_s
  have hKo : ∀ j, j < sz → (va_up (va_up (va_up (va_up K sz (.inl 0)) (sz + 1) (.inr (0, 8748))) (sz + 1 + 1) (.inr (0, 8748))) (sz + 1 + 1 + 1) (.inr (0, 5))) j = K j := fun j hj => by
    rw [vu_n (by omega), vu_n (by omega), vu_n (by omega), vu_n (by omega)]
  have hlo : qLo I (va_up (va_up (va_up (va_up I sz (fun _ => 0)) (sz + 1) (fun _ => 0)) (sz + 1 + 1) (fun _ => 0)) (sz + 1 + 1 + 1) (fun _ => 0)) := (((qLo.refl.up h107).up (by omega)).up (by omega)).up (by omega)
  have hcong : ∀ {K1 K2 : qK} {I1 I2 : Nat → Nat → Int32} {R1 R2 : Nat → Nat → Option Nat} {z1 z2 : Nat}, K1 = K2 → I1 = I2 → R1 = R2 → z1 = z2 → X (d + 5) 4 17510 11024 4 17510 64 [some (.ref 0), some (.int a), some (.int b), some (.int c), some (.int e)] [] (K2, I2, L, R2, z2) Q → X (d + 5) 4 17510 11024 4 17510 64 [some (.ref 0), some (.int a), some (.int b), some (.int c), some (.int e)] [] (K1, I1, L, R1, z1) Q := fun h1 h2 h3 h4 h => by
    subst h1 h2 h3 h4; exact h
  generalize hKd : va_up (va_up (va_up (va_up K sz (.inl 0)) (sz + 1) (.inr (0, 8748))) (sz + 1 + 1) (.inr (0, 8748))) (sz + 1 + 1 + 1) (.inr (0, 5)) = K' at hK4 k0 k1 k2 k3 hKo
  generalize hId : va_up (va_up (va_up (va_up I sz (fun _ => 0)) (sz + 1) (fun _ => 0)) (sz + 1 + 1) (fun _ => 0)) (sz + 1 + 1 + 1) (fun _ => 0) = I' at hlo
  obtain ⟨R', hRd, r0, r17, rn, rs⟩ : ∃ R' : Nat → Nat → Option Nat, R' = va_up (va_up R sz (va_up (va_up (va_up (fun _ => none) 2 (some (sz + 1))) 3 (some (sz + 1 + 1))) 4 (some (sz + 1 + 1 + 1)))) 0 (va_up (R 0) 17 (some sz)) ∧ (∀ k, k ≠ 17 → R' 0 k = R 0 k) ∧ R' 0 17 = some sz ∧ (∀ j, j ≠ 0 → j ≠ sz → R' j = R j) ∧ R' sz = va_up (va_up (va_up (fun _ => none) 2 (some (sz + 1))) 3 (some (sz + 1 + 1))) 4 (some (sz + 1 + 1 + 1)) :=
    ⟨_, rfl, fun k hk => by rw [vu_s, vu_n hk], by rw [vu_s, vu_s], fun j h0 h1 => by rw [vu_n h0, vu_n h1], by rw [vu_n (by omega), vu_s]⟩
  refine hcong (K2 := K') (I2 := I') (R2 := R') rfl rfl ?_ rfl ?_
  · rw [hRd]
    simp only [vu_t, vu_s]
    rw [vu_n (show 0 ≠ sz by omega)]
  · have hR' : qRef R' := fun i k r q => by
      by_cases hi0 : i = 0
      · subst hi0
        have : k ≠ 17 := fun h => by subst h; cases q
        rw [r0 k this]; exact hR 0 k r q
      · have : i ≠ sz := fun h => by rw [h, qlr_hi h107] at q; cases q
        rw [rn i hi0 this]; exact hR i k r q
    refine r11024 (nw := sz + 1) (tn := sz + 2) (Nat.le_refl _) (Nat.le_refl _) hK4 hR' (hlo.af cI).2 ⟨k0, k1, k2, k3, by rw [rs]; rfl, by rw [rs]; rfl, by rw [rs]; rfl⟩ ⟨h107, Or.inl ⟨rfl, rfl⟩⟩ r17 g (fun I2 R2 g1 g2 g3 => ?_)
    rw [fRv_lo hlo cI]
    exact hq K' I2 R2 _ ⟨⟨by omega, Or.inr ⟨h17, by omega⟩⟩, hKo, hlo.trans g1, fun j h0 h1 h2 => by rw [g2 j h2]; exact rn j h0 h2, fun k hk => by rw [g2 0 (by omega)]; exact r0 k hk, by rw [g2 0 (by omega)]; exact r17, g3⟩

end L90
