/-! rivals: the class, begin and first -/
section L88
variable {d : Nat} {K : qK} {I : Nat → Nat → Int32} {L : Nat → Nat → Int64} {R : Nat → Nat → Option Nat} {sz : Nat} {Q : Option Value → qMem → Prop} {p : qPa} {nw tn u m1 m2 : Nat}
theorem e2   {u : Nat} (hd : qDl K R sz u nw tn)  (q1 : ∀ I1 : Nat → Nat → Int32, I1 = va_up I u (upd (I u) 8 1) → X d 0 0 2 0 0 7 [some (.ref u), some (.int 0), none, none] [] (K, I1, L, R, sz) Q) : X d 0 0 2 0 0 0 (qent (qml 2) [.ref u]) [] (K, I, L, R, sz) Q := show X _ 0 0 2 0 0 0 [some (.ref u), none, none, none] [] _ _ from x_ald0 k2_0 <| x_iconst (v := 1) k2_1 rfl <| x_putI k2_2 f0_42_0 (Or.inl rfl) hd.1 <| x_nm fun I1 e2 => x_iconst (v := 0) k2_5 rfl <| x_ist1 k2_6 (Nat.le_of_ble_eq_true rfl) rfl <| (q1 I1 e2)
theorem g2_7 {u : Nat} {x1 : Int32}  (hK : qLay K sz) (hd : qDl K R sz u nw tn) (b1 : ¬ (I 22 1) ≤ x1 → vp_in x1 5) (q1 : (I 22 1) ≤ x1 → X d 0 0 2 0 0 46 [some (.ref u), some (.int 0), none, none] [] (K, I, L, R, sz) Q) (q2 : ¬ (I 22 1) ≤ x1 → ∀ I2 : Nat → Nat → Int32, I2 = va_up I (u + 3) (upd (I (u + 3)) x1.toNatClampNeg (I u 8)) → ∀ I4 : Nat → Nat → Int32, I4 = va_up I2 u (upd (I2 u) 8 ((I2 u 8) * 3)) → X d 0 0 2 0 0 7 [some (.ref u), some (.int (x1 + 1)), none, none] [] (K, I4, L, R, sz) Q) : X d 0 0 2 0 0 7 [some (.ref u), some (.int x1), none, none] [] (K, I, L, R, sz) Q := x_ild1 k2_7 <| x_ald0 k2_8 <| x_getR k2_9 f0_21_0 hd.1 rfl hd.2.2.2.2.2.2.2 <| x_getI k2_12 f0_45_1 (hK.at rfl) rfl <| x_icmpge (tgt := 44) k2_15 (by decide) (fun h1 => x_iconst (v := 0) k2_44 rfl <| x_ist1 k2_45 (Nat.le_of_ble_eq_true rfl) rfl <| (q1 h1)) (fun h1 => x_ald0 k2_18 <| x_getR k2_19 f0_18_0 hd.1 rfl hd.2.2.2.2.2.2.1 <| x_ild1 k2_22 <| x_ald0 k2_23 <| x_getI k2_24 f0_42_0 hd.1 rfl <| x_iast k2_27 hd.2.2.2.1 (b1 h1) <| x_nm fun I2 e3 => x_ald0 k2_28 <| x_dup k2_29 rfl <| x_getI k2_30 f0_42_0 hd.1 rfl <| x_iconst (v := 3) k2_33 rfl <| x_imul k2_34 <| x_putI k2_35 f0_42_0 (Or.inl rfl) hd.1 <| x_nm fun I4 e5 => x_inc1 (c := 1) k2_38 rfl (Nat.le_of_ble_eq_true rfl) rfl <| x_goto (tgt := 7) k2_41 (by decide) <| (q2 h1 I2 e3 I4 e5))
theorem g2_46 {u : Nat} {x1 : Int32}  (hK : qLay K sz) (cI : CI I p) (hd : qDl K R sz u nw tn) (dm : qDm I u p m1 m2) (b1 : ¬ (I u 8) ≤ x1 → qIn (3 ^ pS p) x1) (q1 : (I u 8) ≤ x1 → Q none (K, I, L, R, sz)) (q2 : ¬ (I u 8) ≤ x1 → X (d + 2) 0 0 2 0 0 62 [some (.ref u), some (.int x1), some (.int (moN (Int32.toNatClampNeg x1) (pS p))), some (.int 0)] [] (K, I, L, R, sz) Q) : X (d + 2) 0 0 2 0 0 46 [some (.ref u), some (.int x1), none, none] [] (K, I, L, R, sz) Q := x_ild1 k2_46 <| x_ald0 k2_47 <| x_getI k2_48 f0_42_0 hd.1 rfl <| x_icmpge (tgt := 107) k2_51 (by decide) (fun h1 => x_vret k2_107 rfl (Nat.le_refl _) (Nat.le_refl _) <| (q1 h1)) (fun h1 => x_ald0 k2_54 <| x_ild1 k2_55 <| x_cV1 (MCz := 0) (MSz := 0) k2_56 v0_50_0 hd.1 (Nat.le_of_ble_eq_true rfl) (Nat.le_of_ble_eq_true rfl) (Nat.le_refl _) (Nat.le_refl _) <| s3 hK hd cI dm (b1 h1) (x_ist2 k2_59 (Nat.le_of_ble_eq_true rfl) rfl <| x_iconst (v := 0) k2_60 rfl <| x_ist3 k2_61 (Nat.le_of_ble_eq_true rfl) rfl <| (q2 h1)))
theorem g2_62 {u : Nat} {x1 : Int32} {x2 : Int32} {x3 : Int32}  (hK : qLay K sz) (hd : qDl K R sz u nw tn) (b1 : ¬ ((I 22 0) * (I 22 0)) ≤ x3 → vp_in ((x3 * (I u 8)) + x1) 8748) (q1 : ((I 22 0) * (I 22 0)) ≤ x3 → X d 0 0 2 0 0 46 [some (.ref u), some (.int (x1 + 1)), none, none] [] (K, I, L, R, sz) Q) (q2 : ¬ ((I 22 0) * (I 22 0)) ≤ x3 → ∀ I2 : Nat → Nat → Int32, I2 = va_up I nw (upd (I nw) (((x3 * (I u 8)) + x1).toNatClampNeg) x2) → X d 0 0 2 0 0 62 [some (.ref u), some (.int x1), some (.int x2), some (.int (x3 + 1))] [] (K, I2, L, R, sz) Q) : X d 0 0 2 0 0 62 [some (.ref u), some (.int x1), some (.int x2), some (.int x3)] [] (K, I, L, R, sz) Q := x_ild3 k2_62 <| x_ald0 k2_63 <| x_getR k2_64 f0_21_0 hd.1 rfl hd.2.2.2.2.2.2.2 <| x_getI k2_67 f0_54_1 (hK.at rfl) rfl <| x_ald0 k2_70 <| x_getR k2_71 f0_21_0 hd.1 rfl hd.2.2.2.2.2.2.2 <| x_getI k2_74 f0_54_1 (hK.at rfl) rfl <| x_imul k2_77 <| x_icmpge (tgt := 101) k2_78 (by decide) (fun h1 => x_inc1 (c := 1) k2_101 rfl (Nat.le_of_ble_eq_true rfl) rfl <| x_goto (tgt := 46) k2_104 (by decide) <| x_wk (ls := [some (.ref u), some (.int (x1 + 1)), none, none]) ⟨rfl, ⟨rfl, True.intro⟩⟩ <| (q1 h1)) (fun h1 => x_ald0 k2_81 <| x_getR k2_82 f0_11_0 hd.1 rfl hd.2.2.2.2.1 <| x_ild3 k2_85 <| x_ald0 k2_86 <| x_getI k2_87 f0_42_0 hd.1 rfl <| x_imul k2_90 <| x_ild1 k2_91 <| x_iadd k2_92 <| x_ild2 k2_93 <| x_iast k2_94 hd.2.1 (b1 h1) <| x_nm fun I2 e3 => x_inc3 (c := 1) k2_95 rfl (Nat.le_of_ble_eq_true rfl) rfl <| x_goto (tgt := 62) k2_98 (by decide) <| (q2 h1 I2 e3))
theorem dm_lo {J : Nat → Nat → Int32} (h : qDm I u p m1 m2) (h3 : J (u + 3) = I (u + 3)) (h0 : J u = I u) : qDm J u p m1 m2 := by
  unfold qDm
  rw [h3, h0]; exact h
theorem s2 (hK : qLay K sz) (hd : qDl K R sz u nw tn) (dn : qDn u nw tn) (cI : CI I p) (m6 : I u 6 = nI m1) (m7 : I u 7 = nI m2) (hq : ∀ J, qLo I J → qDm J u p m1 m2 → tbl (J nw) p (fun _ _ => True) (fun _ _ o => moN o (pS p)) → Q none (K, J, L, R, sz)) : X (d + 2) 0 0 2 0 0 0 (qent (qml 2) [.ref u]) [] (K, I, L, R, sz) Q := by
  have w5 := cI.w5
  have w6 : pR p ≤ 6 := cI.1.2.1.1
  have w0 := p3_0 (pS p)
  have w9 := p3_5 w5
  have hne := dn.ne
  have hu := dn.1
  have lR : I 22 0 = nI (pR p) := cI.1.1.1
  have lS := cI.lS
  have w36 : pR p * pR p ≤ 36 := Nat.mul_le_mul w6 w6
  have h62 : ∀ (o : Nat), o < 3 ^ pS p → (∀ J, qLo I J → qDm J u p m1 m2 → (∀ c, c < pR p * pR p → ∀ o', o' < o + 1 → J nw (c * 3 ^ pS p + o') = moN o' (pS p)) → X (d + 2) 0 0 2 0 0 46 [some (.ref u), some (.int (nI (o + 1))), none, none] [] (K, J, L, R, sz) Q) →
      ∀ (k c : Nat), c + k = pR p * pR p → ∀ J, qLo I J → qDm J u p m1 m2 → (∀ c, c < pR p * pR p → ∀ o', o' < o → J nw (c * 3 ^ pS p + o') = moN o' (pS p)) → (∀ c', c' < c → J nw (c' * 3 ^ pS p + o) = moN o (pS p)) → X (d + 2) 0 0 2 0 0 62 [some (.ref u), some (.int (nI o)), some (.int (moN o (pS p))), some (.int (nI c))] [] (K, J, L, R, sz) Q := by
    intro o ho hnx k
    induction k with
    | zero =>
      intro c hc J hJ dJ h1 h2
      have e0 : J 22 0 * J 22 0 = nI (pR p * pR p) := by rw [hJ 22 (by omega), lR, pk_mul]
      have hle : J 22 0 * J 22 0 ≤ nI c := by rw [e0]; exact nI_le (by omega) (by omega)
      refine g2_62 hK hd (fun h => absurd hle h) (fun _ => ?_) (fun h => absurd hle h)
      rw [nI_1]
      refine hnx J hJ dJ (fun c' g1 o' g2 => ?_)
      by_cases g : o' = o
      · rw [g]; exact h2 c' (by omega)
      · exact h1 c' g1 o' (by omega)
    | succ k ih =>
      intro c hc J hJ dJ h1 h2
      have e0 : J 22 0 * J 22 0 = nI (pR p * pR p) := by rw [hJ 22 (by omega), lR, pk_mul]
      have hnl : ¬ J 22 0 * J 22 0 ≤ nI c := by rw [e0]; exact nI_ge (by omega) (by omega)
      have e1 : nI c * J u 8 + nI o = nI (c * 3 ^ pS p + o) := by rw [dJ.2.1, pk_mul, nI_add]
      have hb := (ix_le (c := c) (by omega) w36 w9).1
      refine g2_62 hK hd (fun _ => by rw [e1]; exact vI (by omega) (by omega)) (fun h => absurd h hnl) (fun _ H hH => ?_)
      rw [e1, nI_c (by omega)] at hH
      rw [nI_1]
      have hHn : ∀ i, i ≠ c * 3 ^ pS p + o → H nw i = J nw i := fun i hi => by rw [hH, vu_s]; unfold upd; rw [if_neg hi]
      refine ih (c + 1) (by omega) H (by rw [hH]; exact hJ.up hne.1) (by rw [hH]; exact dm_up dn dJ) (fun c' g1 o' g2 => ?_) (fun c' g1 => ?_)
      · rw [hHn _ (rb_ne (by omega) ho (by omega))]
        exact h1 c' g1 o' g2
      · by_cases g : c' = c
        · rw [g, hH, vu_s]; unfold upd; rw [if_pos rfl]
        · rw [hHn _ (rb_ne ho ho (by omega))]
          exact h2 c' (by omega)
  have h46 : ∀ (k o : Nat), o + k = 3 ^ pS p → ∀ J, qLo I J → qDm J u p m1 m2 → (∀ c, c < pR p * pR p → ∀ o', o' < o → J nw (c * 3 ^ pS p + o') = moN o' (pS p)) → X (d + 2) 0 0 2 0 0 46 [some (.ref u), some (.int (nI o)), none, none] [] (K, J, L, R, sz) Q := by
    intro k
    induction k with
    | zero =>
      intro o ho J hJ dJ h1
      have hle : J u 8 ≤ nI o := by rw [dJ.2.1]; exact nI_le (by omega) (by omega)
      refine g2_46 hK (hJ.af cI).2 hd dJ (fun h => absurd hle h) (fun _ => hq J hJ dJ (fun a b ha hb _ o' ho' => ?_)) (fun h => absurd hle h)
      exact h1 (a * pR p + b) (rr_lt w6 ha hb).1 o' (by omega)
    | succ k ih =>
      intro o ho J hJ dJ h1
      have hnl : ¬ J u 8 ≤ nI o := by rw [dJ.2.1]; exact nI_ge (by omega) (by omega)
      refine g2_46 hK (hJ.af cI).2 hd dJ (fun _ => ⟨o, by omega, rfl⟩) (fun h => absurd h hnl) (fun _ => ?_)
      rw [nI_c (by omega)]
      exact h62 o (by omega) (fun H g1 g2 g3 => ih (o + 1) (by omega) H g1 g2 g3) (pR p * pR p) 0 (by omega) J hJ dJ h1 (fun c' g => absurd g (by omega))
  have h7 : ∀ (k i : Nat), i + k = pS p → ∀ J, qLo I J → J u 8 = nI (3 ^ i) → (∀ s, s < i → J (u + 3) s = nI (3 ^ s)) → J u 6 = nI m1 → J u 7 = nI m2 → X (d + 2) 0 0 2 0 0 7 [some (.ref u), some (.int (nI i)), none, none] [] (K, J, L, R, sz) Q := by
    intro k
    induction k with
    | zero =>
      intro i hi J hJ j8 j3 j6 j7
      have hle : J 22 1 ≤ nI i := by rw [hJ 22 (by omega), lS]; exact nI_le (by omega) (by omega)
      have : i = pS p := by omega
      subst this
      exact g2_7 hK hd (fun h => absurd hle h) (fun _ => h46 (3 ^ pS p) 0 (by omega) J hJ ⟨j3, j8, j6, j7⟩ (fun c _ o' g => absurd g (by omega))) (fun h => absurd hle h)
    | succ k ih =>
      intro i hi J hJ j8 j3 j6 j7
      have hnl : ¬ J 22 1 ≤ nI i := by rw [hJ 22 (by omega), lS]; exact nI_ge (by omega) (by omega)
      have ec : (nI i).toNatClampNeg = i := nI_c (by omega)
      refine g2_7 hK hd (fun _ => vI (by omega) (by omega)) (fun h => absurd h hnl) (fun _ H hH G hG => ?_)
      rw [ec] at hH
      have hHu : H u = J u := by rw [hH, vu_n (by omega)]
      have hGu : G u = upd (J u) 8 (nI (3 ^ (i + 1))) := by rw [hG, vu_s, hHu, j8, show (3 : Int32) = nI 3 from rfl, pk_mul, Nat.pow_succ]
      have hG3 : G (u + 3) = upd (J (u + 3)) i (nI (3 ^ i)) := by rw [hG, vu_n (by omega), hH, vu_s, j8]
      rw [nI_1]
      refine ih (i + 1) (by omega) G (by rw [hG, hH]; exact (hJ.up (by omega)).up (by omega)) ?_ (fun s hs => ?_) ?_ ?_
      · rw [hGu]; rfl
      · rw [hG3]; unfold upd
        by_cases g : s = i
        · rw [if_pos g, g]
        · rw [if_neg g]; exact j3 s (by omega)
      · rw [hGu]; exact j6
      · rw [hGu]; exact j7
  refine e2 hd (fun J hJ => ?_)
  have hJu : J u = upd (I u) 8 1 := by rw [hJ, vu_s]
  refine h7 (pS p) 0 (by omega) J (by rw [hJ]; exact qLo.refl.up (by omega)) (by rw [hJu]; rfl) (fun s hs => absurd hs (by omega)) ?_ ?_
  · rw [hJu]; exact m6
  · rw [hJu]; exact m7
theorem s12 {a b : Int32} (hd : qDl K R sz u nw tn) (hq : ∀ J, J = va_up I u (upd (upd (I u) 0 (betP 1 (I u 0, I u 1) a b).1) 1 (betP 1 (I u 0, I u 1) a b).2) → Q none (K, J, L, R, sz)) : X d 0 0 12 0 0 0 (qent (qml 12) [.ref u, .int a, .int b]) [] (K, I, L, R, sz) Q := by
  refine e12 hd (fun h => hq _ ?_) (fun h J hJ H hH => hq _ ?_)
  · rw [betP, if_pos rfl, if_neg (Int32.not_lt.mpr h)]
    have : upd (upd (I u) 0 (I u 0)) 1 (I u 1) = I u := by funext j; unfold upd; split <;> simp_all
    show I = va_up I u (upd (upd (I u) 0 (I u 0)) 1 (I u 1))
    rw [this, vu_id]
  · rw [betP, if_pos rfl, if_pos (Int32.not_le.mp h), hH, hJ, vu_t, vu_s]

theorem e11b   {u : Nat} (hK : qLay K sz) (hR : qRef R) (hd : qDl K R sz u nw tn) (b1 : vp_in (I u 6) 3) (b2 : vp_in (I u 7) 3) (b3 : vp_in ((((I (30 + (I u 6).toNatClampNeg) 0) * (I 22 0)) + (I (30 + (I u 7).toNatClampNeg) 0)) * (I u 8)) 8748) (q1 : ∀ I1 : Nat → Nat → Int32, I1 = va_up I u (upd (I u) 0 (I nw (((((I (30 + (I u 6).toNatClampNeg) 0) * (I 22 0)) + (I (30 + (I u 7).toNatClampNeg) 0)) * (I u 8)).toNatClampNeg))) → ∀ I3 : Nat → Nat → Int32, I3 = va_up I1 u (upd (I1 u) 1 0) → X d 0 0 11 0 0 73 [some (.ref u), some (.int (I (30 + (I u 6).toNatClampNeg) 0)), some (.int ((((I (30 + (I u 6).toNatClampNeg) 0) * (I 22 0)) + (I (30 + (I u 7).toNatClampNeg) 0)) * (I u 8))), some (.int ((I 22 0) * (I u 8))), none] [] (K, I3, L, R, sz) Q) : X d 0 0 11 0 0 0 (qent (qml 11) [.ref u]) [] (K, I, L, R, sz) Q := show X _ 0 0 11 0 0 0 [some (.ref u), none, none, none, none] [] _ _ from x_ald0 k11_0 <| x_getR k11_1 f0_21_0 hd.1 rfl hd.2.2.2.2.2.2.2 <| x_getR k11_4 f0_61_1 (hK.at rfl) rfl (hR _ _ _ rfl) <| x_ald0 k11_7 <| x_getI k11_8 f0_25_0 hd.1 rfl <| x_aald k11_11 (hK.at rfl) b1 (qrowR29 hR b1) <| x_iconst (v := 0) k11_12 rfl <| x_iald k11_13 (qrowK29 hK b1) (qvp (by decide)) <| x_ist1 k11_14 (Nat.le_of_ble_eq_true rfl) rfl <| x_ild1 k11_15 <| x_ald0 k11_16 <| x_getR k11_17 f0_21_0 hd.1 rfl hd.2.2.2.2.2.2.2 <| x_getI k11_20 f0_54_1 (hK.at rfl) rfl <| x_imul k11_23 <| x_ald0 k11_24 <| x_getR k11_25 f0_21_0 hd.1 rfl hd.2.2.2.2.2.2.2 <| x_getR k11_28 f0_61_1 (hK.at rfl) rfl (hR _ _ _ rfl) <| x_ald0 k11_31 <| x_getI k11_32 f0_29_0 hd.1 rfl <| x_aald k11_35 (hK.at rfl) b2 (qrowR29 hR b2) <| x_iconst (v := 0) k11_36 rfl <| x_iald k11_37 (qrowK29 hK b2) (qvp (by decide)) <| x_iadd k11_38 <| x_ald0 k11_39 <| x_getI k11_40 f0_42_0 hd.1 rfl <| x_imul k11_43 <| x_ist2 k11_44 (Nat.le_of_ble_eq_true rfl) rfl <| x_ald0 k11_45 <| x_getR k11_46 f0_21_0 hd.1 rfl hd.2.2.2.2.2.2.2 <| x_getI k11_49 f0_54_1 (hK.at rfl) rfl <| x_ald0 k11_52 <| x_getI k11_53 f0_42_0 hd.1 rfl <| x_imul k11_56 <| x_ist3 k11_57 (Nat.le_of_ble_eq_true rfl) rfl <| x_ald0 k11_58 <| x_ald0 k11_59 <| x_getR k11_60 f0_11_0 hd.1 rfl hd.2.2.2.2.1 <| x_ild2 k11_63 <| x_iald k11_64 hd.2.1 b3 <| x_putI k11_65 f0_101_0 (Or.inl rfl) hd.1 <| x_nm fun I1 e2 => x_ald0 k11_68 <| x_iconst (v := 0) k11_69 rfl <| x_putI k11_70 f0_104_0 (Or.inl rfl) hd.1 <| x_nm fun I3 e4 => (q1 I1 e2 I3 e4)
theorem g11b_73 {u : Nat} {x1 : Int32} {x2 : Int32} {x3 : Int32}  (hK : qLay K sz) (hd : qDl K R sz u nw tn) (b1 : ¬ (I 22 0) ≤ (x1 + 1) → vp_in (x2 + x3) 8748) (q1 : (I 22 0) ≤ (x1 + 1) → X (d + 1) 0 0 11 0 0 99 [some (.ref u), some (.int x1), some (.int x2), some (.int x3), none] [] (K, I, L, R, sz) Q) (q2 : ¬ (I 22 0) ≤ (x1 + 1) → ∀ I2 : Nat → Nat → Int32, I2 = va_up I u (upd (upd (I u) 0 (betP 1 (I u 0, I u 1) (I nw ((x2 + x3).toNatClampNeg)) 1).1) 1 (betP 1 (I u 0, I u 1) (I nw ((x2 + x3).toNatClampNeg)) 1).2) → X (d + 1) 0 0 11 0 0 99 [some (.ref u), some (.int x1), some (.int x2), some (.int x3), none] [] (K, I2, L, R, sz) Q) : X (d + 1) 0 0 11 0 0 73 [some (.ref u), some (.int x1), some (.int x2), some (.int x3), none] [] (K, I, L, R, sz) Q := x_ild1 k11_73 <| x_iconst (v := 1) k11_74 rfl <| x_iadd k11_75 <| x_ald0 k11_76 <| x_getR k11_77 f0_21_0 hd.1 rfl hd.2.2.2.2.2.2.2 <| x_getI k11_80 f0_54_1 (hK.at rfl) rfl <| x_icmpge (tgt := 99) k11_83 (by decide) (fun h1 => (q1 h1)) (fun h1 => x_ald0 k11_86 <| x_ald0 k11_87 <| x_getR k11_88 f0_11_0 hd.1 rfl hd.2.2.2.2.1 <| x_ild2 k11_91 <| x_ild3 k11_92 <| x_iadd k11_93 <| x_iald k11_94 hd.2.1 (b1 h1) <| x_iconst (v := 1) k11_95 rfl <| x_cV2 (MCz := 0) (MSz := 0) k11_96 v0_107_0 hd.1 (Nat.le_of_ble_eq_true rfl) (Nat.le_of_ble_eq_true rfl) (Nat.le_refl _) (Nat.le_refl _) <| s12 hd (fun I2 g3 => (q2 h1 I2 g3)))
theorem g11b_99 {u : Nat} {x1 : Int32} {x2 : Int32} {x3 : Int32}  (hd : qDl K R sz u nw tn) (b1 : ¬ x1 ≤ 0 → vp_in (x2 - x3) 8748) (q1 : x1 ≤ 0 → X (d + 1) 0 0 11 0 0 116 [some (.ref u), some (.int x1), some (.int x2), some (.int x3), none] [] (K, I, L, R, sz) Q) (q2 : ¬ x1 ≤ 0 → ∀ I2 : Nat → Nat → Int32, I2 = va_up I u (upd (upd (I u) 0 (betP 1 (I u 0, I u 1) (I nw ((x2 - x3).toNatClampNeg)) 2).1) 1 (betP 1 (I u 0, I u 1) (I nw ((x2 - x3).toNatClampNeg)) 2).2) → X (d + 1) 0 0 11 0 0 116 [some (.ref u), some (.int x1), some (.int x2), some (.int x3), none] [] (K, I2, L, R, sz) Q) : X (d + 1) 0 0 11 0 0 99 [some (.ref u), some (.int x1), some (.int x2), some (.int x3), none] [] (K, I, L, R, sz) Q := x_ild1 k11_99 <| x_ifle (tgt := 116) k11_100 (by decide) (fun h1 => (q1 h1)) (fun h1 => x_ald0 k11_103 <| x_ald0 k11_104 <| x_getR k11_105 f0_11_0 hd.1 rfl hd.2.2.2.2.1 <| x_ild2 k11_108 <| x_ild3 k11_109 <| x_isub k11_110 <| x_iald k11_111 hd.2.1 (b1 h1) <| x_iconst (v := 2) k11_112 rfl <| x_cV2 (MCz := 0) (MSz := 0) k11_113 v0_107_0 hd.1 (Nat.le_of_ble_eq_true rfl) (Nat.le_of_ble_eq_true rfl) (Nat.le_refl _) (Nat.le_refl _) <| s12 hd (fun I2 g3 => (q2 h1 I2 g3)))
theorem g11b_116 {u : Nat} {x1 : Int32} {x2 : Int32} {x3 : Int32}    (q1 : X d 0 0 11 0 0 119 [some (.ref u), some (.int x1), some (.int x2), some (.int x3), some (.int 0)] [] (K, I, L, R, sz) Q) : X d 0 0 11 0 0 116 [some (.ref u), some (.int x1), some (.int x2), some (.int x3), none] [] (K, I, L, R, sz) Q := x_iconst (v := 0) k11_116 rfl <| x_ist4 k11_117 (Nat.le_of_ble_eq_true rfl) rfl <| q1
theorem g11b_119 {u : Nat} {x1 : Int32} {x2 : Int32} {x3 : Int32} {x4 : Int32}  (hK : qLay K sz) (hR : qRef R) (cI : CI I p) (hd : qDl K R sz u nw tn) (dm : qDm I u p m1 m2) (b1 : ¬ (I 22 1) ≤ x4 → qIn (pS p) x4) (b2 : ¬ (I 22 1) ≤ x4 → I (24 + Int32.toNatClampNeg x4) 0 = x1 ∧ mayI I (if 1 = 1 then m1 else m2) (Int32.toNatClampNeg x4) = true → vp_in x4 5) (b3 : ¬ (I 22 1) ≤ x4 → I (24 + Int32.toNatClampNeg x4) 0 = x1 ∧ mayI I (if 1 = 1 then m1 else m2) (Int32.toNatClampNeg x4) = true → vp_in (x2 + (I (u + 3) x4.toNatClampNeg)) 8748) (q1 : (I 22 1) ≤ x4 → Q none (K, I, L, R, sz)) (q2 : ¬ (I 22 1) ≤ x4 → I (24 + Int32.toNatClampNeg x4) 0 = x1 ∧ mayI I (if 1 = 1 then m1 else m2) (Int32.toNatClampNeg x4) = true → ∀ I3 : Nat → Nat → Int32, I3 = va_up I u (upd (upd (I u) 0 (betP 1 (I u 0, I u 1) (I nw ((x2 + (I (u + 3) x4.toNatClampNeg)).toNatClampNeg)) (3 + x4)).1) 1 (betP 1 (I u 0, I u 1) (I nw ((x2 + (I (u + 3) x4.toNatClampNeg)).toNatClampNeg)) (3 + x4)).2) → X (d + 2) 0 0 11 0 0 119 [some (.ref u), some (.int x1), some (.int x2), some (.int x3), some (.int (x4 + 1))] [] (K, I3, L, R, sz) Q) (q3 : ¬ (I 22 1) ≤ x4 → ¬ (I (24 + Int32.toNatClampNeg x4) 0 = x1 ∧ mayI I (if 1 = 1 then m1 else m2) (Int32.toNatClampNeg x4) = true) → X (d + 2) 0 0 11 0 0 119 [some (.ref u), some (.int x1), some (.int x2), some (.int x3), some (.int (x4 + 1))] [] (K, I, L, R, sz) Q) : X (d + 2) 0 0 11 0 0 119 [some (.ref u), some (.int x1), some (.int x2), some (.int x3), some (.int x4)] [] (K, I, L, R, sz) Q := x_ild4 k11_119 <| x_ald0 k11_121 <| x_getR k11_122 f0_21_0 hd.1 rfl hd.2.2.2.2.2.2.2 <| x_getI k11_125 f0_45_1 (hK.at rfl) rfl <| x_icmpge (tgt := 170) k11_128 (by decide) (fun h1 => x_vret k11_170 rfl (Nat.le_refl _) (Nat.le_refl _) <| (q1 h1)) (fun h1 => x_ald0 k11_131 <| x_iconst (v := 1) k11_132 rfl <| x_ild1 k11_133 <| x_ild4 k11_134 <| x_cV3 (MCz := 0) (MSz := 0) k11_136 v0_84_0 hd.1 (Nat.le_of_ble_eq_true rfl) (Nat.le_of_ble_eq_true rfl) (Nat.le_refl _) (Nat.le_refl _) <| s10 hK hR hd cI dm (b1 h1) (fun g2 => x_ifeqF (tgt := 164) k11_139 (by decide) (show ¬ (1 : Int32) = 0 by decide) <| x_ald0 k11_142 <| x_ald0 k11_143 <| x_getR k11_144 f0_11_0 hd.1 rfl hd.2.2.2.2.1 <| x_ild2 k11_147 <| x_ald0 k11_148 <| x_getR k11_149 f0_18_0 hd.1 rfl hd.2.2.2.2.2.2.1 <| x_ild4 k11_152 <| x_iald k11_154 hd.2.2.2.1 (b2 h1 g2) <| x_iadd k11_155 <| x_iald k11_156 hd.2.1 (b3 h1 g2) <| x_iconst (v := 3) k11_157 rfl <| x_ild4 k11_158 <| x_iadd k11_160 <| x_cV2 (MCz := 0) (MSz := 0) k11_161 v0_107_0 hd.1 (Nat.le_of_ble_eq_true rfl) (Nat.le_of_ble_eq_true rfl) (Nat.le_refl _) (Nat.le_refl _) <| s12 hd (fun I3 g4 => x_inc4 (c := 1) k11_164 rfl (Nat.le_of_ble_eq_true rfl) rfl <| x_goto (tgt := 119) k11_167 (by decide) <| (q2 h1 g2 I3 g4))) (fun g5 => x_ifeqT (tgt := 164) k11_139 (by decide) (show (0 : Int32) = 0 by decide) <| x_inc4 (c := 1) k11_164 rfl (Nat.le_of_ble_eq_true rfl) rfl <| x_goto (tgt := 119) k11_167 (by decide) <| (q3 h1 g5)))
/-- the best so far -/
def qBt (I : Nat → Nat → Int32) (p : qPa) (u nw m1 m2 : Nat) (J : Nat → Nat → Int32) (r : Int32 × Int32) : Prop := qLo I J ∧ J nw = I nw ∧ qDm J u p m1 m2 ∧ J u 0 = r.1 ∧ J u 1 = r.2
theorem bt_st {J H : Nat → Nat → Int32} {r : Int32 × Int32} {w j : Int32} (dn : qDn u nw tn) (h : qBt I p u nw m1 m2 J r) (hH : H = va_up J u (upd (upd (J u) 0 (betP 1 (J u 0, J u 1) w j).1) 1 (betP 1 (J u 0, J u 1) w j).2)) : qBt I p u nw m1 m2 H (betP 1 r w j) := by
  obtain ⟨h1, h2, h3, h4, h5⟩ := h
  have hne := dn.ne
  rw [h4, h5] at hH
  have hHu : H u = upd (upd (J u) 0 (betP 1 r w j).1) 1 (betP 1 r w j).2 := by rw [hH, vu_s]
  refine ⟨by rw [hH]; exact h1.up dn.1, by rw [hH, vu_n (by omega)]; exact h2, ?_, by rw [hHu]; rfl, by rw [hHu]; rfl⟩
  unfold qDm
  rw [hHu, hH, vu_n (by omega)]
  exact h3
theorem s11 {r1 r2 : Nat} {V : Nat → Nat → Nat → Int32} (hK : qLay K sz) (hR : qRef R) (hd : qDl K R sz u nw tn) (dn : qDn u nw tn) (cI : CI I p) (dm : qDm I u p m1 m2) (hm1 : m1 < pM p) (hm2 : m2 < pM p) (h1 : I (30 + m1) 0 = nI r1) (h2 : I (30 + m2) 0 = nI r2) (w1 : r1 < pR p) (w2 : r2 < pR p) (hT : tbl (I nw) p (nr r1 r2 1) V) (hq : ∀ J, qLo I J → J u 0 = (rvS I p m1 m2 true V r1 r2 0).1 → J u 1 = (rvS I p m1 m2 true V r1 r2 0).2 → Q none (K, J, L, R, sz)) : X (d + 2) 0 0 11 0 0 0 (qent (qml 11) [.ref u]) [] (K, I, L, R, sz) Q := by
  have w5 := cI.w5
  have w3 := cI.w3
  have w6 : pR p ≤ 6 := cI.1.2.1.1
  have w0 := p3_0 (pS p)
  have w9 := p3_5 w5
  have hne := dn.ne
  have hu := dn.1
  have lR : I 22 0 = nI (pR p) := cI.1.1.1
  obtain ⟨d3, d8, d6, d7⟩ := dm
  have dm : qDm I u p m1 m2 := ⟨d3, d8, d6, d7⟩
  have e6 : (I u 6).toNatClampNeg = m1 := by rw [d6]; exact nI_c (by omega)
  have e7 : (I u 7).toNatClampNeg = m2 := by rw [d7]; exact nI_c (by omega)
  have v6 : vp_in (I u 6) 3 := by rw [d6]; exact vI (by omega) (by omega)
  have v7 : vp_in (I u 7) 3 := by rw [d7]; exact vI (by omega) (by omega)
  have hbd := ix_b w6 w5 w1 w2
  have eb : (I (30 + (I u 6).toNatClampNeg) 0 * I 22 0 + I (30 + (I u 7).toNatClampNeg) 0) * I u 8 = nI (ix p r1 r2 0) := by
    rw [e6, e7, h1, h2, lR, d8, pk_mul, nI_add, pk_mul]; rfl
  have ew : I 22 0 * I u 8 = nI (pR p * 3 ^ pS p) := by rw [lR, d8, pk_mul]
  have ex : (nI (ix p r1 r2 0)).toNatClampNeg = ix p r1 r2 0 := nI_c (by omega)
  have n0 : nr r1 r2 1 r1 r2 := ⟨by omega, by omega⟩
  have hw : pR p * 3 ^ pS p ≤ 8748 := by
    have := Nat.mul_le_mul w6 w9
    omega
  have hth : ∀ J r s, qBt I p u nw m1 m2 J r → s < pS p → ((J (24 + Int32.toNatClampNeg (nI s)) 0 = nI r1 ∧ mayI J (if 1 = 1 then m1 else m2) (Int32.toNatClampNeg (nI s)) = true) ↔ dTh I m1 r1 s = true) := fun J r s h hs => by
    rw [nI_c (by omega), if_pos rfl, ← dTh_lo h.1 m1 r1 s (by omega)]
    unfold dTh
    rw [Bool.and_eq_true, decide_eq_true_iff]
  have h119 : ∀ (r2' : Int32 × Int32) (hfin : ∀ J, qBt I p u nw m1 m2 J (bsT 1 (dTh I m1 r1) (fun s => V r1 r2 (thk 1 0 s)) r2' (pS p)) → Q none (K, J, L, R, sz)) (k i : Nat), i + k = pS p → ∀ J, qBt I p u nw m1 m2 J (bsT 1 (dTh I m1 r1) (fun s => V r1 r2 (thk 1 0 s)) r2' i) → X (d + 2) 0 0 11 0 0 119 [some (.ref u), some (.int (nI r1)), some (.int (nI (ix p r1 r2 0))), some (.int (nI (pR p * 3 ^ pS p))), some (.int (nI i))] [] (K, J, L, R, sz) Q := by
    intro r2' hfin k
    induction k with
    | zero =>
      intro i hi J hJ
      have cJ := (hJ.1.af cI).2
      have hle : J 22 1 ≤ nI i := by rw [cJ.lS]; exact nI_le (by omega) (by omega)
      have : i = pS p := by omega
      subst this
      exact g11b_119 hK hR cJ hd hJ.2.2.1 (fun h => absurd hle h) (fun h => absurd hle h) (fun h => absurd hle h) (fun _ => hfin J hJ) (fun h => absurd hle h) (fun h => absurd hle h)
    | succ k ih =>
      intro i hi J hJ
      have cJ := (hJ.1.af cI).2
      have hnl : ¬ J 22 1 ≤ nI i := by rw [cJ.lS]; exact nI_ge (by omega) (by omega)
      have ei : (nI i).toNatClampNeg = i := nI_c (by omega)
      have e3 : J (u + 3) (nI i).toNatClampNeg = nI (3 ^ i) := by rw [ei]; exact hJ.2.2.1.1 i (by omega)
      have h3i : 3 ^ i < 3 ^ pS p := Nat.pow_lt_pow_right (by omega) (by omega)
      have htk : thk 1 0 i = 3 ^ i := by unfold thk owN; rw [Nat.zero_div, Nat.zero_mod]; omega
      refine g11b_119 hK hR cJ hd hJ.2.2.1 (fun _ => ⟨i, by omega, rfl⟩) (fun _ _ => vI (by omega) (by omega)) (fun _ _ => by rw [e3, nI_add]; exact vI (by omega) (by omega)) (fun h => absurd h hnl) (fun _ h H hH => ?_) (fun _ h => ?_)
      · rw [hth J _ i hJ (by omega)] at h
        rw [nI_1]
        refine ih (i + 1) (by omega) H ?_
        rw [bsT, if_pos h]
        rw [e3, nI_add, nI_c (by omega), hJ.2.1, ← @ix_0 p r1 r2 (3 ^ i), hT r1 r2 w1 w2 n0 _ h3i, show (3 : Int32) = nI 3 from rfl, nI_add, ← htk] at hH
        exact bt_st dn hJ hH
      · rw [hth J _ i hJ (by omega)] at h
        rw [nI_1]
        refine ih (i + 1) (by omega) J ?_
        rw [bsT, if_neg h]
        exact hJ
  have hv0 : I nw (ix p r1 r2 0) = V r1 r2 0 := hT r1 r2 w1 w2 n0 0 w0
  have h116 : ∀ J, qBt I p u nw m1 m2 J (bs2 1 (decide (r1 + 1 < pR p)) (decide (0 < r1)) (V r1 r2 0) (V (r1 + 1) r2 0) (V (r1 - 1) r2 0)) → X (d + 2) 0 0 11 0 0 116 [some (.ref u), some (.int (nI r1)), some (.int (nI (ix p r1 r2 0))), some (.int (nI (pR p * 3 ^ pS p))), none] [] (K, J, L, R, sz) Q := fun J hJ => by
    refine g11b_116 (h119 _ (fun H hH => hq H hH.1 hH.2.2.2.1 hH.2.2.2.2) (pS p) 0 (by omega) J hJ)
  have hdn : nI r1 ≤ 0 ↔ ¬ 0 < r1 := by
    rw [show (0 : Int32) = nI 0 from rfl, nI_leI (by omega) (by omega)]; omega
  have h99 : ∀ J, qBt I p u nw m1 m2 J (if decide (r1 + 1 < pR p) then betP 1 (V r1 r2 0, 0) (V (r1 + 1) r2 0) 1 else (V r1 r2 0, 0)) → X (d + 2) 0 0 11 0 0 99 [some (.ref u), some (.int (nI r1)), some (.int (nI (ix p r1 r2 0))), some (.int (nI (pR p * 3 ^ pS p))), none] [] (K, J, L, R, sz) Q := fun J hJ => by
    have hs : 0 < r1 → nI (ix p r1 r2 0) - nI (pR p * 3 ^ pS p) = nI (ix p (r1 - 1) r2 0) := fun g => by
      have e := @ix_u p (r1 - 1) r2
      rw [show r1 - 1 + 1 = r1 by omega] at e
      rw [e, pk_sub (by omega), Nat.add_sub_cancel]
    have hb' : ix p (r1 - 1) r2 0 < 8748 := by
      have := ix_b w6 w5 (show r1 - 1 < pR p by omega) w2
      omega
    refine g11b_99 hd (fun g => ?_) (fun g => ?_) (fun g H hH => ?_)
    · have g' : 0 < r1 := Classical.byContradiction fun q => g (hdn.mpr q)
      rw [hs g']; exact vI hb' (by omega)
    · refine h116 J ?_
      unfold bs2
      rw [decide_eq_false (hdn.mp g), if_neg Bool.false_ne_true]; exact hJ
    · have g' : 0 < r1 := Classical.byContradiction fun q => g (hdn.mpr q)
      refine h116 H ?_
      unfold bs2
      rw [decide_eq_true g', if_pos rfl]
      rw [hs g', nI_c (by omega), hJ.2.1, hT (r1 - 1) r2 (by omega) w2 ⟨by omega, by omega⟩ 0 w0] at hH
      exact bt_st dn hJ hH
  refine e11b hK hR hd v6 v7 (by rw [eb]; exact vI (by omega) (by omega)) (fun J hJ H hH => ?_)
  rw [eb, ex, hv0] at hJ
  rw [eb, ew, e6, h1]
  have hJu : J u = upd (I u) 0 (V r1 r2 0) := by rw [hJ, vu_s]
  have hHu : H u = upd (upd (I u) 0 (V r1 r2 0)) 1 0 := by rw [hH, vu_s, hJu]
  have hB : qBt I p u nw m1 m2 H (V r1 r2 0, 0) := by
    refine ⟨by rw [hH, hJ]; exact (qLo.refl.up hu).up hu, by rw [hH, vu_n (by omega), hJ, vu_n (by omega)], ?_, by rw [hHu]; rfl, by rw [hHu]; rfl⟩
    unfold qDm
    rw [hHu, hH, vu_n (by omega), hJ, vu_n (by omega)]
    exact ⟨d3, d8, d6, d7⟩
  have hup : H 22 0 ≤ nI r1 + 1 ↔ ¬ r1 + 1 < pR p := by
    rw [hB.1 22 (by omega), lR, nI_1, nI_leI (by omega) (by omega)]; omega
  have hbu : r1 + 1 < pR p → ix p r1 r2 0 + pR p * 3 ^ pS p < 8748 := fun g => by
    have := ix_b w6 w5 g w2
    rw [ix_u] at this
    omega
  refine g11b_73 hK hd (fun g => ?_) (fun g => ?_) (fun g G hG => ?_)
  · have g' : r1 + 1 < pR p := Classical.byContradiction fun q => g (hup.mpr q)
    rw [nI_add]; exact vI (hbu g') (by omega)
  · refine h99 H ?_
    rw [decide_eq_false (hup.mp g), if_neg Bool.false_ne_true]; exact hB
  · have g' : r1 + 1 < pR p := Classical.byContradiction fun q => g (hup.mpr q)
    refine h99 G ?_
    rw [decide_eq_true g', if_pos rfl]
    have := hbu g'
    rw [nI_add, nI_c (by omega), hB.2.1, ← ix_u, hT (r1 + 1) r2 g' w2 ⟨by omega, by omega⟩ 0 w0] at hG
    exact bt_st dn hB hG

end L88
