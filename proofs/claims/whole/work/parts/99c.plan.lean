/-! plans: the class, least costs -/
section L99c
variable {d : Nat} {K : qK} {I : Nat → Nat → Int32} {L : Nat → Nat → Int64} {R : Nat → Nat → Option Nat} {sz : Nat} {Q : Option Value → qMem → Prop} {p : qPa} {q : Nat}
theorem e6004 {a : Int32} {b : Int32} {c : Int32} {e : Int32}  {q : Nat} (hq : qAt K sz q (.inl 6))  (q1 : ∀ I1 : Nat → Nat → Int32, I1 = va_up I q (upd (I q) 3 a) → ∀ I3 : Nat → Nat → Int32, I3 = va_up I1 q (upd (I1 q) 4 b) → ¬ c = 1 → ∀ I6 : Nat → Nat → Int32, I6 = va_up I3 q (upd (I3 q) 5 0) → ∀ I8 : Nat → Nat → Int32, I8 = va_up I6 q (upd (I6 q) 6 e) → X d 0 0 6004 0 0 37 [some (.ref q), some (.ref 22), some (.int a), some (.int b), some (.int c), some (.int e), none, none, none] [.ref q] (K, I8, L, va_up R q (va_up (R q) 2 (some 22)), sz) Q) (q2 : ∀ I1 : Nat → Nat → Int32, I1 = va_up I q (upd (I q) 3 a) → ∀ I3 : Nat → Nat → Int32, I3 = va_up I1 q (upd (I1 q) 4 b) → c = 1 → ∀ I10 : Nat → Nat → Int32, I10 = va_up I3 q (upd (I3 q) 5 1) → ∀ I12 : Nat → Nat → Int32, I12 = va_up I10 q (upd (I10 q) 6 e) → X d 0 0 6004 0 0 37 [some (.ref q), some (.ref 22), some (.int a), some (.int b), some (.int c), some (.int e), none, none, none] [.ref q] (K, I12, L, va_up R q (va_up (R q) 2 (some 22)), sz) Q) : X d 0 0 6004 0 0 0 (qent (qml 6004) [.ref q, .ref 22, .int a, .int b, .int c, .int e]) [] (K, I, L, R, sz) Q := show X _ 0 0 6004 0 0 0 [some (.ref q), some (.ref 22), some (.int a), some (.int b), some (.int c), some (.int e), none, none, none] [] _ _ from x_ald0 k6004_0 <| x_ald1 k6004_1 <| x_putR k6004_2 f6_24_6 (Or.inl rfl) hq rfl ⟨rfl, fun _ => ⟨rfl, rfl⟩⟩ <| x_ald0 k6004_5 <| x_ild2 k6004_6 <| x_putI k6004_7 f6_28_6 (Or.inl rfl) hq <| x_nm fun I1 e2 => x_ald0 k6004_10 <| x_ild3 k6004_11 <| x_putI k6004_12 f6_32_6 (Or.inl rfl) hq <| x_nm fun I3 e4 => x_ald0 k6004_15 <| x_ild4 k6004_16 <| x_iconst (v := 1) k6004_18 rfl <| x_icmpne (tgt := 26) k6004_19 (by decide) (fun h5 => x_iconst (v := 0) k6004_26 rfl <| x_putZ k6004_27 f6_35_6 (Or.inl rfl) hq (Or.inl rfl) <| x_nm fun I6 e7 => x_ald0 k6004_30 <| x_ild5 k6004_31 <| x_putI k6004_33 f6_39_6 (Or.inl rfl) hq <| x_nm fun I8 e9 => x_ald0 k6004_36 <| (q1 I1 e2 I3 e4 h5 I6 e7 I8 e9)) (fun h5 => x_iconst (v := 1) k6004_22 rfl <| x_goto (tgt := 27) k6004_23 (by decide) <| x_putZ k6004_27 f6_35_6 (Or.inl rfl) hq (Or.inr rfl) <| x_nm fun I10 e11 => x_ald0 k6004_30 <| x_ild5 k6004_31 <| x_putI k6004_33 f6_39_6 (Or.inl rfl) hq <| x_nm fun I12 e13 => x_ald0 k6004_36 <| (q2 I1 e2 I3 e4 h5 I10 e11 I12 e13))
theorem f6004 {q : Nat} {a : Int32} {b : Int32} {c : Int32} {e : Int32}  (hK : qLay K sz)  (q1 : X d 0 0 6004 0 0 57 [some (.ref q), some (.ref 22), some (.int a), some (.int b), some (.int c), some (.int e), some (.int 1000000000), some (.int ((1 <<< ((I 22 3) &&& 31)) - 1)), some (.int 0)] [] (K, I, L, R, sz) Q) : X d 0 0 6004 0 0 40 [some (.ref q), some (.ref 22), some (.int a), some (.int b), some (.int c), some (.int e), none, none, none] [] (K, I, L, R, sz) Q := x_ldcI k6004_40 c6_23 <| x_ist6 k6004_42 (Nat.le_of_ble_eq_true rfl) rfl <| x_iconst (v := 1) k6004_44 rfl <| x_ald1 k6004_45 <| x_getI k6004_46 f6_45_1 (hK.at rfl) rfl <| x_ishl k6004_49 <| x_iconst (v := 1) k6004_50 rfl <| x_isub k6004_51 <| x_ist7 k6004_52 (Nat.le_of_ble_eq_true rfl) rfl <| x_iconst (v := 0) k6004_54 rfl <| x_ist8 k6004_55 (Nat.le_of_ble_eq_true rfl) rfl <| q1
theorem g6004 {q : Nat} {a : Int32} {b : Int32} {c : Int32} {e : Int32} {x6 : Int32} {x7 : Int32} {x8 : Int32}  (hl : qPn K R sz q) (b1 : ¬ (I q 9) ≤ x8 → vp_in x8 80000) (q1 : (I q 9) ≤ x8 → Q (some (.int x6)) (K, I, L, R, sz)) (q2 : ¬ (I q 9) ≤ x8 → (I (q + 1) x8.toNatClampNeg) = 1000000000 → X d 0 0 6004 0 0 57 [some (.ref q), some (.ref 22), some (.int a), some (.int b), some (.int c), some (.int e), some (.int x6), some (.int x7), some (.int (x8 + 1))] [] (K, I, L, R, sz) Q) (q3 : ¬ (I q 9) ≤ x8 → ¬ (I (q + 1) x8.toNatClampNeg) = 1000000000 → X d 0 0 6004 0 0 81 [some (.ref q), some (.ref 22), some (.int a), some (.int b), some (.int c), some (.int e), some (.int x6), some (.int x7), some (.int x8)] [.int x8, .ref q] (K, I, L, R, sz) Q) : X d 0 0 6004 0 0 57 [some (.ref q), some (.ref 22), some (.int a), some (.int b), some (.int c), some (.int e), some (.int x6), some (.int x7), some (.int x8)] [] (K, I, L, R, sz) Q := x_ild8 k6004_57 <| x_ald0 k6004_59 <| x_getI k6004_60 f6_50_6 hl.1 rfl <| x_icmpge (tgt := 121) k6004_63 (by decide) (fun h1 => x_ild6 k6004_121 <| x_iret k6004_123 rfl (Nat.le_refl _) (Nat.le_refl _) <| (q1 h1)) (fun h1 => x_ald0 k6004_66 <| x_getR k6004_67 f6_12_6 hl.1 rfl hl.2.2.2.1 <| x_ild8 k6004_70 <| x_iald k6004_72 hl.2.1 (b1 h1) <| x_ldcI k6004_73 c6_23 <| x_icmpeq (tgt := 115) k6004_75 (by decide) (fun h2 => x_inc8 (c := 1) k6004_115 rfl (Nat.le_of_ble_eq_true rfl) rfl <| x_goto (tgt := 57) k6004_118 (by decide) <| (q2 h1 h2)) (fun h2 => x_ald0 k6004_78 <| x_ild8 k6004_79 <| (q3 h1 h2)))
theorem h6004 {q : Nat} {a : Int32} {b : Int32} {c : Int32} {e : Int32} {x6 : Int32} {x7 : Int32} {x8 : Int32}  (hl : qPn K R sz q)  (q1 : ¬ (I q 10) = x7 → X (d + 1) 0 0 6004 0 0 108 [some (.ref q), some (.ref 22), some (.int a), some (.int b), some (.int c), some (.int e), some (.int x6), some (.int x7), some (.int x8)] [.ref q] (K, I, L, R, sz) Q) (q2 : (I q 10) = x7 → X (d + 1) 0 0 6004 0 0 115 [some (.ref q), some (.ref 22), some (.int a), some (.int b), some (.int c), some (.int e), some (.int (if (I q 13) < x6 then (I q 13) else x6)), some (.int x7), some (.int x8)] [] (K, I, L, R, sz) Q) : X (d + 1) 0 0 6004 0 0 84 [some (.ref q), some (.ref 22), some (.int a), some (.int b), some (.int c), some (.int e), some (.int x6), some (.int x7), some (.int x8)] [] (K, I, L, R, sz) Q := x_ald0 k6004_84 <| x_getI k6004_85 f6_57_6 hl.1 rfl <| x_ild7 k6004_88 <| x_icmpne (tgt := 107) k6004_90 (by decide) (fun h1 => x_ald0 k6004_107 <| (q1 h1)) (fun h1 => x_ild6 k6004_93 <| x_ald0 k6004_95 <| x_getI k6004_96 f6_60_6 hl.1 rfl <| x_mmin k6004_99 m6_63 qs_min qi_Math qk_min (Nat.le_of_ble_eq_true rfl) (Nat.le_refl _) (Nat.le_refl _) <| x_ist6 k6004_102 (Nat.le_of_ble_eq_true rfl) rfl <| x_goto (tgt := 115) k6004_104 (by decide) <| (q2 h1))
theorem i6004 {q : Nat} {a : Int32} {b : Int32} {c : Int32} {e : Int32} {x6 : Int32} {x7 : Int32} {x8 : Int32}    (q1 : X d 0 0 6004 0 0 112 [some (.ref q), some (.ref 22), some (.int a), some (.int b), some (.int c), some (.int e), some (.int x6), some (.int x7), some (.int x8)] [.ref q] (K, I, L, R, sz) Q) : X d 0 0 6004 0 0 111 [some (.ref q), some (.ref 22), some (.int a), some (.int b), some (.int c), some (.int e), some (.int x6), some (.int x7), some (.int x8)] [] (K, I, L, R, sz) Q := x_ald0 k6004_111 <| q1
theorem j6004 {q : Nat} {a : Int32} {b : Int32} {c : Int32} {e : Int32} {x6 : Int32} {x7 : Int32} {x8 : Int32}    (q1 : X d 0 0 6004 0 0 57 [some (.ref q), some (.ref 22), some (.int a), some (.int b), some (.int c), some (.int e), some (.int x6), some (.int x7), some (.int (x8 + 1))] [] (K, I, L, R, sz) Q) : X d 0 0 6004 0 0 115 [some (.ref q), some (.ref 22), some (.int a), some (.int b), some (.int c), some (.int e), some (.int x6), some (.int x7), some (.int x8)] [] (K, I, L, R, sz) Q := x_inc8 (c := 1) k6004_115 rfl (Nat.le_of_ble_eq_true rfl) rfl <| x_goto (tgt := 57) k6004_118 (by decide) <| q1
theorem e6001 {a : Int32} {b : Int32} {c : Int32}    (q1 : X d 0 0 6001 0 0 9 [some (.ref q), some (.ref 22), some (.int a), some (.int b), some (.int c), none] [.int 1000, .int c, .int b, .int a, .ref 22, .ref q] (K, I, L, R, sz) Q) : X d 0 0 6001 0 0 0 (qent (qml 6001) [.ref q, .ref 22, .int a, .int b, .int c]) [] (K, I, L, R, sz) Q := show X _ 0 0 6001 0 0 0 [some (.ref q), some (.ref 22), some (.int a), some (.int b), some (.int c), none] [] _ _ from x_ald0 k6001_0 <| x_ald1 k6001_1 <| x_ild2 k6001_2 <| x_ild3 k6001_3 <| x_ild4 k6001_4 <| x_sipush (v := 1000) k6001_6 rfl <| q1
theorem f6001 {q : Nat} {a : Int32} {b : Int32} {c : Int32} {v : Int32}    (q1 : ¬ v = 1000000000 → Q (some (.int (v / 1000))) (K, I, L, R, sz)) (q2 : v = 1000000000 → Q (some (.int (-1))) (K, I, L, R, sz)) : X d 0 0 6001 0 0 12 [some (.ref q), some (.ref 22), some (.int a), some (.int b), some (.int c), none] [.int v] (K, I, L, R, sz) Q := x_ist5 k6001_12 (Nat.le_of_ble_eq_true rfl) rfl <| x_ild5 k6001_14 <| x_ldcI k6001_16 c6_23 <| x_icmpne (tgt := 25) k6001_18 (by decide) (fun h1 => x_ild5 k6001_25 <| x_sipush (v := 1000) k6001_27 rfl <| x_idiv k6001_30 (by decide) <| x_iret k6001_31 rfl (Nat.le_refl _) (Nat.le_refl _) <| (q1 h1)) (fun h1 => x_iconst (v := (-1)) k6001_21 rfl <| x_goto (tgt := 31) k6001_22 (by decide) <| x_iret k6001_31 rfl (Nat.le_refl _) (Nat.le_refl _) <| (q2 h1))
theorem e6002 {a : Int32} {b : Int32}    (q1 : X d 0 0 6002 0 0 8 [some (.ref q), some (.ref 22), some (.int a), some (.int b), none] [.int 1000, .int b, .int (-1), .int a, .ref 22, .ref q] (K, I, L, R, sz) Q) : X d 0 0 6002 0 0 0 (qent (qml 6002) [.ref q, .ref 22, .int a, .int b]) [] (K, I, L, R, sz) Q := show X _ 0 0 6002 0 0 0 [some (.ref q), some (.ref 22), some (.int a), some (.int b), none] [] _ _ from x_ald0 k6002_0 <| x_ald1 k6002_1 <| x_ild2 k6002_2 <| x_iconst (v := (-1)) k6002_3 rfl <| x_ild3 k6002_4 <| x_sipush (v := 1000) k6002_5 rfl <| q1
theorem f6002 {q : Nat} {a : Int32} {b : Int32} {v : Int32}    (q1 : ¬ v = 1000000000 → Q (some (.int (v - v / 1000 * 1000))) (K, I, L, R, sz)) (q2 : v = 1000000000 → Q (some (.int (-1))) (K, I, L, R, sz)) : X d 0 0 6002 0 0 11 [some (.ref q), some (.ref 22), some (.int a), some (.int b), none] [.int v] (K, I, L, R, sz) Q := x_ist4 k6002_11 (Nat.le_of_ble_eq_true rfl) rfl <| x_ild4 k6002_13 <| x_ldcI k6002_15 c6_23 <| x_icmpne (tgt := 24) k6002_17 (by decide) (fun h1 => x_ild4 k6002_24 <| x_sipush (v := 1000) k6002_26 rfl <| x_irem k6002_29 (by decide) <| x_iret k6002_30 rfl (Nat.le_refl _) (Nat.le_refl _) <| (q1 h1)) (fun h1 => x_iconst (v := (-1)) k6002_20 rfl <| x_goto (tgt := 30) k6002_21 (by decide) <| x_iret k6002_30 rfl (Nat.le_refl _) (Nat.le_refl _) <| (q2 h1))
theorem e6003 {a : Int32} {b : Int32}    (q1 : X d 0 0 6003 0 0 6 [some (.ref q), some (.ref 22), some (.int a), some (.int b), none] [.int 0, .int b, .int (-1), .int a, .ref 22, .ref q] (K, I, L, R, sz) Q) : X d 0 0 6003 0 0 0 (qent (qml 6003) [.ref q, .ref 22, .int a, .int b]) [] (K, I, L, R, sz) Q := show X _ 0 0 6003 0 0 0 [some (.ref q), some (.ref 22), some (.int a), some (.int b), none] [] _ _ from x_ald0 k6003_0 <| x_ald1 k6003_1 <| x_ild2 k6003_2 <| x_iconst (v := (-1)) k6003_3 rfl <| x_ild3 k6003_4 <| x_iconst (v := 0) k6003_5 rfl <| q1
theorem f6003 {q : Nat} {a : Int32} {b : Int32} {v : Int32}    (q1 : ¬ v = 1000000000 → Q (some (.int v)) (K, I, L, R, sz)) (q2 : v = 1000000000 → Q (some (.int (-1))) (K, I, L, R, sz)) : X d 0 0 6003 0 0 9 [some (.ref q), some (.ref 22), some (.int a), some (.int b), none] [.int v] (K, I, L, R, sz) Q := x_ist4 k6003_9 (Nat.le_of_ble_eq_true rfl) rfl <| x_ild4 k6003_11 <| x_ldcI k6003_13 c6_23 <| x_icmpne (tgt := 22) k6003_15 (by decide) (fun h1 => x_ild4 k6003_22 <| x_iret k6003_24 rfl (Nat.le_refl _) (Nat.le_refl _) <| (q1 h1)) (fun h1 => x_iconst (v := (-1)) k6003_18 rfl <| x_goto (tgt := 24) k6003_19 (by decide) <| x_iret k6003_24 rfl (Nat.le_refl _) (Nat.le_refl _) <| (q2 h1))
theorem s6004 {m : Nat} {x oc : Int32} {c : Nat} (hK : qLay K sz) (hR : qRef R) (hq6 : qAt K sz q (.inl 6)) (hq1 : qAt K sz (q + 1) (.inr (0, 80000))) (hq2 : qAt K sz (q + 2) (.inr (0, 3))) (hr0 : R q 0 = some (q + 1)) (hr1 : R q 1 = some (q + 2)) (h107 : 107 ≤ q) (cI : CI I p) (hf : fewH p) (hm : m < pM p) (hc : c ≤ 1000) (hoc : oc = I 0 8)
    (hq : ∀ J R' v, qLo I J → (∀ j, j ≠ q → R' j = R j) → qPl K R' sz q → plR (gQ I p m x) c v → Q (some (.int v)) (K, J, L, R', sz)) : X (d + 4) 0 0 6004 0 0 0 (qent (qml 6004) [.ref q, .ref 22, .int (nI m), .int x, .int oc, .int (nI c)]) [] (K, I, L, R, sz) Q := by
  have v := gQ_v (x := x) cI hf hm
  have hf0 := hf
  obtain ⟨f1, f2⟩ := hf
  have w3 := cI.w3
  have w4 : pT p ≤ 4 := cI.1.2.1.2.2.2
  have lT : I 22 3 = nI (pT p) := cI.1.1.2.2.2
  have hn8 := nst_le f1 f2 w4
  have hR1 : 1 ≤ pR p := by have := (@gQ_r I p m x cI hm).2; omega
  have hpw4 := pw2 (n := pT p) (k := 4) w4
  obtain ⟨R', hR'e⟩ : ∃ R', R' = va_up R q (va_up (R q) 2 (some 22)) := ⟨_, rfl⟩
  have hRj : ∀ j, j ≠ q → R' j = R j := fun j h => by rw [hR'e, vu_n h]
  have hRq : R' q = va_up (R q) 2 (some 22) := by rw [hR'e, vu_s]
  have hl : qPn K R' sz q := ⟨hq6, hq1, hq2, by rw [hRq, vu_n (by decide)]; exact hr0, by rw [hRq, vu_n (by decide)]; exact hr1, by rw [hRq, vu_s]⟩
  have hPl : qPl K R' sz q := ⟨h107, hq2.1, hq6.2, hq1.2, hq2.2, hl.2.2.2.1, hl.2.2.2.2.1⟩
  have hRR : qRef R' := qRef_hi hR h107 hRj
  have hnst : nst (gQ I p m x) = 2 ^ pT p * 2 ^ pS p * pR p * pR p ^ pS p := rfl
  have hx7 : (1 <<< (I 22 3 &&& 31) : Int32) - 1 = nI (2 ^ pT p - 1) := by
    rw [lT, show (1 <<< (nI (pT p) &&& 31) : Int32) = nI (2 ^ pT p) from shl_1 ⟨pT p, by omega⟩, show (1 : Int32) = nI 1 from rfl, pk_sub (p2_0 _)]
  have hloop : ∀ (k j : Nat), j + k = nst (gQ I p m x) → ∀ J bs, qLo I J → qPs J q p m x c (gOc (gQ I p m x)) → cDP (gQ I p m x) c (J (q + 1)) bs j → X (d + 4) 0 0 6004 0 0 57 [some (.ref q), some (.ref 22), some (.int (nI m)), some (.int x), some (.int oc), some (.int (nI c)), some (.int bs), some (.int (nI (2 ^ pT p - 1))), some (.int (nI j))] [] (K, J, L, R', sz) Q := by
    intro k
    induction k with
    | zero =>
      intro j hj J bs hJ sJ D
      have e9 : J q 9 = nI (nst (gQ I p m x)) := sJ.2.2.2.2.2.2
      have hle : J q 9 ≤ nI j := by rw [e9]; exact nI_le (by omega) (by omega)
      have : j = nst (gQ I p m x) := by omega
      subst this
      refine g6004 hl (fun h => absurd hle h) (fun _ => hq J R' bs hJ hRj hPl (dp_end v hc D)) (fun h => absurd hle h) (fun h => absurd hle h)
    | succ k ih =>
      intro j hj J bs hJ sJ D
      have e9 : J q 9 = nI (nst (gQ I p m x)) := sJ.2.2.2.2.2.2
      have hnl : ¬ J q 9 ≤ nI j := by rw [e9]; exact nI_ge (by omega) (by omega)
      have hjn : j < nst (gQ I p m x) := by omega
      have ec : (nI j).toNatClampNeg = j := nI_c (by omega)
      refine g6004 hl (fun _ => vI (by omega) (by omega)) (fun h => absurd h hnl) (fun _ h => ?_) (fun _ h => ?_)
      · rw [ec] at h
        rw [nI_1]
        exact ih (j + 1) (by omega) J bs hJ sJ (dp_none v hc D h)
      · rw [ec] at h
        obtain ⟨T0, k0, hu, hp0⟩ := (D.1 j hjn).resolve_left h
        have cJ := (hJ.af cI).2
        have hgJ : gQ J p m x = gQ I p m x := gQ_lo hJ hf0 hm cI
        refine x_cV1 (MCz := 0) (MSz := 0) k6004_81 v6_53_6 hq6 (Nat.le_of_ble_eq_true rfl) (Nat.le_of_ble_eq_true rfl) (Nat.le_refl _) (Nat.le_refl _) <| s6006 (d := d + 2) hK hl h107 cJ hf0 hR1 hjn sJ hu (fun A hA a1 sA tA => ?_)
        have hIA : qLo I A := hJ.trans hA
        have cA := (hIA.af cI).2
        have hgA : gQ A p m x = gQ I p m x := gQ_lo hIA hf0 hm cI
        rw [← a1] at D hu
        have o1 := (i_ok (S := pS p) (R := pR p) (N := pT p) hjn).2.1
        have hfull : A q 10 = nI (2 ^ pT p - 1) ↔ full (gQ I p m x) (bt (iD (pS p) (pR p) j)) := by
          rw [tA.1, nI_eq (by omega) (by omega)]
          exact (full_iff w4 o1).symm
        refine h6004 (d := d + 3) hl (fun hnf => ?_) (fun hfu => ?_)
        · rw [hfull] at hnf
          refine x_cV0 (MCz := 0) (MSz := 0) k6004_108 v6_69_6 hq6 (Nat.le_of_ble_eq_true rfl) (Nat.le_of_ble_eq_true rfl) (Nat.le_refl _) (Nat.le_refl _) <| s6008 (d := d + 1) (x := x) hK hRR hl h107 cA hf0 hm hc (by rw [hgA]; exact hjn) (by rw [hgA]; exact sA) tA (by rw [hgA]; exact hp0) (by rw [hgA]; exact D.1) (fun l g1 g2 g3 => ?_)
          rw [hgA] at g1 g3
          obtain ⟨B, hB⟩ : ∃ B, B = va_up A (q + 1) l := ⟨_, rfl⟩
          rw [← hB]
          have hAB : qLo A B := by rw [hB]; exact qLo.refl.up (by omega)
          have hIB : qLo I B := hIA.trans hAB
          have cB := (hIB.af cI).2
          have hgB : gQ B p m x = gQ I p m x := gQ_lo hIB hf0 hm cI
          have hBq : B q = A q := by rw [hB, vu_n (by omega)]
          have hB2 : B (q + 2) = A (q + 2) := by rw [hB, vu_n (by omega)]
          have hB1 : B (q + 1) = l := by rw [hB, vu_s]
          refine i6004 ?_
          refine x_cV0 (MCz := 0) (MSz := 0) k6004_112 v6_72_6 hq6 (Nat.le_of_ble_eq_true rfl) (Nat.le_of_ble_eq_true rfl) (Nat.le_refl _) (Nat.le_refl _) <| s6009 (d := d + 1) (x := x) (T0 := T0) (k0 := k0) hK hRR hl h107 cB hf0 hm hc (by rw [hgB]; exact hjn) (by rw [hgB]; unfold qPs; rw [hBq]; exact sA) (by unfold qPt; rw [hBq, hB2]; exact tA) (by rw [hgB]; exact hp0) (by rw [hgB, hB1]; exact g1) (fun l2 u1 u2 u3 => ?_)
          rw [hgB] at u1 u3
          rw [hB1] at u2
          refine j6004 ?_
          rw [nI_1]
          refine ih (j + 1) (by omega) _ bs (hIB.up (by omega)) (by unfold qPs; rw [vu_n (by omega), hBq]; exact sA) ?_
          rw [vu_s]
          refine dp_step v hc D hu hp0 u1 (fun y w hyw => u2 y w (g2 y w hyw)) hnf (fun d' h' r' f' w b he => ?_)
          rcases he with ⟨s, hs, ha, hs1, rfl, rfl, rfl, rfl, rfl, rfl⟩ | ⟨t, H, ht, hd, hop, hH, hcn, rfl, rfl, rfl, rfl, rfl, rfl⟩
          · exact u2 _ _ (g3 s hs ha hs1)
          · exact u3 t H ht hd hop hH hcn
        · have hfu' := hfull.mp hfu
          refine j6004 ?_
          rw [nI_1]
          have hD := dp_full v hc D hjn (show ¬ A (q + 1) j = 1000000000 from by rw [a1]; exact h) hfu'
          have emin : (if A q 13 < bs then A q 13 else bs) = if bs ≤ A (q + 1) j then bs else A (q + 1) j := by
            rw [tA.2.2.2.1, hu]
            by_cases e : bs ≤ nI (T0 * c + k0)
            · rw [if_pos e, if_neg (Int32.not_lt.mpr e)]
            · rw [if_neg e, if_pos (Int32.not_le.mp e)]
          rw [emin]
          exact ih (j + 1) (by omega) A _ hIA sA hD
  have hbeg : ∀ A, qLo I A → A q = upd (upd (upd (upd (I q) 3 (nI m)) 4 x) 5 (if gOc (gQ I p m x) then 1 else 0)) 6 (nI c) → X (d + 4) 0 0 6004 0 0 37 [some (.ref q), some (.ref 22), some (.int (nI m)), some (.int x), some (.int oc), some (.int (nI c)), none, none, none] [.ref q] (K, A, L, R', sz) Q := fun A hA hAq => by
    have hgA : gQ A p m x = gQ I p m x := gQ_lo hA hf0 hm cI
    refine x_cV0 (MCz := 0) (MSz := 0) k6004_37 v6_42_6 hq6 (Nat.le_of_ble_eq_true rfl) (Nat.le_of_ble_eq_true rfl) (Nat.le_refl _) (Nat.le_refl _) <| s6005 (d := d + 2) (c := c) (m := m) (x := x) (oc := gOc (gQ I p m x)) hK hRR hl h107 (hA.af cI).2 hf0 hm hc (by rw [hAq]; rfl) (by rw [hAq]; rfl) (by rw [hAq]; rfl) (by rw [hAq]; rfl) (fun B hB sB D => ?_)
    rw [hgA] at D
    refine f6004 hK ?_
    rw [(hA.trans hB) 22 (by omega), hx7]
    exact hloop (nst (gQ I p m x)) 0 (by omega) B _ (hA.trans hB) sB D
  have hoce : gOc (gQ I p m x) = decide (I 0 8 = 1) := rfl
  refine e6004 hq6 (fun A hA B hB h C hC D hD => ?_) (fun A hA B hB h C hC D hD => ?_)
  · have e : gOc (gQ I p m x) = false := by rw [hoce, ← hoc, decide_eq_false h]
    rw [← hR'e]
    refine hbeg D ?_ ?_
    · rw [hD, hC, hB, hA]; exact (((qLo.refl.up h107).up h107).up h107).up h107
    · rw [hD, vu_s, hC, vu_s, hB, vu_s, hA, vu_s, e]; rfl
  · have e : gOc (gQ I p m x) = true := by rw [hoce, ← hoc, decide_eq_true h]
    rw [← hR'e]
    refine hbeg D ?_ ?_
    · rw [hD, hC, hB, hA]; exact (((qLo.refl.up h107).up h107).up h107).up h107
    · rw [hD, vu_s, hC, vu_s, hB, vu_s, hA, vu_s, e]; rfl
theorem plR_V {g : qPg} (v : gV g) {w : Int32} (h : plR g 1000 w) : plV g (if w = 1000000000 then -1 else w / 1000) := by
  rcases h with ⟨a, b⟩ | ⟨n, a, hn, b⟩
  · rw [if_pos a]; exact Or.inl ⟨rfl, cNo_r b⟩
  · rw [if_neg (fun e => by rw [a, NV] at e; have := (nI_eq (by omega) (by omega)).mp e; omega), a, show (1000 : Int32) = nI 1000 from rfl, pk_div (by omega) (by omega) (by omega)]
    exact Or.inr ⟨_, _, rfl, by omega, cMin_pl v b⟩
theorem plR_K {g : qPg} (v : gV g) {w : Int32} (h : plR g 1000 w) : plK g (if w = 1000000000 then -1 else w - w / 1000 * 1000) := by
  rcases h with ⟨a, b⟩ | ⟨n, a, hn, b⟩
  · rw [if_pos a]; exact Or.inl ⟨rfl, cNo_r b⟩
  · rw [if_neg (fun e => by rw [a, NV] at e; have := (nI_eq (by omega) (by omega)).mp e; omega), a, show (1000 : Int32) = nI 1000 from rfl, pk_div (by omega) (by omega) (by omega), pk_mul, pk_sub (by omega), show n - n / 1000 * 1000 = n % 1000 by omega]
    exact Or.inr ⟨_, _, rfl, by omega, cMin_pl v b⟩
theorem plR_F {g : qPg} (v : gV g) {w : Int32} (h : plR g 0 w) : plF g (if w = 1000000000 then -1 else w) := by
  rcases h with ⟨a, b⟩ | ⟨n, a, hn, b⟩
  · rw [if_pos a]; exact Or.inl ⟨rfl, cNo_r b⟩
  · rw [if_neg (fun e => by rw [a, NV] at e; have := (nI_eq (by omega) (by omega)).mp e; omega), a]
    exact Or.inr ⟨_, rfl, by omega, cMin_fw v b⟩
theorem s6001 {m : Nat} {x oc : Int32} (hK : qLay K sz) (hR : qRef R) (hP : qPl K R sz q) (cI : CI I p) (hf : fewH p) (hm : m < pM p) (hoc : oc = I 0 8)
    (hq : ∀ J R' v, qLo I J → (∀ j, j ≠ q → R' j = R j) → qPl K R' sz q → plV (gQ I p m x) v → Q (some (.int v)) (K, J, L, R', sz)) : X (d + 5) 0 0 6001 0 0 0 (qent (qml 6001) [.ref q, .ref 22, .int (nI m), .int x, .int oc]) [] (K, I, L, R, sz) Q := by
  obtain ⟨h107, hsz, k0, k1, k2, r0, r1⟩ := hP
  refine e6001 ?_
  rw [show (1000 : Int32) = nI 1000 from rfl]
  refine x_cV5 (MCz := 0) (MSz := 0) k6001_9 v6_19_6 ⟨by omega, k0⟩ (Nat.le_of_ble_eq_true rfl) (Nat.le_of_ble_eq_true rfl) (Nat.le_refl _) (Nat.le_refl _) <| s6004 (d := d) hK hR ⟨by omega, k0⟩ ⟨by omega, k1⟩ ⟨by omega, k2⟩ r0 r1 h107 cI hf hm (Nat.le_refl _) hoc (fun J R' v hJ hR' hP' hv => ?_)
  have hV := plR_V (gQ_v cI hf hm) hv
  refine f6001 (fun e => ?_) (fun e => ?_)
  · rw [if_neg e] at hV
    exact hq J R' _ hJ hR' hP' hV
  · rw [if_pos e] at hV
    exact hq J R' _ hJ hR' hP' hV
theorem s6002 {m : Nat} {oc : Int32} (hK : qLay K sz) (hR : qRef R) (hP : qPl K R sz q) (cI : CI I p) (hf : fewH p) (hm : m < pM p) (hoc : oc = I 0 8)
    (hq : ∀ J R' v, qLo I J → (∀ j, j ≠ q → R' j = R j) → qPl K R' sz q → plK (gQ I p m (-1)) v → Q (some (.int v)) (K, J, L, R', sz)) : X (d + 5) 0 0 6002 0 0 0 (qent (qml 6002) [.ref q, .ref 22, .int (nI m), .int oc]) [] (K, I, L, R, sz) Q := by
  obtain ⟨h107, hsz, k0, k1, k2, r0, r1⟩ := hP
  refine e6002 ?_
  rw [show (1000 : Int32) = nI 1000 from rfl]
  refine x_cV5 (MCz := 0) (MSz := 0) k6002_8 v6_19_6 ⟨by omega, k0⟩ (Nat.le_of_ble_eq_true rfl) (Nat.le_of_ble_eq_true rfl) (Nat.le_refl _) (Nat.le_refl _) <| s6004 (d := d) hK hR ⟨by omega, k0⟩ ⟨by omega, k1⟩ ⟨by omega, k2⟩ r0 r1 h107 cI hf hm (Nat.le_refl _) hoc (fun J R' v hJ hR' hP' hv => ?_)
  have hV := plR_K (gQ_v cI hf hm) hv
  refine f6002 (fun e => ?_) (fun e => ?_)
  · rw [if_neg e] at hV
    exact hq J R' _ hJ hR' hP' hV
  · rw [if_pos e] at hV
    exact hq J R' _ hJ hR' hP' hV
theorem s6003 {m : Nat} {oc : Int32} (hK : qLay K sz) (hR : qRef R) (hP : qPl K R sz q) (cI : CI I p) (hf : fewH p) (hm : m < pM p) (hoc : oc = I 0 8)
    (hq : ∀ J R' v, qLo I J → (∀ j, j ≠ q → R' j = R j) → qPl K R' sz q → plF (gQ I p m (-1)) v → Q (some (.int v)) (K, J, L, R', sz)) : X (d + 5) 0 0 6003 0 0 0 (qent (qml 6003) [.ref q, .ref 22, .int (nI m), .int oc]) [] (K, I, L, R, sz) Q := by
  obtain ⟨h107, hsz, k0, k1, k2, r0, r1⟩ := hP
  refine e6003 ?_
  rw [show (0 : Int32) = nI 0 from rfl]
  refine x_cV5 (MCz := 0) (MSz := 0) k6003_6 v6_19_6 ⟨by omega, k0⟩ (Nat.le_of_ble_eq_true rfl) (Nat.le_of_ble_eq_true rfl) (Nat.le_refl _) (Nat.le_refl _) <| s6004 (d := d) hK hR ⟨by omega, k0⟩ ⟨by omega, k1⟩ ⟨by omega, k2⟩ r0 r1 h107 cI hf hm (by omega) hoc (fun J R' v hJ hR' hP' hv => ?_)
  have hV := plR_F (gQ_v cI hf hm) hv
  refine f6003 (fun e => ?_) (fun e => ?_)
  · rw [if_neg e] at hV
    exact hq J R' _ hJ hR' hP' hV
  · rw [if_pos e] at hV
    exact hq J R' _ hJ hR' hP' hV

end L99c
