/-! plans: the reference, a state in its hands -/
section L99fa
variable {I J : Nat → Nat → Int32} {p : qPa} {m : Nat} {x : Int32}
theorem gQ_q (hf : qFr scQ I J) (hm : m < 3) (w5 : pS p ≤ 5) : gQ J p m x = gQ I p m x := by
  have h34 : ∀ t, t < 4 → J (34 + t) = I (34 + t) := fun t ht => hf.row (scQ_no (by omega))
  have h24 : ∀ s, s < 5 → J (24 + s) = I (24 + s) := fun t ht => hf.row (scQ_no (by omega))
  have e1 : (fun s => decide (s < 5) && (!decide (nI s = x) && mayI J m s)) = fun s => decide (s < 5) && (!decide (nI s = x) && mayI I m s) := by
    funext s
    by_cases c : s < 5
    · unfold mayI; rw [h24 s c]
    · rw [decide_eq_false c, Bool.false_and, Bool.false_and]
  have e2 : ∀ k, (fun t => if t < 4 then (J (34 + t) k).toNatClampNeg else 0) = fun t => if t < 4 then (I (34 + t) k).toNatClampNeg else 0 := fun k => by
    funext t
    by_cases c : t < 4
    · rw [if_pos c, if_pos c, h34 t c]
    · rw [if_neg c, if_neg c]
  have e3 : (fun (d : Nat → Bool) t => decide (t < 4) && (decide (J (34 + t) 3 = -1) || d (J (34 + t) 3).toNatClampNeg)) = fun d t => decide (t < 4) && (decide (I (34 + t) 3 = -1) || d (I (34 + t) 3).toNatClampNeg) := by
    funext d t
    by_cases c : t < 4
    · rw [h34 t c]
    · rw [decide_eq_false c, Bool.false_and, Bool.false_and]
  have e4 : (fun s => if s < pS p then (J (24 + s) 0).toNatClampNeg else 0) = fun s => if s < pS p then (I (24 + s) 0).toNatClampNeg else 0 := by
    funext s
    by_cases c : s < pS p
    · rw [if_pos c, if_pos c, h24 s (by omega)]
    · rw [if_neg c, if_neg c]
  have e5 : J 0 = I 0 := hf.row (scQ_no (by omega))
  have e6 : J (30 + m) = I (30 + m) := hf.row (scQ_no (by omega))
  unfold gQ
  rw [e1, e2 0, e2 1, e2 2, e3, e4, e5, e6]
def b2 (b : Bool) : Nat := if b then 1 else 0
theorem b2_le (b : Bool) : b2 b ≤ 1 := by cases b <;> decide
def pv (dn : Nat) (h : Nat → Bool) (r : Nat) (f : Nat → Nat) : Nat → Nat
  | 0 => 5 * dn + r
  | s + 1 => 10 * pv dn h r f s + 2 * f s + b2 (h s)
def rcd (d h : Nat → Bool) (r : Nat) (f : Nat → Nat) : Nat := pv (eB d) h r f 3
def okR (d h : Nat → Bool) (r : Nat) (f : Nat → Nat) : Prop := (∀ t, 4 ≤ t → d t = false) ∧ (∀ s, 3 ≤ s → h s = false) ∧ r < 5 ∧ (∀ s, s < 3 → f s < 5) ∧ (∀ s, 3 ≤ s → f s = 0)
theorem rcd_e {d h : Nat → Bool} {r : Nat} {f : Nat → Nat} : rcd d h r f = 10 * (10 * (10 * (5 * eB d + r) + 2 * f 0 + b2 (h 0)) + 2 * f 1 + b2 (h 1)) + 2 * f 2 + b2 (h 2) := rfl
def uF (k s : Nat) : Nat := if s = 0 then k / 100 % 10 / 2 else if s = 1 then k / 10 % 10 / 2 else if s = 2 then k % 10 / 2 else 0
def uH (k s : Nat) : Bool := if s = 0 then decide (k / 100 % 2 = 1) else if s = 1 then decide (k / 10 % 2 = 1) else if s = 2 then decide (k % 2 = 1) else false
def uR (k : Nat) : Nat := k / 1000 % 5
def uD (k : Nat) : Nat → Bool := bt (k / 1000 / 5)
theorem b2_d {b : Bool} {n : Nat} (h : n % 2 = b2 b) : decide (n % 2 = 1) = b := by
  rw [h]; cases b <;> decide
theorem ucd {d h : Nat → Bool} {r : Nat} {f : Nat → Nat} (o : okR d h r f) : rcd d h r f < 80000 ∧ uD (rcd d h r f) = d ∧ uH (rcd d h r f) = h ∧ uR (rcd d h r f) = r ∧ uF (rcd d h r f) = f := by
  obtain ⟨o1, o2, o3, o4, o5⟩ := o
  obtain ⟨d1, d2⟩ := eB_bt (n := 4) (by omega) o1
  have f0 := o4 0 (by omega)
  have f1 := o4 1 (by omega)
  have f2 := o4 2 (by omega)
  have h0 := b2_le (h 0)
  have h1 := b2_le (h 1)
  have h2 := b2_le (h 2)
  have hd16 : eB d < 16 := d1
  rw [rcd_e]
  refine ⟨by omega, ?_, ?_, ?_, ?_⟩
  · unfold uD
    rw [show (10 * (10 * (10 * (5 * eB d + r) + 2 * f 0 + b2 (h 0)) + 2 * f 1 + b2 (h 1)) + 2 * f 2 + b2 (h 2)) / 1000 / 5 = eB d by omega]
    exact d2
  · funext s
    unfold uH
    by_cases c0 : s = 0
    · subst c0; rw [if_pos rfl]; exact b2_d (by omega)
    · rw [if_neg c0]
      by_cases c1 : s = 1
      · subst c1; rw [if_pos rfl]; exact b2_d (by omega)
      · rw [if_neg c1]
        by_cases c2 : s = 2
        · subst c2; rw [if_pos rfl]; exact b2_d (by omega)
        · rw [if_neg c2, o2 s (by omega)]
  · unfold uR; omega
  · funext s
    unfold uF
    by_cases c0 : s = 0
    · subst c0; rw [if_pos rfl]; omega
    · rw [if_neg c0]
      by_cases c1 : s = 1
      · subst c1; rw [if_pos rfl]; omega
      · rw [if_neg c1]
        by_cases c2 : s = 2
        · subst c2; rw [if_pos rfl]; omega
        · rw [if_neg c2, o5 s (by omega)]
/-- the state in the reference's fields -/
def rSt (J : Nat → Nat → Int32) (d h : Nat → Bool) (r : Nat) (f : Nat → Nat) : Prop := J 73 41 = nI (eB d) ∧ J 73 42 = nI r ∧ J 73 43 = nI (eB h) ∧ ∀ s, s < 3 → J 93 s = nI (f s)
def pU (j k : Nat) : Prop := j = 93 ∨ (j = 73 ∧ 41 ≤ k ∧ k ≤ 43)
theorem pU_Q {j k : Nat} (h : pU j k) : scQ j k := fun q => by unfold pU at h; unfold kpQ at q; omega
theorem his_d : ∀ a b c : Fin 2, ((((0 : Int32) ||| (nI c.val <<< (2 &&& 31))) ||| (nI b.val <<< (1 &&& 31))) ||| (nI a.val <<< (0 &&& 31))) = nI (a.val + 2 * b.val + 4 * c.val) := by decide +kernel
theorem eB_uH {k : Nat} : eB (uH k) = k / 100 % 2 + 2 * (k / 10 % 2) + 4 * (k % 2) := by
  have e : eB (uH k) = ((((0 + if uH k 0 then 2 ^ 0 else 0) + if uH k 1 then 2 ^ 1 else 0) + if uH k 2 then 2 ^ 2 else 0) + if uH k 3 then 2 ^ 3 else 0) := rfl
  have e0 : uH k 0 = decide (k / 100 % 2 = 1) := rfl
  have e1 : uH k 1 = decide (k / 10 % 2 = 1) := rfl
  have e2 : uH k 2 = decide (k % 2 = 1) := rfl
  have e3 : uH k 3 = false := rfl
  rw [e, e0, e1, e2, e3]
  simp only [decide_eq_true_eq, Bool.false_eq_true, if_false]
  split <;> split <;> split <;> omega
end L99fa
section L99f
variable {d : Nat} {K : qK} {I : Nat → Nat → Int32} {L : Nat → Nat → Int64} {R : Nat → Nat → Option Nat} {sz : Nat} {Q : Option Value → qMem → Prop} {p : qPa}
theorem e12074   (hK : qLay K sz)  (q1 : X d 0 0 12074 0 0 16 [some (.ref 73), some (.int ((5 * (I 73 41)) + (I 73 42))), some (.int 0)] [] (K, I, L, R, sz) Q) : X d 0 0 12074 0 0 0 (qent (qml 12074) [.ref 73]) [] (K, I, L, R, sz) Q := show X _ 0 0 12074 0 0 0 [some (.ref 73), none, none] [] _ _ from x_ald0 k12074_0 <| x_getI k12074_1 f12_369_11 (hK.at rfl) rfl <| x_ist1 k12074_4 (Nat.le_of_ble_eq_true rfl) rfl <| x_iconst (v := 5) k12074_5 rfl <| x_ild1 k12074_6 <| x_imul k12074_7 <| x_ald0 k12074_8 <| x_getI k12074_9 f12_372_11 (hK.at rfl) rfl <| x_iadd k12074_12 <| x_ist1 k12074_13 (Nat.le_of_ble_eq_true rfl) rfl <| x_iconst (v := 0) k12074_14 rfl <| x_ist2 k12074_15 (Nat.le_of_ble_eq_true rfl) rfl <| q1
theorem g12074_16 {x1 : Int32} {x2 : Int32}  (hK : qLay K sz) (hR : qRef R) (b1 : ¬ 3 ≤ x2 → vp_in x2 3) (q1 : 3 ≤ x2 → Q (some (.int x1)) (K, I, L, R, sz)) (q2 : ¬ 3 ≤ x2 → (((I 73 43) >>> (x2 &&& 31)) &&& 1) = 1 → X (d + 1) 0 0 12074 0 0 16 [some (.ref 73), some (.int (((10 * x1) + (2 * (I 93 x2.toNatClampNeg))) + 1)), some (.int (x2 + 1))] [] (K, I, L, R, sz) Q) (q3 : ¬ 3 ≤ x2 → ¬ (((I 73 43) >>> (x2 &&& 31)) &&& 1) = 1 → X (d + 1) 0 0 12074 0 0 16 [some (.ref 73), some (.int (((10 * x1) + (2 * (I 93 x2.toNatClampNeg))) + 0)), some (.int (x2 + 1))] [] (K, I, L, R, sz) Q) : X (d + 1) 0 0 12074 0 0 16 [some (.ref 73), some (.int x1), some (.int x2)] [] (K, I, L, R, sz) Q := x_ild2 k12074_16 <| x_iconst (v := 3) k12074_17 rfl <| x_icmpge (tgt := 58) k12074_18 (by decide) (fun h1 => x_ild1 k12074_58 <| x_iret k12074_59 rfl (Nat.le_refl _) (Nat.le_refl _) <| (q1 h1)) (fun h1 => x_bipush (v := 10) k12074_21 rfl <| x_ild1 k12074_23 <| x_imul k12074_24 <| x_iconst (v := 2) k12074_25 rfl <| x_ald0 k12074_26 <| x_getR k12074_27 f12_76_11 (hK.at rfl) rfl (hR _ _ _ rfl) <| x_ild2 k12074_30 <| x_iald k12074_31 (hK.at rfl) (b1 h1) <| x_imul k12074_32 <| x_iadd k12074_33 <| x_ald0 k12074_34 <| x_getI k12074_35 f12_375_11 (hK.at rfl) rfl <| x_ild2 k12074_38 <| x_cS2 (MCz := 0) (MSz := 0) k12074_39 s12_263 (Nat.le_of_ble_eq_true rfl) (Nat.le_of_ble_eq_true rfl) (Nat.le_refl _) (Nat.le_refl _) <| t12001 (fun g2 => x_ifeqF (tgt := 49) k12074_42 (by decide) (show ¬ (1 : Int32) = 0 by decide) <| x_iconst (v := 1) k12074_45 rfl <| x_goto (tgt := 50) k12074_46 (by decide) <| x_iadd k12074_50 <| x_ist1 k12074_51 (Nat.le_of_ble_eq_true rfl) rfl <| x_inc2 (c := 1) k12074_52 rfl (Nat.le_of_ble_eq_true rfl) rfl <| x_goto (tgt := 16) k12074_55 (by decide) <| (q2 h1 g2)) (fun g3 => x_ifeqT (tgt := 49) k12074_42 (by decide) (show (0 : Int32) = 0 by decide) <| x_iconst (v := 0) k12074_49 rfl <| x_iadd k12074_50 <| x_ist1 k12074_51 (Nat.le_of_ble_eq_true rfl) rfl <| x_inc2 (c := 1) k12074_52 rfl (Nat.le_of_ble_eq_true rfl) rfl <| x_goto (tgt := 16) k12074_55 (by decide) <| (q3 h1 g3)))
theorem e12075 {a : Int32}  (hK : qLay K sz)  (q1 : ∀ I1 : Nat → Nat → Int32, I1 = va_up I 73 (upd (I 73) 43 0) → X d 0 0 12075 0 0 9 [some (.ref 73), some (.int a), some (.int a), some (.int 2)] [] (K, I1, L, R, sz) Q) : X d 0 0 12075 0 0 0 (qent (qml 12075) [.ref 73, .int a]) [] (K, I, L, R, sz) Q := show X _ 0 0 12075 0 0 0 [some (.ref 73), some (.int a), none, none] [] _ _ from x_ild1 k12075_0 <| x_ist2 k12075_1 (Nat.le_of_ble_eq_true rfl) rfl <| x_ald0 k12075_2 <| x_iconst (v := 0) k12075_3 rfl <| x_putI k12075_4 f12_375_11 (Or.inl rfl) (hK.at rfl) <| x_nm fun I1 e2 => x_iconst (v := 2) k12075_7 rfl <| x_ist3 k12075_8 (Nat.le_of_ble_eq_true rfl) rfl <| (q1 I1 e2)
theorem g12075_9 {x1 : Int32} {x2 : Int32} {x3 : Int32}  (hK : qLay K sz) (hR : qRef R) (b1 : ¬ x3 < 0 → vp_in x3 3) (q1 : x3 < 0 → ∀ I2 : Nat → Nat → Int32, I2 = va_up I 73 (upd (I 73) 42 (x2 - x2 / 5 * 5)) → ∀ I4 : Nat → Nat → Int32, I4 = va_up I2 73 (upd (I2 73) 41 (x2 / 5)) → Q none (K, I4, L, R, sz)) (q2 : ¬ x3 < 0 → ∀ I6 : Nat → Nat → Int32, I6 = va_up I 93 (upd (I 93) x3.toNatClampNeg ((x2 - x2 / 10 * 10) / 2)) → ∀ I8 : Nat → Nat → Int32, I8 = va_up I6 73 (upd (I6 73) 43 ((I6 73 43) ||| ((x2 - x2 / 2 * 2) <<< (x3 &&& 31)))) → X d 0 0 12075 0 0 9 [some (.ref 73), some (.int x1), some (.int (x2 / 10)), some (.int (x3 + (-1)))] [] (K, I8, L, R, sz) Q) : X d 0 0 12075 0 0 9 [some (.ref 73), some (.int x1), some (.int x2), some (.int x3)] [] (K, I, L, R, sz) Q := x_ild3 k12075_9 <| x_iflt (tgt := 50) k12075_10 (by decide) (fun h1 => x_ald0 k12075_50 <| x_ild2 k12075_51 <| x_iconst (v := 5) k12075_52 rfl <| x_irem k12075_53 (by decide) <| x_putI k12075_54 f12_372_11 (Or.inl rfl) (hK.at rfl) <| x_nm fun I2 e3 => x_ald0 k12075_57 <| x_ild2 k12075_58 <| x_iconst (v := 5) k12075_59 rfl <| x_idiv k12075_60 (by decide) <| x_putI k12075_61 f12_369_11 (Or.inl rfl) (hK.at rfl) <| x_nm fun I4 e5 => x_vret k12075_64 rfl (Nat.le_refl _) (Nat.le_refl _) <| (q1 h1 I2 e3 I4 e5)) (fun h1 => x_ald0 k12075_13 <| x_getR k12075_14 f12_76_11 (hK.at rfl) rfl (hR _ _ _ rfl) <| x_ild3 k12075_17 <| x_ild2 k12075_18 <| x_bipush (v := 10) k12075_19 rfl <| x_irem k12075_21 (by decide) <| x_iconst (v := 2) k12075_22 rfl <| x_idiv k12075_23 (by decide) <| x_iast k12075_24 (hK.at rfl) (b1 h1) <| x_nm fun I6 e7 => x_ald0 k12075_25 <| x_dup k12075_26 rfl <| x_getI k12075_27 f12_375_11 (hK.at rfl) rfl <| x_ild2 k12075_30 <| x_iconst (v := 2) k12075_31 rfl <| x_irem k12075_32 (by decide) <| x_ild3 k12075_33 <| x_ishl k12075_34 <| x_ior k12075_35 <| x_putI k12075_36 f12_375_11 (Or.inl rfl) (hK.at rfl) <| x_nm fun I8 e9 => x_ild2 k12075_39 <| x_bipush (v := 10) k12075_40 rfl <| x_idiv k12075_42 (by decide) <| x_ist2 k12075_43 (Nat.le_of_ble_eq_true rfl) rfl <| x_inc3 (c := (-1)) k12075_44 rfl (Nat.le_of_ble_eq_true rfl) rfl <| x_goto (tgt := 9) k12075_47 (by decide) <| (q2 h1 I6 e7 I8 e9))
theorem s12074 {dd h : Nat → Bool} {r : Nat} {f : Nat → Nat} (hK : qLay K sz) (hR : qRef R) (o : okR dd h r f) (st : rSt I dd h r f) (hq : Q (some (.int (nI (rcd dd h r f)))) (K, I, L, R, sz)) : X (d + 1) 0 0 12074 0 0 0 (qent (qml 12074) [.ref 73]) [] (K, I, L, R, sz) Q := by
  obtain ⟨o1, o2, o3, o4, o5⟩ := o
  obtain ⟨t1, t2, t3, t4⟩ := st
  obtain ⟨h1, h2⟩ := eB_bt (n := 3) (by omega) o2
  have hh8 : eB h < 8 := h1
  have hl : ∀ (k s : Nat), s + k = 3 → X (d + 1) 0 0 12074 0 0 16 [some (.ref 73), some (.int (nI (pv (eB dd) h r f s))), some (.int (nI s))] [] (K, I, L, R, sz) Q := by
    intro k
    induction k with
    | zero =>
      intro s hs
      have : s = 3 := by omega
      subst this
      have hle : (3 : Int32) ≤ nI 3 := by decide
      exact g12074_16 hK hR (fun h => absurd hle h) (fun _ => hq) (fun h => absurd hle h) (fun h => absurd hle h)
    | succ k ih =>
      intro s hs
      have hnl : ¬ (3 : Int32) ≤ nI s := nI_ge (b := 3) (by omega) (by omega)
      have ec : (nI s).toNatClampNeg = s := nI_c (by omega)
      have hb : ((I 73 43 >>> (nI s &&& 31)) &&& 1) = 1 ↔ h s = true := by
        rw [t3, br_1 (by omega) (by omega), h2]
      have hih := ih (s + 1) (by omega)
      rw [pv] at hih
      refine g12074_16 hK hR (fun _ => vI (by omega) (by omega)) (fun q => absurd q hnl) (fun _ q => ?_) (fun _ q => ?_)
      · rw [hb] at q
        rw [q, show b2 true = 1 from rfl] at hih
        rw [ec, t4 s (by omega), show (10 : Int32) = nI 10 from rfl, show (2 : Int32) = nI 2 from rfl, pk_mul, pk_mul, nI_add, nI_1, nI_1]
        exact hih
      · rw [hb] at q
        have q' : h s = false := by cases e : h s; rfl; exact absurd e q
        rw [q', show b2 false = 0 from rfl, Nat.add_zero] at hih
        rw [ec, t4 s (by omega), show (10 : Int32) = nI 10 from rfl, show (2 : Int32) = nI 2 from rfl, pk_mul, pk_mul, nI_add, Int32.add_zero, nI_1]
        exact hih
  refine e12074 hK ?_
  rw [t1, t2, show (5 : Int32) = nI 5 from rfl, pk_mul, nI_add]
  exact hl 3 0 (by omega)
theorem s12075 {k : Nat} (hK : qLay K sz) (hR : qRef R) (hk : k < 80000) (hq : ∀ J, qFr pU I J → rSt J (uD k) (uH k) (uR k) (uF k) → Q none (K, J, L, R, sz)) : X d 0 0 12075 0 0 0 (qent (qml 12075) [.ref 73, .int (nI k)]) [] (K, I, L, R, sz) Q := by
  have hdm : ∀ y c, y < 80000 → 0 < c → c < 100 → nI y - nI y / nI c * nI c = nI (y % c) ∧ nI y / nI c = nI (y / c) := fun y c hy h0 hc => by
    have e := Nat.div_add_mod y c
    rw [Nat.mul_comm] at e
    rw [pk_div (by omega) (by omega) (by omega), pk_mul, pk_sub (by omega)]
    exact ⟨by congr 1; omega, rfl⟩
  have hd2 : ∀ y, y < 10 → nI y / 2 = nI (y / 2) := fun y hy => by
    rw [show (2 : Int32) = nI 2 from rfl, pk_div (by omega) (by omega) (by omega)]
  have hstep : ∀ y, y < 80000 → (nI y - nI y / 10 * 10) / 2 = nI (y % 10 / 2) ∧ nI y - nI y / 2 * 2 = nI (y % 2) ∧ nI y / 10 = nI (y / 10) := fun y hy => by
    obtain ⟨a1, a2⟩ := hdm y 10 hy (by omega) (by omega)
    obtain ⟨a3, -⟩ := hdm y 2 hy (by omega) (by omega)
    refine ⟨?_, a3, a2⟩
    rw [show (10 : Int32) = nI 10 from rfl, a1, hd2 _ (Nat.mod_lt _ (by omega))]
  obtain ⟨s2a, s2b, s2c⟩ := hstep k hk
  obtain ⟨s1a, s1b, s1c⟩ := hstep (k / 10) (by omega)
  obtain ⟨s0a, s0b, s0c⟩ := hstep (k / 100) (by omega)
  have n2 : ¬ (2 : Int32) < 0 := by decide
  have n1 : ¬ (1 : Int32) < 0 := by decide
  have n0 : ¬ (0 : Int32) < 0 := by decide
  refine e12075 hK (fun A hA => ?_)
  refine g12075_9 hK hR (fun _ => qvp (by decide)) (fun h => absurd h n2) (fun _ B hB C hC => ?_)
  rw [s2a] at hB
  rw [s2b] at hC
  rw [s2c, show (2 : Int32) + (-1) = 1 by decide]
  refine g12075_9 hK hR (fun _ => qvp (by decide)) (fun h => absurd h n1) (fun _ D hD E hE => ?_)
  rw [s1a] at hD
  rw [s1b] at hE
  rw [s1c, Nat.div_div_eq_div_mul, show (1 : Int32) + (-1) = 0 by decide]
  refine g12075_9 hK hR (fun _ => qvp (by decide)) (fun h => absurd h n0) (fun _ F hF G hG => ?_)
  rw [s0a] at hF
  rw [s0b] at hG
  rw [s0c, Nat.div_div_eq_div_mul, show (0 : Int32) + (-1) = -1 by decide]
  refine g12075_9 hK hR (fun h => absurd (by decide) h) (fun _ H hH N hN => ?_) (fun h => absurd (by decide) h)
  obtain ⟨v1, v2⟩ := hdm (k / 1000) 5 (by omega) (by omega) (by omega)
  have v1' : nI (k / (10 * 10 * 10)) - nI (k / (10 * 10 * 10)) / 5 * 5 = nI (k / 1000 % 5) := v1
  have v2' : nI (k / (10 * 10 * 10)) / 5 = nI (k / 1000 / 5) := v2
  rw [v1'] at hH
  rw [v2'] at hN
  have A73 : A 73 = upd (I 73) 43 0 := by rw [hA, vu_s]
  have B73 : B 73 = A 73 := by rw [hB, vu_n (by decide)]
  have C73 : C 73 = upd (B 73) 43 (B 73 43 ||| (nI (k % 2) <<< (2 &&& 31))) := by rw [hC, vu_s]
  have D73 : D 73 = C 73 := by rw [hD, vu_n (by decide)]
  have E73 : E 73 = upd (D 73) 43 (D 73 43 ||| (nI (k / 10 % 2) <<< (1 &&& 31))) := by rw [hE, vu_s]
  have F73 : F 73 = E 73 := by rw [hF, vu_n (by decide)]
  have G73 : G 73 = upd (F 73) 43 (F 73 43 ||| (nI (k / 100 % 2) <<< (0 &&& 31))) := by rw [hG, vu_s]
  have H73 : H 73 = upd (G 73) 42 (nI (k / 1000 % 5)) := by rw [hH, vu_s]
  have N73 : N 73 = upd (H 73) 41 (nI (k / 1000 / 5)) := by rw [hN, vu_s]
  have x43 : G 73 43 = nI (eB (uH k)) := by
    have a43 : A 73 43 = 0 := by rw [A73]; rfl
    have c43 : C 73 43 = (0 : Int32) ||| (nI (k % 2) <<< (2 &&& 31)) := by rw [C73]; show (B 73 43 ||| _) = _; rw [B73, a43]
    have e43 : E 73 43 = ((0 : Int32) ||| (nI (k % 2) <<< (2 &&& 31))) ||| (nI (k / 10 % 2) <<< (1 &&& 31)) := by rw [E73]; show (D 73 43 ||| _) = _; rw [D73, c43]
    have g43 : G 73 43 = (((0 : Int32) ||| (nI (k % 2) <<< (2 &&& 31))) ||| (nI (k / 10 % 2) <<< (1 &&& 31))) ||| (nI (k / 100 % 2) <<< (0 &&& 31)) := by rw [G73]; show (F 73 43 ||| _) = _; rw [F73, e43]
    rw [g43, eB_uH]
    exact his_d ⟨k / 100 % 2, by omega⟩ ⟨k / 10 % 2, by omega⟩ ⟨k % 2, by omega⟩
  have hrow : N 93 = upd (upd (upd (I 93) 2 (nI (k % 10 / 2))) 1 (nI (k / 10 % 10 / 2))) 0 (nI (k / 100 % 10 / 2)) := by
    rw [hN, vu_n (by decide), hH, vu_n (by decide), hG, vu_n (by decide), hF, vu_s, hE, vu_n (by decide), hD, vu_s, hC, vu_n (by decide), hB, vu_s, hA, vu_n (by decide)]
    rfl
  refine hq N ?_ ⟨?_, ?_, ?_, fun s hs => ?_⟩
  · have u73 : ∀ {P : Nat → Nat → Int32} {c : Nat} {w : Int32}, 41 ≤ c → c ≤ 43 → qFr pU P (va_up P 73 (upd (P 73) c w)) := fun h1 h2 => qFr.up1 (Or.inr ⟨rfl, h1, h2⟩)
    have u93 : ∀ {P : Nat → Nat → Int32} {g : Nat → Int32}, qFr pU P (va_up P 93 g) := qFr.up (fun k => Or.inl rfl)
    rw [hN]; refine qFr.trans ?_ (u73 (by omega) (by omega))
    rw [hH]; refine qFr.trans ?_ (u73 (by omega) (by omega))
    rw [hG]; refine qFr.trans ?_ (u73 (by omega) (by omega))
    rw [hF]; refine qFr.trans ?_ u93
    rw [hE]; refine qFr.trans ?_ (u73 (by omega) (by omega))
    rw [hD]; refine qFr.trans ?_ u93
    rw [hC]; refine qFr.trans ?_ (u73 (by omega) (by omega))
    rw [hB]; refine qFr.trans ?_ u93
    rw [hA]; exact u73 (by omega) (by omega)
  · rw [N73]
    show nI (k / 1000 / 5) = nI (eB (bt (k / 1000 / 5)))
    rw [eB_b (n := 4) (by omega) (show k / 1000 / 5 < 2 ^ 4 by omega)]
  · rw [N73, H73]; rfl
  · rw [N73, H73]; exact x43
  · rw [hrow]
    have : s = 0 ∨ s = 1 ∨ s = 2 := by omega
    rcases this with rfl | rfl | rfl <;> rfl

end L99f
