/-! plans: the class, one state's steps -/
/-- a planner -/
def qPn (K : qK) (R : Nat → Nat → Option Nat) (sz q : Nat) : Prop := qAt K sz q (.inl 6) ∧ qAt K sz (q + 1) (.inr (0, 80000)) ∧ qAt K sz (q + 2) (.inr (0, 3)) ∧ R q 0 = some (q + 1) ∧ R q 1 = some (q + 2) ∧ R q 2 = some 22
/-- the house as the plan sees it -/
def gQ (I : Nat → Nat → Int32) (p : qPa) (m : Nat) (x : Int32) : qPg := ((pS p, pR p, pT p), (fun s => decide (s < 5) && (!decide (nI s = x) && mayI I m s)), ((fun t => if t < 4 then (I (34 + t) 0).toNatClampNeg else 0), (fun t => if t < 4 then (I (34 + t) 1).toNatClampNeg else 0), (fun t => if t < 4 then (I (34 + t) 2).toNatClampNeg else 0)), (fun d t => decide (t < 4) && (decide (I (34 + t) 3 = -1) || d (I (34 + t) 3).toNatClampNeg)), decide (I 0 8 = 1), (I (30 + m) 0).toNatClampNeg, (fun s => if s < pS p then (I (24 + s) 0).toNatClampNeg else 0))
section L98a
variable {I J : Nat → Nat → Int32} {p : qPa} {m : Nat} {x : Int32} {q : Nat}
theorem gQ_S : gS (gQ I p m x) = pS p := rfl
theorem gQ_R : gR (gQ I p m x) = pR p := rfl
theorem gQ_N : gN (gQ I p m x) = pT p := rfl
/-- a house of which a plan can be asked -/
def fewH (p : qPa) : Prop := pS p ≤ 3 ∧ pR p ≤ 5
theorem gQ_t (cI : CI I p) {t : Nat} (ht : t < pT p) : I (34 + t) 0 = nI (gTr (gQ I p m x) t) ∧ gTr (gQ I p m x) t < pR p ∧ I (34 + t) 1 = nI (gTh (gQ I p m x) t) ∧ 1 ≤ gTh (gQ I p m x) t ∧ gTh (gQ I p m x) t ≤ 3 ∧ I (34 + t) 2 = nI (gTm (gQ I p m x) t) ∧ 1 ≤ gTm (gQ I p m x) t ∧ gTm (gQ I p m x) t ≤ 30 := by
  obtain ⟨⟨a, ha, ea⟩, ⟨⟨b, hb, eb⟩, nb⟩, ⟨⟨c, hc, ec⟩, nc⟩, -⟩ := cI.1.2.2.2.2 t ht
  have w6 : pR p ≤ 6 := cI.1.2.1.1
  have ht4 : t < 4 := by have := cI.1.2.1.2.2.2; omega
  have e1 : gTr (gQ I p m x) t = a := by show (if t < 4 then (I (34 + t) 0).toNatClampNeg else 0) = a; rw [if_pos ht4, ea]; exact nI_c (by omega)
  have e2 : gTh (gQ I p m x) t = b := by show (if t < 4 then (I (34 + t) 1).toNatClampNeg else 0) = b; rw [if_pos ht4, eb]; exact nI_c (by omega)
  have e3 : gTm (gQ I p m x) t = c := by show (if t < 4 then (I (34 + t) 2).toNatClampNeg else 0) = c; rw [if_pos ht4, ec]; exact nI_c (by omega)
  have nb' : b ≠ 0 := fun h => nb (by rw [eb, h]; rfl)
  have nc' : c ≠ 0 := fun h => nc (by rw [ec, h]; rfl)
  rw [e1, e2, e3]
  exact ⟨ea, ha, eb, by omega, by omega, ec, by omega, by omega⟩
theorem gQ_s (cI : CI I p) {s : Nat} (hs : s < pS p) : I (24 + s) 0 = nI (g0f (gQ I p m x) s) ∧ g0f (gQ I p m x) s < pR p := by
  obtain ⟨⟨a, ha, ea⟩, -⟩ := cI.1.2.2.1 s hs
  have w6 : pR p ≤ 6 := cI.1.2.1.1
  have e1 : g0f (gQ I p m x) s = a := by
    show (if s < pS p then (I (24 + s) 0).toNatClampNeg else 0) = a
    rw [if_pos hs, ea]; exact nI_c (by omega)
  rw [e1]; exact ⟨ea, ha⟩
theorem gQ_r (cI : CI I p) (hm : m < pM p) : I (30 + m) 0 = nI (g0r (gQ I p m x)) ∧ g0r (gQ I p m x) < pR p := by
  obtain ⟨a, ha, ea⟩ := cI.1.2.2.2.1 m hm
  have w6 : pR p ≤ 6 := cI.1.2.1.1
  have e1 : g0r (gQ I p m x) = a := by show (I (30 + m) 0).toNatClampNeg = a; rw [ea]; exact nI_c (by omega)
  rw [e1]; exact ⟨ea, ha⟩
theorem gQ_v (cI : CI I p) (hf : fewH p) (hm : m < pM p) : gV (gQ I p m x) := by
  refine ⟨hf.1, hf.2, cI.1.2.1.2.2.2, fun t ht => ?_, (gQ_r cI hm).2, fun s hs => (gQ_s cI hs).2, fun s hs => ?_⟩
  · obtain ⟨-, h1, -, h2, h3, -, h4, h5⟩ := @gQ_t I p m x cI t ht
    exact ⟨h1, ⟨h2, h3⟩, h4, h5⟩
  · show (if s < pS p then (I (24 + s) 0).toNatClampNeg else 0) = 0
    rw [if_neg (show ¬ s < pS p from Nat.not_lt.mpr hs)]
/-- what the planner keeps while it plans -/
def qPs (I : Nat → Nat → Int32) (q : Nat) (p : qPa) (m : Nat) (x : Int32) (c : Nat) (oc : Bool) : Prop := I q 3 = nI m ∧ I q 4 = x ∧ I q 5 = (if oc then 1 else 0) ∧ I q 6 = nI c ∧ I q 7 = nI (2 ^ pS p) ∧ I q 8 = nI (pR p ^ pS p) ∧ I q 9 = nI (2 ^ pT p * 2 ^ pS p * pR p * pR p ^ pS p)
/-- the state that it has before it -/
def qPt (I : Nat → Nat → Int32) (q : Nat) (p : qPa) (j u : Nat) : Prop := I q 10 = nI (iD (pS p) (pR p) j) ∧ I q 11 = nI (iH (pS p) (pR p) j) ∧ I q 12 = nI (iR (pS p) (pR p) j) ∧ I q 13 = nI u ∧ ∀ s, s < pS p → I (q + 2) s = nI (iF (pS p) (pR p) j s)
theorem pw5 : ∀ R S : Nat, R ≤ 5 → S ≤ 3 → R ^ S ≤ 125 := fun R S hR hS => Nat.le_trans (Nat.pow_le_pow_left hR S) (Nat.pow_le_pow_right (n := 5) (by omega) hS)
theorem pw2 {n k : Nat} (h : n ≤ k) : 2 ^ n ≤ 2 ^ k := Nat.pow_le_pow_right (by omega) h
theorem nst_le {S R N : Nat} (hS : S ≤ 3) (hR : R ≤ 5) (hN : N ≤ 4) : 2 ^ N * 2 ^ S * R * R ^ S ≤ 80000 := by
  have h1 : 2 ^ N * 2 ^ S ≤ 2 ^ 4 * 2 ^ 3 := Nat.mul_le_mul (pw2 hN) (pw2 hS)
  have h2 := Nat.mul_le_mul h1 hR
  have h3 := Nat.mul_le_mul h2 (pw5 R S hR hS)
  exact h3
theorem br_d : ∀ x : Fin 16, ∀ s : Fin 4, ((((nI x.val >>> (nI s.val &&& 31)) &&& 1) = 0 ↔ bt x.val s.val = false) ∧ (((nI x.val >>> (nI s.val &&& 31)) &&& 1) = 1 ↔ bt x.val s.val = true)) ∧ (bt x.val s.val = false → (nI x.val ||| (1 <<< (nI s.val &&& 31))) = nI (x.val + 2 ^ s.val)) := by decide +kernel
theorem br_0 {x s : Nat} (hx : x < 16) (hs : s < 4) : ((nI x >>> (nI s &&& 31)) &&& 1) = 0 ↔ bt x s = false := (br_d ⟨x, hx⟩ ⟨s, hs⟩).1.1
theorem br_1 {x s : Nat} (hx : x < 16) (hs : s < 4) : ((nI x >>> (nI s &&& 31)) &&& 1) = 1 ↔ bt x s = true := (br_d ⟨x, hx⟩ ⟨s, hs⟩).1.2
theorem br_o {x s : Nat} (hx : x < 16) (hs : s < 4) (h : bt x s = false) : (nI x ||| (1 <<< (nI s &&& 31))) = nI (x + 2 ^ s) := (br_d ⟨x, hx⟩ ⟨s, hs⟩).2 h
theorem bs_d : ∀ a b : Fin 8, ((nI a.val &&& (nI b.val ^^^ (-1))) = 0 ↔ ∀ s : Fin 3, bt a.val s.val = true → bt b.val s.val = true) ∧ ((∀ s : Fin 3, bt a.val s.val = true → bt b.val s.val = true) → a.val ≤ b.val ∧ (nI b.val &&& (nI a.val ^^^ (-1))) = nI (b.val - a.val) ∧ ∀ s : Fin 3, bt (b.val - a.val) s.val = (bt b.val s.val && !bt a.val s.val)) := by decide +kernel
theorem bc_d : ∀ a : Fin 8, bc (nI a.val) = nI (cb (bt a.val) 3) := by decide +kernel
theorem cb_lt {x S : Nat} (hS : S ≤ 3) (hx : x < 2 ^ S) : cb (bt x) S = cb (bt x) 3 := by
  have h : ∀ n, S + n ≤ 3 → cb (bt x) (S + n) = cb (bt x) S := fun n => by
    induction n with
    | zero => intro _; rfl
    | succ n ih => intro hn; rw [← Nat.add_assoc, cb_s, ih (by omega), bt_big hx (by omega)]; rfl
  have := h (3 - S) (by omega)
  rw [show S + (3 - S) = 3 by omega] at this
  exact this.symm
theorem eB_b {x n : Nat} (hn : n ≤ 4) (hx : x < 2 ^ n) : eB (bt x) = x := by
  obtain ⟨h1, h2⟩ := eB_bt (A := bt x) hn (fun t ht => bt_big hx ht)
  have h16 : 2 ^ n ≤ 16 := pw2 (k := 4) hn
  exact bt_inj (by omega) (by omega) (fun t _ => by rw [h2])
end L98a
section L98
variable {d : Nat} {K : qK} {I : Nat → Nat → Int32} {L : Nat → Nat → Int64} {R : Nat → Nat → Option Nat} {sz : Nat} {Q : Option Value → qMem → Prop} {p : qPa} {q : Nat}
theorem e6007 {a : Int32} {b : Int32} {c : Int32} {e : Int32} {f : Int32}  {q : Nat} (hK : qLay K sz) (hl : qPn K R sz q) (b1 : ¬ ((((((a * (I q 7)) + b) * (I 22 0)) + c) * (I q 8)) + e) < 0 → ¬ (I q 9) ≤ ((((((a * (I q 7)) + b) * (I 22 0)) + c) * (I q 8)) + e) → vp_in ((((((a * (I q 7)) + b) * (I 22 0)) + c) * (I q 8)) + e) 80000) (q1 : ((((((a * (I q 7)) + b) * (I 22 0)) + c) * (I q 8)) + e) < 0 → Q none (K, I, L, R, sz)) (q2 : ¬ ((((((a * (I q 7)) + b) * (I 22 0)) + c) * (I q 8)) + e) < 0 → (I q 9) ≤ ((((((a * (I q 7)) + b) * (I 22 0)) + c) * (I q 8)) + e) → Q none (K, I, L, R, sz)) (q3 : ¬ ((((((a * (I q 7)) + b) * (I 22 0)) + c) * (I q 8)) + e) < 0 → ¬ (I q 9) ≤ ((((((a * (I q 7)) + b) * (I 22 0)) + c) * (I q 8)) + e) → (I (q + 1) (((((((a * (I q 7)) + b) * (I 22 0)) + c) * (I q 8)) + e).toNatClampNeg)) ≤ f → Q none (K, I, L, R, sz)) (q4 : ¬ ((((((a * (I q 7)) + b) * (I 22 0)) + c) * (I q 8)) + e) < 0 → ¬ (I q 9) ≤ ((((((a * (I q 7)) + b) * (I 22 0)) + c) * (I q 8)) + e) → ¬ (I (q + 1) (((((((a * (I q 7)) + b) * (I 22 0)) + c) * (I q 8)) + e).toNatClampNeg)) ≤ f → ∀ I4 : Nat → Nat → Int32, I4 = va_up I (q + 1) (upd (I (q + 1)) (((((((a * (I q 7)) + b) * (I 22 0)) + c) * (I q 8)) + e).toNatClampNeg) f) → Q none (K, I4, L, R, sz)) : X d 0 0 6007 0 0 0 (qent (qml 6007) [.ref q, .int a, .int b, .int c, .int e, .int f]) [] (K, I, L, R, sz) Q := show X _ 0 0 6007 0 0 0 [some (.ref q), some (.int a), some (.int b), some (.int c), some (.int e), some (.int f), none] [] _ _ from x_ild1 k6007_0 <| x_ald0 k6007_1 <| x_getI k6007_2 f6_84_6 hl.1 rfl <| x_imul k6007_5 <| x_ild2 k6007_6 <| x_iadd k6007_7 <| x_ald0 k6007_8 <| x_getR k6007_9 f6_24_6 hl.1 rfl hl.2.2.2.2.2 <| x_getI k6007_12 f6_81_1 (hK.at rfl) rfl <| x_imul k6007_15 <| x_ild3 k6007_16 <| x_iadd k6007_17 <| x_ald0 k6007_18 <| x_getI k6007_19 f6_75_6 hl.1 rfl <| x_imul k6007_22 <| x_ild4 k6007_23 <| x_iadd k6007_25 <| x_ist6 k6007_26 (Nat.le_of_ble_eq_true rfl) rfl <| x_ild6 k6007_28 <| x_iflt (tgt := 63) k6007_30 (by decide) (fun h1 => x_vret k6007_63 rfl (Nat.le_refl _) (Nat.le_refl _) <| (q1 h1)) (fun h1 => x_ild6 k6007_33 <| x_ald0 k6007_35 <| x_getI k6007_36 f6_50_6 hl.1 rfl <| x_icmpge (tgt := 63) k6007_39 (by decide) (fun h2 => x_vret k6007_63 rfl (Nat.le_refl _) (Nat.le_refl _) <| (q2 h1 h2)) (fun h2 => x_ild5 k6007_42 <| x_ald0 k6007_44 <| x_getR k6007_45 f6_12_6 hl.1 rfl hl.2.2.2.1 <| x_ild6 k6007_48 <| x_iald k6007_50 hl.2.1 (b1 h1 h2) <| x_icmpge (tgt := 63) k6007_51 (by decide) (fun h3 => x_vret k6007_63 rfl (Nat.le_refl _) (Nat.le_refl _) <| (q3 h1 h2 h3)) (fun h3 => x_ald0 k6007_54 <| x_getR k6007_55 f6_12_6 hl.1 rfl hl.2.2.2.1 <| x_ild6 k6007_58 <| x_ild5 k6007_60 <| x_iast k6007_62 hl.2.1 (b1 h1 h2) <| x_nm fun I4 e5 => x_vret k6007_63 rfl (Nat.le_refl _) (Nat.le_refl _) <| (q4 h1 h2 h3 I4 e5))))
theorem e6008   {q : Nat} (hK : qLay K sz) (hl : qPn K R sz q)  (q1 : X d 0 0 6008 0 0 12 [some (.ref q), some (.int 0), some (.int ((I 22 1) - 1)), none, none] [] (K, I, L, R, sz) Q) : X d 0 0 6008 0 0 0 (qent (qml 6008) [.ref q]) [] (K, I, L, R, sz) Q := show X _ 0 0 6008 0 0 0 [some (.ref q), none, none, none, none] [] _ _ from x_iconst (v := 0) k6008_0 rfl <| x_ist1 k6008_1 (Nat.le_of_ble_eq_true rfl) rfl <| x_ald0 k6008_2 <| x_getR k6008_3 f6_24_6 hl.1 rfl hl.2.2.2.2.2 <| x_getI k6008_6 f6_78_1 (hK.at rfl) rfl <| x_iconst (v := 1) k6008_9 rfl <| x_isub k6008_10 <| x_ist2 k6008_11 (Nat.le_of_ble_eq_true rfl) rfl <| q1
theorem g6008_12 {q : Nat} {x1 : Int32} {x2 : Int32}  (hK : qLay K sz) (hl : qPn K R sz q) (b1 : ¬ x2 < 0 → vp_in x2 3) (q1 : x2 < 0 → X d 0 0 6008 0 0 41 [some (.ref q), some (.int x1), some (.int 0), none, none] [] (K, I, L, R, sz) Q) (q2 : ¬ x2 < 0 → X d 0 0 6008 0 0 12 [some (.ref q), some (.int ((x1 * (I 22 0)) + (I (q + 2) x2.toNatClampNeg))), some (.int (x2 + (-1))), none, none] [] (K, I, L, R, sz) Q) : X d 0 0 6008 0 0 12 [some (.ref q), some (.int x1), some (.int x2), none, none] [] (K, I, L, R, sz) Q := x_ild2 k6008_12 <| x_iflt (tgt := 39) k6008_13 (by decide) (fun h1 => x_iconst (v := 0) k6008_39 rfl <| x_ist2 k6008_40 (Nat.le_of_ble_eq_true rfl) rfl <| (q1 h1)) (fun h1 => x_ild1 k6008_16 <| x_ald0 k6008_17 <| x_getR k6008_18 f6_24_6 hl.1 rfl hl.2.2.2.2.2 <| x_getI k6008_21 f6_81_1 (hK.at rfl) rfl <| x_imul k6008_24 <| x_ald0 k6008_25 <| x_getR k6008_26 f6_16_6 hl.1 rfl hl.2.2.2.2.1 <| x_ild2 k6008_29 <| x_iald k6008_30 hl.2.2.1 (b1 h1) <| x_iadd k6008_31 <| x_ist1 k6008_32 (Nat.le_of_ble_eq_true rfl) rfl <| x_inc2 (c := (-1)) k6008_33 rfl (Nat.le_of_ble_eq_true rfl) rfl <| x_goto (tgt := 12) k6008_36 (by decide) <| (q2 h1))
theorem g6008_41 {q : Nat} {x1 : Int32} {x2 : Int32}  (hK : qLay K sz) (hR : qRef R) (hl : qPn K R sz q) (b1 : ¬ (I 22 1) ≤ x2 → ¬ x2 = (I q 4) → qIn 5 x2) (b2 : ¬ (I 22 1) ≤ x2 → ¬ x2 = (I q 4) → ¬ I (24 + (x2).toNatClampNeg) 1 = (I q 3) → (((I q 11) >>> (x2 &&& 31)) &&& 1) = 0 → vp_in x2 3) (q1 : (I 22 1) ≤ x2 → Q none (K, I, L, R, sz)) (q2 : ¬ (I 22 1) ≤ x2 → x2 = (I q 4) → X (d + 1) 0 0 6008 0 0 41 [some (.ref q), some (.int x1), some (.int (x2 + 1)), none, none] [] (K, I, L, R, sz) Q) (q3 : ¬ (I 22 1) ≤ x2 → ¬ x2 = (I q 4) → ¬ I (24 + (x2).toNatClampNeg) 1 = (I q 3) → ¬ (((I q 11) >>> (x2 &&& 31)) &&& 1) = 0 → X (d + 1) 0 0 6008 0 0 41 [some (.ref q), some (.int x1), some (.int (x2 + 1)), none, none] [] (K, I, L, R, sz) Q) (q4 : ¬ (I 22 1) ≤ x2 → ¬ x2 = (I q 4) → ¬ I (24 + (x2).toNatClampNeg) 1 = (I q 3) → (((I q 11) >>> (x2 &&& 31)) &&& 1) = 0 → X (d + 1) 0 0 6008 0 0 148 [some (.ref q), some (.int x1), some (.int x2), some (.int 1), some (.int ((if 0 ≤ ((I q 12) - (I (q + 2) x2.toNatClampNeg)) then ((I q 12) - (I (q + 2) x2.toNatClampNeg)) else 0 - ((I q 12) - (I (q + 2) x2.toNatClampNeg))) + 1))] [.int (((I q 13) + (((if 0 ≤ ((I q 12) - (I (q + 2) x2.toNatClampNeg)) then ((I q 12) - (I (q + 2) x2.toNatClampNeg)) else 0 - ((I q 12) - (I (q + 2) x2.toNatClampNeg))) + 1) * (I q 6))) + 1), .int x1, .int (I (q + 2) x2.toNatClampNeg), .int ((I q 11) ||| (1 <<< (x2 &&& 31))), .int (I q 10), .ref q] (K, I, L, R, sz) Q) (q5 : ¬ (I 22 1) ≤ x2 → ¬ x2 = (I q 4) → I (24 + (x2).toNatClampNeg) 1 = (I q 3) → X (d + 1) 0 0 6008 0 0 41 [some (.ref q), some (.int x1), some (.int (x2 + 1)), none, none] [] (K, I, L, R, sz) Q) : X (d + 1) 0 0 6008 0 0 41 [some (.ref q), some (.int x1), some (.int x2), none, none] [] (K, I, L, R, sz) Q := x_ild2 k6008_41 <| x_ald0 k6008_42 <| x_getR k6008_43 f6_24_6 hl.1 rfl hl.2.2.2.2.2 <| x_getI k6008_46 f6_78_1 (hK.at rfl) rfl <| x_icmpge (tgt := 157) k6008_49 (by decide) (fun h1 => x_vret k6008_157 rfl (Nat.le_refl _) (Nat.le_refl _) <| (q1 h1)) (fun h1 => x_ild2 k6008_52 <| x_ald0 k6008_53 <| x_getI k6008_54 f6_32_6 hl.1 rfl <| x_icmpeq (tgt := 79) k6008_57 (by decide) (fun h2 => x_iconst (v := 0) k6008_79 rfl <| x_ist3 k6008_80 (Nat.le_of_ble_eq_true rfl) rfl <| x_ild3 k6008_81 <| x_ifeqT (tgt := 151) k6008_82 (by decide) (show (0 : Int32) = 0 by decide) <| x_inc2 (c := 1) k6008_151 rfl (Nat.le_of_ble_eq_true rfl) rfl <| x_goto (tgt := 41) k6008_154 (by decide) <| x_wk (ls := [some (.ref q), some (.int x1), some (.int (x2 + 1)), none, none]) ⟨rfl, ⟨rfl, ⟨rfl, True.intro⟩⟩⟩ <| (q2 h1 h2)) (fun h2 => x_ald0 k6008_60 <| x_getR k6008_61 f6_24_6 hl.1 rfl hl.2.2.2.2.2 <| x_ald0 k6008_64 <| x_getI k6008_65 f6_28_6 hl.1 rfl <| x_ild2 k6008_68 <| x_cV2 (MCz := 0) (MSz := 0) k6008_69 v6_107_1 (hK.at rfl) (Nat.le_of_ble_eq_true rfl) (Nat.le_of_ble_eq_true rfl) (Nat.le_refl _) (Nat.le_refl _) <| u1004 hK hR (b1 h1 h2) (fun g3 => x_ifeqF (tgt := 79) k6008_72 (by decide) (show ¬ (1 : Int32) = 0 by decide) <| x_iconst (v := 1) k6008_75 rfl <| x_goto (tgt := 80) k6008_76 (by decide) <| x_ist3 k6008_80 (Nat.le_of_ble_eq_true rfl) rfl <| x_ild3 k6008_81 <| x_ifeqF (tgt := 151) k6008_82 (by decide) (show ¬ (1 : Int32) = 0 by decide) <| x_ald0 k6008_85 <| x_getI k6008_86 f6_104_6 hl.1 rfl <| x_ild2 k6008_89 <| x_ishr k6008_90 <| x_iconst (v := 1) k6008_91 rfl <| x_iand k6008_92 <| x_ifne (tgt := 151) k6008_93 (by decide) (fun h4 => x_inc2 (c := 1) k6008_151 rfl (Nat.le_of_ble_eq_true rfl) rfl <| x_goto (tgt := 41) k6008_154 (by decide) <| x_wk (ls := [some (.ref q), some (.int x1), some (.int (x2 + 1)), none, none]) ⟨rfl, ⟨rfl, ⟨rfl, True.intro⟩⟩⟩ <| (q3 h1 h2 g3 h4)) (fun h4 => x_ald0 k6008_96 <| x_getI k6008_97 f6_101_6 hl.1 rfl <| x_ald0 k6008_100 <| x_getR k6008_101 f6_16_6 hl.1 rfl hl.2.2.2.2.1 <| x_ild2 k6008_104 <| x_iald k6008_105 hl.2.2.1 (b2 h1 h2 g3 h4) <| x_isub k6008_106 <| x_mabs k6008_107 m6_111 qs_abs qi_Math qk_abs (Nat.le_of_ble_eq_true rfl) (Nat.le_refl _) (Nat.le_refl _) <| x_iconst (v := 1) k6008_110 rfl <| x_iadd k6008_111 <| x_ist4 k6008_112 (Nat.le_of_ble_eq_true rfl) rfl <| x_ald0 k6008_114 <| x_ald0 k6008_115 <| x_getI k6008_116 f6_57_6 hl.1 rfl <| x_ald0 k6008_119 <| x_getI k6008_120 f6_104_6 hl.1 rfl <| x_iconst (v := 1) k6008_123 rfl <| x_ild2 k6008_124 <| x_ishl k6008_125 <| x_ior k6008_126 <| x_ald0 k6008_127 <| x_getR k6008_128 f6_16_6 hl.1 rfl hl.2.2.2.2.1 <| x_ild2 k6008_131 <| x_iald k6008_132 hl.2.2.1 (b2 h1 h2 g3 h4) <| x_ild1 k6008_133 <| x_ald0 k6008_134 <| x_getI k6008_135 f6_60_6 hl.1 rfl <| x_ild4 k6008_138 <| x_ald0 k6008_140 <| x_getI k6008_141 f6_39_6 hl.1 rfl <| x_imul k6008_144 <| x_iadd k6008_145 <| x_iconst (v := 1) k6008_146 rfl <| x_iadd k6008_147 <| (q4 h1 h2 g3 h4))) (fun g5 => x_ifeqT (tgt := 79) k6008_72 (by decide) (show (0 : Int32) = 0 by decide) <| x_iconst (v := 0) k6008_79 rfl <| x_ist3 k6008_80 (Nat.le_of_ble_eq_true rfl) rfl <| x_ild3 k6008_81 <| x_ifeqT (tgt := 151) k6008_82 (by decide) (show (0 : Int32) = 0 by decide) <| x_inc2 (c := 1) k6008_151 rfl (Nat.le_of_ble_eq_true rfl) rfl <| x_goto (tgt := 41) k6008_154 (by decide) <| x_wk (ls := [some (.ref q), some (.int x1), some (.int (x2 + 1)), none, none]) ⟨rfl, ⟨rfl, ⟨rfl, True.intro⟩⟩⟩ <| (q5 h1 h2 g5))))
theorem f6008 {q : Nat} {a : Int32} {b : Int32} {c : Int32} {e : Int32}    (q1 : X d 0 0 6008 0 0 41 [some (.ref q), some (.int a), some (.int (b + 1)), some (.int c), some (.int e)] [] (K, I, L, R, sz) Q) : X d 0 0 6008 0 0 151 [some (.ref q), some (.int a), some (.int b), some (.int c), some (.int e)] [] (K, I, L, R, sz) Q := x_inc2 (c := 1) k6008_151 rfl (Nat.le_of_ble_eq_true rfl) rfl <| x_goto (tgt := 41) k6008_154 (by decide) <| q1
theorem s6007 {dn hn r pl' : Nat} {w : Int32} (hK : qLay K sz) (hl : qPn K R sz q) (hS : pS p ≤ 3) (hR5 : pR p ≤ 5) (hN : pT p ≤ 4) (e7 : I q 7 = nI (2 ^ pS p)) (e8 : I q 8 = nI (pR p ^ pS p)) (e9 : I q 9 = nI (2 ^ pT p * 2 ^ pS p * pR p * pR p ^ pS p)) (eR : I 22 0 = nI (pR p)) (h1 : dn < 2 ^ pT p) (h2 : hn < 2 ^ pS p) (h3 : r < pR p) (h4 : pl' < pR p ^ pS p) (hq : Q none (K, va_up I (q + 1) (rch (I (q + 1)) (sN (pS p) (pR p) dn hn r pl') w), L, R, sz)) : X d 0 0 6007 0 0 0 (qent (qml 6007) [.ref q, .int (nI dn), .int (nI hn), .int (nI r), .int (nI pl'), .int w]) [] (K, I, L, R, sz) Q := by
  have hn8 := nst_le hS hR5 hN
  have hlt := sN_lt h1 h2 h3 h4
  have ex : ((nI dn * I q 7 + nI hn) * I 22 0 + nI r) * I q 8 + nI pl' = nI (sN (pS p) (pR p) dn hn r pl') := by
    rw [e7, e8, eR, pk_mul, nI_add, pk_mul, nI_add, pk_mul, nI_add]; rfl
  have hn0 : ¬ ((nI dn * I q 7 + nI hn) * I 22 0 + nI r) * I q 8 + nI pl' < 0 := by rw [ex]; exact nI_pos (by omega)
  have hn9 : ¬ I q 9 ≤ ((nI dn * I q 7 + nI hn) * I 22 0 + nI r) * I q 8 + nI pl' := by rw [ex, e9]; exact nI_ge hlt (by omega)
  have ec : (((nI dn * I q 7 + nI hn) * I 22 0 + nI r) * I q 8 + nI pl').toNatClampNeg = sN (pS p) (pR p) dn hn r pl' := by rw [ex]; exact nI_c (by omega)
  refine e6007 hK hl (fun _ _ => by rw [ex]; exact vI (by omega) (by omega)) (fun h => absurd h hn0) (fun _ h => absurd h hn9) (fun _ _ h => ?_) (fun _ _ h J hJ => ?_)
  · rw [ec] at h
    unfold rch at hq
    rw [if_neg (Int32.not_lt.mpr h), vu_id] at hq
    exact hq
  · rw [ec] at h hJ
    unfold rch at hq
    rw [if_pos (Int32.not_le.mp h)] at hq
    rw [hJ]; exact hq
/-- the steps of a state so far kept in the table -/
theorem s6008 {j T0 k0 c m : Nat} {x : Int32} (hK : qLay K sz) (hR : qRef R) (hl : qPn K R sz q) (h107 : 107 ≤ q) (cI : CI I p) (hf : fewH p) (hm : m < pM p) (hc : c ≤ 1000) (hj : j < nst (gQ I p m x)) (hs : qPs I q p m x c (gOc (gQ I p m x))) (ht : qPt I q p j (T0 * c + k0)) (hp0 : cSt (gQ I p m x) j T0 k0) (hsn : cSnd (gQ I p m x) c (I (q + 1)))
    (hq : ∀ l, cSnd (gQ I p m x) c l → (∀ y w, lv (I (q + 1)) y w → lv l y w) → (∀ s, s < pS p → gA (gQ I p m x) s = true → bt (iH (pS p) (pR p) j) s = false → lv l (sc (gQ I p m x) (bt (iD (pS p) (pR p) j)) (va_up (bt (iH (pS p) (pR p) j)) s true) (iF (pS p) (pR p) j s) (iF (pS p) (pR p) j)) ((T0 + (ds (iR (pS p) (pR p) j) (iF (pS p) (pR p) j s) + 1)) * c + (k0 + 1))) → Q none (K, va_up I (q + 1) l, L, R, sz)) : X (d + 2) 0 0 6008 0 0 0 (qent (qml 6008) [.ref q]) [] (K, I, L, R, sz) Q := by
  have v := gQ_v (x := x) cI hf hm
  obtain ⟨f1, f2⟩ := hf
  have w4 : pT p ≤ 4 := cI.1.2.1.2.2.2
  have lS := cI.lS
  have lR : I 22 0 = nI (pR p) := cI.1.1.1
  obtain ⟨s3, s4', s5', s6', s7', s8', s9'⟩ := hs
  obtain ⟨t10, t11, t12, t13, t2⟩ := ht
  obtain ⟨-, o1, o2, o3, o4, o5⟩ := i_ok (S := pS p) (R := pR p) (N := pT p) hj
  have hpw2 := pw2 (n := pS p) (k := 3) f1
  have hpw4 := pw2 (n := pT p) (k := 4) w4
  have hp5 := pw5 _ _ f2 f1
  have hpl : dgs (iF (pS p) (pR p) j) (pR p) (pS p) 0 < pR p ^ pS p := dgs_lt _ _ (fun s _ hs => o4 s (by omega))
  have hsm := c_small v hc hp0
  have eF : eB (bt (iD (pS p) (pR p) j)) = iD (pS p) (pR p) j := eB_b w4 o1
  have h41 : ∀ (k s : Nat), s + k = pS p → ∀ l, cSnd (gQ I p m x) c l → (∀ y w, lv (I (q + 1)) y w → lv l y w) → (∀ s', s' < s → gA (gQ I p m x) s' = true → bt (iH (pS p) (pR p) j) s' = false → lv l (sc (gQ I p m x) (bt (iD (pS p) (pR p) j)) (va_up (bt (iH (pS p) (pR p) j)) s' true) (iF (pS p) (pR p) j s') (iF (pS p) (pR p) j)) ((T0 + (ds (iR (pS p) (pR p) j) (iF (pS p) (pR p) j s') + 1)) * c + (k0 + 1))) → X (d + 2) 0 0 6008 0 0 41 [some (.ref q), some (.int (nI (dgs (iF (pS p) (pR p) j) (pR p) (pS p) 0))), some (.int (nI s)), none, none] [] (K, va_up I (q + 1) l, L, R, sz) Q := by
    intro k
    induction k with
    | zero =>
      intro s hs l g1 g2 g3
      have hle : (va_up I (q + 1) l) 22 1 ≤ nI s := by rw [vu_n (by omega), lS]; exact nI_le (by omega) (by omega)
      have : s = pS p := by omega
      subst this
      exact g6008_41 (d := d + 1) hK hR hl (fun h => absurd hle h) (fun h => absurd hle h) (fun _ => hq l g1 g2 g3) (fun h => absurd hle h) (fun h => absurd hle h) (fun h => absurd hle h) (fun h => absurd hle h)
    | succ k ih =>
      intro s hs l g1 g2 g3
      have hnl : ¬ (va_up I (q + 1) l) 22 1 ≤ nI s := by rw [vu_n (by omega), lS]; exact nI_ge (by omega) (by omega)
      have es : (nI s).toNatClampNeg = s := nI_c (by omega)
      have eq0 : (va_up I (q + 1) l) q = I q := vu_n (by omega)
      have eq2 : (va_up I (q + 1) l) (q + 2) = I (q + 2) := vu_n (by omega)
      have e24 : (va_up I (q + 1) l) (24 + s) = I (24 + s) := vu_n (by omega)
      have eA : gA (gQ I p m x) s = (!decide (nI s = x) && !decide (I (24 + s) 1 = nI m)) := by
        show (decide (s < 5) && (!decide (nI s = x) && mayI I m s)) = _
        rw [decide_eq_true (show s < 5 by omega)]; rfl
      have hskip : ¬ (gA (gQ I p m x) s = true ∧ bt (iH (pS p) (pR p) j) s = false) → X (d + 2) 0 0 6008 0 0 41 [some (.ref q), some (.int (nI (dgs (iF (pS p) (pR p) j) (pR p) (pS p) 0))), some (.int (nI s + 1)), none, none] [] (K, va_up I (q + 1) l, L, R, sz) Q := fun hn => by
        rw [nI_1]
        refine ih (s + 1) (by omega) l g1 g2 (fun s' hs' a b => ?_)
        by_cases e : s' = s
        · rw [e] at a b; exact absurd ⟨a, b⟩ hn
        · exact g3 s' (by omega) a b
      refine g6008_41 (d := d + 1) hK hR hl (fun _ _ => ⟨s, by omega, rfl⟩) (fun _ _ _ _ => vI (by omega) (by omega)) (fun h => absurd h hnl) (fun _ h => hskip (fun a => ?_)) (fun _ h1 h2 h3 => hskip (fun a => ?_)) (fun _ h1 h2 h3 => ?_) (fun _ h1 h2 => hskip (fun a => ?_))
      · rw [eq0, s4'] at h
        rw [eA, decide_eq_true h] at a
        exact absurd a.1 (by simp)
      · rw [eq0, t11] at h3
        exact h3 ((br_0 (by omega) (by omega)).mpr a.2)
      · rw [eq0, s4'] at h1
        rw [es, e24, eq0, s3] at h2
        rw [eq0, t11, br_0 (by omega) (by omega)] at h3
        have hA : gA (gQ I p m x) s = true := by rw [eA, decide_eq_false h1, decide_eq_false h2]; rfl
        have hfs := o4 s (by omega)
        have hds := ds_lt o3 hfs
        rw [es, eq0, eq2, t2 s (by omega), t10, t11, t12, t13, s6', absN (by omega) (by omega), br_o (by omega) (by omega) h3]
        obtain ⟨b1, b2⟩ := bt_up (n := pS p) (by omega) o2 (by omega) h3
        have ecost : nI (T0 * c + k0) + (nI ((iR (pS p) (pR p) j - iF (pS p) (pR p) j s) + (iF (pS p) (pR p) j s - iR (pS p) (pR p) j)) + 1) * nI c + 1 = nI ((T0 + (ds (iR (pS p) (pR p) j) (iF (pS p) (pR p) j s) + 1)) * c + (k0 + 1)) := by
          rw [nI_1, pk_mul, nI_add, nI_1]
          congr 1
          show T0 * c + k0 + (ds (iR (pS p) (pR p) j) (iF (pS p) (pR p) j s) + 1) * c + 1 = _
          rw [Nat.add_mul T0]; omega
        rw [ecost]
        have hE : cE (gQ I p m x) (bt (iD (pS p) (pR p) j)) (bt (iH (pS p) (pR p) j)) (iR (pS p) (pR p) j) (iF (pS p) (pR p) j) (bt (iD (pS p) (pR p) j)) (va_up (bt (iH (pS p) (pR p) j)) s true) (iF (pS p) (pR p) j s) (iF (pS p) (pR p) j) (ds (iR (pS p) (pR p) j) (iF (pS p) (pR p) j s) + 1) 1 := Or.inl ⟨s, by show s < pS p; omega, hA, h3, rfl, rfl, rfl, rfl, rfl, rfl⟩
        have hP := cW_s hp0 hE
        have hcode : sN (pS p) (pR p) (iD (pS p) (pR p) j) (iH (pS p) (pR p) j + 2 ^ s) (iF (pS p) (pR p) j s) (dgs (iF (pS p) (pR p) j) (pR p) (pS p) 0) = sc (gQ I p m x) (bt (iD (pS p) (pR p) j)) (va_up (bt (iH (pS p) (pR p) j)) s true) (iF (pS p) (pR p) j s) (iF (pS p) (pR p) j) := by
          show _ = sN (pS p) (pR p) (eB (bt (iD (pS p) (pR p) j))) (eB (va_up (bt (iH (pS p) (pR p) j)) s true)) (iF (pS p) (pR p) j s) (dgs (iF (pS p) (pR p) j) (pR p) (pS p) 0)
          rw [eF, ← b2, eB_b (by omega) b1]
        have hx : sN (pS p) (pR p) (iD (pS p) (pR p) j) (iH (pS p) (pR p) j + 2 ^ s) (iF (pS p) (pR p) j s) (dgs (iF (pS p) (pR p) j) (pR p) (pS p) 0) < nst (gQ I p m x) := sN_lt o1 b1 hfs hpl
        have hSt : cSt (gQ I p m x) (sN (pS p) (pR p) (iD (pS p) (pR p) j) (iH (pS p) (pR p) j + 2 ^ s) (iF (pS p) (pR p) j s) (dgs (iF (pS p) (pR p) j) (pR p) (pS p) 0)) (T0 + (ds (iR (pS p) (pR p) j) (iF (pS p) (pR p) j s) + 1)) (k0 + 1) := by
          unfold cSt
          show cW _ (bt (iD (pS p) (pR p) _)) (bt (iH (pS p) (pR p) _)) (iR (pS p) (pR p) _) (iF (pS p) (pR p) _) _ _
          rw [sN_d b1 hfs hpl, sN_h b1 hfs hpl, sN_r hfs hpl, sN_f o4 o5, b2]
          exact hP
        obtain ⟨r1, r2, r3⟩ := rch_1 v hc g1 hx hSt
        refine x_cV5 (MCz := 0) (MSz := 0) k6008_148 v6_94_6 hl.1 (Nat.le_of_ble_eq_true rfl) (Nat.le_of_ble_eq_true rfl) (Nat.le_refl _) (Nat.le_refl _) <| s6007 hK hl f1 f2 w4 (by rw [eq0]; exact s7') (by rw [eq0]; exact s8') (by rw [eq0]; exact s9') (by rw [vu_n (by omega)]; exact lR) o1 b1 hfs hpl ?_
        rw [vu_t, vu_s]
        refine f6008 ?_
        rw [nI_1]
        refine x_wk2 (ih (s + 1) (by omega) _ r1 (fun y w h => r3 y w (g2 y w h)) (fun s' hs' a b => ?_)) ⟨rfl, rfl, rfl, True.intro⟩
        by_cases e : s' = s
        · subst e
          rw [← hcode]; exact r2
        · exact r3 _ _ (g3 s' (by omega) a b)
      · rw [es, e24, eq0, s3] at h2
        rw [eA, decide_eq_true h2, Bool.not_true, Bool.and_false] at a
        exact absurd a.1 Bool.false_ne_true
  have h12 : ∀ (n k : Nat), n + k = pS p → X (d + 2) 0 0 6008 0 0 12 [some (.ref q), some (.int (nI (dgs (iF (pS p) (pR p) j) (pR p) n k))), some (.int (nI k - 1)), none, none] [] (K, I, L, R, sz) Q := by
    intro n k
    induction k generalizing n with
    | zero =>
      intro hn
      have hlt : nI 0 - 1 < 0 := by decide
      refine g6008_12 hK hl (fun h => absurd hlt h) (fun _ => ?_) (fun h => absurd hlt h)
      have := h41 (pS p) 0 (by omega) (I (q + 1)) hsn (fun _ _ h => h) (fun s' hs' => absurd hs' (by omega))
      rw [vu_id] at this
      rw [show n = pS p by omega]
      exact this
    | succ k ih =>
      intro hn
      have e1 : nI (k + 1) - 1 = nI k := by rw [show (1 : Int32) = nI 1 from rfl, pk_sub (by omega)]; rfl
      have hnl : ¬ nI (k + 1) - 1 < 0 := by rw [e1]; exact nI_pos (by omega)
      refine g6008_12 hK hl (fun _ => by rw [e1]; exact vI (by omega) (by omega)) (fun h => absurd h hnl) (fun _ => ?_)
      have e2 : nI k + (-1) = nI k - 1 := (Int32.sub_eq_add_neg _ _).symm
      rw [e1, nI_c (by omega), t2 k (by omega), lR, pk_mul, nI_add, e2]
      exact ih (n + 1) (by omega)
  refine e6008 hK hl ?_
  rw [lS]
  exact h12 0 (pS p) (by omega)

end L98
