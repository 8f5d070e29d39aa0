/-! rivals: the class, small methods -/
/-- a duel o, its rows now and then -/
def qDl (K : qK) (R : Nat → Nat → Option Nat) (sz o nw tn : Nat) : Prop := qAt K sz o (.inl 0) ∧ qAt K sz nw (.inr (0, 8748)) ∧ qAt K sz tn (.inr (0, 8748)) ∧ qAt K sz (o + 3) (.inr (0, 5)) ∧ R o 2 = some nw ∧ R o 3 = some tn ∧ R o 4 = some (o + 3) ∧ R o 5 = some 22
def qDm (I : Nat → Nat → Int32) (u : Nat) (p : qPa) (m1 m2 : Nat) : Prop := (∀ s, s < pS p → I (u + 3) s = nI (3 ^ s)) ∧ I u 8 = nI (3 ^ pS p) ∧ I u 6 = nI m1 ∧ I u 7 = nI m2
def owN (o s : Nat) : Nat := o / 3 ^ s % 3
def moN (o : Nat) : Nat → Int32
  | 0 => 0
  | s + 1 => moN o s + (if owN o s = 1 then 1 else if owN o s = 2 then -1 else 0)
def bet (a v w : Int32) : Int32 := if a = 1 then (if v < w then w else v) else if w < v then w else v
def thk (w o s : Nat) : Nat := o + w * 3 ^ s - owN o s * 3 ^ s
theorem p3_le {s S : Nat} (h : s ≤ S) : 3 ^ s ≤ 3 ^ S := Nat.pow_le_pow_right (by omega) h
theorem p3_5 {s : Nat} (h : s ≤ 5) : 3 ^ s ≤ 243 := by
  have := p3_le h
  exact this
theorem p3_0 (s : Nat) : 0 < 3 ^ s := Nat.pow_pos (by omega)
theorem ow_le {o s : Nat} : owN o s * 3 ^ s ≤ o := by
  have h1 : owN o s ≤ o / 3 ^ s := Nat.mod_le _ _
  have h2 := Nat.mul_le_mul_right (3 ^ s) h1
  have h3 := Nat.div_mul_le_self o (3 ^ s)
  omega
theorem ow_lt {o s : Nat} : owN o s < 3 := Nat.mod_lt _ (by omega)
theorem thk_d : ∀ S : Fin 6, ∀ s : Fin 5, ∀ o : Fin 243, ∀ w : Fin 3, s.val < S.val → o.val < 3 ^ S.val → thk w.val o.val s.val < 3 ^ S.val := by decide +kernel
theorem thk_lt {S s o w : Nat} (hS : S ≤ 5) (hs : s < S) (ho : o < 3 ^ S) (hw : w ≤ 2) : thk w o s < 3 ^ S := thk_d ⟨S, by omega⟩ ⟨s, by omega⟩ ⟨o, Nat.lt_of_lt_of_le ho (p3_5 hS)⟩ ⟨w, by omega⟩ hs ho
theorem thk_I {o s w : Nat} : nI o + (nI w - nI (owN o s)) * nI (3 ^ s) = nI (thk w o s) := by
  have h := @ow_le o s
  rw [Int32.sub_mul, pk_mul, pk_mul, Int32.sub_eq_add_neg, ← Int32.add_assoc, nI_add, ← Int32.sub_eq_add_neg, pk_sub (by omega)]
  rfl
section L85
variable {d : Nat} {K : qK} {I : Nat → Nat → Int32} {L : Nat → Nat → Int64} {R : Nat → Nat → Option Nat} {sz : Nat} {Q : Option Value → qMem → Prop} {p : qPa} {nw tn u m1 m2 : Nat}
theorem e4 {a : Int32} {b : Int32}  {u : Nat} (hd : qDl K R sz u nw tn) (b1 : vp_in b 5) (b2 : ¬ (I (u + 3) b.toNatClampNeg) ≤ 0 → ¬ (I (u + 3) b.toNatClampNeg) = 0) (q1 : (I (u + 3) b.toNatClampNeg) ≤ 0 → Q (some (.int 0)) (K, I, L, R, sz)) (q2 : ¬ (I (u + 3) b.toNatClampNeg) ≤ 0 → Q (some (.int ((a / (I (u + 3) b.toNatClampNeg)) - (a / (I (u + 3) b.toNatClampNeg)) / 3 * 3))) (K, I, L, R, sz)) : X d 0 0 4 0 0 0 (qent (qml 4) [.ref u, .int a, .int b]) [] (K, I, L, R, sz) Q := show X _ 0 0 4 0 0 0 [some (.ref u), some (.int a), some (.int b)] [] _ _ from x_ald0 k4_0 <| x_getR k4_1 f0_18_0 hd.1 rfl hd.2.2.2.2.2.2.1 <| x_ild2 k4_4 <| x_iald k4_5 hd.2.2.2.1 b1 <| x_ifle (tgt := 22) k4_6 (by decide) (fun h1 => x_iconst (v := 0) k4_22 rfl <| x_iret k4_23 rfl (Nat.le_refl _) (Nat.le_refl _) <| (q1 h1)) (fun h1 => x_ild1 k4_9 <| x_ald0 k4_10 <| x_getR k4_11 f0_18_0 hd.1 rfl hd.2.2.2.2.2.2.1 <| x_ild2 k4_14 <| x_iald k4_15 hd.2.2.2.1 b1 <| x_idiv k4_16 (b2 h1) <| x_iconst (v := 3) k4_17 rfl <| x_irem k4_18 (by decide) <| x_goto (tgt := 23) k4_19 (by decide) <| x_iret k4_23 rfl (Nat.le_refl _) (Nat.le_refl _) <| (q2 h1))
theorem s4 {o s : Nat} (hd : qDl K R sz u nw tn) (hp : I (u + 3) s = nI (3 ^ s)) (hs : s < 5) (ho : o < 243) (hq : Q (some (.int (nI (owN o s)))) (K, I, L, R, sz)) : X d 0 0 4 0 0 0 (qent (qml 4) [.ref u, .int (nI o), .int (nI s)]) [] (K, I, L, R, sz) Q := by
  have h3 : 3 ^ s ≤ 243 := p3_5 (by omega)
  have h0 := p3_0 s
  have ec : (nI s).toNatClampNeg = s := nI_c (by omega)
  refine e4 hd (vI hs (by omega)) (fun _ => by rw [ec, hp]; exact nI_ne0 h0 (by omega)) (fun h => absurd h (by rw [ec, hp]; exact nI_nle h0 (by omega))) (fun _ => ?_)
  have hdv : o / 3 ^ s ≤ o := Nat.div_le_self _ _
  have h9 : o / 3 ^ s - o / 3 ^ s / 3 * 3 = owN o s := by unfold owN; omega
  rw [ec, hp, pk_div (by omega) h0 (by omega), show (3 : Int32) = nI 3 from rfl, pk_div (by omega) (by omega) (by omega), pk_mul, pk_sub (by omega), h9]
  exact hq
theorem z4 {a b : Int32} {m1 m2 : Nat} (hd : qDl K R sz u nw tn) (wp : pS p ≤ 5) (dm : qDm I u p m1 m2) (ha : qIn (3 ^ pS p) a) (hb : qIn (pS p) b) (hq : Q (some (.int (nI (owN (Int32.toNatClampNeg a) (Int32.toNatClampNeg b))))) (K, I, L, R, sz)) : X d 0 0 4 0 0 0 (qent (qml 4) [.ref u, .int a, .int b]) [] (K, I, L, R, sz) Q := by
  obtain ⟨o, ho, rfl⟩ := ha
  obtain ⟨s, hs, rfl⟩ := hb
  have h3 : 3 ^ pS p ≤ 243 := p3_5 wp
  rw [nI_c (by omega), nI_c (by omega)] at hq
  exact s4 hd (dm.1 s hs) (by omega) (by omega) hq
theorem e3 {a : Int32}    (q1 : X d 0 0 3 0 0 4 [some (.ref u), some (.int a), some (.int 0), some (.int 0), none] [] (K, I, L, R, sz) Q) : X d 0 0 3 0 0 0 (qent (qml 3) [.ref u, .int a]) [] (K, I, L, R, sz) Q := show X _ 0 0 3 0 0 0 [some (.ref u), some (.int a), none, none, none] [] _ _ from x_iconst (v := 0) k3_0 rfl <| x_ist2 k3_1 (Nat.le_of_ble_eq_true rfl) rfl <| x_iconst (v := 0) k3_2 rfl <| x_ist3 k3_3 (Nat.le_of_ble_eq_true rfl) rfl <| q1
theorem g3_4 {u : Nat} {x1 : Int32} {x2 : Int32} {x3 : Int32}  (hK : qLay K sz) (hd : qDl K R sz u nw tn) (wp : pS p ≤ 5) (dm : qDm I u p m1 m2) (b1 : ¬ (I 22 1) ≤ x3 → qIn (3 ^ pS p) x1) (b2 : ¬ (I 22 1) ≤ x3 → qIn (pS p) x3) (q1 : (I 22 1) ≤ x3 → Q (some (.int x2)) (K, I, L, R, sz)) (q2 : ¬ (I 22 1) ≤ x3 → ¬ (nI (owN (Int32.toNatClampNeg x1) (Int32.toNatClampNeg x3))) = 1 → ¬ (nI (owN (Int32.toNatClampNeg x1) (Int32.toNatClampNeg x3))) = 2 → X (d + 1) 0 0 3 0 0 4 [some (.ref u), some (.int x1), some (.int ((x2 + 0) - 0)), some (.int (x3 + 1)), none] [] (K, I, L, R, sz) Q) (q3 : ¬ (I 22 1) ≤ x3 → ¬ (nI (owN (Int32.toNatClampNeg x1) (Int32.toNatClampNeg x3))) = 1 → (nI (owN (Int32.toNatClampNeg x1) (Int32.toNatClampNeg x3))) = 2 → X (d + 1) 0 0 3 0 0 4 [some (.ref u), some (.int x1), some (.int ((x2 + 0) - 1)), some (.int (x3 + 1)), none] [] (K, I, L, R, sz) Q) (q4 : ¬ (I 22 1) ≤ x3 → (nI (owN (Int32.toNatClampNeg x1) (Int32.toNatClampNeg x3))) = 1 → ¬ (nI (owN (Int32.toNatClampNeg x1) (Int32.toNatClampNeg x3))) = 2 → X (d + 1) 0 0 3 0 0 4 [some (.ref u), some (.int x1), some (.int ((x2 + 1) - 0)), some (.int (x3 + 1)), none] [] (K, I, L, R, sz) Q) (q5 : ¬ (I 22 1) ≤ x3 → (nI (owN (Int32.toNatClampNeg x1) (Int32.toNatClampNeg x3))) = 1 → (nI (owN (Int32.toNatClampNeg x1) (Int32.toNatClampNeg x3))) = 2 → X (d + 1) 0 0 3 0 0 4 [some (.ref u), some (.int x1), some (.int ((x2 + 1) - 1)), some (.int (x3 + 1)), none] [] (K, I, L, R, sz) Q) : X (d + 1) 0 0 3 0 0 4 [some (.ref u), some (.int x1), some (.int x2), some (.int x3), none] [] (K, I, L, R, sz) Q := x_ild3 k3_4 <| x_ald0 k3_5 <| x_getR k3_6 f0_21_0 hd.1 rfl hd.2.2.2.2.2.2.2 <| x_getI k3_9 f0_45_1 (hK.at rfl) rfl <| x_icmpge (tgt := 57) k3_12 (by decide) (fun h1 => x_ild2 k3_57 <| x_iret k3_58 rfl (Nat.le_refl _) (Nat.le_refl _) <| (q1 h1)) (fun h1 => x_ald0 k3_15 <| x_ild1 k3_16 <| x_ild3 k3_17 <| x_cV2 (MCz := 0) (MSz := 0) k3_18 v0_57_0 hd.1 (Nat.le_of_ble_eq_true rfl) (Nat.le_of_ble_eq_true rfl) (Nat.le_refl _) (Nat.le_refl _) <| z4 hd wp dm (b1 h1) (b2 h1) (x_ist4 k3_21 (Nat.le_of_ble_eq_true rfl) rfl <| x_ild2 k3_23 <| x_ild4 k3_24 <| x_iconst (v := 1) k3_26 rfl <| x_icmpne (tgt := 34) k3_27 (by decide) (fun h2 => x_iconst (v := 0) k3_34 rfl <| x_iadd k3_35 <| x_ist2 k3_36 (Nat.le_of_ble_eq_true rfl) rfl <| x_ild2 k3_37 <| x_ild4 k3_38 <| x_iconst (v := 2) k3_40 rfl <| x_icmpne (tgt := 48) k3_41 (by decide) (fun h3 => x_iconst (v := 0) k3_48 rfl <| x_isub k3_49 <| x_ist2 k3_50 (Nat.le_of_ble_eq_true rfl) rfl <| x_inc3 (c := 1) k3_51 rfl (Nat.le_of_ble_eq_true rfl) rfl <| x_goto (tgt := 4) k3_54 (by decide) <| x_wk (ls := [some (.ref u), some (.int x1), some (.int ((x2 + 0) - 0)), some (.int (x3 + 1)), none]) ⟨rfl, ⟨rfl, ⟨rfl, ⟨rfl, True.intro⟩⟩⟩⟩ <| (q2 h1 h2 h3)) (fun h3 => x_iconst (v := 1) k3_44 rfl <| x_goto (tgt := 49) k3_45 (by decide) <| x_isub k3_49 <| x_ist2 k3_50 (Nat.le_of_ble_eq_true rfl) rfl <| x_inc3 (c := 1) k3_51 rfl (Nat.le_of_ble_eq_true rfl) rfl <| x_goto (tgt := 4) k3_54 (by decide) <| x_wk (ls := [some (.ref u), some (.int x1), some (.int ((x2 + 0) - 1)), some (.int (x3 + 1)), none]) ⟨rfl, ⟨rfl, ⟨rfl, ⟨rfl, True.intro⟩⟩⟩⟩ <| (q3 h1 h2 h3))) (fun h2 => x_iconst (v := 1) k3_30 rfl <| x_goto (tgt := 35) k3_31 (by decide) <| x_iadd k3_35 <| x_ist2 k3_36 (Nat.le_of_ble_eq_true rfl) rfl <| x_ild2 k3_37 <| x_ild4 k3_38 <| x_iconst (v := 2) k3_40 rfl <| x_icmpne (tgt := 48) k3_41 (by decide) (fun h4 => x_iconst (v := 0) k3_48 rfl <| x_isub k3_49 <| x_ist2 k3_50 (Nat.le_of_ble_eq_true rfl) rfl <| x_inc3 (c := 1) k3_51 rfl (Nat.le_of_ble_eq_true rfl) rfl <| x_goto (tgt := 4) k3_54 (by decide) <| x_wk (ls := [some (.ref u), some (.int x1), some (.int ((x2 + 1) - 0)), some (.int (x3 + 1)), none]) ⟨rfl, ⟨rfl, ⟨rfl, ⟨rfl, True.intro⟩⟩⟩⟩ <| (q4 h1 h2 h4)) (fun h4 => x_iconst (v := 1) k3_44 rfl <| x_goto (tgt := 49) k3_45 (by decide) <| x_isub k3_49 <| x_ist2 k3_50 (Nat.le_of_ble_eq_true rfl) rfl <| x_inc3 (c := 1) k3_51 rfl (Nat.le_of_ble_eq_true rfl) rfl <| x_goto (tgt := 4) k3_54 (by decide) <| x_wk (ls := [some (.ref u), some (.int x1), some (.int ((x2 + 1) - 1)), some (.int (x3 + 1)), none]) ⟨rfl, ⟨rfl, ⟨rfl, ⟨rfl, True.intro⟩⟩⟩⟩ <| (q5 h1 h2 h4)))))
theorem e9 {a : Int32} {b : Int32} {c : Int32}  {u : Nat} (hd : qDl K R sz u nw tn) (b1 : ¬ a = 1 → vp_in b 8748) (b2 : a = 1 → vp_in b 8748) (q1 : ¬ a = 1 → (I nw b.toNatClampNeg) ≤ c → Q none (K, I, L, R, sz)) (q2 : ¬ a = 1 → ¬ (I nw b.toNatClampNeg) ≤ c → ∀ I3 : Nat → Nat → Int32, I3 = va_up I nw (upd (I nw) b.toNatClampNeg c) → Q none (K, I3, L, R, sz)) (q3 : a = 1 → c ≤ (I nw b.toNatClampNeg) → Q none (K, I, L, R, sz)) (q4 : a = 1 → ¬ c ≤ (I nw b.toNatClampNeg) → ∀ I6 : Nat → Nat → Int32, I6 = va_up I nw (upd (I nw) b.toNatClampNeg c) → Q none (K, I6, L, R, sz)) : X d 0 0 9 0 0 0 (qent (qml 9) [.ref u, .int a, .int b, .int c]) [] (K, I, L, R, sz) Q := show X _ 0 0 9 0 0 0 [some (.ref u), some (.int a), some (.int b), some (.int c)] [] _ _ from x_ild1 k9_0 <| x_iconst (v := 1) k9_1 rfl <| x_icmpne (tgt := 18) k9_2 (by decide) (fun h1 => x_ild3 k9_18 <| x_ald0 k9_19 <| x_getR k9_20 f0_11_0 hd.1 rfl hd.2.2.2.2.1 <| x_ild2 k9_23 <| x_iald k9_24 hd.2.1 (b1 h1) <| x_icmpge (tgt := 35) k9_25 (by decide) (fun h2 => x_vret k9_35 rfl (Nat.le_refl _) (Nat.le_refl _) <| (q1 h1 h2)) (fun h2 => x_ald0 k9_28 <| x_getR k9_29 f0_11_0 hd.1 rfl hd.2.2.2.2.1 <| x_ild2 k9_32 <| x_ild3 k9_33 <| x_iast k9_34 hd.2.1 (b1 h1) <| x_nm fun I3 e4 => x_vret k9_35 rfl (Nat.le_refl _) (Nat.le_refl _) <| (q2 h1 h2 I3 e4))) (fun h1 => x_ild3 k9_5 <| x_ald0 k9_6 <| x_getR k9_7 f0_11_0 hd.1 rfl hd.2.2.2.2.1 <| x_ild2 k9_10 <| x_iald k9_11 hd.2.1 (b2 h1) <| x_icmple (tgt := 35) k9_12 (by decide) (fun h5 => x_vret k9_35 rfl (Nat.le_refl _) (Nat.le_refl _) <| (q3 h1 h5)) (fun h5 => x_goto (tgt := 28) k9_15 (by decide) <| x_ald0 k9_28 <| x_getR k9_29 f0_11_0 hd.1 rfl hd.2.2.2.2.1 <| x_ild2 k9_32 <| x_ild3 k9_33 <| x_iast k9_34 hd.2.1 (b2 h1) <| x_nm fun I6 e7 => x_vret k9_35 rfl (Nat.le_refl _) (Nat.le_refl _) <| (q4 h1 h5 I6 e7)))
theorem e10 {a : Int32} {b : Int32} {c : Int32}  {u : Nat} (hK : qLay K sz) (hR : qRef R) (hd : qDl K R sz u nw tn) (b1 : vp_in c 5) (b2 : (I (24 + c.toNatClampNeg) 0) = b → ¬ a = 1 → qIn 5 c) (b3 : (I (24 + c.toNatClampNeg) 0) = b → a = 1 → qIn 5 c) (q1 : ¬ (I (24 + c.toNatClampNeg) 0) = b → Q (some (.int 0)) (K, I, L, R, sz)) (q2 : (I (24 + c.toNatClampNeg) 0) = b → ¬ a = 1 → ¬ I (24 + (c).toNatClampNeg) 1 = (I u 7) → Q (some (.int 1)) (K, I, L, R, sz)) (q3 : (I (24 + c.toNatClampNeg) 0) = b → ¬ a = 1 → I (24 + (c).toNatClampNeg) 1 = (I u 7) → Q (some (.int 0)) (K, I, L, R, sz)) (q4 : (I (24 + c.toNatClampNeg) 0) = b → a = 1 → ¬ I (24 + (c).toNatClampNeg) 1 = (I u 6) → Q (some (.int 1)) (K, I, L, R, sz)) (q5 : (I (24 + c.toNatClampNeg) 0) = b → a = 1 → I (24 + (c).toNatClampNeg) 1 = (I u 6) → Q (some (.int 0)) (K, I, L, R, sz)) : X (d + 1) 0 0 10 0 0 0 (qent (qml 10) [.ref u, .int a, .int b, .int c]) [] (K, I, L, R, sz) Q := show X _ 0 0 10 0 0 0 [some (.ref u), some (.int a), some (.int b), some (.int c)] [] _ _ from x_ald0 k10_0 <| x_getR k10_1 f0_21_0 hd.1 rfl hd.2.2.2.2.2.2.2 <| x_getR k10_4 f0_94_1 (hK.at rfl) rfl (hR _ _ _ rfl) <| x_ild3 k10_7 <| x_aald k10_8 (hK.at rfl) b1 (qrowR23 hR b1) <| x_iconst (v := 0) k10_9 rfl <| x_iald k10_10 (qrowK23 hK b1) (qvp (by decide)) <| x_ild2 k10_11 <| x_icmpne (tgt := 46) k10_12 (by decide) (fun h1 => x_iconst (v := 0) k10_46 rfl <| x_zret k10_47 rfl (Or.inl rfl) (Nat.le_refl _) (Nat.le_refl _) <| (q1 h1)) (fun h1 => x_ald0 k10_15 <| x_getR k10_16 f0_21_0 hd.1 rfl hd.2.2.2.2.2.2.2 <| x_ild1 k10_19 <| x_iconst (v := 1) k10_20 rfl <| x_icmpne (tgt := 31) k10_21 (by decide) (fun h2 => x_ald0 k10_31 <| x_getI k10_32 f0_29_0 hd.1 rfl <| x_ild3 k10_35 <| x_cV2 (MCz := 0) (MSz := 0) k10_36 v0_97_1 (hK.at rfl) (Nat.le_of_ble_eq_true rfl) (Nat.le_of_ble_eq_true rfl) (Nat.le_refl _) (Nat.le_refl _) <| u1004 hK hR (b2 h1 h2) (fun g3 => x_ifeqF (tgt := 46) k10_39 (by decide) (show ¬ (1 : Int32) = 0 by decide) <| x_iconst (v := 1) k10_42 rfl <| x_goto (tgt := 47) k10_43 (by decide) <| x_zret k10_47 rfl (Or.inr rfl) (Nat.le_refl _) (Nat.le_refl _) <| (q2 h1 h2 g3)) (fun g4 => x_ifeqT (tgt := 46) k10_39 (by decide) (show (0 : Int32) = 0 by decide) <| x_iconst (v := 0) k10_46 rfl <| x_zret k10_47 rfl (Or.inl rfl) (Nat.le_refl _) (Nat.le_refl _) <| (q3 h1 h2 g4))) (fun h2 => x_ald0 k10_24 <| x_getI k10_25 f0_25_0 hd.1 rfl <| x_goto (tgt := 35) k10_28 (by decide) <| x_ild3 k10_35 <| x_cV2 (MCz := 0) (MSz := 0) k10_36 v0_97_1 (hK.at rfl) (Nat.le_of_ble_eq_true rfl) (Nat.le_of_ble_eq_true rfl) (Nat.le_refl _) (Nat.le_refl _) <| u1004 hK hR (b3 h1 h2) (fun g5 => x_ifeqF (tgt := 46) k10_39 (by decide) (show ¬ (1 : Int32) = 0 by decide) <| x_iconst (v := 1) k10_42 rfl <| x_goto (tgt := 47) k10_43 (by decide) <| x_zret k10_47 rfl (Or.inr rfl) (Nat.le_refl _) (Nat.le_refl _) <| (q4 h1 h2 g5)) (fun g6 => x_ifeqT (tgt := 46) k10_39 (by decide) (show (0 : Int32) = 0 by decide) <| x_iconst (v := 0) k10_46 rfl <| x_zret k10_47 rfl (Or.inl rfl) (Nat.le_refl _) (Nat.le_refl _) <| (q5 h1 h2 g6))))
theorem e12 {a : Int32} {b : Int32}  {u : Nat} (hd : qDl K R sz u nw tn)  (q1 : a ≤ (I u 0) → Q none (K, I, L, R, sz)) (q2 : ¬ a ≤ (I u 0) → ∀ I2 : Nat → Nat → Int32, I2 = va_up I u (upd (I u) 0 a) → ∀ I4 : Nat → Nat → Int32, I4 = va_up I2 u (upd (I2 u) 1 b) → Q none (K, I4, L, R, sz)) : X d 0 0 12 0 0 0 (qent (qml 12) [.ref u, .int a, .int b]) [] (K, I, L, R, sz) Q := show X _ 0 0 12 0 0 0 [some (.ref u), some (.int a), some (.int b)] [] _ _ from x_ild1 k12_0 <| x_ald0 k12_1 <| x_getI k12_2 f0_101_0 hd.1 rfl <| x_icmple (tgt := 18) k12_5 (by decide) (fun h1 => x_vret k12_18 rfl (Nat.le_refl _) (Nat.le_refl _) <| (q1 h1)) (fun h1 => x_ald0 k12_8 <| x_ild1 k12_9 <| x_putI k12_10 f0_101_0 (Or.inl rfl) hd.1 <| x_nm fun I2 e3 => x_ald0 k12_13 <| x_ild2 k12_14 <| x_putI k12_15 f0_104_0 (Or.inl rfl) hd.1 <| x_nm fun I4 e5 => x_vret k12_18 rfl (Nat.le_refl _) (Nat.le_refl _) <| (q2 h1 I2 e3 I4 e5))
theorem s3 {a : Int32} {m1 m2 : Nat} (hK : qLay K sz) (hd : qDl K R sz u nw tn) (cI : CI I p) (dm : qDm I u p m1 m2) (ha : qIn (3 ^ pS p) a) (hq : Q (some (.int (moN (Int32.toNatClampNeg a) (pS p)))) (K, I, L, R, sz)) : X (d + 1) 0 0 3 0 0 0 (qent (qml 3) [.ref u, .int a]) [] (K, I, L, R, sz) Q := by
  have w5 := cI.w5
  have lS := cI.lS
  have hl : ∀ (k i : Nat), i + k = pS p → X (d + 1) 0 0 3 0 0 4 [some (.ref u), some (.int a), some (.int (moN (Int32.toNatClampNeg a) i)), some (.int (nI i)), none] [] (K, I, L, R, sz) Q := by
    intro k
    induction k with
    | zero =>
      intro i hi
      have hle : I 22 1 ≤ nI i := by rw [lS]; exact nI_le (by omega) (by omega)
      have : i = pS p := by omega
      subst this
      exact g3_4 hK hd w5 dm (fun h => absurd hle h) (fun h => absurd hle h) (fun _ => hq) (fun h => absurd hle h) (fun h => absurd hle h) (fun h => absurd hle h) (fun h => absurd hle h)
    | succ k ih =>
      intro i hi
      have hnl : ¬ I 22 1 ≤ nI i := by rw [lS]; exact nI_ge (by omega) (by omega)
      have ec : (nI i).toNatClampNeg = i := nI_c (by omega)
      have ih' := ih (i + 1) (by omega)
      have hw := @ow_lt (Int32.toNatClampNeg a) i
      have e1 : nI (owN (Int32.toNatClampNeg a) i) = 1 ↔ owN (Int32.toNatClampNeg a) i = 1 := nI_eq (b := 1) (by omega) (by omega)
      have e2 : nI (owN (Int32.toNatClampNeg a) i) = 2 ↔ owN (Int32.toNatClampNeg a) i = 2 := nI_eq (b := 2) (by omega) (by omega)
      rw [moN] at ih'
      refine g3_4 hK hd w5 dm (fun _ => ha) (fun _ => ⟨i, by omega, rfl⟩) (fun h => absurd h hnl) (fun _ h1 h2 => ?_) (fun _ h1 h2 => ?_) (fun _ h1 h2 => ?_) (fun _ h1 h2 => ?_) <;> rw [ec, e1] at h1 <;> rw [ec, e2] at h2
      · rw [if_neg h1, if_neg h2] at ih'
        rw [nI_1, Int32.sub_zero]; exact ih'
      · rw [if_neg h1, if_pos h2] at ih'
        rw [nI_1, Int32.add_zero, Int32.sub_eq_add_neg]; exact ih'
      · rw [if_pos h1] at ih'
        rw [nI_1, Int32.sub_zero]; exact ih'
      · omega
  exact e3 (hl (pS p) 0 (by omega))
theorem s9 {a b c : Int32} (hd : qDl K R sz u nw tn) (hb : vp_in b 8748) (hq : ∀ J, J = va_up I nw (upd (I nw) (Int32.toNatClampNeg b) (bet a (I nw (Int32.toNatClampNeg b)) c)) → Q none (K, J, L, R, sz)) : X d 0 0 9 0 0 0 (qent (qml 9) [.ref u, .int a, .int b, .int c]) [] (K, I, L, R, sz) Q := by
  have hid : ∀ i, va_up I nw (upd (I nw) i (I nw i)) = I := fun i => by
    have : upd (I nw) i (I nw i) = I nw := by funext j; unfold upd; split <;> simp_all
    rw [this, vu_id]
  refine e9 hd (fun _ => hb) (fun _ => hb) (fun h1 h2 => ?_) (fun h1 h2 J hJ => ?_) (fun h1 h2 => ?_) (fun h1 h2 J hJ => ?_)
  · refine hq _ ?_
    rw [bet, if_neg h1, if_neg (Int32.not_lt.mpr h2), hid]
  · refine hq _ ?_
    rw [bet, if_neg h1, if_pos (Int32.not_le.mp h2)]; exact hJ
  · refine hq _ ?_
    rw [bet, if_pos h1, if_neg (Int32.not_lt.mpr h2), hid]
  · refine hq _ ?_
    rw [bet, if_pos h1, if_pos (Int32.not_le.mp h2)]; exact hJ
theorem s10 {a b c : Int32} {m1 m2 : Nat} (hK : qLay K sz) (hR : qRef R) (hd : qDl K R sz u nw tn) (cI : CI I p) (dm : qDm I u p m1 m2) (hc : qIn (pS p) c) (ht : I (24 + Int32.toNatClampNeg c) 0 = b ∧ mayI I (if a = 1 then m1 else m2) (Int32.toNatClampNeg c) = true → Q (some (.int 1)) (K, I, L, R, sz)) (hf : ¬ (I (24 + Int32.toNatClampNeg c) 0 = b ∧ mayI I (if a = 1 then m1 else m2) (Int32.toNatClampNeg c) = true) → Q (some (.int 0)) (K, I, L, R, sz)) : X (d + 1) 0 0 10 0 0 0 (qent (qml 10) [.ref u, .int a, .int b, .int c]) [] (K, I, L, R, sz) Q := by
  have w5 := cI.w5
  have hc5 : qIn 5 c := hc.to5 w5
  unfold mayI at ht hf
  obtain ⟨-, -, d6, d7⟩ := dm
  refine e10 hK hR hd (qIn_vp hc5 (Nat.le_refl _) (by omega)) (fun _ _ => hc5) (fun _ _ => hc5) (fun h1 => hf (fun q => h1 q.1)) (fun h1 h2 h3 => ht ⟨h1, ?_⟩) (fun h1 h2 h3 => hf (fun q => ?_)) (fun h1 h2 h3 => ht ⟨h1, ?_⟩) (fun h1 h2 h3 => hf (fun q => ?_))
  · rw [if_neg h2]; rw [d7] at h3; simp [h3]
  · have := q.2; rw [if_neg h2] at this; rw [d7] at h3; simp [h3] at this
  · rw [if_pos h2]; rw [d6] at h3; simp [h3]
  · have := q.2; rw [if_pos h2] at this; rw [d6] at h3; simp [h3] at this
/-- f with the n places from b on taken from F -/
def blk (g : Nat → Int32) (b n : Nat) (F : Nat → Int32) : Nat → Int32 := fun i => if b ≤ i ∧ i < b + n then F (i - b) else g i
theorem blk_0 {g : Nat → Int32} {b : Nat} {F : Nat → Int32} : blk g b 0 F = g := by
  funext i
  unfold blk
  rw [if_neg (by omega)]
theorem blk_n {g : Nat → Int32} {b n i : Nat} {F : Nat → Int32} (h : ¬ (b ≤ i ∧ i < b + n)) : blk g b n F i = g i := by unfold blk; rw [if_neg h]
theorem blk_i {g : Nat → Int32} {b n i : Nat} {F : Nat → Int32} (h : i < n) : blk g b n F (b + i) = F i := by unfold blk; rw [if_pos (by omega), Nat.add_sub_cancel_left]
theorem blk_s {g : Nat → Int32} {b k : Nat} {F : Nat → Int32} : upd (blk g b k F) (b + k) (F k) = blk g b (k + 1) F := by
  funext i
  unfold upd blk
  by_cases h : i = b + k
  · rw [if_pos h, if_pos (by omega), h, Nat.add_sub_cancel_left]
  · rw [if_neg h]
    by_cases h1 : b ≤ i ∧ i < b + k
    · rw [if_pos h1, if_pos (by omega)]
    · rw [if_neg h1, if_neg (by omega)]
theorem blk_b {g : Nat → Int32} {b n : Nat} {F G : Nat → Int32} : blk (blk g b n F) b n G = blk g b n G := by
  funext i
  unfold blk
  split <;> rfl
end L85
