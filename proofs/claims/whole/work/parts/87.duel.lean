/-! rivals: the class, one turn back -/
section L87a
variable {I J : Nat → Nat → Int32} {p : qPa} {nw tn u m1 m2 : Nat}
def ix (p : qPa) (a b o : Nat) : Nat := (a * pR p + b) * 3 ^ pS p + o
theorem rr_lt {r a b : Nat} (hr : r ≤ 6) (ha : a < r) (hb : b < r) : a * r + b < r * r ∧ r * r ≤ 36 := by
  have h1 : (a + 1) * r ≤ r * r := Nat.mul_le_mul_right r ha
  have h2 : r * r ≤ 6 * 6 := Nat.mul_le_mul hr hr
  rw [Nat.add_mul, Nat.one_mul] at h1
  omega
theorem ix_le {c n O : Nat} (hc : c < n) (hn : n ≤ 36) (hO : O ≤ 243) : c * O + O ≤ 8748 ∧ c * O + O ≤ n * O := by
  have h1 : (c + 1) * O ≤ n * O := Nat.mul_le_mul_right O hc
  have h2 : n * O ≤ 36 * 243 := Nat.mul_le_mul hn hO
  rw [Nat.add_mul, Nat.one_mul] at h1
  omega
theorem ix_0 {a b o : Nat} : ix p a b o = ix p a b 0 + o := rfl
theorem ix_b (w6 : pR p ≤ 6) (w5 : pS p ≤ 5) {a b : Nat} (ha : a < pR p) (hb : b < pR p) : ix p a b 0 + 3 ^ pS p ≤ 8748 := by
  have h := rr_lt w6 ha hb
  exact (ix_le h.1 h.2 (p3_5 w5)).1
theorem ix_u {a b : Nat} : ix p (a + 1) b 0 = ix p a b 0 + pR p * 3 ^ pS p := by
  unfold ix
  simp only [Nat.add_zero]
  rw [← Nat.add_mul, Nat.add_mul a 1, Nat.one_mul, Nat.add_right_comm]
theorem ix_r {a b : Nat} : ix p a (b + 1) 0 = ix p a b 0 + 3 ^ pS p := by
  unfold ix
  rw [← Nat.add_assoc, Nat.add_mul _ 1, Nat.one_mul]; rfl
theorem c_ne {c e O o : Nat} (h : c ≠ e) (ho : o < O) : ¬ (e * O ≤ c * O + o ∧ c * O + o < e * O + O) := by
  intro q
  rcases Nat.lt_or_gt_of_ne h with g | g
  · have h1 : (c + 1) * O ≤ e * O := Nat.mul_le_mul_right O g
    rw [Nat.add_mul, Nat.one_mul] at h1
    omega
  · have h1 : (e + 1) * O ≤ c * O := Nat.mul_le_mul_right O g
    rw [Nat.add_mul, Nat.one_mul] at h1
    omega
theorem rb_ne {r a b a' b' : Nat} (hb : b < r) (hb' : b' < r) (h : ¬ (a = a' ∧ b = b')) : a * r + b ≠ a' * r + b' := by
  intro e
  rcases Nat.lt_trichotomy a a' with g | g | g
  · have h1 : (a + 1) * r ≤ a' * r := Nat.mul_le_mul_right r g
    rw [Nat.add_mul, Nat.one_mul] at h1
    omega
  · subst g
    exact h ⟨rfl, by omega⟩
  · have h1 : (a' + 1) * r ≤ a * r := Nat.mul_le_mul_right r g
    rw [Nat.add_mul, Nat.one_mul] at h1
    omega
def tbl (g : Nat → Int32) (p : qPa) (G : Nat → Nat → Prop) (V : Nat → Nat → Nat → Int32) : Prop := ∀ a b, a < pR p → b < pR p → G a b → ∀ o, o < 3 ^ pS p → g (ix p a b o) = V a b o
def nr (r1 r2 t a b : Nat) : Prop := (a - r1) + (r1 - a) ≤ (t + 1) / 2 ∧ (b - r2) + (r2 - b) ≤ t / 2
theorem dB_c {a : Int32} {m r : Nat} {v0 vU vD v0' vU' vD' : Int32} {vT vT' : Nat → Int32} (h0 : v0 = v0') (hU : r + 1 < pR p → vU = vU') (hD : 0 < r → vD = vD') (hT : ∀ s, s < pS p → vT s = vT' s) : dBest I p a m r v0 vU vD vT = dBest I p a m r v0' vU' vD' vT' := by
  have h2 : bs2 a (decide (r + 1 < pR p)) (decide (0 < r)) v0 vU vD = bs2 a (decide (r + 1 < pR p)) (decide (0 < r)) v0' vU' vD' := by
    subst h0
    unfold bs2
    by_cases c1 : r + 1 < pR p
    · rw [hU c1]
      by_cases c2 : 0 < r
      · rw [hD c2]
      · rw [decide_eq_false c2, if_neg Bool.false_ne_true, if_neg Bool.false_ne_true]
    · rw [decide_eq_false c1, if_neg Bool.false_ne_true, if_neg Bool.false_ne_true]
      by_cases c2 : 0 < r
      · rw [hD c2]
      · rw [decide_eq_false c2, if_neg Bool.false_ne_true, if_neg Bool.false_ne_true]
  unfold dBest
  rw [h2]
  have : ∀ n, n ≤ pS p → bsT a (dTh I m r) vT (bs2 a (decide (r + 1 < pR p)) (decide (0 < r)) v0' vU' vD') n = bsT a (dTh I m r) vT' (bs2 a (decide (r + 1 < pR p)) (decide (0 < r)) v0' vU' vD') n := by
    intro n
    induction n with
    | zero => intro _; rfl
    | succ n ih => intro h; rw [bsT, bsT, ih (by omega), hT n (by omega)]
  exact this _ (Nat.le_refl _)
def rvS (I : Nat → Nat → Int32) (p : qPa) (m1 m2 : Nat) (f : Bool) (V : Nat → Nat → Nat → Int32) (a b o : Nat) : Int32 × Int32 :=
  if f then dBest I p 1 m1 a (V a b o) (V (a + 1) b o) (V (a - 1) b o) (fun s => V a b (thk 1 o s)) else dBest I p 2 m2 b (V a b o) (V a (b + 1) o) (V a (b - 1) o) (fun s => V a b (thk 2 o s))
theorem absN {a b : Nat} (ha : a < 1000) (hb : b < 1000) : (if 0 ≤ nI a - nI b then nI a - nI b else 0 - (nI a - nI b)) = nI ((a - b) + (b - a)) := by
  by_cases h : b ≤ a
  · rw [pk_sub h, if_pos (nI_pos' (by omega)), Nat.sub_eq_zero_of_le h]; rfl
  · have h1 := pk_sneg (a := a) (b := b) (by omega) (by omega)
    rw [if_neg (Int32.not_le.mpr h1), Int32.zero_sub, Int32.neg_sub, pk_sub (by omega), Nat.sub_eq_zero_of_le (by omega : a ≤ b), Nat.zero_add]
/-- nothing changed below the things made later -/
def qLo (I J : Nat → Nat → Int32) : Prop := ∀ j, j < 107 → J j = I j
theorem qLo.fr (h : qLo I J) : qFr scQ I J := fun j k n => by
  by_cases q : j < 107
  · rw [h j q]
  · exact absurd (fun g => by unfold kpQ at g; omega) n
theorem qLo.af (h : qLo I J) (c : CI I p) : qAf I p J := ⟨h.fr, CI_fr h.fr (CI_jud h.fr (by rw [h 51 (by omega)]) (h 55 (by omega)) c) c⟩
theorem qLo.up (h : qLo I J) {j : Nat} {F : Nat → Int32} (hj : 107 ≤ j) : qLo I (va_up J j F) := fun k hk => by rw [vu_n (by omega)]; exact h k hk
theorem qLo.refl : qLo I I := fun _ _ => rfl
theorem qLo.trans {H : Nat → Nat → Int32} (h : qLo I J) (g : qLo J H) : qLo I H := fun j q => (g j q).trans (h j q)
theorem dTh_lo (h : qLo I J) (m r s : Nat) (hs : s < 5) : dTh J m r s = dTh I m r s := by
  unfold dTh mayI
  rw [h (24 + s) (by omega)]
theorem dB_lo (h : qLo I J) (w5 : pS p ≤ 5) {a : Int32} {m r : Nat} {v0 vU vD : Int32} {vT : Nat → Int32} : dBest J p a m r v0 vU vD vT = dBest I p a m r v0 vU vD vT := by
  unfold dBest
  have : ∀ q n, n ≤ pS p → bsT a (dTh J m r) vT q n = bsT a (dTh I m r) vT q n := by
    intro q n
    induction n with
    | zero => intro _; rfl
    | succ n ih => intro g; rw [bsT, bsT, ih (by omega), dTh_lo h m r n (by omega)]
  exact this _ _ (Nat.le_refl _)
theorem rvS_lo (h : qLo I J) (w5 : pS p ≤ 5) {f : Bool} {V : Nat → Nat → Nat → Int32} {a b o : Nat} : rvS J p m1 m2 f V a b o = rvS I p m1 m2 f V a b o := by
  unfold rvS
  split <;> exact dB_lo h w5
end L87a
section L87
variable {d : Nat} {K : qK} {I : Nat → Nat → Int32} {L : Nat → Nat → Int64} {R : Nat → Nat → Option Nat} {sz : Nat} {Q : Option Value → qMem → Prop} {p : qPa} {nw tn u m1 m2 : Nat}
theorem e5 {a : Int32}  {u : Nat} (hK : qLay K sz) (hR : qRef R) (hd : qDl K R sz u nw tn) (b1 : ¬ (a - a / 2 * 2) = 0 → vp_in (I u 6) 3) (b2 : ¬ (a - a / 2 * 2) = 0 → vp_in (I u 7) 3) (b3 : (a - a / 2 * 2) = 0 → vp_in (I u 6) 3) (b4 : (a - a / 2 * 2) = 0 → vp_in (I u 7) 3) (q1 : ¬ (a - a / 2 * 2) = 0 → X d 0 0 5 0 0 46 [some (.ref u), some (.int a), some (.int 2), some (.int (I (30 + (I u 6).toNatClampNeg) 0)), some (.int (I (30 + (I u 7).toNatClampNeg) 0)), some (.int 0), none, none, none, none] [] (K, I, L, R, sz) Q) (q2 : (a - a / 2 * 2) = 0 → X d 0 0 5 0 0 46 [some (.ref u), some (.int a), some (.int 1), some (.int (I (30 + (I u 6).toNatClampNeg) 0)), some (.int (I (30 + (I u 7).toNatClampNeg) 0)), some (.int 0), none, none, none, none] [] (K, I, L, R, sz) Q) : X d 0 0 5 0 0 0 (qent (qml 5) [.ref u, .int a]) [] (K, I, L, R, sz) Q := show X _ 0 0 5 0 0 0 [some (.ref u), some (.int a), none, none, none, none, none, none, none, none] [] _ _ from x_ild1 k5_0 <| x_iconst (v := 2) k5_1 rfl <| x_irem k5_2 (by decide) <| x_ifne (tgt := 10) k5_3 (by decide) (fun h1 => x_iconst (v := 2) k5_10 rfl <| x_ist2 k5_11 (Nat.le_of_ble_eq_true rfl) rfl <| x_ald0 k5_12 <| x_getR k5_13 f0_21_0 hd.1 rfl hd.2.2.2.2.2.2.2 <| x_getR k5_16 f0_61_1 (hK.at rfl) rfl (hR _ _ _ rfl) <| x_ald0 k5_19 <| x_getI k5_20 f0_25_0 hd.1 rfl <| x_aald k5_23 (hK.at rfl) (b1 h1) (qrowR29 hR (b1 h1)) <| x_iconst (v := 0) k5_24 rfl <| x_iald k5_25 (qrowK29 hK (b1 h1)) (qvp (by decide)) <| x_ist3 k5_26 (Nat.le_of_ble_eq_true rfl) rfl <| x_ald0 k5_27 <| x_getR k5_28 f0_21_0 hd.1 rfl hd.2.2.2.2.2.2.2 <| x_getR k5_31 f0_61_1 (hK.at rfl) rfl (hR _ _ _ rfl) <| x_ald0 k5_34 <| x_getI k5_35 f0_29_0 hd.1 rfl <| x_aald k5_38 (hK.at rfl) (b2 h1) (qrowR29 hR (b2 h1)) <| x_iconst (v := 0) k5_39 rfl <| x_iald k5_40 (qrowK29 hK (b2 h1)) (qvp (by decide)) <| x_ist4 k5_41 (Nat.le_of_ble_eq_true rfl) rfl <| x_iconst (v := 0) k5_43 rfl <| x_ist5 k5_44 (Nat.le_of_ble_eq_true rfl) rfl <| (q1 h1)) (fun h1 => x_iconst (v := 1) k5_6 rfl <| x_goto (tgt := 11) k5_7 (by decide) <| x_ist2 k5_11 (Nat.le_of_ble_eq_true rfl) rfl <| x_ald0 k5_12 <| x_getR k5_13 f0_21_0 hd.1 rfl hd.2.2.2.2.2.2.2 <| x_getR k5_16 f0_61_1 (hK.at rfl) rfl (hR _ _ _ rfl) <| x_ald0 k5_19 <| x_getI k5_20 f0_25_0 hd.1 rfl <| x_aald k5_23 (hK.at rfl) (b3 h1) (qrowR29 hR (b3 h1)) <| x_iconst (v := 0) k5_24 rfl <| x_iald k5_25 (qrowK29 hK (b3 h1)) (qvp (by decide)) <| x_ist3 k5_26 (Nat.le_of_ble_eq_true rfl) rfl <| x_ald0 k5_27 <| x_getR k5_28 f0_21_0 hd.1 rfl hd.2.2.2.2.2.2.2 <| x_getR k5_31 f0_61_1 (hK.at rfl) rfl (hR _ _ _ rfl) <| x_ald0 k5_34 <| x_getI k5_35 f0_29_0 hd.1 rfl <| x_aald k5_38 (hK.at rfl) (b4 h1) (qrowR29 hR (b4 h1)) <| x_iconst (v := 0) k5_39 rfl <| x_iald k5_40 (qrowK29 hK (b4 h1)) (qvp (by decide)) <| x_ist4 k5_41 (Nat.le_of_ble_eq_true rfl) rfl <| x_iconst (v := 0) k5_43 rfl <| x_ist5 k5_44 (Nat.le_of_ble_eq_true rfl) rfl <| (q2 h1))
theorem g5_46 {u : Nat} {x1 : Int32} {x2 : Int32} {x3 : Int32} {x4 : Int32} {x5 : Int32}  (hK : qLay K sz) (hd : qDl K R sz u nw tn)  (q1 : (I 22 0) ≤ x5 → Q none (K, I, L, R, sz)) (q2 : ¬ (I 22 0) ≤ x5 → X d 0 0 5 0 0 61 [some (.ref u), some (.int x1), some (.int x2), some (.int x3), some (.int x4), some (.int x5), some (.int 0), none, none, none] [] (K, I, L, R, sz) Q) : X d 0 0 5 0 0 46 [some (.ref u), some (.int x1), some (.int x2), some (.int x3), some (.int x4), some (.int x5), none, none, none, none] [] (K, I, L, R, sz) Q := x_ild5 k5_46 <| x_ald0 k5_48 <| x_getR k5_49 f0_21_0 hd.1 rfl hd.2.2.2.2.2.2.2 <| x_getI k5_52 f0_54_1 (hK.at rfl) rfl <| x_icmpge (tgt := 193) k5_55 (by decide) (fun h1 => x_vret k5_193 rfl (Nat.le_refl _) (Nat.le_refl _) <| (q1 h1)) (fun h1 => x_iconst (v := 0) k5_58 rfl <| x_ist6 k5_59 (Nat.le_of_ble_eq_true rfl) rfl <| (q2 h1))
theorem g5_61 {u : Nat} {x1 : Int32} {x2 : Int32} {x3 : Int32} {x4 : Int32} {x5 : Int32} {x6 : Int32}  (hK : qLay K sz) (hd : qDl K R sz u nw tn)  (q1 : (I 22 0) ≤ x6 → X (d + 1) 0 0 5 0 0 46 [some (.ref u), some (.int x1), some (.int x2), some (.int x3), some (.int x4), some (.int (x5 + 1)), none, none, none, none] [] (K, I, L, R, sz) Q) (q2 : ¬ (I 22 0) ≤ x6 → ((x1 + 1) / 2) < (if 0 ≤ (x5 - x3) then (x5 - x3) else 0 - (x5 - x3)) → X (d + 1) 0 0 5 0 0 61 [some (.ref u), some (.int x1), some (.int x2), some (.int x3), some (.int x4), some (.int x5), some (.int (x6 + 1)), none, none, none] [] (K, I, L, R, sz) Q) (q3 : ¬ (I 22 0) ≤ x6 → ¬ ((x1 + 1) / 2) < (if 0 ≤ (x5 - x3) then (x5 - x3) else 0 - (x5 - x3)) → (x1 / 2) < (if 0 ≤ (x6 - x4) then (x6 - x4) else 0 - (x6 - x4)) → X (d + 1) 0 0 5 0 0 61 [some (.ref u), some (.int x1), some (.int x2), some (.int x3), some (.int x4), some (.int x5), some (.int (x6 + 1)), none, none, none] [] (K, I, L, R, sz) Q) (q4 : ¬ (I 22 0) ≤ x6 → ¬ ((x1 + 1) / 2) < (if 0 ≤ (x5 - x3) then (x5 - x3) else 0 - (x5 - x3)) → ¬ (x1 / 2) < (if 0 ≤ (x6 - x4) then (x6 - x4) else 0 - (x6 - x4)) → ¬ x2 = 1 → X (d + 1) 0 0 5 0 0 178 [some (.ref u), some (.int x1), some (.int x2), some (.int x3), some (.int x4), some (.int x5), some (.int x6), some (.int 1), some (.int (((x5 * (I 22 0)) + x6) * (I u 8))), some (.int (I u 8))] [.int (I u 8), .int (((x5 * (I 22 0)) + x6) * (I u 8)), .int x6, .int x2, .ref u] (K, I, L, R, sz) Q) (q5 : ¬ (I 22 0) ≤ x6 → ¬ ((x1 + 1) / 2) < (if 0 ≤ (x5 - x3) then (x5 - x3) else 0 - (x5 - x3)) → ¬ (x1 / 2) < (if 0 ≤ (x6 - x4) then (x6 - x4) else 0 - (x6 - x4)) → x2 = 1 → X (d + 1) 0 0 5 0 0 178 [some (.ref u), some (.int x1), some (.int x2), some (.int x3), some (.int x4), some (.int x5), some (.int x6), some (.int 1), some (.int (((x5 * (I 22 0)) + x6) * (I u 8))), some (.int ((I 22 0) * (I u 8)))] [.int ((I 22 0) * (I u 8)), .int (((x5 * (I 22 0)) + x6) * (I u 8)), .int x5, .int x2, .ref u] (K, I, L, R, sz) Q) : X (d + 1) 0 0 5 0 0 61 [some (.ref u), some (.int x1), some (.int x2), some (.int x3), some (.int x4), some (.int x5), some (.int x6), none, none, none] [] (K, I, L, R, sz) Q := x_ild6 k5_61 <| x_ald0 k5_63 <| x_getR k5_64 f0_21_0 hd.1 rfl hd.2.2.2.2.2.2.2 <| x_getI k5_67 f0_54_1 (hK.at rfl) rfl <| x_icmpge (tgt := 187) k5_70 (by decide) (fun h1 => x_inc5 (c := 1) k5_187 rfl (Nat.le_of_ble_eq_true rfl) rfl <| x_goto (tgt := 46) k5_190 (by decide) <| x_wk (ls := [some (.ref u), some (.int x1), some (.int x2), some (.int x3), some (.int x4), some (.int (x5 + 1)), none, none, none, none]) ⟨rfl, ⟨rfl, ⟨rfl, ⟨rfl, ⟨rfl, ⟨rfl, True.intro⟩⟩⟩⟩⟩⟩ <| (q1 h1)) (fun h1 => x_ild5 k5_73 <| x_ild3 k5_75 <| x_isub k5_76 <| x_mabs k5_77 m0_65 qs_abs qi_Math qk_abs (Nat.le_of_ble_eq_true rfl) (Nat.le_refl _) (Nat.le_refl _) <| x_ild1 k5_80 <| x_iconst (v := 1) k5_81 rfl <| x_iadd k5_82 <| x_iconst (v := 2) k5_83 rfl <| x_idiv k5_84 (by decide) <| x_icmpgt (tgt := 92) k5_85 (by decide) (fun h2 => x_iconst (v := 0) k5_92 rfl <| x_ist7 k5_93 (Nat.le_of_ble_eq_true rfl) rfl <| x_ild7 k5_95 <| x_ifeqT (tgt := 181) k5_97 (by decide) (show (0 : Int32) = 0 by decide) <| x_inc6 (c := 1) k5_181 rfl (Nat.le_of_ble_eq_true rfl) rfl <| x_goto (tgt := 61) k5_184 (by decide) <| x_wk (ls := [some (.ref u), some (.int x1), some (.int x2), some (.int x3), some (.int x4), some (.int x5), some (.int (x6 + 1)), none, none, none]) ⟨rfl, ⟨rfl, ⟨rfl, ⟨rfl, ⟨rfl, ⟨rfl, ⟨rfl, True.intro⟩⟩⟩⟩⟩⟩⟩ <| (q2 h1 h2)) (fun h2 => x_iconst (v := 1) k5_88 rfl <| x_goto (tgt := 93) k5_89 (by decide) <| x_ist7 k5_93 (Nat.le_of_ble_eq_true rfl) rfl <| x_ild7 k5_95 <| x_ifeqF (tgt := 181) k5_97 (by decide) (show ¬ (1 : Int32) = 0 by decide) <| x_ild6 k5_100 <| x_ild4 k5_102 <| x_isub k5_104 <| x_mabs k5_105 m0_65 qs_abs qi_Math qk_abs (Nat.le_of_ble_eq_true rfl) (Nat.le_refl _) (Nat.le_refl _) <| x_ild1 k5_108 <| x_iconst (v := 2) k5_109 rfl <| x_idiv k5_110 (by decide) <| x_icmpgt (tgt := 181) k5_111 (by decide) (fun h3 => x_inc6 (c := 1) k5_181 rfl (Nat.le_of_ble_eq_true rfl) rfl <| x_goto (tgt := 61) k5_184 (by decide) <| x_wk (ls := [some (.ref u), some (.int x1), some (.int x2), some (.int x3), some (.int x4), some (.int x5), some (.int (x6 + 1)), none, none, none]) ⟨rfl, ⟨rfl, ⟨rfl, ⟨rfl, ⟨rfl, ⟨rfl, ⟨rfl, True.intro⟩⟩⟩⟩⟩⟩⟩ <| (q3 h1 h2 h3)) (fun h3 => x_ild5 k5_114 <| x_ald0 k5_116 <| x_getR k5_117 f0_21_0 hd.1 rfl hd.2.2.2.2.2.2.2 <| x_getI k5_120 f0_54_1 (hK.at rfl) rfl <| x_imul k5_123 <| x_ild6 k5_124 <| x_iadd k5_126 <| x_ald0 k5_127 <| x_getI k5_128 f0_42_0 hd.1 rfl <| x_imul k5_131 <| x_ist8 k5_132 (Nat.le_of_ble_eq_true rfl) rfl <| x_ild2 k5_134 <| x_iconst (v := 1) k5_135 rfl <| x_icmpne (tgt := 154) k5_136 (by decide) (fun h4 => x_ald0 k5_154 <| x_getI k5_155 f0_42_0 hd.1 rfl <| x_ist9 k5_158 (Nat.le_of_ble_eq_true rfl) rfl <| x_ald0 k5_160 <| x_ild2 k5_161 <| x_ild2 k5_162 <| x_iconst (v := 1) k5_163 rfl <| x_icmpneT (tgt := 172) k5_164 (by decide) h4 <| x_ild6 k5_172 <| x_ild8 k5_174 <| x_ild9 k5_176 <| (q4 h1 h2 h3 h4)) (fun h4 => x_ald0 k5_139 <| x_getR k5_140 f0_21_0 hd.1 rfl hd.2.2.2.2.2.2.2 <| x_getI k5_143 f0_54_1 (hK.at rfl) rfl <| x_ald0 k5_146 <| x_getI k5_147 f0_42_0 hd.1 rfl <| x_imul k5_150 <| x_goto (tgt := 158) k5_151 (by decide) <| x_ist9 k5_158 (Nat.le_of_ble_eq_true rfl) rfl <| x_ald0 k5_160 <| x_ild2 k5_161 <| x_ild2 k5_162 <| x_iconst (v := 1) k5_163 rfl <| x_icmpneF (tgt := 172) k5_164 (by decide) h4 <| x_ild5 k5_167 <| x_goto (tgt := 174) k5_169 (by decide) <| x_ild8 k5_174 <| x_ild9 k5_176 <| (q5 h1 h2 h3 h4)))))
theorem f5 {u : Nat} {a : Int32} {b : Int32} {c : Int32} {x4 : Int32} {x5 : Int32} {x6 : Int32} {x7 : Int32} {x8 : Int32} {x9 : Int32}    (q1 : X d 0 0 5 0 0 61 [some (.ref u), some (.int a), some (.int b), some (.int c), some (.int x4), some (.int x5), some (.int (x6 + 1)), some (.int x7), some (.int x8), some (.int x9)] [] (K, I, L, R, sz) Q) : X d 0 0 5 0 0 181 [some (.ref u), some (.int a), some (.int b), some (.int c), some (.int x4), some (.int x5), some (.int x6), some (.int x7), some (.int x8), some (.int x9)] [] (K, I, L, R, sz) Q := x_inc6 (c := 1) k5_181 rfl (Nat.le_of_ble_eq_true rfl) rfl <| x_goto (tgt := 61) k5_184 (by decide) <| q1
theorem s5 {t r1 r2 : Nat} {V : Nat → Nat → Nat → Int32} (hK : qLay K sz) (hR : qRef R) (hd : qDl K R sz u nw tn) (dn : qDn u nw tn) (cI : CI I p) (dm : qDm I u p m1 m2) (hm1 : m1 < pM p) (hm2 : m2 < pM p) (h1 : I (30 + m1) 0 = nI r1) (h2 : I (30 + m2) 0 = nI r2) (w1 : r1 < 6) (w2 : r2 < 6) (ht : t < 16) (hT : tbl (I tn) p (nr r1 r2 (t + 1)) V) (hq : ∀ F, tbl F p (nr r1 r2 t) (fun a b o => (rvS I p m1 m2 (decide (t % 2 = 0)) V a b o).1) → Q none (K, va_up I nw F, L, R, sz)) : X (d + 3) 0 0 5 0 0 0 (qent (qml 5) [.ref u, .int (nI t)]) [] (K, I, L, R, sz) Q := by
  have w5 := cI.w5
  have w3 := cI.w3
  have w6 : pR p ≤ 6 := cI.1.2.1.1
  have w0 := p3_0 (pS p)
  have w9 := p3_5 w5
  have hne := dn.ne
  have lR : I 22 0 = nI (pR p) := cI.1.1.1
  obtain ⟨d3, d8, d6, d7⟩ := dm
  have dm : qDm I u p m1 m2 := ⟨d3, d8, d6, d7⟩
  have lRJ : ∀ F, (va_up I nw F) 22 0 = nI (pR p) := fun F => by rw [vu_n (by omega)]; exact lR
  have lOJ : ∀ F, (va_up I nw F) u 8 = nI (3 ^ pS p) := fun F => by rw [vu_n (by omega)]; exact d8
  have hin : ∀ (mv : Int32) (hmv : mv = if t % 2 = 0 then 1 else 2) (a : Nat) (ha : a < pR p)
      (hnx : ∀ F, tbl F p (fun a' b' => nr r1 r2 t a' b' ∧ a' < a + 1) (fun a b o => (rvS I p m1 m2 (decide (t % 2 = 0)) V a b o).1) → X (d + 3) 0 0 5 0 0 46 [some (.ref u), some (.int (nI t)), some (.int mv), some (.int (nI r1)), some (.int (nI r2)), some (.int (nI (a + 1))), none, none, none, none] [] (K, va_up I nw F, L, R, sz) Q) (k b : Nat) (hb : b + k = pR p) (F : Nat → Int32)
      (hF : tbl F p (fun a' b' => nr r1 r2 t a' b' ∧ (a' < a ∨ (a' = a ∧ b' < b))) (fun a b o => (rvS I p m1 m2 (decide (t % 2 = 0)) V a b o).1)),
      X (d + 3) 0 0 5 0 0 61 [some (.ref u), some (.int (nI t)), some (.int mv), some (.int (nI r1)), some (.int (nI r2)), some (.int (nI a)), some (.int (nI b)), none, none, none] [] (K, va_up I nw F, L, R, sz) Q := by
    intro mv hmv a ha hnx k
    induction k with
    | zero =>
      intro b hb F hF
      have hle : (va_up I nw F) 22 0 ≤ nI b := by rw [lRJ]; exact nI_le (by omega) (by omega)
      refine g5_61 hK hd (fun _ => ?_) (fun h => absurd hle h) (fun h => absurd hle h) (fun h => absurd hle h) (fun h => absurd hle h)
      rw [nI_1]
      exact hnx F (fun a' b' g1 g2 g3 o ho => hF a' b' g1 g2 ⟨g3.1, by omega⟩ o ho)
    | succ k ih =>
      intro b hb F hF
      have hnl : ¬ (va_up I nw F) 22 0 ≤ nI b := by rw [lRJ]; exact nI_ge (by omega) (by omega)
      have e1 : (nI t + 1) / 2 = nI ((t + 1) / 2) := by rw [nI_1, show (2 : Int32) = nI 2 from rfl, pk_div (by omega) (by omega) (by omega)]
      have e2 : nI t / 2 = nI (t / 2) := by rw [show (2 : Int32) = nI 2 from rfl, pk_div (by omega) (by omega) (by omega)]
      have hskip : ¬ nr r1 r2 t a b → X (d + 3) 0 0 5 0 0 61 [some (.ref u), some (.int (nI t)), some (.int mv), some (.int (nI r1)), some (.int (nI r2)), some (.int (nI a)), some (.int (nI b + 1)), none, none, none] [] (K, va_up I nw F, L, R, sz) Q := fun hn => by
        rw [nI_1]
        refine ih (b + 1) (by omega) F (fun a' b' g1 g2 g3 o ho => hF a' b' g1 g2 ⟨g3.1, ?_⟩ o ho)
        rcases g3.2 with g | ⟨g, g'⟩
        · exact Or.inl g
        · refine Or.inr ⟨g, ?_⟩
          have : b' ≠ b := fun q => hn (by rw [← q, ← g]; exact g3.1)
          omega
      have ebase : ((nI a * (va_up I nw F) 22 0 + nI b) * (va_up I nw F) u 8) = nI (ix p a b 0) := by rw [lRJ, lOJ, pk_mul, nI_add, pk_mul]; rfl
      have htn : (va_up I nw F) tn = I tn := vu_n (Ne.symm hne.2.2.1)
      have hlo : qLo I (va_up I nw F) := qLo.refl.up hne.1
      have hgo : nr r1 r2 t a b → ∀ x8 x9 : Int32, ∀ G, (∀ o, o < 3 ^ pS p → G o = (rvS I p m1 m2 (decide (t % 2 = 0)) V a b o).1) → X (d + 3) 0 0 5 0 0 181 [some (.ref u), some (.int (nI t)), some (.int mv), some (.int (nI r1)), some (.int (nI r2)), some (.int (nI a)), some (.int (nI b)), some (.int 1), some (.int x8), some (.int x9)] [] (K, va_up I nw (blk F (ix p a b 0) (3 ^ pS p) G), L, R, sz) Q := fun hn x8 x9 G hG => by
        refine f5 ?_
        rw [nI_1]
        refine x_wk2 (ih (b + 1) (by omega) _ (fun a' b' g1 g2 g3 o ho => ?_)) ⟨rfl, rfl, rfl, rfl, rfl, rfl, rfl, True.intro⟩
        by_cases hab : a' = a ∧ b' = b
        · obtain ⟨rfl, rfl⟩ := hab
          rw [@ix_0 p a' b' o, blk_i ho]
          exact hG o ho
        · rw [blk_n (by unfold ix; exact c_ne (rb_ne g2 (by omega) hab) ho)]
          refine hF a' b' g1 g2 ⟨g3.1, ?_⟩ o ho
          rcases g3.2 with g | ⟨g, g'⟩
          · exact Or.inl g
          · exact Or.inr ⟨g, by omega⟩
      have hb6 : b < pR p := by omega
      have hbd := ix_b w6 w5 ha hb6
      have cJ : CI (va_up I nw F) p := (af_up hne.1 cI).2
      have dJ : qDm (va_up I nw F) u p m1 m2 := dm_up dn dm
      rw [lRJ, lOJ] at ebase
      refine g5_61 hK hd (fun h => absurd h hnl) (fun _ g => ?_) (fun _ _ g => ?_) (fun _ g1 g2 g3 => ?_) (fun _ g1 g2 g3 => ?_)
      · rw [e1, absN (by omega) (by omega), nI_ltI (by omega) (by omega)] at g
        exact hskip (fun q => by have := q.1; omega)
      · rw [e2, absN (by omega) (by omega), nI_ltI (by omega) (by omega)] at g
        exact hskip (fun q => by have := q.2; omega)
      · rw [e1, absN (by omega) (by omega), nI_ltI (by omega) (by omega)] at g1
        rw [e2, absN (by omega) (by omega), nI_ltI (by omega) (by omega)] at g2
        have hn : nr r1 r2 t a b := ⟨by omega, by omega⟩
        have hpar : ¬ t % 2 = 0 := fun q => g3 (by rw [hmv, if_pos q])
        have hm : mv = 2 := by rw [hmv, if_neg hpar]
        subst hm
        rw [lRJ, lOJ, ebase]
        refine x_cV4 (MCz := 0) (MSz := 0) k5_178 v0_70_0 hd.1 (Nat.le_of_ble_eq_true rfl) (Nat.le_of_ble_eq_true rfl) (Nat.le_refl _) (Nat.le_refl _) <| s6 hK hR hd dn cJ dJ (Or.inr rfl) hb6 hbd (fun q => ?_) (fun q => ?_) (fun J hJ => ?_)
        · rw [← ix_r]; exact ix_b w6 w5 ha q
        · obtain ⟨b0, rfl⟩ : ∃ b0, b = b0 + 1 := ⟨b - 1, by omega⟩
          rw [ix_r]; omega
        · rw [hJ, vu_t, vu_s, htn]
          refine hgo hn _ _ _ (fun o ho => ?_)
          rw [decide_eq_false hpar]
          unfold rvS
          rw [dB_lo hlo w5]
          have hb1 : 0 < b → (b - 1) + 1 = b := fun q => by omega
          refine congrArg Prod.fst (dB_c ?_ (fun q => ?_) (fun q => ?_) (fun s hs => ?_))
          · exact hT a b ha hb6 ⟨by have := hn.1; omega, by have := hn.2; omega⟩ o ho
          · rw [← ix_r]; exact hT a (b + 1) ha q ⟨by have := hn.1; omega, by have := hn.2; omega⟩ o ho
          · have e := @ix_r p a (b - 1)
            rw [hb1 q] at e
            rw [e, Nat.add_sub_cancel]
            exact hT a (b - 1) ha (by omega) ⟨by have := hn.1; omega, by have := hn.2; omega⟩ o ho
          · exact hT a b ha hb6 ⟨by have := hn.1; omega, by have := hn.2; omega⟩ _ (thk_lt w5 hs ho (by decide))
      · rw [e1, absN (by omega) (by omega), nI_ltI (by omega) (by omega)] at g1
        rw [e2, absN (by omega) (by omega), nI_ltI (by omega) (by omega)] at g2
        have hn : nr r1 r2 t a b := ⟨by omega, by omega⟩
        have hpar : t % 2 = 0 := Classical.byContradiction fun q => by rw [hmv, if_neg q] at g3; exact absurd g3 (by decide)
        subst g3
        rw [lRJ, lOJ, ebase, pk_mul]
        refine x_cV4 (MCz := 0) (MSz := 0) k5_178 v0_70_0 hd.1 (Nat.le_of_ble_eq_true rfl) (Nat.le_of_ble_eq_true rfl) (Nat.le_refl _) (Nat.le_refl _) <| s6 hK hR hd dn cJ dJ (Or.inl rfl) ha hbd (fun q => ?_) (fun q => ?_) (fun J hJ => ?_)
        · rw [← ix_u]; exact ix_b w6 w5 q hb6
        · obtain ⟨a0, rfl⟩ : ∃ a0, a = a0 + 1 := ⟨a - 1, by omega⟩
          rw [ix_u]; omega
        · rw [hJ, vu_t, vu_s, htn]
          refine hgo hn _ _ _ (fun o ho => ?_)
          rw [decide_eq_true hpar]
          unfold rvS
          rw [dB_lo hlo w5]
          have ha1 : 0 < a → (a - 1) + 1 = a := fun q => by omega
          refine congrArg Prod.fst (dB_c ?_ (fun q => ?_) (fun q => ?_) (fun s hs => ?_))
          · exact hT a b ha hb6 ⟨by have := hn.1; omega, by have := hn.2; omega⟩ o ho
          · rw [← ix_u]; exact hT (a + 1) b q hb6 ⟨by have := hn.1; omega, by have := hn.2; omega⟩ o ho
          · have e := @ix_u p (a - 1) b
            rw [ha1 q] at e
            rw [e, Nat.add_sub_cancel]
            exact hT (a - 1) b (by omega) hb6 ⟨by have := hn.1; omega, by have := hn.2; omega⟩ o ho
          · exact hT a b ha hb6 ⟨by have := hn.1; omega, by have := hn.2; omega⟩ _ (thk_lt w5 hs ho (by decide))
  have hout : ∀ (mv : Int32) (hmv : mv = if t % 2 = 0 then 1 else 2) (k a : Nat) (ha : a + k = pR p) (F : Nat → Int32)
      (hF : tbl F p (fun a' b' => nr r1 r2 t a' b' ∧ a' < a) (fun a b o => (rvS I p m1 m2 (decide (t % 2 = 0)) V a b o).1)),
      X (d + 3) 0 0 5 0 0 46 [some (.ref u), some (.int (nI t)), some (.int mv), some (.int (nI r1)), some (.int (nI r2)), some (.int (nI a)), none, none, none, none] [] (K, va_up I nw F, L, R, sz) Q := by
    intro mv hmv k
    induction k with
    | zero =>
      intro a ha F hF
      have hle : (va_up I nw F) 22 0 ≤ nI a := by rw [lRJ]; exact nI_le (by omega) (by omega)
      exact g5_46 hK hd (fun _ => hq F (fun a' b' g1 g2 g3 o ho => hF a' b' g1 g2 ⟨g3, by omega⟩ o ho)) (fun h => absurd hle h)
    | succ k ih =>
      intro a ha F hF
      have hnl : ¬ (va_up I nw F) 22 0 ≤ nI a := by rw [lRJ]; exact nI_ge (by omega) (by omega)
      refine g5_46 hK hd (fun h => absurd h hnl) (fun _ => ?_)
      exact hin mv hmv a (by omega) (fun F' hF' => ih (a + 1) (by omega) F' hF') (pR p) 0 (by omega) F (fun a' b' g1 g2 g3 o ho => hF a' b' g1 g2 ⟨g3.1, by omega⟩ o ho)
  have e6 : (I u 6).toNatClampNeg = m1 := by rw [d6]; exact nI_c (by omega)
  have e7 : (I u 7).toNatClampNeg = m2 := by rw [d7]; exact nI_c (by omega)
  have v6 : vp_in (I u 6) 3 := by rw [d6]; exact vI (by omega) (by omega)
  have v7 : vp_in (I u 7) 3 := by rw [d7]; exact vI (by omega) (by omega)
  have et : nI t - nI t / 2 * 2 = nI (t % 2) := by
    rw [show (2 : Int32) = nI 2 from rfl, pk_div (by omega) (by omega) (by omega), pk_mul, pk_sub (by omega)]
    congr 1; omega
  have ez : nI (t % 2) = 0 ↔ t % 2 = 0 := nI_eq (b := 0) (by omega) (by omega)
  have hfin : ∀ mv : Int32, mv = (if t % 2 = 0 then 1 else 2) → X (d + 3) 0 0 5 0 0 46 [some (.ref u), some (.int (nI t)), some (.int mv), some (.int (nI r1)), some (.int (nI r2)), some (.int 0), none, none, none, none] [] (K, I, L, R, sz) Q := fun mv hmv => by
    have := hout mv hmv (pR p) 0 (by omega) (I nw) (fun a' b' g1 g2 g3 o ho => absurd g3.2 (by omega))
    rw [vu_id] at this
    exact this
  refine e5 hK hR hd (fun _ => v6) (fun _ => v7) (fun _ => v6) (fun _ => v7) (fun g => ?_) (fun g => ?_)
  · rw [et, ez] at g
    rw [e6, e7, h1, h2]
    exact hfin 2 (by rw [if_neg g])
  · rw [et, ez] at g
    rw [e6, e7, h1, h2]
    exact hfin 1 (by rw [if_pos g])

end L87
