/-! rivals: the class, blocks of owners -/
section L86a
variable {I : Nat → Nat → Int32} {p : qPa} {nw tn u m1 m2 : Nat}
theorem blk_cong {g : Nat → Int32} {b n : Nat} {F G : Nat → Int32} (h : ∀ o, o < n → F o = G o) : blk g b n F = blk g b n G := by
  funext i
  unfold blk
  split
  · exact h _ (by omega)
  · rfl
theorem blk_cpy {f g : Nat → Int32} {b n : Nat} : va_cpy f g b b n = blk g b n (fun o => f (b + o)) := rfl
def qBs (p : qPa) (a : Int32) : Prop := ∃ n, a = nI n ∧ n + 3 ^ pS p ≤ 8748
/-- the numbers of a duel's things -/
def qDn (u nw tn : Nat) : Prop := 107 ≤ u ∧ ((nw = u + 1 ∧ tn = u + 2) ∨ (nw = u + 2 ∧ tn = u + 1))
theorem qDn.ne (h : qDn u nw tn) : 107 ≤ nw ∧ 107 ≤ tn ∧ nw ≠ tn ∧ u ≠ nw ∧ u ≠ tn ∧ u + 3 ≠ nw ∧ u + 3 ≠ tn := by
  obtain ⟨h1, h2⟩ := h
  omega
theorem dm_up {F : Nat → Int32} (hn : qDn u nw tn) (h : qDm I u p m1 m2) : qDm (va_up I nw F) u p m1 m2 := by
  have := hn.ne
  unfold qDm
  rw [vu_n (show u + 3 ≠ nw by omega), vu_n (show u ≠ nw by omega)]
  exact h
theorem fr_hi {F : Nat → Int32} (h : 107 ≤ nw) : qFr scQ I (va_up I nw F) := qFr.up (fun k => fun q => by unfold kpQ at q; omega)
theorem af_up {F : Nat → Int32} (h : 107 ≤ nw) (c : CI I p) : qAf I p (va_up I nw F) :=
  ⟨fr_hi h, CI_fr (fr_hi h) (CI_jud (fr_hi h) (by rw [vu_n (by omega)]) (by rw [vu_n (by omega)]) c) c⟩
def betP (a : Int32) (r : Int32 × Int32) (w j : Int32) : Int32 × Int32 := if a = 1 then (if r.1 < w then (w, j) else r) else if w < r.1 then (w, j) else r
theorem bet_1 (a : Int32) (r : Int32 × Int32) (w j : Int32) : (betP a r w j).1 = bet a r.1 w := by
  unfold betP bet
  split <;> split <;> rfl
def bs2 (a : Int32) (bU bD : Bool) (v0 vU vD : Int32) : Int32 × Int32 :=
  if bD then betP a (if bU then betP a (v0, 0) vU 1 else (v0, 0)) vD 2 else (if bU then betP a (v0, 0) vU 1 else (v0, 0))
def bsT (a : Int32) (th : Nat → Bool) (vT : Nat → Int32) (r : Int32 × Int32) : Nat → Int32 × Int32
  | 0 => r
  | s + 1 => if th s then betP a (bsT a th vT r s) (vT s) (nI (3 + s)) else bsT a th vT r s
def dTh (I : Nat → Nat → Int32) (m r s : Nat) : Bool := decide (I (24 + s) 0 = nI r) && mayI I m s
def dBest (I : Nat → Nat → Int32) (p : qPa) (a : Int32) (m r : Nat) (v0 vU vD : Int32) (vT : Nat → Int32) : Int32 × Int32 := bsT a (dTh I m r) vT (bs2 a (decide (r + 1 < pR p)) (decide (0 < r)) v0 vU vD) (pS p)
theorem st_7 {J : Nat → Nat → Int32} {b n : Nat} {a j : Int32} {P : Nat → Int32 × Int32} {g : Nat → Nat} (hne : nw ≠ tn) (hJ : J = va_up I nw (blk (I nw) b n (fun o => (P o).1))) : va_up J nw (blk (J nw) b n (fun o => bet a (J nw (b + o)) (J tn (g o)))) = va_up I nw (blk (I nw) b n (fun o => (betP a (P o) (I tn (g o)) j).1)) := by
  subst hJ
  rw [vu_t, vu_s, vu_n (Ne.symm hne), blk_b]
  congr 1
  exact blk_cong (fun o ho => by rw [blk_i ho, bet_1])
end L86a
section L86
variable {d : Nat} {K : qK} {I : Nat → Nat → Int32} {L : Nat → Nat → Int64} {R : Nat → Nat → Option Nat} {sz : Nat} {Q : Option Value → qMem → Prop} {p : qPa} {nw tn u m1 m2 : Nat}
theorem e7 {a : Int32} {b : Int32} {c : Int32}    (q1 : X d 0 0 7 0 0 3 [some (.ref u), some (.int a), some (.int b), some (.int c), some (.int 0)] [] (K, I, L, R, sz) Q) : X d 0 0 7 0 0 0 (qent (qml 7) [.ref u, .int a, .int b, .int c]) [] (K, I, L, R, sz) Q := show X _ 0 0 7 0 0 0 [some (.ref u), some (.int a), some (.int b), some (.int c), none] [] _ _ from x_iconst (v := 0) k7_0 rfl <| x_ist4 k7_1 (Nat.le_of_ble_eq_true rfl) rfl <| q1
theorem g7_3 {u : Nat} {x1 : Int32} {x2 : Int32} {x3 : Int32} {x4 : Int32}  (hd : qDl K R sz u nw tn) (b1 : ¬ (I u 8) ≤ x4 → vp_in (x3 + x4) 8748) (b2 : ¬ (I u 8) ≤ x4 → vp_in (x2 + x4) 8748) (q1 : (I u 8) ≤ x4 → Q none (K, I, L, R, sz)) (q2 : ¬ (I u 8) ≤ x4 → ∀ I2 : Nat → Nat → Int32, I2 = va_up I nw (upd (I nw) (Int32.toNatClampNeg (x2 + x4)) (bet x1 (I nw (Int32.toNatClampNeg (x2 + x4))) (I tn ((x3 + x4).toNatClampNeg)))) → X (d + 1) 0 0 7 0 0 3 [some (.ref u), some (.int x1), some (.int x2), some (.int x3), some (.int (x4 + 1))] [] (K, I2, L, R, sz) Q) : X (d + 1) 0 0 7 0 0 3 [some (.ref u), some (.int x1), some (.int x2), some (.int x3), some (.int x4)] [] (K, I, L, R, sz) Q := x_ild4 k7_3 <| x_ald0 k7_5 <| x_getI k7_6 f0_42_0 hd.1 rfl <| x_icmpge (tgt := 36) k7_9 (by decide) (fun h1 => x_vret k7_36 rfl (Nat.le_refl _) (Nat.le_refl _) <| (q1 h1)) (fun h1 => x_ald0 k7_12 <| x_ild1 k7_13 <| x_ild2 k7_14 <| x_ild4 k7_15 <| x_iadd k7_17 <| x_ald0 k7_18 <| x_getR k7_19 f0_15_0 hd.1 rfl hd.2.2.2.2.2.1 <| x_ild3 k7_22 <| x_ild4 k7_23 <| x_iadd k7_25 <| x_iald k7_26 hd.2.2.1 (b1 h1) <| x_cV3 (MCz := 0) (MSz := 0) k7_27 v0_91_0 hd.1 (Nat.le_of_ble_eq_true rfl) (Nat.le_of_ble_eq_true rfl) (Nat.le_refl _) (Nat.le_refl _) <| s9 hd (b2 h1) (fun I2 g3 => x_inc4 (c := 1) k7_30 rfl (Nat.le_of_ble_eq_true rfl) rfl <| x_goto (tgt := 3) k7_33 (by decide) <| (q2 h1 I2 g3)))
theorem e8 {a : Int32} {b : Int32} {c : Int32}    (q1 : X d 0 0 8 0 0 3 [some (.ref u), some (.int a), some (.int b), some (.int c), some (.int 0), none] [] (K, I, L, R, sz) Q) : X d 0 0 8 0 0 0 (qent (qml 8) [.ref u, .int a, .int b, .int c]) [] (K, I, L, R, sz) Q := show X _ 0 0 8 0 0 0 [some (.ref u), some (.int a), some (.int b), some (.int c), none, none] [] _ _ from x_iconst (v := 0) k8_0 rfl <| x_ist4 k8_1 (Nat.le_of_ble_eq_true rfl) rfl <| q1
theorem g8_3 {u : Nat} {x1 : Int32} {x2 : Int32} {x3 : Int32} {x4 : Int32}  (hd : qDl K R sz u nw tn) (wp : pS p ≤ 5) (dm : qDm I u p m1 m2) (b1 : ¬ (I u 8) ≤ x4 → qIn (3 ^ pS p) x4) (b2 : ¬ (I u 8) ≤ x4 → qIn (pS p) x3) (b3 : ¬ (I u 8) ≤ x4 → vp_in x3 5) (b4 : ¬ (I u 8) ≤ x4 → vp_in (x2 + (x4 + ((x1 - (nI (owN (Int32.toNatClampNeg x4) (Int32.toNatClampNeg x3)))) * (I (u + 3) x3.toNatClampNeg)))) 8748) (b5 : ¬ (I u 8) ≤ x4 → vp_in (x2 + x4) 8748) (q1 : (I u 8) ≤ x4 → Q none (K, I, L, R, sz)) (q2 : ¬ (I u 8) ≤ x4 → ∀ I2 : Nat → Nat → Int32, I2 = va_up I nw (upd (I nw) (Int32.toNatClampNeg (x2 + x4)) (bet x1 (I nw (Int32.toNatClampNeg (x2 + x4))) (I tn ((x2 + (x4 + ((x1 - (nI (owN (Int32.toNatClampNeg x4) (Int32.toNatClampNeg x3)))) * (I (u + 3) x3.toNatClampNeg)))).toNatClampNeg)))) → X (d + 1) 0 0 8 0 0 3 [some (.ref u), some (.int x1), some (.int x2), some (.int x3), some (.int (x4 + 1)), none] [] (K, I2, L, R, sz) Q) : X (d + 1) 0 0 8 0 0 3 [some (.ref u), some (.int x1), some (.int x2), some (.int x3), some (.int x4), none] [] (K, I, L, R, sz) Q := x_ild4 k8_3 <| x_ald0 k8_5 <| x_getI k8_6 f0_42_0 hd.1 rfl <| x_icmpge (tgt := 57) k8_9 (by decide) (fun h1 => x_vret k8_57 rfl (Nat.le_refl _) (Nat.le_refl _) <| (q1 h1)) (fun h1 => x_ild4 k8_12 <| x_ild1 k8_14 <| x_ald0 k8_15 <| x_ild4 k8_16 <| x_ild3 k8_18 <| x_cV2 (MCz := 0) (MSz := 0) k8_19 v0_57_0 hd.1 (Nat.le_of_ble_eq_true rfl) (Nat.le_of_ble_eq_true rfl) (Nat.le_refl _) (Nat.le_refl _) <| z4 hd wp dm (b1 h1) (b2 h1) (x_isub k8_22 <| x_ald0 k8_23 <| x_getR k8_24 f0_18_0 hd.1 rfl hd.2.2.2.2.2.2.1 <| x_ild3 k8_27 <| x_iald k8_28 hd.2.2.2.1 (b3 h1) <| x_imul k8_29 <| x_iadd k8_30 <| x_ist5 k8_31 (Nat.le_of_ble_eq_true rfl) rfl <| x_ald0 k8_33 <| x_ild1 k8_34 <| x_ild2 k8_35 <| x_ild4 k8_36 <| x_iadd k8_38 <| x_ald0 k8_39 <| x_getR k8_40 f0_15_0 hd.1 rfl hd.2.2.2.2.2.1 <| x_ild2 k8_43 <| x_ild5 k8_44 <| x_iadd k8_46 <| x_iald k8_47 hd.2.2.1 (b4 h1) <| x_cV3 (MCz := 0) (MSz := 0) k8_48 v0_91_0 hd.1 (Nat.le_of_ble_eq_true rfl) (Nat.le_of_ble_eq_true rfl) (Nat.le_refl _) (Nat.le_refl _) <| s9 hd (b5 h1) (fun I2 g3 => x_inc4 (c := 1) k8_51 rfl (Nat.le_of_ble_eq_true rfl) rfl <| x_goto (tgt := 3) k8_54 (by decide) <| x_wk (ls := [some (.ref u), some (.int x1), some (.int x2), some (.int x3), some (.int (x4 + 1)), none]) ⟨rfl, ⟨rfl, ⟨rfl, ⟨rfl, ⟨rfl, True.intro⟩⟩⟩⟩⟩ <| (q2 h1 I2 g3))))
theorem s7 {a b c : Int32} (hd : qDl K R sz u nw tn) (wp : pS p ≤ 5) (dn : qDn u nw tn) (dm : qDm I u p m1 m2) (hb : qBs p b) (hc : qBs p c) (hq : ∀ J, J = va_up I nw (blk (I nw) (Int32.toNatClampNeg b) (3 ^ pS p) (fun o => bet a (I nw (Int32.toNatClampNeg b + o)) (I tn (Int32.toNatClampNeg c + o)))) → Q none (K, J, L, R, sz)) : X (d + 1) 0 0 7 0 0 0 (qent (qml 7) [.ref u, .int a, .int b, .int c]) [] (K, I, L, R, sz) Q := by
  obtain ⟨n1, rfl, b1⟩ := hb
  obtain ⟨n2, rfl, b2⟩ := hc
  have w3 : 3 ^ pS p ≤ 243 := p3_5 wp
  have hne := dn.ne
  have w0 := p3_0 (pS p)
  have ho : I u 8 = nI (3 ^ pS p) := dm.2.1
  rw [nI_c (by omega), nI_c (by omega)] at hq
  have hl : ∀ (k i : Nat), i + k = 3 ^ pS p → X (d + 1) 0 0 7 0 0 3 [some (.ref u), some (.int a), some (.int (nI n1)), some (.int (nI n2)), some (.int (nI i))] [] (K, va_up I nw (blk (I nw) n1 i (fun o => bet a (I nw (n1 + o)) (I tn (n2 + o)))), L, R, sz) Q := by
    intro k
    induction k with
    | zero =>
      intro i hi
      have hle : (va_up I nw (blk (I nw) n1 i (fun o => bet a (I nw (n1 + o)) (I tn (n2 + o))))) u 8 ≤ nI i := by rw [vu_n (by omega), ho]; exact nI_le (by omega) (by omega)
      have : i = 3 ^ pS p := by omega
      subst this
      exact g7_3 hd (fun h => absurd hle h) (fun h => absurd hle h) (fun _ => hq _ rfl) (fun h => absurd hle h)
    | succ k ih =>
      intro i hi
      have hnl : ¬ (va_up I nw (blk (I nw) n1 i (fun o => bet a (I nw (n1 + o)) (I tn (n2 + o))))) u 8 ≤ nI i := by rw [vu_n (by omega), ho]; exact nI_ge (by omega) (by omega)
      refine g7_3 hd (fun _ => by rw [nI_add]; exact vI (by omega) (by omega)) (fun _ => by rw [nI_add]; exact vI (by omega) (by omega)) (fun h => absurd h hnl) (fun _ J hJ => ?_)
      rw [nI_add, nI_add, nI_c (by omega), nI_c (by omega), vu_s, vu_t, vu_n (show tn ≠ nw by omega), blk_n (show ¬ (n1 ≤ n1 + i ∧ n1 + i < n1 + i) by omega), blk_s (F := fun o => bet a (I nw (n1 + o)) (I tn (n2 + o)))] at hJ
      rw [hJ, nI_1]
      exact ih (i + 1) (by omega)
  have := hl (3 ^ pS p) 0 (by omega)
  rw [blk_0, vu_id] at this
  exact e7 this
theorem s8 {a b c : Int32} (hd : qDl K R sz u nw tn) (wp : pS p ≤ 5) (dn : qDn u nw tn) (dm : qDm I u p m1 m2) (ha : a = 1 ∨ a = 2) (hb : qBs p b) (hc : qIn (pS p) c) (hq : ∀ J, J = va_up I nw (blk (I nw) (Int32.toNatClampNeg b) (3 ^ pS p) (fun o => bet a (I nw (Int32.toNatClampNeg b + o)) (I tn (Int32.toNatClampNeg b + thk (if a = 1 then 1 else 2) o (Int32.toNatClampNeg c))))) → Q none (K, J, L, R, sz)) : X (d + 1) 0 0 8 0 0 0 (qent (qml 8) [.ref u, .int a, .int b, .int c]) [] (K, I, L, R, sz) Q := by
  obtain ⟨n1, rfl, b1⟩ := hb
  obtain ⟨s, hs, rfl⟩ := hc
  have w3 : 3 ^ pS p ≤ 243 := p3_5 wp
  have hne := dn.ne
  have w0 := p3_0 (pS p)
  have ho : I u 8 = nI (3 ^ pS p) := dm.2.1
  have es : (nI s).toNatClampNeg = s := nI_c (by omega)
  rw [nI_c (by omega), es] at hq
  obtain ⟨w, hw, hwa, haw⟩ : ∃ w, w ≤ 2 ∧ (if a = 1 then 1 else 2) = w ∧ a = nI w := by
    rcases ha with rfl | rfl
    · exact ⟨1, by omega, rfl, rfl⟩
    · exact ⟨2, by omega, rfl, rfl⟩
  rw [hwa] at hq
  have hl : ∀ (k i : Nat), i + k = 3 ^ pS p → X (d + 1) 0 0 8 0 0 3 [some (.ref u), some (.int a), some (.int (nI n1)), some (.int (nI s)), some (.int (nI i)), none] [] (K, va_up I nw (blk (I nw) n1 i (fun o => bet a (I nw (n1 + o)) (I tn (n1 + thk w o s)))), L, R, sz) Q := by
    intro k
    induction k with
    | zero =>
      intro i hi
      have hle : (va_up I nw (blk (I nw) n1 i (fun o => bet a (I nw (n1 + o)) (I tn (n1 + thk w o s))))) u 8 ≤ nI i := by rw [vu_n (by omega), ho]; exact nI_le (by omega) (by omega)
      have : i = 3 ^ pS p := by omega
      subst this
      exact g8_3 hd wp (dm_up dn dm) (fun h => absurd hle h) (fun h => absurd hle h) (fun h => absurd hle h) (fun h => absurd hle h) (fun h => absurd hle h) (fun _ => hq _ rfl) (fun h => absurd hle h)
    | succ k ih =>
      intro i hi
      have hnl : ¬ (va_up I nw (blk (I nw) n1 i (fun o => bet a (I nw (n1 + o)) (I tn (n1 + thk w o s))))) u 8 ≤ nI i := by rw [vu_n (by omega), ho]; exact nI_ge (by omega) (by omega)
      have ht := thk_lt wp hs (show i < 3 ^ pS p by omega) hw
      have ei : (nI i).toNatClampNeg = i := nI_c (by omega)
      have e1 : nI n1 + (nI i + (a - nI (owN (Int32.toNatClampNeg (nI i)) (Int32.toNatClampNeg (nI s)))) * (va_up I nw (blk (I nw) n1 i (fun o => bet a (I nw (n1 + o)) (I tn (n1 + thk w o s))))) (u + 3) (nI s).toNatClampNeg) = nI (n1 + thk w i s) := by
        rw [ei, es, vu_n (by omega), dm.1 s hs, haw, thk_I, nI_add]
      refine g8_3 hd wp (dm_up dn dm) (fun _ => ⟨i, by omega, rfl⟩) (fun _ => ⟨s, hs, rfl⟩) (fun _ => vI (by omega) (by omega)) (fun _ => by rw [e1]; exact vI (by omega) (by omega)) (fun _ => by rw [nI_add]; exact vI (by omega) (by omega)) (fun h => absurd h hnl) (fun _ J hJ => ?_)
      rw [e1, nI_add, nI_c (by omega), nI_c (by omega), vu_s, vu_t, vu_n (show tn ≠ nw by omega), blk_n (show ¬ (n1 ≤ n1 + i ∧ n1 + i < n1 + i) by omega), blk_s (F := fun o => bet a (I nw (n1 + o)) (I tn (n1 + thk w o s)))] at hJ
      rw [hJ, nI_1]
      exact ih (i + 1) (by omega)
  have := hl (3 ^ pS p) 0 (by omega)
  rw [blk_0, vu_id] at this
  exact e8 this

theorem e6 {a : Int32} {b : Int32} {c : Int32} {e : Int32}  {u : Nat} (hK : qLay K sz) (hd : qDl K R sz u nw tn) (wp : pS p ≤ 5) (dn : qDn u nw tn) (b1 : ¬ c < 0) (b2 : ¬ (I u 8) < 0) (b3 : c.toNatClampNeg + (I u 8).toNatClampNeg ≤ 8748) (b4 : ∀ I1 : Nat → Nat → Int32, I1 = va_up I nw (va_cpy (I tn) (I nw) c.toNatClampNeg c.toNatClampNeg ((I u 8).toNatClampNeg)) → (I1 22 0) ≤ (b + 1) → ¬ b ≤ 0 → qDm I1 u p m1 m2) (b5 : ∀ I1 : Nat → Nat → Int32, I1 = va_up I nw (va_cpy (I tn) (I nw) c.toNatClampNeg c.toNatClampNeg ((I u 8).toNatClampNeg)) → (I1 22 0) ≤ (b + 1) → ¬ b ≤ 0 → qBs p c) (b6 : ∀ I1 : Nat → Nat → Int32, I1 = va_up I nw (va_cpy (I tn) (I nw) c.toNatClampNeg c.toNatClampNeg ((I u 8).toNatClampNeg)) → (I1 22 0) ≤ (b + 1) → ¬ b ≤ 0 → qBs p (c - e)) (b7 : ∀ I1 : Nat → Nat → Int32, I1 = va_up I nw (va_cpy (I tn) (I nw) c.toNatClampNeg c.toNatClampNeg ((I u 8).toNatClampNeg)) → ¬ (I1 22 0) ≤ (b + 1) → qDm I1 u p m1 m2) (b8 : ∀ I1 : Nat → Nat → Int32, I1 = va_up I nw (va_cpy (I tn) (I nw) c.toNatClampNeg c.toNatClampNeg ((I u 8).toNatClampNeg)) → ¬ (I1 22 0) ≤ (b + 1) → qBs p c) (b9 : ∀ I1 : Nat → Nat → Int32, I1 = va_up I nw (va_cpy (I tn) (I nw) c.toNatClampNeg c.toNatClampNeg ((I u 8).toNatClampNeg)) → ¬ (I1 22 0) ≤ (b + 1) → qBs p (c + e)) (b10 : ∀ I1 : Nat → Nat → Int32, I1 = va_up I nw (va_cpy (I tn) (I nw) c.toNatClampNeg c.toNatClampNeg ((I u 8).toNatClampNeg)) → ¬ (I1 22 0) ≤ (b + 1) → ∀ I7 : Nat → Nat → Int32, I7 = va_up I1 nw (blk (I1 nw) (Int32.toNatClampNeg c) (3 ^ pS p) (fun o => bet a (I1 nw (Int32.toNatClampNeg c + o)) (I1 tn (Int32.toNatClampNeg (c + e) + o)))) → ¬ b ≤ 0 → qDm I7 u p m1 m2) (b11 : ∀ I1 : Nat → Nat → Int32, I1 = va_up I nw (va_cpy (I tn) (I nw) c.toNatClampNeg c.toNatClampNeg ((I u 8).toNatClampNeg)) → ¬ (I1 22 0) ≤ (b + 1) → ∀ I7 : Nat → Nat → Int32, I7 = va_up I1 nw (blk (I1 nw) (Int32.toNatClampNeg c) (3 ^ pS p) (fun o => bet a (I1 nw (Int32.toNatClampNeg c + o)) (I1 tn (Int32.toNatClampNeg (c + e) + o)))) → ¬ b ≤ 0 → qBs p (c - e)) (q1 : ∀ I1 : Nat → Nat → Int32, I1 = va_up I nw (va_cpy (I tn) (I nw) c.toNatClampNeg c.toNatClampNeg ((I u 8).toNatClampNeg)) → (I1 22 0) ≤ (b + 1) → b ≤ 0 → X (d + 2) 0 0 6 0 0 57 [some (.ref u), some (.int a), some (.int b), some (.int c), some (.int e), some (.int 0)] [] (K, I1, L, R, sz) Q) (q2 : ∀ I1 : Nat → Nat → Int32, I1 = va_up I nw (va_cpy (I tn) (I nw) c.toNatClampNeg c.toNatClampNeg ((I u 8).toNatClampNeg)) → (I1 22 0) ≤ (b + 1) → ¬ b ≤ 0 → ∀ I5 : Nat → Nat → Int32, I5 = va_up I1 nw (blk (I1 nw) (Int32.toNatClampNeg c) (3 ^ pS p) (fun o => bet a (I1 nw (Int32.toNatClampNeg c + o)) (I1 tn (Int32.toNatClampNeg (c - e) + o)))) → X (d + 2) 0 0 6 0 0 57 [some (.ref u), some (.int a), some (.int b), some (.int c), some (.int e), some (.int 0)] [] (K, I5, L, R, sz) Q) (q3 : ∀ I1 : Nat → Nat → Int32, I1 = va_up I nw (va_cpy (I tn) (I nw) c.toNatClampNeg c.toNatClampNeg ((I u 8).toNatClampNeg)) → ¬ (I1 22 0) ≤ (b + 1) → ∀ I7 : Nat → Nat → Int32, I7 = va_up I1 nw (blk (I1 nw) (Int32.toNatClampNeg c) (3 ^ pS p) (fun o => bet a (I1 nw (Int32.toNatClampNeg c + o)) (I1 tn (Int32.toNatClampNeg (c + e) + o)))) → b ≤ 0 → X (d + 2) 0 0 6 0 0 57 [some (.ref u), some (.int a), some (.int b), some (.int c), some (.int e), some (.int 0)] [] (K, I7, L, R, sz) Q) (q4 : ∀ I1 : Nat → Nat → Int32, I1 = va_up I nw (va_cpy (I tn) (I nw) c.toNatClampNeg c.toNatClampNeg ((I u 8).toNatClampNeg)) → ¬ (I1 22 0) ≤ (b + 1) → ∀ I7 : Nat → Nat → Int32, I7 = va_up I1 nw (blk (I1 nw) (Int32.toNatClampNeg c) (3 ^ pS p) (fun o => bet a (I1 nw (Int32.toNatClampNeg c + o)) (I1 tn (Int32.toNatClampNeg (c + e) + o)))) → ¬ b ≤ 0 → ∀ I10 : Nat → Nat → Int32, I10 = va_up I7 nw (blk (I7 nw) (Int32.toNatClampNeg c) (3 ^ pS p) (fun o => bet a (I7 nw (Int32.toNatClampNeg c + o)) (I7 tn (Int32.toNatClampNeg (c - e) + o)))) → X (d + 2) 0 0 6 0 0 57 [some (.ref u), some (.int a), some (.int b), some (.int c), some (.int e), some (.int 0)] [] (K, I10, L, R, sz) Q) : X (d + 2) 0 0 6 0 0 0 (qent (qml 6) [.ref u, .int a, .int b, .int c, .int e]) [] (K, I, L, R, sz) Q := show X _ 0 0 6 0 0 0 [some (.ref u), some (.int a), some (.int b), some (.int c), some (.int e), none] [] _ _ from x_ald0 k6_0 <| x_getR k6_1 f0_15_0 hd.1 rfl hd.2.2.2.2.2.1 <| x_ild3 k6_4 <| x_ald0 k6_5 <| x_getR k6_6 f0_11_0 hd.1 rfl hd.2.2.2.2.1 <| x_ild3 k6_9 <| x_ald0 k6_10 <| x_getI k6_11 f0_42_0 hd.1 rfl <| x_copy k6_14 m0_74 qnat_copy qs_copy qi_System hd.2.2.1 hd.2.1 b1 b1 b2 b3 b3 (Nat.le_of_ble_eq_true rfl) <| x_nm fun I1 e2 => x_ild2 k6_17 <| x_iconst (v := 1) k6_18 rfl <| x_iadd k6_19 <| x_ald0 k6_20 <| x_getR k6_21 f0_21_0 hd.1 rfl hd.2.2.2.2.2.2.2 <| x_getI k6_24 f0_54_1 (hK.at rfl) rfl <| x_icmpge (tgt := 40) k6_27 (by decide) (fun h3 => x_ild2 k6_40 <| x_ifle (tgt := 54) k6_41 (by decide) (fun h4 => x_iconst (v := 0) k6_54 rfl <| x_ist5 k6_55 (Nat.le_of_ble_eq_true rfl) rfl <| (q1 I1 e2 h3 h4)) (fun h4 => x_ald0 k6_44 <| x_ild1 k6_45 <| x_ild3 k6_46 <| x_ild3 k6_47 <| x_ild4 k6_48 <| x_isub k6_50 <| x_cV3 (MCz := 0) (MSz := 0) k6_51 v0_80_0 hd.1 (Nat.le_of_ble_eq_true rfl) (Nat.le_of_ble_eq_true rfl) (Nat.le_refl _) (Nat.le_refl _) <| s7 hd wp dn (b4 I1 e2 h3 h4) (b5 I1 e2 h3 h4) (b6 I1 e2 h3 h4) (fun I5 g6 => x_iconst (v := 0) k6_54 rfl <| x_ist5 k6_55 (Nat.le_of_ble_eq_true rfl) rfl <| (q2 I1 e2 h3 h4 I5 g6)))) (fun h3 => x_ald0 k6_30 <| x_ild1 k6_31 <| x_ild3 k6_32 <| x_ild3 k6_33 <| x_ild4 k6_34 <| x_iadd k6_36 <| x_cV3 (MCz := 0) (MSz := 0) k6_37 v0_80_0 hd.1 (Nat.le_of_ble_eq_true rfl) (Nat.le_of_ble_eq_true rfl) (Nat.le_refl _) (Nat.le_refl _) <| s7 hd wp dn (b7 I1 e2 h3) (b8 I1 e2 h3) (b9 I1 e2 h3) (fun I7 g8 => x_ild2 k6_40 <| x_ifle (tgt := 54) k6_41 (by decide) (fun h9 => x_iconst (v := 0) k6_54 rfl <| x_ist5 k6_55 (Nat.le_of_ble_eq_true rfl) rfl <| (q3 I1 e2 h3 I7 g8 h9)) (fun h9 => x_ald0 k6_44 <| x_ild1 k6_45 <| x_ild3 k6_46 <| x_ild3 k6_47 <| x_ild4 k6_48 <| x_isub k6_50 <| x_cV3 (MCz := 0) (MSz := 0) k6_51 v0_80_0 hd.1 (Nat.le_of_ble_eq_true rfl) (Nat.le_of_ble_eq_true rfl) (Nat.le_refl _) (Nat.le_refl _) <| s7 hd wp dn (b10 I1 e2 h3 I7 g8 h9) (b8 I1 e2 h3) (b11 I1 e2 h3 I7 g8 h9) (fun I10 g11 => x_iconst (v := 0) k6_54 rfl <| x_ist5 k6_55 (Nat.le_of_ble_eq_true rfl) rfl <| (q4 I1 e2 h3 I7 g8 h9 I10 g11)))))
theorem g6_57 {u : Nat} {x1 : Int32} {x2 : Int32} {x3 : Int32} {x4 : Int32} {x5 : Int32}  (hK : qLay K sz) (hR : qRef R) (cI : CI I p) (hd : qDl K R sz u nw tn) (wp : pS p ≤ 5) (dm : qDm I u p m1 m2) (dn : qDn u nw tn) (b1 : ¬ (I 22 1) ≤ x5 → qIn (pS p) x5) (b2 : ¬ (I 22 1) ≤ x5 → I (24 + Int32.toNatClampNeg x5) 0 = x2 ∧ mayI I (if x1 = 1 then m1 else m2) (Int32.toNatClampNeg x5) = true → qDm I u p m1 m2) (b3 : ¬ (I 22 1) ≤ x5 → I (24 + Int32.toNatClampNeg x5) 0 = x2 ∧ mayI I (if x1 = 1 then m1 else m2) (Int32.toNatClampNeg x5) = true → x1 = 1 ∨ x1 = 2) (b4 : ¬ (I 22 1) ≤ x5 → I (24 + Int32.toNatClampNeg x5) 0 = x2 ∧ mayI I (if x1 = 1 then m1 else m2) (Int32.toNatClampNeg x5) = true → qBs p x3) (q1 : (I 22 1) ≤ x5 → Q none (K, I, L, R, sz)) (q2 : ¬ (I 22 1) ≤ x5 → I (24 + Int32.toNatClampNeg x5) 0 = x2 ∧ mayI I (if x1 = 1 then m1 else m2) (Int32.toNatClampNeg x5) = true → ∀ I3 : Nat → Nat → Int32, I3 = va_up I nw (blk (I nw) (Int32.toNatClampNeg x3) (3 ^ pS p) (fun o => bet x1 (I nw (Int32.toNatClampNeg x3 + o)) (I tn (Int32.toNatClampNeg x3 + thk (if x1 = 1 then 1 else 2) o (Int32.toNatClampNeg x5))))) → X (d + 2) 0 0 6 0 0 57 [some (.ref u), some (.int x1), some (.int x2), some (.int x3), some (.int x4), some (.int (x5 + 1))] [] (K, I3, L, R, sz) Q) (q3 : ¬ (I 22 1) ≤ x5 → ¬ (I (24 + Int32.toNatClampNeg x5) 0 = x2 ∧ mayI I (if x1 = 1 then m1 else m2) (Int32.toNatClampNeg x5) = true) → X (d + 2) 0 0 6 0 0 57 [some (.ref u), some (.int x1), some (.int x2), some (.int x3), some (.int x4), some (.int (x5 + 1))] [] (K, I, L, R, sz) Q) : X (d + 2) 0 0 6 0 0 57 [some (.ref u), some (.int x1), some (.int x2), some (.int x3), some (.int x4), some (.int x5)] [] (K, I, L, R, sz) Q := x_ild5 k6_57 <| x_ald0 k6_59 <| x_getR k6_60 f0_21_0 hd.1 rfl hd.2.2.2.2.2.2.2 <| x_getI k6_63 f0_45_1 (hK.at rfl) rfl <| x_icmpge (tgt := 94) k6_66 (by decide) (fun h1 => x_vret k6_94 rfl (Nat.le_refl _) (Nat.le_refl _) <| (q1 h1)) (fun h1 => x_ald0 k6_69 <| x_ild1 k6_70 <| x_ild2 k6_71 <| x_ild5 k6_72 <| x_cV3 (MCz := 0) (MSz := 0) k6_74 v0_84_0 hd.1 (Nat.le_of_ble_eq_true rfl) (Nat.le_of_ble_eq_true rfl) (Nat.le_refl _) (Nat.le_refl _) <| s10 hK hR hd cI dm (b1 h1) (fun g2 => x_ifeqF (tgt := 88) k6_77 (by decide) (show ¬ (1 : Int32) = 0 by decide) <| x_ald0 k6_80 <| x_ild1 k6_81 <| x_ild3 k6_82 <| x_ild5 k6_83 <| x_cV3 (MCz := 0) (MSz := 0) k6_85 v0_88_0 hd.1 (Nat.le_of_ble_eq_true rfl) (Nat.le_of_ble_eq_true rfl) (Nat.le_refl _) (Nat.le_refl _) <| s8 hd wp dn (b2 h1 g2) (b3 h1 g2) (b4 h1 g2) (b1 h1) (fun I3 g4 => x_inc5 (c := 1) k6_88 rfl (Nat.le_of_ble_eq_true rfl) rfl <| x_goto (tgt := 57) k6_91 (by decide) <| (q2 h1 g2 I3 g4))) (fun g5 => x_ifeqT (tgt := 88) k6_77 (by decide) (show (0 : Int32) = 0 by decide) <| x_inc5 (c := 1) k6_88 rfl (Nat.le_of_ble_eq_true rfl) rfl <| x_goto (tgt := 57) k6_91 (by decide) <| (q3 h1 g5)))
theorem s6 {a : Int32} {r b w : Nat} (hK : qLay K sz) (hR : qRef R) (hd : qDl K R sz u nw tn) (dn : qDn u nw tn) (cI : CI I p) (dm : qDm I u p m1 m2) (ha : a = 1 ∨ a = 2) (hr : r < pR p) (hb : b + 3 ^ pS p ≤ 8748) (hu : r + 1 < pR p → b + w + 3 ^ pS p ≤ 8748) (hw : 0 < r → w ≤ b) (hq : ∀ J, J = va_up I nw (blk (I nw) b (3 ^ pS p) (fun o => (dBest I p a (if a = 1 then m1 else m2) r (I tn (b + o)) (I tn (b + w + o)) (I tn (b - w + o)) (fun s => I tn (b + thk (if a = 1 then 1 else 2) o s))).1)) → Q none (K, J, L, R, sz)) : X (d + 2) 0 0 6 0 0 0 (qent (qml 6) [.ref u, .int a, .int (nI r), .int (nI b), .int (nI w)]) [] (K, I, L, R, sz) Q := by
  have w5 := cI.w5
  have w3 : 3 ^ pS p ≤ 243 := p3_5 w5
  have hne := dn.ne
  have w0 := p3_0 (pS p)
  have lS := cI.lS
  have lR : I 22 0 = nI (pR p) := cI.1.1.1
  have w6 : pR p ≤ 6 := cI.1.2.1.1
  have ho : I u 8 = nI (3 ^ pS p) := dm.2.1
  have eb : (nI b).toNatClampNeg = b := nI_c (by omega)
  have eo : (I u 8).toNatClampNeg = 3 ^ pS p := by rw [ho]; exact nI_c (by omega)
  have hl : ∀ (r2 : Nat → Int32 × Int32) (k i : Nat), i + k = pS p → (∀ J, J = va_up I nw (blk (I nw) b (3 ^ pS p) (fun o => (bsT a (dTh I (if a = 1 then m1 else m2) r) (fun s => I tn (b + thk (if a = 1 then 1 else 2) o s)) (r2 o) (pS p)).1)) → Q none (K, J, L, R, sz)) → ∀ J, J = va_up I nw (blk (I nw) b (3 ^ pS p) (fun o => (bsT a (dTh I (if a = 1 then m1 else m2) r) (fun s => I tn (b + thk (if a = 1 then 1 else 2) o s)) (r2 o) i).1)) → X (d + 2) 0 0 6 0 0 57 [some (.ref u), some (.int a), some (.int (nI r)), some (.int (nI b)), some (.int (nI w)), some (.int (nI i))] [] (K, J, L, R, sz) Q := by
    intro r2 k
    induction k with
    | zero =>
      intro i hi hq J hJ
      have cJ : CI J p := by rw [hJ]; exact (af_up hne.1 cI).2
      have dJ : qDm J u p m1 m2 := by rw [hJ]; exact dm_up dn dm
      have hle : J 22 1 ≤ nI i := by rw [cJ.lS]; exact nI_le (by omega) (by omega)
      have : i = pS p := by omega
      subst this
      exact g6_57 hK hR cJ hd w5 dJ dn (fun h => absurd hle h) (fun h => absurd hle h) (fun h => absurd hle h) (fun h => absurd hle h) (fun _ => hq J hJ) (fun h => absurd hle h) (fun h => absurd hle h)
    | succ k ih =>
      intro i hi hq J hJ
      have cJ : CI J p := by rw [hJ]; exact (af_up hne.1 cI).2
      have dJ : qDm J u p m1 m2 := by rw [hJ]; exact dm_up dn dm
      have hnl : ¬ J 22 1 ≤ nI i := by rw [cJ.lS]; exact nI_ge (by omega) (by omega)
      have ei : (nI i).toNatClampNeg = i := nI_c (by omega)
      have hi5 : 24 + i < 107 := by omega
      have hth : (J (24 + Int32.toNatClampNeg (nI i)) 0 = nI r ∧ mayI J (if a = 1 then m1 else m2) (Int32.toNatClampNeg (nI i)) = true) ↔ dTh I (if a = 1 then m1 else m2) r i = true := by
        rw [ei, hJ]
        unfold dTh mayI
        rw [vu_n (show 24 + i ≠ nw by omega), Bool.and_eq_true, decide_eq_true_iff]
      refine g6_57 hK hR cJ hd w5 dJ dn (fun _ => ⟨i, by omega, rfl⟩) (fun _ _ => dJ) (fun _ _ => ha) (fun _ _ => ⟨b, rfl, hb⟩) (fun h => absurd h hnl) (fun _ h H hH => ?_) (fun _ h => ?_)
      · rw [hth] at h
        rw [eb, ei, st_7 (j := nI (3 + i)) (g := fun o => b + thk (if a = 1 then 1 else 2) o i) hne.2.2.1 hJ] at hH
        rw [nI_1]
        refine ih (i + 1) (by omega) hq H ?_
        rw [hH]
        congr 2
        funext o
        rw [bsT, if_pos h]
      · rw [hth] at h
        rw [nI_1]
        refine ih (i + 1) (by omega) hq J ?_
        rw [hJ]
        congr 2
        funext o
        rw [bsT, if_neg h]
  have h57 : ∀ (r2 : Nat → Int32 × Int32), (∀ o, r2 o = bs2 a (decide (r + 1 < pR p)) (decide (0 < r)) (I tn (b + o)) (I tn (b + w + o)) (I tn (b - w + o))) → ∀ J, J = va_up I nw (blk (I nw) b (3 ^ pS p) (fun o => (r2 o).1)) → X (d + 2) 0 0 6 0 0 57 [some (.ref u), some (.int a), some (.int (nI r)), some (.int (nI b)), some (.int (nI w)), some (.int 0)] [] (K, J, L, R, sz) Q := fun r2 e J hJ => hl r2 (pS p) 0 (by omega) (fun H hH => hq H (by rw [hH]; congr 2; funext o; unfold dBest; rw [e])) J hJ
  have h1 : ∀ I1 : Nat → Nat → Int32, I1 = va_up I nw (va_cpy (I tn) (I nw) (nI b).toNatClampNeg (nI b).toNatClampNeg (I u 8).toNatClampNeg) → I1 = va_up I nw (blk (I nw) b (3 ^ pS p) (fun o => ((I tn (b + o), (0 : Int32)) : Int32 × Int32).1)) := fun I1 h => by rw [h, eb, eo, blk_cpy]
  have hup : ∀ I1 : Nat → Nat → Int32, I1 = va_up I nw (va_cpy (I tn) (I nw) (nI b).toNatClampNeg (nI b).toNatClampNeg (I u 8).toNatClampNeg) → (I1 22 0 ≤ nI r + 1 ↔ ¬ r + 1 < pR p) := fun I1 h => by
    rw [h, vu_n (show 22 ≠ nw by omega), lR, nI_1, nI_leI (by omega) (by omega)]; omega
  have hdn : nI r ≤ 0 ↔ ¬ 0 < r := by
    rw [show (0 : Int32) = nI 0 from rfl, nI_leI (by omega) (by omega)]; omega
  have dI : ∀ I1 : Nat → Nat → Int32, I1 = va_up I nw (va_cpy (I tn) (I nw) (nI b).toNatClampNeg (nI b).toNatClampNeg (I u 8).toNatClampNeg) → qDm I1 u p m1 m2 := fun I1 h => by rw [h]; exact dm_up dn dm
  have ebw : r + 1 < pR p → (nI b + nI w).toNatClampNeg = b + w := fun h => by have := hu h; rw [nI_add]; exact nI_c (by omega)
  have ebv : 0 < r → (nI b - nI w).toNatClampNeg = b - w := fun h => by rw [pk_sub (hw h)]; exact nI_c (by omega)
  refine e6 hK hd w5 dn (nI_pos (by omega)) (by rw [ho]; exact nI_pos (by omega)) (by rw [eb, eo]; exact hb) (fun I1 h g1 g2 => dI I1 h) (fun I1 h g1 g2 => ⟨b, rfl, hb⟩) (fun I1 h g1 g2 => ⟨b - w, pk_sub (hw (Nat.lt_of_not_le fun q => g2 (hdn.mpr (by omega)))), by omega⟩) (fun I1 h g1 => dI I1 h) (fun I1 h g1 => ⟨b, rfl, hb⟩) (fun I1 h g1 => ⟨b + w, nI_add _ _, ?_⟩) (fun I1 h g1 J hJ g2 => ?_) (fun I1 h g1 J hJ g2 => ?_) (fun I1 h g1 g2 => ?_) (fun I1 h g1 g2 J hJ => ?_) (fun I1 h g1 J hJ g2 => ?_) (fun I1 h g1 J hJ g2 H hH => ?_)
  · have := hu (Nat.lt_of_not_le fun q => g1 ((hup I1 h).mpr (by omega)))
    omega
  · rw [hJ]; exact dm_up dn (dI I1 h)
  · exact ⟨b - w, pk_sub (hw (Nat.lt_of_not_le fun q => g2 (hdn.mpr (by omega)))), by omega⟩
  · have c1 : ¬ r + 1 < pR p := (hup I1 h).mp g1
    have c2 : ¬ 0 < r := hdn.mp g2
    refine h57 (fun o => (I tn (b + o), 0)) (fun o => ?_) I1 (h1 I1 h)
    unfold bs2
    rw [decide_eq_false c1, decide_eq_false c2]; rfl
  · have c1 : ¬ r + 1 < pR p := (hup I1 h).mp g1
    have c2 : 0 < r := Nat.lt_of_not_le fun q => g2 (hdn.mpr (by omega))
    rw [eb, ebv c2, st_7 (j := 2) (g := fun o => b - w + o) hne.2.2.1 (h1 I1 h)] at hJ
    refine h57 _ (fun o => ?_) J hJ
    unfold bs2
    rw [decide_eq_false c1, decide_eq_true c2]; rfl
  · have c1 : r + 1 < pR p := Classical.byContradiction fun q => g1 ((hup I1 h).mpr q)
    have c2 : ¬ 0 < r := hdn.mp g2
    rw [eb, ebw c1, st_7 (j := 1) (g := fun o => b + w + o) hne.2.2.1 (h1 I1 h)] at hJ
    refine h57 _ (fun o => ?_) J hJ
    unfold bs2
    rw [decide_eq_true c1, decide_eq_false c2]; rfl
  · have c1 : r + 1 < pR p := Classical.byContradiction fun q => g1 ((hup I1 h).mpr q)
    have c2 : 0 < r := Nat.lt_of_not_le fun q => g2 (hdn.mpr (by omega))
    rw [eb, ebw c1, st_7 (j := 1) (g := fun o => b + w + o) hne.2.2.1 (h1 I1 h)] at hJ
    rw [eb, ebv c2, st_7 (j := 2) (g := fun o => b - w + o) hne.2.2.1 hJ] at hH
    refine h57 _ (fun o => ?_) H hH
    unfold bs2
    rw [decide_eq_true c1, decide_eq_true c2]; rfl

end L86
