/-! rivals: the class, the whole play -/
section L89
variable {d : Nat} {K : qK} {I : Nat → Nat → Int32} {L : Nat → Nat → Int64} {R : Nat → Nat → Option Nat} {sz : Nat} {Q : Option Value → qMem → Prop} {p : qPa} {nw tn u m1 m2 : Nat}
theorem e1 {b : Int32} {c : Int32} {e : Int32}  {u : Nat} (hu : qAt K sz u (.inl 0))  (q1 : ∀ I1 : Nat → Nat → Int32, I1 = va_up I u (upd (I u) 6 b) → ∀ I3 : Nat → Nat → Int32, I3 = va_up I1 u (upd (I1 u) 7 c) → X d 0 0 1 0 0 16 [some (.ref u), some (.ref 22), some (.int b), some (.int c), some (.int e), none, none] [.ref u] (K, I3, L, va_up R u (va_up (R u) 5 (some 22)), sz) Q) : X d 0 0 1 0 0 0 (qent (qml 1) [.ref u, .ref 22, .int b, .int c, .int e]) [] (K, I, L, R, sz) Q := show X _ 0 0 1 0 0 0 [some (.ref u), some (.ref 22), some (.int b), some (.int c), some (.int e), none, none] [] _ _ from x_ald0 k1_0 <| x_ald1 k1_1 <| x_putR k1_2 f0_21_0 (Or.inl rfl) hu rfl ⟨rfl, fun _ => ⟨rfl, rfl⟩⟩ <| x_ald0 k1_5 <| x_ild2 k1_6 <| x_putI k1_7 f0_25_0 (Or.inl rfl) hu <| x_nm fun I1 e2 => x_ald0 k1_10 <| x_ild3 k1_11 <| x_putI k1_12 f0_29_0 (Or.inl rfl) hu <| x_nm fun I3 e4 => x_ald0 k1_15 <| (q1 I1 e2 I3 e4)
theorem f1a {u : Nat} {b : Int32} {c : Int32} {e : Int32}    (q1 : X d 0 0 1 0 0 27 [some (.ref u), some (.ref 22), some (.int b), some (.int c), some (.int e), some (.int ((2 * e) - 1)), none] [] (K, I, L, R, sz) Q) : X d 0 0 1 0 0 19 [some (.ref u), some (.ref 22), some (.int b), some (.int c), some (.int e), none, none] [] (K, I, L, R, sz) Q := x_iconst (v := 2) k1_19 rfl <| x_ild4 k1_20 <| x_imul k1_22 <| x_iconst (v := 1) k1_23 rfl <| x_isub k1_24 <| x_ist5 k1_25 (Nat.le_of_ble_eq_true rfl) rfl <| q1
theorem f1b {u : Nat} {b : Int32} {c : Int32} {e : Int32} {x5 : Int32}  (hd : qDl K R sz u nw tn)  (q1 : x5 < 1 → X d 0 0 1 0 0 66 [some (.ref u), some (.ref 22), some (.int b), some (.int c), some (.int e), some (.int x5), none] [.ref u] (K, I, L, R, sz) Q) (q2 : ¬ x5 < 1 → X d 0 0 1 0 0 56 [some (.ref u), some (.ref 22), some (.int b), some (.int c), some (.int e), some (.int x5), some (.ref tn)] [.int x5, .ref u] (K, I, L, va_up (va_up R u (va_up (R u) 3 (some nw))) u (va_up ((va_up R u (va_up (R u) 3 (some nw))) u) 2 (some tn)), sz) Q) : X d 0 0 1 0 0 27 [some (.ref u), some (.ref 22), some (.int b), some (.int c), some (.int e), some (.int x5), none] [] (K, I, L, R, sz) Q := x_ild5 k1_27 <| x_iconst (v := 1) k1_29 rfl <| x_icmplt (tgt := 65) k1_30 (by decide) (fun h1 => x_ald0 k1_65 <| (q1 h1)) (fun h1 => x_ald0 k1_33 <| x_getR k1_34 f0_15_0 hd.1 rfl hd.2.2.2.2.2.1 <| x_ast6 k1_37 (Nat.le_of_ble_eq_true rfl) rfl <| x_ald0 k1_39 <| x_ald0 k1_40 <| x_getR k1_41 f0_11_0 hd.1 rfl hd.2.2.2.2.1 <| x_putR k1_44 f0_15_0 (Or.inl rfl) hd.1 rfl ⟨rfl, fun _ => ⟨rfl, rfl⟩⟩ <| x_ald0 k1_47 <| x_ald6 k1_48 <| x_putR k1_50 f0_11_0 (Or.inl rfl) hd.1 rfl ⟨rfl, fun _ => ⟨rfl, rfl⟩⟩ <| x_ald0 k1_53 <| x_ild5 k1_54 <| (q2 h1))
theorem f1c {u : Nat} {b : Int32} {c : Int32} {e : Int32} {x5 : Int32}    (q1 : X d 0 0 1 0 0 27 [some (.ref u), some (.ref 22), some (.int b), some (.int c), some (.int e), some (.int (x5 + (-1))), none] [] (K, I, L, R, sz) Q) : X d 0 0 1 0 0 59 [some (.ref u), some (.ref 22), some (.int b), some (.int c), some (.int e), some (.int x5), none] [] (K, I, L, R, sz) Q := x_inc5 (c := (-1)) k1_59 rfl (Nat.le_of_ble_eq_true rfl) rfl <| x_goto (tgt := 27) k1_62 (by decide) <| q1
theorem f1d {u : Nat} {b : Int32} {c : Int32} {e : Int32} {x5 : Int32}    (q1 : Q none (K, I, L, R, sz)) : X d 0 0 1 0 0 69 [some (.ref u), some (.ref 22), some (.int b), some (.int c), some (.int e), some (.int x5), none] [] (K, I, L, R, sz) Q := x_vret k1_69 rfl (Nat.le_refl _) (Nat.le_refl _) <| q1
def rvV (I : Nat → Nat → Int32) (p : qPa) (m1 m2 : Nat) : Nat → Nat → Nat → Nat → Int32
  | 0 => fun _ _ o => moN o (pS p)
  | k + 1 => fun a b o => (rvS I p m1 m2 (decide (k % 2 = 1)) (rvV I p m1 m2 k) a b o).1
theorem qlr_hi {i k : Nat} (h : 107 ≤ i) : qlref i k = none := by
  unfold qlref
  have e : qlrefL.getD i [] = [] := by
    rw [List.getD_eq_getElem?_getD, List.getElem?_eq_none (show qlrefL.length ≤ i from Nat.le_trans (by decide) h)]
    rfl
  rw [e]
  rfl
theorem qRef_hi {R R' : Nat → Nat → Option Nat} (h : qRef R) {u : Nat} (hu : 107 ≤ u) (e : ∀ j, j ≠ u → R' j = R j) : qRef R' := fun i k r g => by
  have hi : i ≠ u := fun q => by rw [q, qlr_hi hu] at g; cases g
  rw [e i hi]
  exact h i k r g
def qDl0 (K : qK) (R : Nat → Nat → Option Nat) (sz o nw tn : Nat) : Prop := qAt K sz o (.inl 0) ∧ qAt K sz nw (.inr (0, 8748)) ∧ qAt K sz tn (.inr (0, 8748)) ∧ qAt K sz (o + 3) (.inr (0, 5)) ∧ R o 2 = some nw ∧ R o 3 = some tn ∧ R o 4 = some (o + 3)
theorem qDl_swap {R' : Nat → Nat → Option Nat} (h : qDl K R sz u nw tn) (e : R' = va_up (va_up R u (va_up (R u) 3 (some nw))) u (va_up ((va_up R u (va_up (R u) 3 (some nw))) u) 2 (some tn))) : qDl K R' sz u tn nw ∧ (∀ j, j ≠ u → R' j = R j) := by
  obtain ⟨h1, h2, h3, h4, h5, h6, h7, h8⟩ := h
  rw [vu_t, vu_s] at e
  have hu : R' u = va_up (va_up (R u) 3 (some nw)) 2 (some tn) := by rw [e, vu_s]
  refine ⟨⟨h1, h3, h2, h4, by rw [hu, vu_s], by rw [hu, vu_n (by decide), vu_s], by rw [hu, vu_n (by decide), vu_n (by decide)]; exact h7, by rw [hu, vu_n (by decide), vu_n (by decide)]; exact h8⟩, fun j hj => by rw [e, vu_n hj]⟩
theorem qDl.du (h : qDl K R sz u nw tn) (dn : qDn u nw tn) : qDu K R sz u := by
  obtain ⟨h1, h2, h3, h4, h5, h6, h7, h8⟩ := h
  obtain ⟨g1, g2⟩ := dn
  rcases g2 with ⟨rfl, rfl⟩ | ⟨rfl, rfl⟩
  · exact ⟨g1, h4.1, h1.2, h2.2, h3.2, h4.2, Or.inl ⟨h5, h6⟩, h7⟩
  · exact ⟨g1, h4.1, h1.2, h3.2, h2.2, h4.2, Or.inr ⟨h5, h6⟩, h7⟩
theorem s1 {n r1 r2 : Nat} (hK : qLay K sz) (hR : qRef R) (hd0 : qDl0 K R sz u nw tn) (dn : qDn u nw tn) (cI : CI I p) (hm1 : m1 < pM p) (hm2 : m2 < pM p) (h1 : I (30 + m1) 0 = nI r1) (h2 : I (30 + m2) 0 = nI r2) (w1 : r1 < pR p) (w2 : r2 < pR p) (hn1 : 1 ≤ n) (hn8 : n ≤ 8) (hq : ∀ J R', qLo I J → (∀ j, j ≠ u → R' j = R j) → qDu K R' sz u → J u 0 = (rvS I p m1 m2 true (rvV I p m1 m2 (2 * n - 1)) r1 r2 0).1 → J u 1 = (rvS I p m1 m2 true (rvV I p m1 m2 (2 * n - 1)) r1 r2 0).2 → Q none (K, J, L, R', sz)) : X (d + 4) 0 0 1 0 0 0 (qent (qml 1) [.ref u, .ref 22, .int (nI m1), .int (nI m2), .int (nI n)]) [] (K, I, L, R, sz) Q := by
  have w5 := cI.w5
  have w3 := cI.w3
  have w6 : pR p ≤ 6 := cI.1.2.1.1
  have hu := dn.1
  have hl : ∀ t, t ≤ 2 * n - 1 → ∀ nw tn R' J, (∀ j, j ≠ u → R' j = R j) → qDl K R' sz u nw tn → qDn u nw tn → qLo I J → qDm J u p m1 m2 → tbl (J nw) p (nr r1 r2 (t + 1)) (rvV I p m1 m2 (2 * n - 1 - t)) → X (d + 4) 0 0 1 0 0 27 [some (.ref u), some (.ref 22), some (.int (nI m1)), some (.int (nI m2)), some (.int (nI n)), some (.int (nI t)), none] [] (K, J, L, R', sz) Q := by
    intro t
    induction t with
    | zero =>
      intro ht nw tn R' J hR' hd dn hJ dJ hT
      have cJ := (hJ.af cI).2
      refine f1b hd (fun _ => ?_) (fun h => absurd (show nI 0 < 1 by decide) h)
      refine x_cV0 (MCz := 0) (MSz := 0) k1_66 v0_39_0 hd.1 (Nat.le_of_ble_eq_true rfl) (Nat.le_of_ble_eq_true rfl) (Nat.le_refl _) (Nat.le_refl _) <| s11 hK (qRef_hi hR hu hR') hd dn cJ dJ hm1 hm2 (by rw [hJ _ (by omega)]; exact h1) (by rw [hJ _ (by omega)]; exact h2) w1 w2 hT (fun H hH g1 g2 => f1d ?_)
      rw [rvS_lo hJ w5] at g1 g2
      exact hq H R' (hJ.trans hH) hR' (hd.du dn) g1 g2
    | succ t ih =>
      intro ht nw tn R' J hR' hd dn hJ dJ hT
      have cJ := (hJ.af cI).2
      refine f1b hd (fun h => absurd h ?_) (fun _ => ?_)
      · rw [show (1 : Int32) = nI 1 from rfl, nI_ltI (by omega) (by omega)]; omega
      obtain ⟨hd', hR2⟩ := qDl_swap hd rfl
      have hR3 := fun j (hj : j ≠ u) => (hR2 j hj).trans (hR' j hj)
      have dn' : qDn u tn nw := ⟨dn.1, dn.2.symm.imp And.symm And.symm⟩
      refine x_cV1 (MCz := 0) (MSz := 0) k1_56 v0_35_0 hd'.1 (Nat.le_of_ble_eq_true rfl) (Nat.le_of_ble_eq_true rfl) (Nat.le_refl _) (Nat.le_refl _) <| s5 hK (qRef_hi hR hu hR3) hd' dn' cJ dJ hm1 hm2 (by rw [hJ _ (by omega)]; exact h1) (by rw [hJ _ (by omega)]; exact h2) (by omega) (by omega) (by omega) hT (fun F hF => ?_)
      refine x_wk2 (f1c ?_) ⟨rfl, rfl, rfl, rfl, rfl, rfl, True.intro⟩
      rw [pk_m1]
      refine ih (by omega) tn nw _ _ hR3 hd' dn' (hJ.up dn'.ne.1) (dm_up dn' dJ) ?_
      rw [vu_s]
      have ek : 2 * n - 1 - t = (2 * n - 1 - (t + 1)) + 1 := by omega
      have ep : decide ((2 * n - 1 - (t + 1)) % 2 = 1) = decide ((t + 1) % 2 = 0) := by rw [decide_eq_decide]; omega
      rw [ek]
      intro a b ha hb hg o ho
      rw [hF a b ha hb hg o ho, rvV, ep]
      exact congrArg Prod.fst (rvS_lo hJ w5)
  obtain ⟨c1, c2, c3, c4, c5, c6, c7⟩ := hd0
  have hR1 : ∀ j, j ≠ u → (va_up R u (va_up (R u) 5 (some 22))) j = R j := fun j hj => vu_n hj
  have hd1 : qDl K (va_up R u (va_up (R u) 5 (some 22))) sz u nw tn := by
    refine ⟨c1, c2, c3, c4, ?_, ?_, ?_, ?_⟩ <;> rw [vu_s]
    · rw [vu_n (by decide)]; exact c5
    · rw [vu_n (by decide)]; exact c6
    · rw [vu_n (by decide)]; exact c7
    · rw [vu_s]
  refine e1 c1 (fun J hJ H hH => ?_)
  have hHu : H u = upd (upd (I u) 6 (nI m1)) 7 (nI m2) := by rw [hH, vu_s, hJ, vu_s]
  have hlo : qLo I H := by rw [hH, hJ]; exact (qLo.refl.up hu).up hu
  refine x_cV0 (MCz := 0) (MSz := 0) k1_16 v0_32_0 c1 (Nat.le_of_ble_eq_true rfl) (Nat.le_of_ble_eq_true rfl) (Nat.le_refl _) (Nat.le_refl _) <| s2 hK hd1 dn (hlo.af cI).2 (by rw [hHu]; rfl) (by rw [hHu]; rfl) (fun G hG dG tG => f1a ?_)
  have e2 : 2 * nI n - 1 = nI (2 * n - 1) := by rw [show (2 : Int32) = nI 2 from rfl, pk_mul, show (1 : Int32) = nI 1 from rfl, pk_sub (by omega)]
  rw [e2]
  refine hl (2 * n - 1) (Nat.le_refl _) nw tn _ G hR1 hd1 dn (hlo.trans hG) dG ?_
  rw [Nat.sub_self]
  intro a b ha hb _ o ho
  exact tG a b ha hb True.intro o ho

end L89
