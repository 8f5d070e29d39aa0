/-! spans: wages of the class -/
/-- the minutes of m told in tally -/
def qTl (I : Nat → Nat → Int32) (p : qPa) (m f t : Int32) (J : Nat → Nat → Int32) : Prop := qAf I p J ∧ ∀ s, s < pS p → J 72 s = nI (cnM (LEn I p) (pS p) m s f.toNatClampNeg (t.toNatClampNeg - f.toNatClampNeg))
theorem qSpan_n {f t : Int32} (h : qSpan f t) : ∃ a b : Nat, a ≤ b ∧ b ≤ 1000 ∧ f = nI a ∧ t = nI b := by
  obtain ⟨h1, h2, h3⟩ := h
  rw [i_le] at h1 h2 h3
  have e0 : (0 : Int32).toInt = 0 := rfl
  have e1 : (1000 : Int32).toInt = 1000 := rfl
  refine ⟨f.toInt.toNat, t.toInt.toNat, by omega, by omega, ?_, ?_⟩
  · rw [i_eq, nI_i (by omega)]; omega
  · rw [i_eq, nI_i (by omega)]; omega
section L54
variable {d : Nat} {K : qK} {I : Nat → Nat → Int32} {L : Nat → Nat → Int64} {R : Nat → Nat → Option Nat} {sz : Nat} {Q : Option Value → qMem → Prop} {p : qPa}
theorem l11046a {x1 x2 x3 : Int32} (hK : qLay K sz) (hR : qRef R) (hq : X d 0 0 11046 0 0 26 [some (.ref 0), some (.int x1), some (.int x2), some (.int x3), some (.int x2), none, none, none] [] (K, va_up I 72 (qfi 0 (I 72) 5), L, R, sz) Q) : ∀ (k i : Nat), i + k = 5 → X d 0 0 11046 0 0 3 [some (.ref 0), some (.int x1), some (.int x2), some (.int x3), some (.int (nI i)), none, none, none] [] (K, va_up I 72 (qfi 0 (I 72) i), L, R, sz) Q := by
  intro k
  induction k with
  | zero =>
    intro i hi
    have hle : 5 ≤ nI i := nI_le (a := 5) (by omega) (by omega)
    refine g11046_3 hK hR (fun h => absurd hle h) (fun _ => ?_) (fun h => absurd hle h)
    rw [show i = 5 from by omega]; exact hq
  | succ k ih =>
    intro i hi
    have hnl : ¬ 5 ≤ nI i := nI_ge (b := 5) (by omega) (by omega)
    refine g11046_3 hK hR (fun _ => vI (by omega) (by omega)) (fun h => absurd h hnl) (fun _ => ?_)
    rw [vu_t, vu_s, nI_c (by omega), nI_1]
    have := ih (i + 1) (by omega)
    rw [← qfi_succ] at this
    exact this
theorem s11046 {m f t : Int32} (hK : qLay K sz) (hR : qRef R) (cI : CI I p) (hs : qSpan f t) (hq : ∀ J, qTl I p m f t J → Q none (K, J, L, R, sz)) : X (d + 7) 0 0 11046 0 0 0 (qent (qml 11046) [.ref 0, .int m, .int f, .int t]) [] (K, I, L, R, sz) Q := by
  obtain ⟨a, b, h1, h2, rfl, rfl⟩ := qSpan_n hs
  refine e11046 ?_
  have g : qAf I p (va_up I 72 (qfi 0 (I 72) 5)) := (qAf.refl cI).up (qFr.up sc72) (vu_n (by decide)) (vu_n (by decide))
  have h0 := l11046b (p := p) (d := d) (Q := Q) (L := L) (x1 := m) (x2 := nI a) (a := a) (b := b) hK hR h2 (LEn I p) (b - a) a (va_up I 72 (qfi 0 (I 72) 5)) rfl (Nat.le_refl _) h1 g.2 (g.le cI) (fun s hs => by
    have := cI.w5
    rw [vu_s, qfi, if_pos (by omega), Nat.sub_self, cnM]; rfl) (fun J hJ h3 => hq J ⟨g.trans hJ, fun s hs => by rw [nI_c (by omega), nI_c (by omega)]; exact h3 s hs⟩)
  have := l11046a (d := d + 7) hK hR h0 5 0 (by omega)
  rw [qfi_0, vu_id] at this
  exact this
theorem e11019 {a : Int32} {b : Int32} {c : Int32}  (hK : qLay K sz) (hR : qRef R) (cI : CI I p) (b1 : qIn (pM p) a → qSpan b c → qSpan b c) (q1 : qIn (pM p) a → qSpan b c → ∀ I3 : Nat → Nat → Int32, qTl I p a b c I3 → X (d + 8) 0 0 11019 0 0 31 [some (.ref 0), some (.int a), some (.int b), some (.int c), some (.int 0), some (.int 0)] [] (K, I3, L, R, sz) Q) (q2 : qIn (pM p) a → ¬ qSpan b c → Q (some (.int (-1))) (K, I, L, R, sz)) (q3 : ¬ qIn (pM p) a → Q (some (.int (-1))) (K, I, L, R, sz)) : X (d + 8) 0 0 11019 0 0 0 (qent (qml 11019) [.ref 0, .int a, .int b, .int c]) [] (K, I, L, R, sz) Q := show X _ 0 0 11019 0 0 0 [some (.ref 0), some (.int a), some (.int b), some (.int c), none, none] [] _ _ from x_ald0 k11019_0 <| x_ild1 k11019_1 <| x_cV1 (MCz := 0) (MSz := 0) k11019_2 v11_144_10 (hK.at rfl) (Nat.le_of_ble_eq_true rfl) (Nat.le_of_ble_eq_true rfl) (Nat.le_refl _) (Nat.le_refl _) <| u11040 hK hR cI (fun g1 => x_ifeqF (tgt := 16) k11019_5 (by decide) (show ¬ (1 : Int32) = 0 by decide) <| x_ild2 k11019_8 <| x_ild3 k11019_9 <| x_cS2 (MCz := 0) (MSz := 0) k11019_10 s11_225 (Nat.le_of_ble_eq_true rfl) (Nat.le_of_ble_eq_true rfl) (Nat.le_refl _) (Nat.le_refl _) <| s11042 (fun g2 => x_ifneT (tgt := 18) k11019_13 (by decide) (show ¬ (1 : Int32) = 0 by decide) <| x_ald0 k11019_18 <| x_ild1 k11019_19 <| x_ild2 k11019_20 <| x_ild3 k11019_21 <| x_cV3 (MCz := 0) (MSz := 0) k11019_22 v11_228_10 (hK.at rfl) (Nat.le_of_ble_eq_true rfl) (Nat.le_of_ble_eq_true rfl) (Nat.le_refl _) (Nat.le_refl _) <| s11046 hK hR cI (b1 g1 g2) (fun I3 g4 => x_iconst (v := 0) k11019_25 rfl <| x_ist4 k11019_26 (Nat.le_of_ble_eq_true rfl) rfl <| x_iconst (v := 0) k11019_28 rfl <| x_ist5 k11019_29 (Nat.le_of_ble_eq_true rfl) rfl <| (q1 g1 g2 I3 g4))) (fun g5 => x_ifneF (tgt := 18) k11019_13 (by decide) (show (0 : Int32) = 0 by decide) <| x_iconst (v := (-1)) k11019_16 rfl <| x_iret k11019_17 rfl (Nat.le_refl _) (Nat.le_refl _) <| (q2 g1 g5))) (fun g6 => x_ifeqT (tgt := 16) k11019_5 (by decide) (show (0 : Int32) = 0 by decide) <| x_iconst (v := (-1)) k11019_16 rfl <| x_iret k11019_17 rfl (Nat.le_refl _) (Nat.le_refl _) <| (q3 g6))
theorem g11019_31 {x1 : Int32} {x2 : Int32} {x3 : Int32} {x4 : Int32} {x5 : Int32}  (hK : qLay K sz) (hR : qRef R) (b1 : ¬ (I 22 1) ≤ x5 → vp_in x5 5) (q1 : (I 22 1) ≤ x5 → Q (some (.int x4)) (K, I, L, R, sz)) (q2 : ¬ (I 22 1) ≤ x5 → X d 0 0 11019 0 0 31 [some (.ref 0), some (.int x1), some (.int x2), some (.int x3), some (.int (x4 + ((I 72 x5.toNatClampNeg) * (I (24 + x5.toNatClampNeg) 2)))), some (.int (x5 + 1))] [] (K, I, L, R, sz) Q) : X d 0 0 11019 0 0 31 [some (.ref 0), some (.int x1), some (.int x2), some (.int x3), some (.int x4), some (.int x5)] [] (K, I, L, R, sz) Q := x_ild5 k11019_31 <| x_ald0 k11019_33 <| x_getR k11019_34 f11_35_10 (hK.at rfl) rfl (hR _ _ _ rfl) <| x_getI k11019_37 f11_118_1 (hK.at rfl) rfl <| x_icmpge (tgt := 74) k11019_40 (by decide) (fun h1 => x_ild4 k11019_74 <| x_iret k11019_76 rfl (Nat.le_refl _) (Nat.le_refl _) <| (q1 h1)) (fun h1 => x_ild4 k11019_43 <| x_ald0 k11019_45 <| x_getR k11019_46 f11_77_10 (hK.at rfl) rfl (hR _ _ _ rfl) <| x_ild5 k11019_49 <| x_iald k11019_51 (hK.at rfl) (b1 h1) <| x_ald0 k11019_52 <| x_getR k11019_53 f11_35_10 (hK.at rfl) rfl (hR _ _ _ rfl) <| x_getR k11019_56 f11_140_1 (hK.at rfl) rfl (hR _ _ _ rfl) <| x_ild5 k11019_59 <| x_aald k11019_61 (hK.at rfl) (b1 h1) (qrowR23 hR (b1 h1)) <| x_iconst (v := 2) k11019_62 rfl <| x_iald k11019_63 (qrowK23 hK (b1 h1)) (qvp (by decide)) <| x_imul k11019_64 <| x_iadd k11019_65 <| x_ist4 k11019_66 (Nat.le_of_ble_eq_true rfl) rfl <| x_inc5 (c := 1) k11019_68 rfl (Nat.le_of_ble_eq_true rfl) rfl <| x_goto (tgt := 31) k11019_71 (by decide) <| (q2 h1))
end L54
