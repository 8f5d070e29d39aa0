/-! the class reads houses: the whole text -/
abbrev hFd (j k : Nat) : Prop := 4 ≤ j ∧ j < 20
abbrev hFz (j k : Nat) : Prop := (j = 3 ∧ k = 1) ∨ (4 ≤ j ∧ j < 20)
def hCl (I J : Nat → Nat → Int32) : Prop := qFr hFd I J ∧ hE J hs0
def hCp (b : Nat → Int32) (n r : Nat) (h : qHs) (I : Nat → Nat → Int32) : Prop := (∃ k, hS b n I k) ∧ hE I h ∧ I 4 0 = nI r ∧ hInv r h
def hCy (b : Nat → Int32) (n r : Nat) (h : qHs) (I J : Nat → Nat → Int32) : Prop := ∃ k k' h2, hS b n I k ∧ gHc b n r h k = (k', some h2) ∧ hO hFc b n I k' J ∧ hE J h2
def hCx (b : Nat → Int32) (n r : Nat) (h : qHs) (I J : Nat → Nat → Int32) : Prop := ∃ k k', hS b n I k ∧ gHc b n r h k = (k', none) ∧ hO hFc b n I k' J
section L36zy
variable {d : Nat} {K : qK} {I : Nat → Nat → Int32} {L : Nat → Nat → Int64} {R : Nat → Nat → Option Nat} {sz : Nat} {Q : Option Value → qMem → Prop} {b : Nat → Int32} {n : Nat}
variable {J : Nat → Nat → Int32} {r k : Nat} {h : qHs}
theorem s2002k (hK : qLay K sz) (hR : qRef R) (h8 : ∀ k, k < n → hTw (b k)) (hp : hCp b n r h I) (h1 : ∀ J, hCy b n r h I J → Q (some (.int 1)) (K, J, L, R, sz)) (h0 : ∀ J, hCx b n r h I J → Q (some (.int 0)) (K, J, L, R, sz)) : X (d + 5) 0 0 2002 0 0 0 (qent (qml 2002) [.ref 3]) [] (K, I, L, R, sz) Q := by
  obtain ⟨⟨k, S⟩, E, hr, iv⟩ := hp
  exact s2002 hK hR h8 S E hr iv (fun J k' h2 e g f => h1 J ⟨k, k', h2, S, e, g, f⟩) (fun J k' e g => h0 J ⟨k, k', S, e, g⟩)
theorem l1001_22 (hK : qLay K sz) (hR : qRef R) : ∀ (f s : Nat) (I : Nat → Nat → Int32), s + f = 5 → (∀ z, z < s → ∀ c, c < 3 → I (6 + z) c = hD 0 c) → (∀ J, qFr (fun j _ => 5 < j ∧ j < 20) I J → (∀ z, z < 5 → ∀ c, c < 3 → J (6 + z) c = hD 0 c) → X d 0 0 1001 0 0 62 [some (.ref 4), some (.int 0)] [] (K, J, L, R, sz) Q) → X d 0 0 1001 0 0 22 [some (.ref 4), some (.int (nI s))] [] (K, I, L, R, sz) Q := by
  intro f
  induction f with
  | zero =>
    intro s I hs hI hq
    obtain rfl : s = 5 := by omega
    exact g1001_22 hK hR (fun q => absurd (by decide) q) (fun q => absurd (by decide) q) (fun q => absurd (by decide) q) (fun _ => hq I qFr.refl hI) (fun q => absurd (by decide) q)
  | succ f ih =>
    intro s I hs hI hq
    have hv : vp_in (nI s) 5 := vI (by omega) (by omega)
    refine g1001_22 hK hR (fun _ => hv) (fun _ => hv) (fun _ => hv) (fun q => absurd q (by rw [show (5 : Int32) = nI 5 from rfl, nI_leI (by omega) (by omega)]; omega)) (fun _ => ?_)
    simp only [nI_c (show s < 2 ^ 31 by omega), vu_s, vu_t, nI_1]
    refine ih (s + 1) _ (by omega) (fun z hz c hc => ?_) (fun J f2 g => hq J (qFr.trans (qFr.up (fun _ => ⟨by omega, by omega⟩)) f2) g)
    by_cases q : z = s
    · subst q
      rw [vu_s]
      have : c = 0 ∨ c = 1 ∨ c = 2 := by omega
      rcases this with rfl | rfl | rfl <;> rfl
    · rw [vu_n (by omega)]; exact hI z (by omega) c hc
theorem l1001_62 (hK : qLay K sz) (hR : qRef R) : ∀ (f s : Nat) (I : Nat → Nat → Int32), s + f = 3 → (∀ z, z < s → ∀ c, c < 1 → I (12 + z) c = hD 1 c) → (∀ J, qFr (fun j _ => 11 < j ∧ j < 20) I J → (∀ z, z < 3 → ∀ c, c < 1 → J (12 + z) c = hD 1 c) → X d 0 0 1001 0 0 84 [some (.ref 4), some (.int 0)] [] (K, J, L, R, sz) Q) → X d 0 0 1001 0 0 62 [some (.ref 4), some (.int (nI s))] [] (K, I, L, R, sz) Q := by
  intro f
  induction f with
  | zero =>
    intro s I hs hI hq
    obtain rfl : s = 3 := by omega
    exact g1001_62 hK hR (fun q => absurd (by decide) q) (fun _ => hq I qFr.refl hI) (fun q => absurd (by decide) q)
  | succ f ih =>
    intro s I hs hI hq
    have hv : vp_in (nI s) 3 := vI (by omega) (by omega)
    refine g1001_62 hK hR (fun _ => hv) (fun q => absurd q (by rw [show (3 : Int32) = nI 3 from rfl, nI_leI (by omega) (by omega)]; omega)) (fun _ => ?_)
    simp only [nI_c (show s < 2 ^ 31 by omega), vu_s, vu_t, nI_1]
    refine ih (s + 1) _ (by omega) (fun z hz c hc => ?_) (fun J f2 g => hq J (qFr.trans (qFr.up (fun _ => ⟨by omega, by omega⟩)) f2) g)
    by_cases q : z = s
    · subst q
      rw [vu_s]
      have : c = 0 := by omega
      subst this; rfl
    · rw [vu_n (by omega)]; exact hI z (by omega) c hc
theorem l1001_84 (hK : qLay K sz) (hR : qRef R) : ∀ (f s : Nat) (I : Nat → Nat → Int32), s + f = 4 → (∀ z, z < s → ∀ c, c < 4 → I (16 + z) c = hD 2 c) → (∀ J, qFr (fun j _ => 15 < j ∧ j < 20) I J → (∀ z, z < 4 → ∀ c, c < 4 → J (16 + z) c = hD 2 c) → Q none (K, J, L, R, sz)) → X d 0 0 1001 0 0 84 [some (.ref 4), some (.int (nI s))] [] (K, I, L, R, sz) Q := by
  intro f
  induction f with
  | zero =>
    intro s I hs hI hq
    obtain rfl : s = 4 := by omega
    exact g1001_84 hK hR (fun q => absurd (by decide) q) (fun q => absurd (by decide) q) (fun q => absurd (by decide) q) (fun q => absurd (by decide) q) (fun _ => hq I qFr.refl hI) (fun q => absurd (by decide) q)
  | succ f ih =>
    intro s I hs hI hq
    have hv : vp_in (nI s) 4 := vI (by omega) (by omega)
    refine g1001_84 hK hR (fun _ => hv) (fun _ => hv) (fun _ => hv) (fun _ => hv) (fun q => absurd q (by rw [show (4 : Int32) = nI 4 from rfl, nI_leI (by omega) (by omega)]; omega)) (fun _ => ?_)
    simp only [nI_c (show s < 2 ^ 31 by omega), vu_s, vu_t, nI_1]
    refine ih (s + 1) _ (by omega) (fun z hz c hc => ?_) (fun J f2 g => hq J (qFr.trans (qFr.up (fun _ => ⟨by omega, by omega⟩)) f2) g)
    by_cases q : z = s
    · subst q
      rw [vu_s]
      have : c = 0 ∨ c = 1 ∨ c = 2 ∨ c = 3 := by omega
      rcases this with rfl | rfl | rfl | rfl <;> rfl
    · rw [vu_n (by omega)]; exact hI z (by omega) c hc
theorem s1001 (hK : qLay K sz) (hR : qRef R) (hq : ∀ J, hCl I J → Q none (K, J, L, R, sz)) : X d 0 0 1001 0 0 0 (qent (qml 1001) [.ref 4]) [] (K, I, L, R, sz) Q := by
  refine e1001 hK ?_
  simp only [vu_s, vu_t]
  refine l1001_22 hK hR 5 0 _ rfl (fun z hz => absurd hz (Nat.not_lt_zero z)) (fun J1 f1 g1 => ?_)
  refine l1001_62 hK hR 3 0 _ rfl (fun z hz => absurd hz (Nat.not_lt_zero z)) (fun J2 f2 g2 => ?_)
  refine l1001_84 hK hR 4 0 _ rfl (fun z hz => absurd hz (Nat.not_lt_zero z)) (fun J3 f3 g3 => ?_)
  have fa : qFr (fun j _ => 5 < j ∧ j < 20) (va_up I 4 (upd (upd (upd (upd (I 4) 0 0) 1 0) 2 0) 3 0)) J3 := f1.trans ((f2.mono (fun j k q => by omega)).trans (f3.mono (fun j k q => by omega)))
  refine hq J3 ⟨(qFr.up (P := hFd) (fun _ => ⟨by omega, by omega⟩)).trans (fa.mono (fun j k q => by unfold hFd; omega)), fun j hj => ?_, fun j hj s hs c hc => ?_⟩
  · rw [fa 4 (1 + j) (by omega), vu_s]
    rcases j3 hj with rfl | rfl | rfl <;> rfl
  · rcases j3 hj with rfl | rfl | rfl
    · have h1 : s < 5 := hs
      show J3 (6 + s) c = hD 0 c
      rw [f3 _ _ (by omega), f2 _ _ (by omega)]; exact g1 s h1 c hc
    · have h1 : s < 3 := hs
      show J3 (12 + s) c = hD 1 c
      rw [f3 _ _ (by omega)]; exact g2 s h1 c hc
    · exact g3 s hs c hc
theorem l1003 (hK : qLay K sz) (hR : qRef R) (E : hE I h) (iv : hInv r h) (ht : hWh h → Q (some (.int 1)) (K, I, L, R, sz)) (hf : ¬ hWh h → Q (some (.int 0)) (K, I, L, R, sz)) (h1 : 1 ≤ h.1.1) (h2 : 1 ≤ h.1.2.1) : ∀ f s, s + f = h.1.1 → (∀ z, z < s → ¬ nI h.1.2.1 ≤ h.2.1 z 1) → X d 0 0 1003 0 0 20 [some (.ref 4), some (.int (nI s))] [] (K, I, L, R, sz) Q := by
  have hS5 : h.1.1 ≤ 5 := iv.1.1
  have eS : I 4 1 = nI h.1.1 := E.1 0 (by decide)
  have eM : I 4 2 = nI h.1.2.1 := E.1 1 (by decide)
  intro f
  induction f with
  | zero =>
    intro s hs hz
    have hle : nI h.1.1 ≤ nI s := by rw [nI_leI (by omega) (by omega)]; omega
    exact g1003_20 hK hR (fun q => absurd (by rw [eS]; exact hle) q) (fun _ => ht ⟨h1, h2, fun z hz' => hz z (by omega)⟩) (fun q => absurd (by rw [eS]; exact hle) q) (fun q => absurd (by rw [eS]; exact hle) q)
  | succ f ih =>
    intro s hs hz
    have hgt : ¬ nI h.1.1 ≤ nI s := by rw [nI_leI (by omega) (by omega)]; omega
    have ev : I (6 + (nI s).toNatClampNeg) 1 = h.2.1 s 1 := by rw [nI_c (by omega)]; exact E.2 0 (by decide) s (show s < 5 by omega) 1 (by decide)
    refine g1003_20 hK hR (fun _ => vI (by omega) (by omega)) (fun q => absurd q (by rw [eS]; exact hgt)) (fun _ q => ?_) (fun _ q => ?_)
    · rw [nI_1]
      refine ih (s + 1) (by omega) (fun z hz' => ?_)
      by_cases w : z = s
      · rw [w, ← ev, ← eM]; exact Int32.not_le.mpr q
      · exact hz z (by omega)
    · rw [ev, eM] at q
      exact hf (fun w => w.2.2 s (by omega) (Int32.not_lt.mp q))
theorem s1003 (hK : qLay K sz) (hR : qRef R) (hp : hE I h ∧ hInv r h) (ht : hWh h → Q (some (.int 1)) (K, I, L, R, sz)) (hf : ¬ hWh h → Q (some (.int 0)) (K, I, L, R, sz)) : X d 0 0 1003 0 0 0 (qent (qml 1003) [.ref 4]) [] (K, I, L, R, sz) Q := by
  obtain ⟨E, iv⟩ := hp
  have hS5 : h.1.1 ≤ 5 := iv.1.1
  have hM3 : h.1.2.1 ≤ 3 := iv.1.2.1
  have eS : I 4 1 = nI h.1.1 := E.1 0 (by decide)
  have eM : I 4 2 = nI h.1.2.1 := E.1 1 (by decide)
  refine e1003 hK (fun q => hf (fun w => ?_)) (fun q1 q2 => ?_) (fun q1 q2 => hf (fun w => ?_))
  · rw [eS, show (1 : Int32) = nI 1 from rfl, nI_ltI (by omega) (by omega)] at q
    have := w.1; omega
  · rw [eS, show (1 : Int32) = nI 1 from rfl, nI_ltI (by omega) (by omega)] at q1
    rw [eM, show (1 : Int32) = nI 1 from rfl, nI_leI (by omega) (by omega)] at q2
    exact l1003 hK hR E iv ht hf (by omega) q2 h.1.1 0 (by omega) (fun z hz => absurd hz (Nat.not_lt_zero z))
  · rw [eM, show (1 : Int32) = nI 1 from rfl, nI_leI (by omega) (by omega)] at q2
    exact q2 w.2.1
theorem e2001   (hK : qLay K sz) (hR : qRef R) (b1 : ∀ I1 : Nat → Nat → Int32, I1 = va_up I 3 (upd (I 3) 1 0) → ∀ I3 : Nat → Nat → Int32, hCl I1 I3 → hSx b n I3 ∧ ¬ 114 = (-1 : Int32)) (b2 : ∀ I1 : Nat → Nat → Int32, I1 = va_up I 3 (upd (I 3) 1 0) → ∀ I3 : Nat → Nat → Int32, hCl I1 I3 → ∀ I5 : Nat → Nat → Int32, hPy b n I3 114 I5 → hSx b n I5) (q1 : ∀ I1 : Nat → Nat → Int32, I1 = va_up I 3 (upd (I 3) 1 0) → ∀ I3 : Nat → Nat → Int32, hCl I1 I3 → ∀ I5 : Nat → Nat → Int32, hPy b n I3 114 I5 → ∀ I7 : Nat → Nat → Int32, ∀ r8 : Int32, hNy b n I5 2 6 r8 I7 → ¬ r8 = (-1) → ∀ I11 : Nat → Nat → Int32, I11 = va_up I7 4 (upd (I7 4) 0 r8) → X (d + 6) 0 0 2001 0 0 49 [some (.ref 3), some (.int r8), some (.int 0)] [] (K, I11, L, R, sz) Q) (q2 : ∀ I1 : Nat → Nat → Int32, I1 = va_up I 3 (upd (I 3) 1 0) → ∀ I3 : Nat → Nat → Int32, hCl I1 I3 → ∀ I5 : Nat → Nat → Int32, hPy b n I3 114 I5 → ∀ I7 : Nat → Nat → Int32, ∀ r8 : Int32, hNy b n I5 2 6 r8 I7 → r8 = (-1) → Q (some (.int 0)) (K, I7, L, R, sz)) (q3 : ∀ I1 : Nat → Nat → Int32, I1 = va_up I 3 (upd (I 3) 1 0) → ∀ I3 : Nat → Nat → Int32, hCl I1 I3 → ∀ I5 : Nat → Nat → Int32, hPy b n I3 114 I5 → ∀ I13 : Nat → Nat → Int32, hNn b n I5 2 6 I13 → Q (some (.int 0)) (K, I13, L, R, sz)) (q4 : ∀ I1 : Nat → Nat → Int32, I1 = va_up I 3 (upd (I 3) 1 0) → ∀ I3 : Nat → Nat → Int32, hCl I1 I3 → ∀ I15 : Nat → Nat → Int32, hPn b n I3 114 I15 → Q (some (.int 0)) (K, I15, L, R, sz)) : X (d + 6) 0 0 2001 0 0 0 (qent (qml 2001) [.ref 3]) [] (K, I, L, R, sz) Q := show X _ 0 0 2001 0 0 0 [some (.ref 3), none, none] [] _ _ from x_ald0 k2001_0 <| x_iconst (v := 0) k2001_1 rfl <| x_putI k2001_2 f2_20_2 (Or.inl rfl) (hK.at rfl) <| x_nm fun I1 e2 => x_ald0 k2001_5 <| x_getR k2001_6 f2_14_2 (hK.at rfl) rfl (hR _ _ _ rfl) <| x_cV0 (MCz := 0) (MSz := 0) k2001_9 v2_24_1 (hK.at rfl) (Nat.le_of_ble_eq_true rfl) (Nat.le_of_ble_eq_true rfl) (Nat.le_refl _) (Nat.le_refl _) <| s1001 hK hR (fun I3 g4 => x_ald0 k2001_12 <| x_bipush (v := 114) k2001_13 rfl <| x_cU1 (MCz := 0) (MSz := 0) k2001_15 u2_27_2 (hK.at rfl) (Nat.le_of_ble_eq_true rfl) (Nat.le_of_ble_eq_true rfl) (Nat.le_refl _) (Nat.le_refl _) <| h7002 hK hR (b1 I1 e2 I3 g4) (fun I5 g6 => x_ifneT (tgt := 23) k2001_18 (by decide) (show ¬ (1 : Int32) = 0 by decide) <| x_ald0 k2001_23 <| x_iconst (v := 2) k2001_24 rfl <| x_iconst (v := 2) k2001_25 rfl <| x_bipush (v := 6) k2001_26 rfl <| x_cU3 (MCz := 0) (MSz := 0) k2001_28 u2_31_2 (hK.at rfl) (Nat.le_of_ble_eq_true rfl) (Nat.le_of_ble_eq_true rfl) (Nat.le_refl _) (Nat.le_refl _) <| h7004 hK hR (b2 I1 e2 I3 g4 I5 g6) (fun I7 r8 g9 => x_ist1 k2001_31 (Nat.le_of_ble_eq_true rfl) rfl <| x_ild1 k2001_32 <| x_iconst (v := (-1)) k2001_33 rfl <| x_icmpne (tgt := 39) k2001_34 (by decide) (fun h10 => x_ald0 k2001_39 <| x_getR k2001_40 f2_14_2 (hK.at rfl) rfl (hR _ _ _ rfl) <| x_ild1 k2001_43 <| x_putI k2001_44 f2_35_1 (Or.inl rfl) (hK.at rfl) <| x_nm fun I11 e12 => x_iconst (v := 0) k2001_47 rfl <| x_ist2 k2001_48 (Nat.le_of_ble_eq_true rfl) rfl <| (q1 I1 e2 I3 g4 I5 g6 I7 r8 g9 h10 I11 e12)) (fun h10 => x_iconst (v := 0) k2001_37 rfl <| x_zret k2001_38 rfl (Or.inl rfl) (Nat.le_refl _) (Nat.le_refl _) <| (q2 I1 e2 I3 g4 I5 g6 I7 r8 g9 h10))) (fun I13 g14 => x_ist1 k2001_31 (Nat.le_of_ble_eq_true rfl) rfl <| x_ild1 k2001_32 <| x_iconst (v := (-1)) k2001_33 rfl <| x_icmpneF (tgt := 39) k2001_34 (by decide) (show (-1 : Int32) = -1 by decide) <| x_iconst (v := 0) k2001_37 rfl <| x_zret k2001_38 rfl (Or.inl rfl) (Nat.le_refl _) (Nat.le_refl _) <| (q3 I1 e2 I3 g4 I5 g6 I13 g14))) (fun I15 g16 => x_ifneF (tgt := 23) k2001_18 (by decide) (show (0 : Int32) = 0 by decide) <| x_iconst (v := 0) k2001_21 rfl <| x_zret k2001_22 rfl (Or.inl rfl) (Nat.le_refl _) (Nat.le_refl _) <| (q4 I1 e2 I3 g4 I15 g16)))
theorem g2001_49 {x1 : Int32} {x2 : Int32} {r : Nat} {h : qHs} (h8 : ∀ k, k < n → hTw (b k)) (hK : qLay K sz) (hR : qRef R) (b1 : 160 ≤ x2 → hSx b n I) (b2 : 160 ≤ x2 → ∀ I2 : Nat → Nat → Int32, hNx b n I I2 → (hVl b n I) = (-1) → hE I2 h ∧ hInv r h) (b3 : ¬ 160 ≤ x2 → hSx b n I) (b4 : ¬ 160 ≤ x2 → ∀ I7 : Nat → Nat → Int32, hNx b n I I7 → ¬ (hVl b n I) = 59 → hSx b n I7) (b5 : ¬ 160 ≤ x2 → ∀ I7 : Nat → Nat → Int32, hNx b n I I7 → ¬ (hVl b n I) = 59 → ∀ I10 : Nat → Nat → Int32, hNx b n I7 I10 → (hVl b n I7) = (-1) → hE I10 h ∧ hInv r h) (b6 : ¬ 160 ≤ x2 → ∀ I7 : Nat → Nat → Int32, hNx b n I I7 → (hVl b n I) = 59 → ∀ I15 : Nat → Nat → Int32, I15 = va_up I7 3 (upd (I7 3) 1 ((I7 3 1) + 1)) → hCp b n r h I15) (q1 : 160 ≤ x2 → ∀ I2 : Nat → Nat → Int32, hNx b n I I2 → ¬ (hVl b n I) = (-1) → Q (some (.int 0)) (K, I2, L, R, sz)) (q2 : 160 ≤ x2 → ∀ I2 : Nat → Nat → Int32, hNx b n I I2 → (hVl b n I) = (-1) → hWh h → Q (some (.int 1)) (K, I2, L, R, sz)) (q3 : 160 ≤ x2 → ∀ I2 : Nat → Nat → Int32, hNx b n I I2 → (hVl b n I) = (-1) → ¬ hWh h → Q (some (.int 0)) (K, I2, L, R, sz)) (q4 : ¬ 160 ≤ x2 → ∀ I7 : Nat → Nat → Int32, hNx b n I I7 → ¬ (hVl b n I) = 59 → ∀ I10 : Nat → Nat → Int32, hNx b n I7 I10 → ¬ (hVl b n I7) = (-1) → Q (some (.int 0)) (K, I10, L, R, sz)) (q5 : ¬ 160 ≤ x2 → ∀ I7 : Nat → Nat → Int32, hNx b n I I7 → ¬ (hVl b n I) = 59 → ∀ I10 : Nat → Nat → Int32, hNx b n I7 I10 → (hVl b n I7) = (-1) → hWh h → Q (some (.int 1)) (K, I10, L, R, sz)) (q6 : ¬ 160 ≤ x2 → ∀ I7 : Nat → Nat → Int32, hNx b n I I7 → ¬ (hVl b n I) = 59 → ∀ I10 : Nat → Nat → Int32, hNx b n I7 I10 → (hVl b n I7) = (-1) → ¬ hWh h → Q (some (.int 0)) (K, I10, L, R, sz)) (q7 : ¬ 160 ≤ x2 → ∀ I7 : Nat → Nat → Int32, hNx b n I I7 → (hVl b n I) = 59 → ∀ I15 : Nat → Nat → Int32, I15 = va_up I7 3 (upd (I7 3) 1 ((I7 3 1) + 1)) → ∀ I17 : Nat → Nat → Int32, hCy b n r h I15 I17 → X (d + 6) 0 0 2001 0 0 49 [some (.ref 3), some (.int x1), some (.int (x2 + 1))] [] (K, I17, L, R, sz) Q) (q8 : ¬ 160 ≤ x2 → ∀ I7 : Nat → Nat → Int32, hNx b n I I7 → (hVl b n I) = 59 → ∀ I15 : Nat → Nat → Int32, I15 = va_up I7 3 (upd (I7 3) 1 ((I7 3 1) + 1)) → ∀ I19 : Nat → Nat → Int32, hCx b n r h I15 I19 → Q (some (.int 0)) (K, I19, L, R, sz)) : X (d + 6) 0 0 2001 0 0 49 [some (.ref 3), some (.int x1), some (.int x2)] [] (K, I, L, R, sz) Q := x_ild2 k2001_49 <| x_sipush (v := 160) k2001_50 rfl <| x_icmpge (tgt := 90) k2001_53 (by decide) (fun h1 => x_ald0 k2001_90 <| x_cU0 (MCz := 0) (MSz := 0) k2001_91 u2_38_2 (hK.at rfl) (Nat.le_of_ble_eq_true rfl) (Nat.le_of_ble_eq_true rfl) (Nat.le_refl _) (Nat.le_refl _) <| h7001 hK hR (b1 h1) (fun I2 g3 => x_iconst (v := (-1)) k2001_94 rfl <| x_icmpne (tgt := 112) k2001_95 (by decide) (fun h4 => x_iconst (v := 0) k2001_112 rfl <| x_zret k2001_113 rfl (Or.inl rfl) (Nat.le_refl _) (Nat.le_refl _) <| (q1 h1 I2 g3 h4)) (fun h4 => x_ald0 k2001_98 <| x_getR k2001_99 f2_14_2 (hK.at rfl) rfl (hR _ _ _ rfl) <| x_cV0 (MCz := 0) (MSz := 0) k2001_102 v2_46_1 (hK.at rfl) (Nat.le_of_ble_eq_true rfl) (Nat.le_of_ble_eq_true rfl) (Nat.le_refl _) (Nat.le_refl _) <| s1003 hK hR (b2 h1 I2 g3 h4) (fun g5 => x_ifeqF (tgt := 112) k2001_105 (by decide) (show ¬ (1 : Int32) = 0 by decide) <| x_iconst (v := 1) k2001_108 rfl <| x_goto (tgt := 113) k2001_109 (by decide) <| x_zret k2001_113 rfl (Or.inr rfl) (Nat.le_refl _) (Nat.le_refl _) <| (q2 h1 I2 g3 h4 g5)) (fun g6 => x_ifeqT (tgt := 112) k2001_105 (by decide) (show (0 : Int32) = 0 by decide) <| x_iconst (v := 0) k2001_112 rfl <| x_zret k2001_113 rfl (Or.inl rfl) (Nat.le_refl _) (Nat.le_refl _) <| (q3 h1 I2 g3 h4 g6))))) (fun h1 => x_ald0 k2001_56 <| x_cU0 (MCz := 0) (MSz := 0) k2001_57 u2_38_2 (hK.at rfl) (Nat.le_of_ble_eq_true rfl) (Nat.le_of_ble_eq_true rfl) (Nat.le_refl _) (Nat.le_refl _) <| h7001 hK hR (b3 h1) (fun I7 g8 => x_bipush (v := 59) k2001_60 rfl <| x_icmpne (tgt := 90) k2001_62 (by decide) (fun h9 => x_ald0 k2001_90 <| x_cU0 (MCz := 0) (MSz := 0) k2001_91 u2_38_2 (hK.at rfl) (Nat.le_of_ble_eq_true rfl) (Nat.le_of_ble_eq_true rfl) (Nat.le_refl _) (Nat.le_refl _) <| h7001 hK hR (b4 h1 I7 g8 h9) (fun I10 g11 => x_iconst (v := (-1)) k2001_94 rfl <| x_icmpne (tgt := 112) k2001_95 (by decide) (fun h12 => x_iconst (v := 0) k2001_112 rfl <| x_zret k2001_113 rfl (Or.inl rfl) (Nat.le_refl _) (Nat.le_refl _) <| (q4 h1 I7 g8 h9 I10 g11 h12)) (fun h12 => x_ald0 k2001_98 <| x_getR k2001_99 f2_14_2 (hK.at rfl) rfl (hR _ _ _ rfl) <| x_cV0 (MCz := 0) (MSz := 0) k2001_102 v2_46_1 (hK.at rfl) (Nat.le_of_ble_eq_true rfl) (Nat.le_of_ble_eq_true rfl) (Nat.le_refl _) (Nat.le_refl _) <| s1003 hK hR (b5 h1 I7 g8 h9 I10 g11 h12) (fun g13 => x_ifeqF (tgt := 112) k2001_105 (by decide) (show ¬ (1 : Int32) = 0 by decide) <| x_iconst (v := 1) k2001_108 rfl <| x_goto (tgt := 113) k2001_109 (by decide) <| x_zret k2001_113 rfl (Or.inr rfl) (Nat.le_refl _) (Nat.le_refl _) <| (q5 h1 I7 g8 h9 I10 g11 h12 g13)) (fun g14 => x_ifeqT (tgt := 112) k2001_105 (by decide) (show (0 : Int32) = 0 by decide) <| x_iconst (v := 0) k2001_112 rfl <| x_zret k2001_113 rfl (Or.inl rfl) (Nat.le_refl _) (Nat.le_refl _) <| (q6 h1 I7 g8 h9 I10 g11 h12 g14))))) (fun h9 => x_ald0 k2001_65 <| x_dup k2001_66 rfl <| x_getI k2001_67 f2_20_2 (hK.at rfl) rfl <| x_iconst (v := 1) k2001_70 rfl <| x_iadd k2001_71 <| x_putI k2001_72 f2_20_2 (Or.inl rfl) (hK.at rfl) <| x_nm fun I15 e16 => x_ald0 k2001_75 <| x_cV0 (MCz := 0) (MSz := 0) k2001_76 v2_42_2 (hK.at rfl) (Nat.le_of_ble_eq_true rfl) (Nat.le_of_ble_eq_true rfl) (Nat.le_refl _) (Nat.le_refl _) <| s2002k hK hR h8 (b6 h1 I7 g8 h9 I15 e16) (fun I17 g18 => x_ifneT (tgt := 84) k2001_79 (by decide) (show ¬ (1 : Int32) = 0 by decide) <| x_inc2 (c := 1) k2001_84 rfl (Nat.le_of_ble_eq_true rfl) rfl <| x_goto (tgt := 49) k2001_87 (by decide) <| (q7 h1 I7 g8 h9 I15 e16 I17 g18)) (fun I19 g20 => x_ifneF (tgt := 84) k2001_79 (by decide) (show (0 : Int32) = 0 by decide) <| x_iconst (v := 0) k2001_82 rfl <| x_zret k2001_83 rfl (Or.inl rfl) (Nat.le_refl _) (Nat.le_refl _) <| (q8 h1 I7 g8 h9 I15 e16 I19 g20)))))
theorem hE_fr (E : hE I h) (f : qFr hAt I J) : hE J h := ⟨fun j hj => (f 4 (1 + j) (fun q => absurd q.1 (by decide))).trans (E.1 j hj), fun j hj s hs c hc => (f _ c (fun q => by have := hBs_r hj hs; have := q.1; omega)).trans (E.2 j hj s hs c hc)⟩
theorem gHe_y (hk : k ≤ n) (hb : qTb b n) (h1 : b (nx b n k) = -1) (h2 : hWh h) : gHe b n k h = (nx b n k, some h) := by unfold gHe; exact if_pos ⟨h1, h2⟩
theorem gHe_n (h1 : ¬ (b (nx b n k) = -1 ∧ hWh h)) : gHe b n k h = (nx b n k, none) := by unfold gHe; exact if_neg h1
theorem gHl_0 {f : Nat} (hx : f = 0 ∨ ¬ b (nx b n k) = 59) : gHl b n r f h k = (nx b n k, some h) := by
  cases f with
  | zero => rfl
  | succ f => rw [gHl, if_neg (hx.resolve_left (by omega))]
theorem l2001 {x1 : Int32} (hK : qLay K sz) (hR : qRef R) (h8 : ∀ k, k < n → hTw (b k)) (hr : 2 ≤ r) (hr6 : r ≤ 6) : ∀ (f i : Nat) (I : Nat → Nat → Int32) (k : Nat) (h : qHs), i + f = 160 → hS b n I k → hE I h → I 4 0 = nI r → hInv r h → (∀ J k' h2, qBd (gHl b n r f h k) (gHe b n) = (k', some h2) → hO hFc b n I k' J → hE J h2 → Q (some (.int 1)) (K, J, L, R, sz)) → (∀ J k', qBd (gHl b n r f h k) (gHe b n) = (k', none) → hO hFc b n I k' J → Q (some (.int 0)) (K, J, L, R, sz)) → X (d + 6) 0 0 2001 0 0 49 [some (.ref 3), some (.int x1), some (.int (nI i))] [] (K, I, L, R, sz) Q := by
  have mA : ∀ j k, hAt j k → hFc j k := fun j k q => Or.inl q
  intro f
  induction f with
  | zero =>
    intro i I k h hi S E h0 iv hok hbad
    obtain rfl : i = 160 := by omega
    have eV : hVl b n I = b (nx b n k) := hVl_at S
    have hb := hS.tb S
    have hkn := S.2.2.2
    have eG : qBd (gHl b n r 0 h k) (gHe b n) = gHe b n (nx b n k) h := rfl
    have hn := nx_nx hb hkn
    refine g2001_49 (r := r) (h := h) h8 hK hR (fun _ => ⟨k, S⟩) (fun _ I2 g _ => ⟨hE_fr E (hNx.at S g).1, iv⟩) (fun q => absurd (by decide) q) (fun q => absurd (by decide) q) (fun q => absurd (by decide) q) (fun q => absurd (by decide) q) (fun _ I2 g q => ?_) (fun _ I2 g q w => ?_) (fun _ I2 g q w => ?_) (fun q => absurd (by decide) q) (fun q => absurd (by decide) q) (fun q => absurd (by decide) q) (fun q => absurd (by decide) q) (fun q => absurd (by decide) q)
    · exact hbad I2 _ (by rw [eG, gHe_n (fun w => q (by rw [eV, ← hn]; exact w.1)), hn]) ((hNx.at S g).mo mA)
    · exact hok I2 _ h (by rw [eG, gHe_y (nx_le hb hkn) hb (by rw [hn, ← eV]; exact q) w, hn]) ((hNx.at S g).mo mA) (hE_fr E (hNx.at S g).1)
    · exact hbad I2 _ (by rw [eG, gHe_n (fun v => w v.2), hn]) ((hNx.at S g).mo mA)
  | succ f ih =>
    intro i I k h hi S E h0 iv hok hbad
    have eV : hVl b n I = b (nx b n k) := hVl_at S
    have hb := hS.tb S
    have hkn := S.2.2.2
    have hn := nx_nx hb hkn
    have hlt : ¬ (160 : Int32) ≤ nI i := by rw [show (160 : Int32) = nI 160 from rfl, nI_leI (by omega) (by omega)]; omega
    have e0 : ¬ hVl b n I = 59 → qBd (gHl b n r (f + 1) h k) (gHe b n) = gHe b n (nx b n k) h := fun q => qBd_S (gHl_0 (Or.inr (by rw [← eV]; exact q)))
    have eV2 : ∀ {I7 : Nat → Nat → Int32}, hNx b n I I7 → hVl b n I7 = b (nx b n k) := fun g => by rw [hVl_at (hNx.at S g).st, hn]
    have t2 : ∀ {I7 I10 : Nat → Nat → Int32}, hNx b n I I7 → hNx b n I7 I10 → hO hAt b n I (nx b n k) I10 := fun g g2 => (hNx.at S g).tr (by have := hNx.at (hNx.at S g).st g2; rw [hn] at this; exact this)
    refine g2001_49 (r := r) (h := h) h8 hK hR (fun q => absurd q hlt) (fun q => absurd q hlt) (fun _ => ⟨k, S⟩) (fun _ I7 g _ => ⟨_, (hNx.at S g).st⟩) (fun _ I7 g q I10 g2 _ => ⟨hE_fr E (t2 g g2).1, iv⟩) (fun _ I7 g q I15 e15 => ?_) (fun q => absurd q hlt) (fun q => absurd q hlt) (fun q => absurd q hlt) (fun _ I7 g q I10 g2 q2 => ?_) (fun _ I7 g q I10 g2 q2 w => ?_) (fun _ I7 g q I10 g2 q2 w => ?_) (fun _ I7 g q I15 e15 I17 gy => ?_) (fun _ I7 g q I15 e15 I19 gn => ?_)
    · have s15 := (hNx.at S g).tr (hS.inc (hNx.at S g).st (hb.lt (by rw [← eV, q]; decide)) e15)
      exact ⟨⟨_, s15.st⟩, hE_fr E s15.1, (s15.1 4 0 (fun q => absurd q.1 (by decide))).trans h0, iv⟩
    · exact hbad I10 _ (by rw [e0 q, gHe_n (fun w => q2 (by rw [eV2 g, ← hn]; exact w.1)), hn]) ((t2 g g2).mo mA)
    · exact hok I10 _ h (by rw [e0 q, gHe_y (nx_le hb hkn) hb (by rw [hn, ← eV2 g]; exact q2) w, hn]) ((t2 g g2).mo mA) (hE_fr E (t2 g g2).1)
    · exact hbad I10 _ (by rw [e0 q, gHe_n (fun v => w v.2), hn]) ((t2 g g2).mo mA)
    · have s15 := (hNx.at S g).tr (hS.inc (hNx.at S g).st (hb.lt (by rw [← eV, q]; decide)) e15)
      obtain ⟨k0, k', h2, b1, b2, b3, b4⟩ := gy
      obtain rfl := hS.uq s15.st b1
      have s17 := (s15.mo mA).tr b3
      have e1 : gHl b n r (f + 1) h k = gHl b n r f h2 k' := by rw [gHl, if_pos (by rw [← eV]; exact q), b2]; rfl
      rw [nI_1]
      refine ih (i + 1) I17 k' h2 (by omega) s17.st b4 ((s17.1 4 0 (fun q => by rcases q with q | q | q; exact absurd q.1 (by decide); exact absurd q.2 (by decide); exact absurd q.1 (by decide))).trans h0) (gHc_ok hr hr6 iv b2) (fun J k2 h3 e g3 => hok J k2 h3 (by rw [e1]; exact e) (s17.tr g3)) (fun J k2 e g3 => hbad J k2 (by rw [e1]; exact e) (s17.tr g3))
    · have s15 := (hNx.at S g).tr (hS.inc (hNx.at S g).st (hb.lt (by rw [← eV, q]; decide)) e15)
      obtain ⟨k0, k', b1, b2, b3⟩ := gn
      obtain rfl := hS.uq s15.st b1
      exact hbad I19 k' (by rw [gHl, if_pos (by rw [← eV]; exact q), b2]; rfl) ((s15.mo mA).tr b3)
/-- the class reads a house -/
theorem s2001 (hK : qLay K sz) (hR : qRef R) (h8 : ∀ k, k < n → hTw (b k)) (ht : qTp I n) (hb : ∀ j, tb I n j = b j) (hok : ∀ J k' v h, gHouse b n = (k', some (v, h)) → qFr hFz I J → J 3 1 = nI k' → J 4 0 = v → hE J h → Q (some (.int 1)) (K, J, L, R, sz)) (hbad : ∀ J k', gHouse b n = (k', none) → qFr hFz I J → J 3 1 = nI k' → Q (some (.int 0)) (K, J, L, R, sz)) : X (d + 6) 0 0 2001 0 0 0 (qent (qml 2001) [.ref 3]) [] (K, I, L, R, sz) Q := by
  have mA : ∀ j k, hAt j k → hFz j k := fun j k q => Or.inl q
  have mC : ∀ j k, hFc j k → hFz j k := fun j k q => by
    rcases q with q | q | q
    · exact Or.inl q
    · exact Or.inr ⟨by omega, by omega⟩
    · exact Or.inr ⟨by omega, by omega⟩
  have st3 : ∀ {I1 I3 : Nat → Nat → Int32}, I1 = va_up I 3 (upd (I 3) 1 0) → hCl I1 I3 → hO hFz b n I 0 I3 ∧ hE I3 hs0 := fun {I1 I3} e c => by
    obtain ⟨t1, t2⟩ := qTp_up (o := 3) (f := upd (I 3) 1 0) (by decide) (by decide) ht hb
    rw [← e] at t1 t2
    have hf := c.1
    refine ⟨⟨qFr.trans (by rw [e]; exact qFr.up1 (Or.inl ⟨rfl, rfl⟩)) (hf.mono (fun j k q => Or.inr q)), ?_, ?_, ?_, Nat.zero_le _⟩, c.2⟩
    · unfold qTp; rw [hf 1 1 (by decide)]; exact t1
    · intro z; rw [← t2 z]; unfold tb; rw [hf 2 z (fun q => absurd q.1 (by decide))]
    · rw [hf 3 1 (by decide), e]; exact up_at
  have hq : qTb b n := qTp_b ht hb
  refine e2001 hK hR (fun I1 e1 I3 c => ⟨⟨0, (st3 e1 c).1.st⟩, by decide⟩) (fun I1 e1 I3 c I5 g => ⟨_, (hPy.at (st3 e1 c).1.st g).2.st⟩) (fun I1 e1 I3 c I5 g I7 v gv hv I11 e11 => ?_) (fun I1 e1 I3 c I5 g I7 v gv hv => ?_) (fun I1 e1 I3 c I5 g I13 gn => ?_) (fun I1 e1 I3 c I15 g => ?_)
  · obtain ⟨s3, E3⟩ := st3 e1 c
    obtain ⟨q1, s5⟩ := hPy.at s3.st g
    obtain ⟨k7, q2, s7⟩ := hNy.at s5.st gv
    obtain ⟨v1, v2⟩ := gNum_in q2
    obtain ⟨w1, w2, w3⟩ := rNat v1 v2
    have s75 := s5.tr s7
    have s71 := s3.tr (s75.mo mA)
    have st11 : hS b n I11 k7 := by rw [e11]; exact hS_up (by decide) s7.st
    have E7 := hE_fr E3 s75.1
    have f11 : qFr (fun j k => j = 4 ∧ k = 0) I7 I11 := by rw [e11]; exact qFr.up1 ⟨rfl, rfl⟩
    have E11 : hE I11 hs0 := ⟨fun j hj => (f11 4 (1 + j) (by omega)).trans (E7.1 j hj), fun j hj s hs c hc => (f11 _ c (fun q => by have := hBs_r hj hs; have := q.1; omega)).trans (E7.2 j hj s hs c hc)⟩
    have s11 : hO hFz b n I k7 I11 := ⟨s71.1.trans (f11.mono (fun j k q => Or.inr ⟨by omega, by omega⟩)), st11⟩
    have h40 : I11 4 0 = v := by rw [e11]; exact up_at
    have eG : gHouse b n = qBd (qBd (gHl b n v.toNatClampNeg 160 hs0 k7) (gHe b n)) (fun k2 h => (k2, some (v, h))) := by unfold gHouse; rw [if_pos q1, q2]; rfl
    refine l2001 (r := v.toNatClampNeg) hK hR h8 w2 w3 160 0 I11 k7 hs0 rfl st11 E11 (h40.trans w1) hInv_0 (fun J k' h2 e gJ EJ => hok J k' v h2 (by rw [eG, e]; rfl) (s11.tr (gJ.mo mC)).1 gJ.st.2.2.1 ?_ EJ) (fun J k' e gJ => hbad J k' (by rw [eG, e]; rfl) (s11.tr (gJ.mo mC)).1 gJ.st.2.2.1)
    exact (gJ.1 4 0 (fun q => by rcases q with q | q | q; exact absurd q.1 (by decide); exact absurd q.2 (by decide); exact absurd q.1 (by decide))).trans h40
  · obtain ⟨q1, s5⟩ := hPy.at (st3 e1 c).1.st g
    obtain ⟨k7, q2, s7⟩ := hNy.at s5.st gv
    have := (gNum_in q2).1
    rw [hv] at this
    exact absurd this (by decide)
  · obtain ⟨q1, s5⟩ := hPy.at (st3 e1 c).1.st g
    obtain ⟨k7, q2, s7⟩ := hNn.at s5.st gn
    exact hbad I13 k7 (by unfold gHouse; rw [if_pos q1, q2]; rfl) ((st3 e1 c).1.tr ((s5.tr s7).mo mA)).1 s7.st.2.2.1
  · obtain ⟨q1, s5⟩ := hPn.at (st3 e1 c).1.st g
    exact hbad I15 _ (by unfold gHouse; rw [if_neg q1]) ((st3 e1 c).1.tr (s5.mo mA)).1 s5.st.2.2.1
end L36zy
