/-! acts: image, back -/
def imC (I J : Nat → Nat → Int32) : Prop := qFr (fun j k => (j = 0 ∧ k = 13) ∨ (j = 60 ∧ (k = 5 ∨ k = 6)) ∨ (61 ≤ j ∧ j ≤ 63) ∨ j = 67) I J ∧ J 0 13 = 1 ∧ J 60 5 = I 51 5 ∧ (∀ i, i < 40 → J 61 i = I 52 i ∧ J 62 i = I 53 i ∧ J 63 i = I 54 i) ∧ ∀ s, s < 5 → J 67 s = I 58 s
def imR (I J : Nat → Nat → Int32) : Prop := qFr (fun j k => j = 105 ∨ (j = 73 ∧ (k = 59 ∨ k = 60))) I J ∧ J 73 59 = I 73 33 ∧ J 73 60 = 1 ∧ (∀ i, i < 40 → J 105 (3 * i) = I 86 i ∧ J 105 (3 * i + 1) = I 87 i ∧ J 105 (3 * i + 2) = I 88 i) ∧ ∀ s, s < 5 → J 105 (120 + s) = I 100 s
def bkC (I J : Nat → Nat → Int32) : Prop := qFr (fun j k => (j = 51 ∧ (k = 5 ∨ k = 6)) ∨ (52 ≤ j ∧ j ≤ 54) ∨ j = 58) I J ∧ J 51 5 = I 60 5 ∧ J 51 6 = 0 ∧ J 52 = cpw (I 61) (I 52) 40 ∧ J 53 = cpw (I 62) (I 53) 40 ∧ J 54 = cpw (I 63) (I 54) 40 ∧ J 58 = cpw (I 67) (I 58) 5
def bkR (I J : Nat → Nat → Int32) : Prop := qFr (fun j k => (j = 73 ∧ k = 33) ∨ (86 ≤ j ∧ j ≤ 88) ∨ j = 100) I J ∧ J 73 33 = I 73 59 ∧ J 86 = cpw (fun i => I 105 (3 * i)) (I 86) 40 ∧ J 87 = cpw (fun i => I 105 (3 * i + 1)) (I 87) 40 ∧ J 88 = cpw (fun i => I 105 (3 * i + 2)) (I 88) 40 ∧ J 100 = cpw (fun s => I 105 (120 + s)) (I 100) 5
theorem cpw_0 {f g : Nat → Int32} : cpw f g 0 = g := by funext j; rw [cpw, if_neg (by omega)]
theorem cpw_s {f g : Nat → Int32} {i : Nat} : upd (cpw f g i) i (f i) = cpw f g (i + 1) := by
  funext j
  rw [upd, cpw, cpw]
  by_cases h : j = i
  · rw [if_pos h, if_pos (by omega), h]
  · rw [if_neg h]
    by_cases h2 : j < i
    · rw [if_pos h2, if_pos (by omega)]
    · rw [if_neg h2, if_neg (by omega)]
section L74
variable {d : Nat} {K : qK} {I J H : Nat → Nat → Int32} {L : Nat → Nat → Int64} {R : Nat → Nat → Option Nat} {sz : Nat} {Q : Option Value → qMem → Prop} {p : qPa}
theorem s11035 (hK : qLay K sz) (hR : qRef R) (cI : CI I p) (ht : ¬ pS p = 0 → ∀ J, imC I J → Q (some (.int (nI (pN p)))) (K, J, L, R, sz)) (hf : pS p = 0 → Q (some (.int (-1))) (K, I, L, R, sz)) : X (d + 2) 0 0 11035 0 0 0 (qent (qml 11035) [.ref 0]) [] (K, I, L, R, sz) Q := by
  refine z11035 (p := p) hK hR cI (fun h J1 h1 J2 h2 J3 h3 => ?_) hf
  obtain ⟨a1, a2, a3, a4, a5⟩ := h1
  obtain ⟨b1, b2⟩ := h2
  subst h3
  have e51 : J2 51 5 = nI (pN p) := by rw [b1 51 5 (by decide), a1 51 5 (by omega)]; exact cI.2.1.1
  have := ht h (va_up J2 0 (upd (J2 0) 13 1)) ⟨fun j k q => ?_, ?_, ?_, fun i hi => ?_, fun s hs => ?_⟩
  · show Q (some (.int (J2 51 5))) _
    rw [e51]; exact this
  · by_cases hj : j = 0
    · subst hj
      rw [vu_s, upd, if_neg (by omega), b1 0 k (by omega), a1 0 k (by omega)]
    · rw [vu_n hj, b1 j k (by omega), a1 j k (by omega)]
  · rfl
  · show J2 60 5 = _
    rw [b1 60 5 (by decide)]; exact a2
  · show J2 61 i = _ ∧ J2 62 i = _ ∧ J2 63 i = _
    rw [b1 61 i (by omega), b1 62 i (by omega), b1 63 i (by omega), a3, a4, a5, cpw, cpw, cpw, if_pos hi, if_pos hi, if_pos hi]
    exact ⟨rfl, rfl, rfl⟩
  · show J2 67 s = _
    rw [b2, cpw, if_pos hs, a1 58 s (by omega)]
theorem s11036 (hK : qLay K sz) (hR : qRef R) (ht : ¬ I 0 13 = 0 → ∀ J, bkC I J → Q (some (.int (I 60 5))) (K, J, L, R, sz)) (hf : I 0 13 = 0 → Q (some (.int (-1))) (K, I, L, R, sz)) : X (d + 2) 0 0 11036 0 0 0 (qent (qml 11036) [.ref 0]) [] (K, I, L, R, sz) Q := by
  refine z11036 hK hR (fun h J1 h1 J2 h2 => ?_) hf
  obtain ⟨a1, a2, a3, a4, a5, a6⟩ := h1
  obtain ⟨b1, b2⟩ := h2
  have e51 : J2 51 5 = I 60 5 := by rw [b1 51 5 (by decide)]; exact a2
  rw [e51]
  refine ht h J2 ⟨fun j k q => by rw [b1 j k (by omega), a1 j k (by omega)], e51, by rw [b1 51 6 (by decide)]; exact a3, by rw [b1.row (j := 52) (fun _ => by decide)]; exact a4, by rw [b1.row (j := 53) (fun _ => by decide)]; exact a5, by rw [b1.row (j := 54) (fun _ => by decide)]; exact a6, ?_⟩
  rw [b2, a1.row (j := 67) (fun _ => by omega), a1.row (j := 58) (fun _ => by omega)]
theorem l12103a {x : Int32} (hK : qLay K sz) (hR : qRef R) (hq : ∀ J, qFr (fun j _ => j = 105) I J → (∀ i, i < 40 → J 105 (3 * i) = I 86 i ∧ J 105 (3 * i + 1) = I 87 i ∧ J 105 (3 * i + 2) = I 88 i) → X d 0 0 12103 0 0 71 [some (.ref 73), some (.int 0)] [] (K, J, L, R, sz) Q) : ∀ (k i : Nat) (J : Nat → Nat → Int32), i + k = 40 → qFr (fun j _ => j = 105) I J → (∀ t, t < i → J 105 (3 * t) = I 86 t ∧ J 105 (3 * t + 1) = I 87 t ∧ J 105 (3 * t + 2) = I 88 t) → X d 0 0 12103 0 0 11 [some (.ref 73), some (.int (nI i))] [] (K, J, L, R, sz) Q := by
  intro k
  induction k with
  | zero =>
    intro i J hi hf h105
    have hle : 40 ≤ nI i := nI_le (a := 40) (by omega) (by omega)
    exact g12103_11 hK hR (fun h => absurd hle h) (fun h => absurd hle h) (fun h => absurd hle h) (fun h => absurd hle h) (fun _ => hq J hf (by rw [show i = 40 from by omega] at h105; exact h105)) (fun h => absurd hle h)
  | succ k ih =>
    intro i J hi hf h105
    have hnl : ¬ 40 ≤ nI i := nI_ge (b := 40) (by omega) (by omega)
    have e0 : (3 * nI i : Int32) = nI (3 * i) := by have := q_3j i 0; rw [show nI 0 = (0 : Int32) from rfl, Int32.add_zero] at this; exact this
    have e1 : (3 * nI i + 1 : Int32) = nI (3 * i + 1) := q_3j i 1
    have e2 : (3 * nI i + 2 : Int32) = nI (3 * i + 2) := q_3j i 2
    refine g12103_11 hK hR (fun _ => vI (by omega) (by omega)) (fun _ => by rw [e0]; exact vI (by omega) (by omega)) (fun _ _ _ => by rw [e1]; exact vI (by omega) (by omega)) (fun _ _ _ _ _ => by rw [e2]; exact vI (by omega) (by omega)) (fun h => absurd h hnl) (fun _ J1 h1 J2 h2 J3 h3 => ?_)
    rw [e0, nI_c (by omega), nI_c (by omega)] at h1
    rw [e1, nI_c (by omega), nI_c (by omega)] at h2
    rw [e2, nI_c (by omega), nI_c (by omega)] at h3
    rw [nI_1]
    subst h1 h2 h3
    have r86 : J 86 = I 86 := hf.row (fun _ => by decide)
    have r87 : J 87 = I 87 := hf.row (fun _ => by decide)
    have r88 : J 88 = I 88 := hf.row (fun _ => by decide)
    refine ih (i + 1) _ (by omega) (((hf.trans (qFr.up (P := fun j _ => j = 105) (fun _ => rfl))).trans (qFr.up (P := fun j _ => j = 105) (fun _ => rfl))).trans (qFr.up (P := fun j _ => j = 105) (fun _ => rfl))) (fun t ht => ?_)
    show upd (upd (upd (J 105) (3 * i) (J 86 i)) (3 * i + 1) (J 87 i)) (3 * i + 2) (J 88 i) (3 * t) = _ ∧ upd (upd (upd (J 105) (3 * i) (J 86 i)) (3 * i + 1) (J 87 i)) (3 * i + 2) (J 88 i) (3 * t + 1) = _ ∧ upd (upd (upd (J 105) (3 * i) (J 86 i)) (3 * i + 1) (J 87 i)) (3 * i + 2) (J 88 i) (3 * t + 2) = _
    by_cases hti : t = i
    · subst hti
      rw [r86, r87, r88]
      simp [upd]
    · have := h105 t (by omega)
      rw [upd, upd, upd, upd, upd, upd, upd, upd, upd, if_neg (by omega), if_neg (by omega), if_neg (by omega), if_neg (by omega), if_neg (by omega), if_neg (by omega), if_neg (by omega), if_neg (by omega), if_neg (by omega)]
      exact this
theorem l12103b (hK : qLay K sz) (hR : qRef R) (hq : ∀ J, qFr (fun j k => (j = 105 ∧ 120 ≤ k) ∨ (j = 73 ∧ (k = 59 ∨ k = 60))) I J → J 73 59 = I 73 33 → J 73 60 = 1 → (∀ s, s < 5 → J 105 (120 + s) = I 100 s) → Q (some (.int (I 73 33))) (K, J, L, R, sz)) : ∀ (k i : Nat) (J : Nat → Nat → Int32), i + k = 5 → qFr (fun j k => j = 105 ∧ 120 ≤ k) I J → (∀ s, s < i → J 105 (120 + s) = I 100 s) → X d 0 0 12103 0 0 71 [some (.ref 73), some (.int (nI i))] [] (K, J, L, R, sz) Q := by
  intro k
  induction k with
  | zero =>
    intro i J hi hf h105
    have hle : 5 ≤ nI i := nI_le (a := 5) (by omega) (by omega)
    refine g12103_71 hK hR (fun h => absurd hle h) (fun h => absurd hle h) (fun _ J1 h1 J2 h2 => ?_) (fun h => absurd hle h)
    subst h1 h2
    have e33 : J 73 33 = I 73 33 := hf 73 33 (by omega)
    have := hq (va_up (va_up J 73 (upd (J 73) 59 (J 73 33))) 73 (upd ((va_up J 73 (upd (J 73) 59 (J 73 33))) 73) 60 1)) ?_ e33 rfl (fun s hs => h105 s (by omega))
    · show Q (some (.int (J 73 33))) _
      rw [e33]
      rw [e33] at this
      exact this
    · refine ((hf.mono (fun j k q => Or.inl q)).trans (qFr.up1 (by simp))).trans (qFr.up1 (by simp))
  | succ k ih =>
    intro i J hi hf h105
    have hnl : ¬ 5 ≤ nI i := nI_ge (b := 5) (by omega) (by omega)
    have e0 : (120 + nI i : Int32) = nI (120 + i) := nI_add 120 i
    refine g12103_71 hK hR (fun _ => vI (by omega) (by omega)) (fun _ => by rw [e0]; exact vI (by omega) (by omega)) (fun h => absurd h hnl) (fun _ J1 h1 => ?_)
    rw [e0, nI_c (by omega), nI_c (by omega)] at h1
    rw [nI_1]
    subst h1
    refine ih (i + 1) _ (by omega) (hf.trans (qFr.up1 (P := fun j k => j = 105 ∧ 120 ≤ k) ⟨rfl, by omega⟩)) (fun s hs => ?_)
    rw [vu_s, upd]
    by_cases hsi : s = i
    · subst hsi
      rw [if_pos rfl, hf 100 s (by omega)]
    · rw [if_neg (by omega)]; exact h105 s (by omega)
theorem s12103 (hK : qLay K sz) (hR : qRef R) (hz : I 73 24 = 0 ↔ pS p = 0) (ht : ¬ pS p = 0 → ∀ J, imR I J → Q (some (.int (I 73 33))) (K, J, L, R, sz)) (hf : pS p = 0 → Q (some (.int (-1))) (K, I, L, R, sz)) : X d 0 0 12103 0 0 0 (qent (qml 12103) [.ref 73]) [] (K, I, L, R, sz) Q := by
  refine e12103 hK (fun h => ?_) (fun h => hf (hz.mp h))
  refine l12103a (x := 0) (I := I) hK hR (fun J1 f1 h1 => ?_) 40 0 I rfl qFr.refl (fun t ht => by omega)
  refine l12103b (I := J1) hK hR (fun J2 f2 h2 h3 h4 => ?_) 5 0 J1 rfl qFr.refl (fun t ht => by omega)
  have e33 : J1 73 33 = I 73 33 := f1 73 33 (by decide)
  rw [e33]
  refine ht (fun q => h (hz.mpr q)) J2 ⟨fun j k q => by rw [f2 j k (by omega), f1 j k (by omega)], by rw [h2, e33], h3, fun i hi => ?_, fun s hs => by rw [h4 s hs, f1 100 s (by omega)]⟩
  rw [f2 105 _ (by omega), f2 105 _ (by omega), f2 105 _ (by omega)]
  exact h1 i hi
theorem l12104a (hK : qLay K sz) (hR : qRef R) (hq : ∀ J, qFr (fun j _ => 86 ≤ j ∧ j ≤ 88) I J → J 86 = cpw (fun i => I 105 (3 * i)) (I 86) 40 → J 87 = cpw (fun i => I 105 (3 * i + 1)) (I 87) 40 → J 88 = cpw (fun i => I 105 (3 * i + 2)) (I 88) 40 → X d 0 0 12104 0 0 71 [some (.ref 73), some (.int 0)] [] (K, J, L, R, sz) Q) : ∀ (k i : Nat) (J : Nat → Nat → Int32), i + k = 40 → qFr (fun j _ => 86 ≤ j ∧ j ≤ 88) I J → J 86 = cpw (fun i => I 105 (3 * i)) (I 86) i → J 87 = cpw (fun i => I 105 (3 * i + 1)) (I 87) i → J 88 = cpw (fun i => I 105 (3 * i + 2)) (I 88) i → X d 0 0 12104 0 0 11 [some (.ref 73), some (.int (nI i))] [] (K, J, L, R, sz) Q := by
  intro k
  induction k with
  | zero =>
    intro i J hi hf h6 h7 h8
    have hle : 40 ≤ nI i := nI_le (a := 40) (by omega) (by omega)
    have : i = 40 := by omega
    subst this
    exact g12104_11 hK hR (fun h => absurd hle h) (fun h => absurd hle h) (fun h => absurd hle h) (fun h => absurd hle h) (fun _ => hq J hf h6 h7 h8) (fun h => absurd hle h)
  | succ k ih =>
    intro i J hi hf h6 h7 h8
    have hnl : ¬ 40 ≤ nI i := nI_ge (b := 40) (by omega) (by omega)
    have e0 : (3 * nI i : Int32) = nI (3 * i) := by have := q_3j i 0; rw [show nI 0 = (0 : Int32) from rfl, Int32.add_zero] at this; exact this
    have e1 : (3 * nI i + 1 : Int32) = nI (3 * i + 1) := q_3j i 1
    have e2 : (3 * nI i + 2 : Int32) = nI (3 * i + 2) := q_3j i 2
    refine g12104_11 hK hR (fun _ => by rw [e0]; exact vI (by omega) (by omega)) (fun _ => vI (by omega) (by omega)) (fun _ _ _ => by rw [e1]; exact vI (by omega) (by omega)) (fun _ _ _ _ _ => by rw [e2]; exact vI (by omega) (by omega)) (fun h => absurd h hnl) (fun _ J1 h1 J2 h2 J3 h3 => ?_)
    rw [e0, nI_c (by omega), nI_c (by omega)] at h1
    rw [e1, nI_c (by omega), nI_c (by omega)] at h2
    rw [e2, nI_c (by omega), nI_c (by omega)] at h3
    rw [nI_1]
    subst h1 h2 h3
    have r105 : J 105 = I 105 := hf.row (fun _ => by decide)
    refine ih (i + 1) _ (by omega) (((hf.trans (qFr.up (P := fun j _ => 86 ≤ j ∧ j ≤ 88) (fun _ => by decide))).trans (qFr.up (P := fun j _ => 86 ≤ j ∧ j ≤ 88) (fun _ => by decide))).trans (qFr.up (P := fun j _ => 86 ≤ j ∧ j ≤ 88) (fun _ => by decide))) ?_ ?_ ?_
    · show upd (J 86) i (J 105 (3 * i)) = _
      rw [h6, r105]; exact cpw_s (f := fun i => I 105 (3 * i))
    · show upd (J 87) i (J 105 (3 * i + 1)) = _
      rw [h7, r105]; exact cpw_s (f := fun i => I 105 (3 * i + 1))
    · show upd (J 88) i (J 105 (3 * i + 2)) = _
      rw [h8, r105]; exact cpw_s (f := fun i => I 105 (3 * i + 2))
theorem l12104b (hK : qLay K sz) (hR : qRef R) (hq : ∀ J, qFr (fun j k => j = 100 ∨ (j = 73 ∧ k = 33)) I J → J 73 33 = I 73 59 → J 100 = cpw (fun s => I 105 (120 + s)) (I 100) 5 → Q (some (.int (I 73 59))) (K, J, L, R, sz)) : ∀ (k i : Nat) (J : Nat → Nat → Int32), i + k = 5 → qFr (fun j _ => j = 100) I J → J 100 = cpw (fun s => I 105 (120 + s)) (I 100) i → X d 0 0 12104 0 0 71 [some (.ref 73), some (.int (nI i))] [] (K, J, L, R, sz) Q := by
  intro k
  induction k with
  | zero =>
    intro i J hi hf h100
    have hle : 5 ≤ nI i := nI_le (a := 5) (by omega) (by omega)
    have : i = 5 := by omega
    subst this
    refine g12104_71 hK hR (fun h => absurd hle h) (fun h => absurd hle h) (fun _ J1 h1 => ?_) (fun h => absurd hle h)
    subst h1
    have e59 : J 73 59 = I 73 59 := hf 73 59 (by decide)
    have := hq (va_up J 73 (upd (J 73) 33 (J 73 59))) ((hf.mono (fun j k q => Or.inl q)).trans (qFr.up1 (by simp))) e59 h100
    show Q (some (.int (J 73 59))) _
    rw [e59] at this ⊢
    exact this
  | succ k ih =>
    intro i J hi hf h100
    have hnl : ¬ 5 ≤ nI i := nI_ge (b := 5) (by omega) (by omega)
    have e0 : (120 + nI i : Int32) = nI (120 + i) := nI_add 120 i
    refine g12104_71 hK hR (fun _ => by rw [e0]; exact vI (by omega) (by omega)) (fun _ => vI (by omega) (by omega)) (fun h => absurd h hnl) (fun _ J1 h1 => ?_)
    rw [e0, nI_c (by omega), nI_c (by omega)] at h1
    rw [nI_1]
    subst h1
    refine ih (i + 1) _ (by omega) (hf.trans (qFr.up (P := fun j _ => j = 100) (fun _ => rfl))) ?_
    show upd (J 100) i (J 105 (120 + i)) = _
    rw [h100, hf.row (j := 105) (fun _ => by decide)]; exact cpw_s (f := fun s => I 105 (120 + s))
theorem s12104 (hK : qLay K sz) (hR : qRef R) (ht : ¬ I 73 60 = 0 → ∀ J, bkR I J → Q (some (.int (I 73 59))) (K, J, L, R, sz)) (hf : I 73 60 = 0 → Q (some (.int (-1))) (K, I, L, R, sz)) : X d 0 0 12104 0 0 0 (qent (qml 12104) [.ref 73]) [] (K, I, L, R, sz) Q := by
  refine e12104 hK (fun h => ?_) hf
  refine l12104a (I := I) hK hR (fun J1 f1 h6 h7 h8 => ?_) 40 0 I rfl qFr.refl cpw_0.symm cpw_0.symm cpw_0.symm
  refine l12104b (I := J1) hK hR (fun J2 f2 h2 h3 => ?_) 5 0 J1 rfl qFr.refl cpw_0.symm
  have e59 : J1 73 59 = I 73 59 := f1 73 59 (by decide)
  rw [e59]
  refine ht h J2 ⟨fun j k q => by rw [f2 j k (by omega), f1 j k (by omega)], by rw [h2, e59], ?_, ?_, ?_, ?_⟩
  · rw [f2.row (j := 86) (fun _ => by omega)]; exact h6
  · rw [f2.row (j := 87) (fun _ => by omega)]; exact h7
  · rw [f2.row (j := 88) (fun _ => by omega)]; exact h8
  · rw [h3, f1.row (j := 105) (fun _ => by omega), f1.row (j := 100) (fun _ => by omega)]
theorem iNV_image (h : iNV I p) (g : imC I J) (g2 : imR J H) : iNV H p := by
  obtain ⟨f1, f2, f3, f4, f5⟩ := g
  obtain ⟨k1, k2, k3, k4, k5⟩ := g2
  have n40 := h.1.2.1.2.1
  have hr := h.2.1.2.2.1
  refine iNV_im h (fun j k q => by unfold kpI at q; rw [k1 j k (by omega), f1 j k (by omega)]) ?_
  have eH : ∀ j, (60 ≤ j ∧ j ≤ 68) → H j = J j := fun j hj => k1.row (fun k q => by omega)
  have e86 : J 86 = I 52 := (f1.row (fun k q => by omega)).trans hr.2.1
  have e87 : J 87 = I 53 := (f1.row (fun k q => by omega)).trans hr.2.2.1
  have e88 : J 88 = I 54 := (f1.row (fun k q => by omega)).trans hr.2.2.2
  have e100 : ∀ s, J 100 s = I 100 s := fun s => f1 100 s (by omega)
  refine ⟨by rw [k3, k1 0 13 (by omega)]; exact f2.symm, Or.inr (by rw [k1 0 13 (by omega)]; exact f2), fun _ => ⟨⟨pN p, n40, ?_, ?_, ?_, ?_⟩, ?_, ?_⟩⟩
  · rw [k1 60 5 (by omega), f3]; exact h.1.2.1.1
  · rw [k2, f1 73 33 (by omega), hr.1]; exact h.1.2.1.1
  · intro i hi
    rw [eH 61 (by omega), eH 62 (by omega), eH 63 (by omega), (f4 i (by omega)).1, (f4 i (by omega)).2.1, (f4 i (by omega)).2.2]
    exact h.1.2.1.2.2.1 i hi
  · intro i j hij hj
    rw [eH 63 (by omega), (f4 i (by omega)).2.2, (f4 j (by omega)).2.2]
    exact h.1.2.1.2.2.2 i j hij hj
  · intro i hi
    rw [(k4 i hi).1, (k4 i hi).2.1, (k4 i hi).2.2, eH 61 (by omega), eH 62 (by omega), eH 63 (by omega), (f4 i hi).1, (f4 i hi).2.1, (f4 i hi).2.2, e86, e87, e88]
    exact ⟨rfl, rfl, rfl⟩
  · intro s hs
    rw [k5 s hs, eH 67 (by omega), f5 s hs, e100]
    exact h.2.2.2.2.1 s hs
theorem iNV_back (h : iNV I p) (hi : ¬ I 0 13 = 0) (g : bkC I J) (g2 : bkR J H) : ∃ n, H 51 5 = nI n ∧ iNV H (pNn p n) := by
  obtain ⟨f1, f2, f3, f4, f5, f6, f7⟩ := g
  obtain ⟨k1, k2, k3, k4, k5, k6⟩ := g2
  have hr := h.2.1.2.2.1
  obtain ⟨-, m1, m2⟩ := h.2.2.2.2.2.1
  obtain ⟨⟨n, n40, n1, n2, n3, n4⟩, m3, m4⟩ := m2 (m1.resolve_left hi)
  obtain ⟨j0, j1, j2, -⟩ := h.1.2.2.1
  have eH : ∀ j, ((52 ≤ j ∧ j ≤ 54) ∨ j = 58) → H j = J j := fun j hj => k1.row (fun k q => by omega)
  have eJ : ∀ j, ((86 ≤ j ∧ j ≤ 88) ∨ j = 100 ∨ j = 105) → J j = I j := fun j hj => f1.row (fun k q => by omega)
  have ex : ∀ (f g f' g' : Nat → Int32), (∀ i, i < 40 → f i = f' i) → g = g' → cpw f g 40 = cpw f' g' 40 := by
    intro f g f' g' h1 h2
    funext i
    rw [cpw, cpw, h2]
    split
    · next q => exact h1 i q
    · rfl
  have hM : iNV (va_up (va_up H 58 (I 58)) 100 (I 100)) (pNn p n) := by
    have e1 : ∀ j, j ≠ 58 → j ≠ 100 → va_up (va_up H 58 (I 58)) 100 (I 100) j = H j := fun j q1 q2 => by rw [vu_n q2, vu_n q1]
    refine iNV_tk (n := n) (j0 := j0) (j := 0) (wo := cpw (I 61) (I 52) 40) (wm := cpw (I 62) (I 53) 40) (mi := cpw (I 63) (I 54) 40) h (fun j k q => ?_) ⟨n40, fun i hi => ?_, fun i j hij hj => ?_⟩ ?_ ?_ j2 j1 (Nat.zero_le _) (Nat.zero_le _) ?_ ?_ ?_ ?_ ?_ ?_ ?_ (fun i hi => by omega)
    · by_cases h1 : j = 100
      · subst h1; rw [vu_s]
      · rw [vu_n h1]
        by_cases h2 : j = 58
        · subst h2; rw [vu_s]
        · rw [vu_n h2, k1 j k (by omega), f1 j k (by omega)]
    · rw [cpw, cpw, cpw, if_pos (by omega), if_pos (by omega), if_pos (by omega)]; exact n3 i hi
    · rw [cpw, cpw, if_pos (by omega), if_pos (by omega)]; exact n4 i j hij hj
    · rw [e1 51 (by omega) (by omega), k1 51 5 (by omega), f2]; exact n1
    · rw [e1 51 (by omega) (by omega), k1 51 6 (by omega)]; exact f3
    · rw [e1 52 (by omega) (by omega), eH 52 (by omega)]; exact f4
    · rw [e1 53 (by omega) (by omega), eH 53 (by omega)]; exact f5
    · rw [e1 54 (by omega) (by omega), eH 54 (by omega)]; exact f6
    · rw [e1 73 (by omega) (by omega), k2, f1 73 59 (by omega)]; exact n2
    · rw [e1 86 (by omega) (by omega), k3, eJ 105 (by omega), eJ 86 (by omega)]
      exact ex _ _ _ _ (fun i hi => (m3 i hi).1) hr.2.1
    · rw [e1 87 (by omega) (by omega), k4, eJ 105 (by omega), eJ 87 (by omega)]
      exact ex _ _ _ _ (fun i hi => (m3 i hi).2.1) hr.2.2.1
    · rw [e1 88 (by omega) (by omega), k5, eJ 105 (by omega), eJ 88 (by omega)]
      exact ex _ _ _ _ (fun i hi => (m3 i hi).2.2) hr.2.2.2
  refine ⟨n, by rw [k1 51 5 (by omega), f2]; exact n1, iNV_sn hM (fun j k q => ?_) (fun s hs => ?_)⟩
  · unfold kpS at q
    rw [vu_n (by omega), vu_n (by omega)]
  · rw [k6, eH 58 (by omega), f7, cpw, cpw, if_pos hs, if_pos hs, eJ 105 (by omega)]
    exact m4 s hs
end L74
