/-! spans: swing, the leanings with one left out -/
theorem qOft_m {wo wm : Nat → Int32} {lf lf' : Int32} {i : Nat} : ∀ k, (∀ j, j < k → (nI j = lf ↔ nI j = lf')) → qOft wo wm lf i k = qOft wo wm lf' i k := by
  intro k
  induction k with
  | zero => intro _; rfl
  | succ k ih =>
    intro h
    rw [qOft, qOft, ih (fun j hj => h j (by omega))]
    have := h k (Nat.lt_succ_self k)
    by_cases hc : ¬ nI k = lf ∧ wm k = wm i
    · have hc' : ¬ nI k = lf' ∧ wm k = wm i := ⟨fun q => hc.1 (this.mpr q), hc.2⟩
      rw [if_pos hc, if_pos hc']
    · have hc' : ¬ (¬ nI k = lf' ∧ wm k = wm i) := fun q => hc ⟨fun w => q.1 (this.mp w), q.2⟩
      rw [if_neg hc, if_neg hc']
theorem qSin_m {wm mi : Nat → Int32} {lf lf' : Int32} {i : Nat} : ∀ k, (∀ j, j < k → (nI j = lf ↔ nI j = lf')) → qSin wm mi lf i k = qSin wm mi lf' i k := by
  intro k
  induction k with
  | zero => intro _; rfl
  | succ k ih =>
    intro h
    rw [qSin, qSin, ih (fun j hj => h j (by omega))]
    have := h k (Nat.lt_succ_self k)
    by_cases hc : ¬ nI k = lf ∧ wm k = wm i
    · have hc' : ¬ nI k = lf' ∧ wm k = wm i := ⟨fun q => hc.1 (this.mpr q), hc.2⟩
      rw [if_pos hc, if_pos hc']
    · have hc' : ¬ (¬ nI k = lf' ∧ wm k = wm i) := fun q => hc ⟨fun w => q.1 (this.mp w), q.2⟩
      rw [if_neg hc, if_neg hc']
theorem qCnt_m {wo wm mi br : Nat → Int32} {h : Option (List qCls)} {lf lf' : Int32} {i : Nat} (hh : ∀ j, j < i → (nI j = lf ↔ nI j = lf')) : qCnt wo wm mi br h lf i ↔ qCnt wo wm mi br h lf' i := by
  unfold qCnt
  rw [qOft_m i hh, qSin_m i hh]
theorem qLn_cong2 {wo wm mi : Nat → Int32} {cnt cnt' : Nat → Prop} {t la : Int32} : ∀ n, (∀ i, i < n → ¬ t < mi i → (cnt i ↔ cnt' i)) → qLn cnt wo wm mi t la n = qLn cnt' wo wm mi t la n := by
  intro n
  induction n with
  | zero => intro _; rfl
  | succ n ih =>
    intro h
    rw [qLn, qLn, ih (fun i hi => h i (by omega))]
    have hn := h n (Nat.lt_succ_self n)
    by_cases hc : cnt n ∧ ¬ t < mi n
    · have hc2 : cnt' n ∧ ¬ t < mi n := ⟨(hn hc.2).mp hc.1, hc.2⟩
      rw [if_pos hc, if_pos hc2]
    · have hc2 : ¬ (cnt' n ∧ ¬ t < mi n) := fun q => hc ⟨(hn q.2).mpr q.1, q.2⟩
      rw [if_neg hc, if_neg hc2]
/-- the class's state is told by rows 0, 22 .. 55 -/
theorem CI_tr {I J : Nat → Nat → Int32} {p : qPa} (h0 : J 0 = I 0) (h : ∀ j, 22 ≤ j → j ≤ 55 → J j = I j) (c : CI I p) : CI J p := by
  obtain ⟨⟨⟨a1, a2, a3, a4⟩, ⟨b1, b2, b3, b4⟩, hc, hd, he⟩, c2, ⟨j, j1, j2, j3⟩, c4, c5, c6⟩ := c
  have e22 : J 22 = I 22 := h 22 (by omega) (by omega)
  have e51 : J 51 = I 51 := h 51 (by omega) (by omega)
  have e52 : J 52 = I 52 := h 52 (by omega) (by omega)
  have e53 : J 53 = I 53 := h 53 (by omega) (by omega)
  have e54 : J 54 = I 54 := h 54 (by omega) (by omega)
  have e55 : J 55 = I 55 := h 55 (by omega) (by omega)
  have w5 : ∀ i, i < pN p → (I 53 i).toNatClampNeg < 5 := fun i hi => Nat.lt_of_lt_of_le (qIn_c (c2.2.2.1 i hi).2.1 b2) b2
  refine ⟨⟨⟨by rw [e22]; exact a1, by rw [e22]; exact a2, by rw [e22]; exact a3, by rw [e22]; exact a4⟩, ⟨b1, b2, b3, b4⟩, ?_, ?_, ?_⟩, ?_, ⟨j, j1, by rw [e51]; exact j2, ?_⟩, ?_, ?_, by rw [h0]; exact c6⟩
  · intro s hs; rw [h (24 + s) (by omega) (by omega)]; exact hc s hs
  · intro m hm; rw [h (30 + m) (by omega) (by omega)]; exact hd m hm
  · intro t ht; rw [h (34 + t) (by omega) (by omega)]; exact he t ht
  · unfold vTk; rw [e51, e52, e53, e54]; exact c2
  · intro i hi
    rw [e55, e52, e53, e54]
    have e : qBr J (I 53 i).toNatClampNeg = qBr I (I 53 i).toNatClampNeg := by
      have := w5 i (by omega)
      unfold qBr; rw [h _ (by omega) (by omega)]
    rw [qCnt_br e]
    exact j3 i hi
  · unfold qHw; rw [h0]; exact c4
  · rcases c5 with q | ⟨j, cs, g1, g2, g3, g4⟩
    · exact Or.inl q
    · refine Or.inr ⟨j, cs, g1, g2, g3, ?_⟩
      unfold qLawC
      rw [h (39 + 3 * j) (by omega) (by omega), h (39 + 3 * j + 1) (by omega) (by omega)]
      exact g4
theorem LEn_tr {I J : Nat → Nat → Int32} {p : qPa} (h0 : J 0 = I 0) (h : ∀ j, 22 ≤ j → j ≤ 55 → J j = I j) (c : CI I p) (t : Int32) : LEn J p t = LEn I p t := by
  unfold LEn
  rw [h0, h 52 (by omega) (by omega), h 53 (by omega) (by omega), h 54 (by omega) (by omega)]
  refine qLn_cong (pN p) (fun i hi => ?_)
  have w5 := c.w5
  have := Nat.lt_of_lt_of_le (qIn_c (c.2.1.2.2.1 i hi).2.1 w5) w5
  exact qCnt_br (by unfold qBr; rw [h _ (by omega) (by omega)])
theorem LEw_fr {I J : Nat → Nat → Int32} {p : qPa} (hf : qFr scQ I J) (c : CI I p) (l : Nat) (t : Int32) : LEw J p l t = LEw I p l t := by
  unfold LEw
  rw [hf.row (j := 52) (scQ_no (by omega)), hf.row (j := 53) (scQ_no (by omega)), hf.row (j := 54) (scQ_no (by omega)), hf.row (j := 0) (scQ_no (by omega))]
  refine qLn_cong (pN p) (fun i hi => ?_)
  have w5 := c.w5
  have := Nat.lt_of_lt_of_le (qIn_c (c.2.1.2.2.1 i hi).2.1 w5) w5
  rw [qCnt_br (br' := qBr J) (br := qBr I) (hf _ _ (scQ_no (by omega) _))]
theorem LEw_val {I : Nat → Nat → Int32} {p : qPa} (h : CI I p) (l : Nat) (t : Int32) : qVal (LEw I p l t) (pS p) := qLn_val (nM := pM p) h.w3 (fun i hi => (h.2.1.2.2.1 i hi).1)
/-- thanks later than the minute turn nobody -/
theorem LEw_late {I : Nat → Nat → Int32} {p : qPa} (c : CI I p) {l : Nat} {t : Int32} (hl : l < pN p) (ht : t < I 54 l) : LEw I p l t = LEn I p t := by
  unfold LEw LEn
  have n40 := c.2.1.2.1
  refine qLn_cong2 (pN p) (fun i hi hti => ?_)
  have hil : i < l := by
    by_cases q : i < l
    · exact q
    · exact absurd (show t < I 54 i from by
        have := c.2.1.2.2.2 l i (by omega) hi
        rw [i_lt] at this ht ⊢
        omega) hti
  have hm : qCnt (I 52) (I 53) (I 54) (qBr I) (pH p) (nI l) i ↔ qCnt (I 52) (I 53) (I 54) (qBr I) (pH p) (-1) i := qCnt_m (fun j hj => ⟨fun q => absurd ((nI_eq (by omega) (by omega)).mp q) (by omega), fun q => absurd q (nI_m1 (by omega))⟩)
  constructor
  · rintro ⟨-, q⟩; exact hm.mp q
  · intro q; exact ⟨by omega, hm.mpr q⟩
theorem trT_cong {h g h' g' : Nat → Int32} {n : Nat} : ∀ i, (∀ s, s < i → hd g' n (nI s) = hd g n (nI s) ∧ h' s = h s) → trT h' g' n i = trT h g n i := by
  intro i
  induction i with
  | zero => intro _; rfl
  | succ i ih =>
    intro hh
    rw [trT, trT, ih (fun s hs => hh s (by omega)), (hh i (Nat.lt_succ_self i)).1, (hh i (Nat.lt_succ_self i)).2]
theorem trT_0 {h g : Nat → Int32} {n : Nat} : ∀ i, (∀ s, s < i → hd g n (nI s) = h s) → trT h g n i = 0 := by
  intro i
  induction i with
  | zero => intro _; rfl
  | succ i ih => intro hh; rw [trT, if_pos (hh i (Nat.lt_succ_self i)), ih (fun s hs => hh s (by omega))]
theorem trT_le {h g : Nat → Int32} {n : Nat} : ∀ i, trT h g n i ≤ i := by
  intro i
  induction i with
  | zero => exact Nat.le_refl _
  | succ i ih => rw [trT]; split <;> omega
section L64
variable {d : Nat} {K : qK} {I : Nat → Nat → Int32} {L : Nat → Nat → Int64} {R : Nat → Nat → Option Nat} {sz : Nat} {Q : Option Value → qMem → Prop} {p : qPa}
theorem l11047 {x1 x2 : Int32} (hK : qLay K sz) (hR : qRef R) (lS : I 22 1 = nI (pS p)) (w5 : pS p ≤ 5) (hn : I 69 2 = nI (pS p)) (hq : Q (some (.int (nI (trT (I 72) (I 70) (pS p) (pS p))))) (K, I, L, R, sz)) : ∀ (k i : Nat), i + k = pS p → X (d + 2) 0 0 11047 0 0 51 [some (.ref 0), some (.int x1), some (.int x2), some (.int (nI (trT (I 72) (I 70) (pS p) i))), some (.int (nI i))] [] (K, I, L, R, sz) Q := by
  intro k
  induction k with
  | zero =>
    intro i hi
    have hle : I 22 1 ≤ nI i := by rw [lS]; exact nI_le (by omega) (by omega)
    have : i = pS p := by omega
    subst this
    exact g11047_51 (p := p) hK hR (fun h => absurd hle h) (fun h => absurd hle h) (fun h => absurd hle h) (fun _ => hq) (fun h => absurd hle h) (fun h => absurd hle h)
  | succ k ih =>
    intro i hi
    have hnl : ¬ I 22 1 ≤ nI i := by rw [lS]; exact nI_ge (by omega) (by omega)
    have ih' := ih (i + 1) (by omega)
    refine g11047_51 (p := p) hK hR (fun _ => hn) (fun _ => w5) (fun _ => vI (by omega) (by omega)) (fun h => absurd h hnl) (fun _ h => ?_) (fun _ h => ?_)
    · rw [nI_c (by omega)] at h
      rw [trT, if_pos h] at ih'
      rw [nI_1]; exact ih'
    · rw [nI_c (by omega)] at h
      rw [trT, if_neg h] at ih'
      rw [nI_1, nI_1 i]; exact ih'
theorem s11047 {a b : Int32} (hK : qLay K sz) (hR : qRef R) (cI : CI I p) (ha : qIn (pN p) a) (h6 : I 51 6 = nI (pN p)) (hj : qJud I (pH p) (pN p)) (hq : ∀ J, qSw I p J → Q (some (.int (nI (trT (I 72) (LEw I p (Int32.toNatClampNeg a) b) (pS p) (pS p))))) (K, J, L, R, sz)) : X (d + 7) 0 0 11047 0 0 0 (qent (qml 11047) [.ref 0, .int a, .int b]) [] (K, I, L, R, sz) Q := by
  obtain ⟨l, hl, rfl⟩ := ha
  have n40 := cI.2.1.2.1
  have w5 := cI.w5
  rw [nI_c (by omega)] at hq
  have hwm : ∀ i, i < pN p → qIn 5 (I 53 i) := fun i hi => (cI.2.1.2.2.1 i hi).2.1.to5 w5
  refine e11047 hK hR ?_
  refine x_cV0 (MCz := 0) (MSz := 0) k11047_10 v11_181_10 (hK.at rfl) (Nat.le_of_ble_eq_true rfl) (Nat.le_of_ble_eq_true rfl) (Nat.le_refl _) (Nat.le_refl _) ?_
  refine s11043 hK hR cI.2.2.2.1 ?_
  refine x_cV3 (MCz := 0) (MSz := 0) k11047_13 v11_333_9 (hK.at rfl) (Nat.le_of_ble_eq_true rfl) (by cases pW p <;> exact Nat.le_of_ble_eq_true rfl) (Nat.le_refl _) (Nat.le_refl _) ?_
  refine s10007 (d := d + 1) (n := pN p) (l := l) hK hR n40 hl rfl cI.2.1.1 hwm cI.2.2.2.2.1 hj (fun J hf hT => ?_)
  have e53 : J 53 = I 53 := hf.row (scW_no (by omega))
  have e54 : J 54 = I 54 := hf.row (scW_no (by omega))
  have e52 : J 52 = I 52 := hf.row (scW_no (by omega))
  have e51 : J 51 = I 51 := hf.row (scW_no (by omega))
  have e0 : J 0 = I 0 := hf.row (scW_no (by omega))
  have e22 : J 22 = I 22 := hf.row (scW_no (by omega))
  refine g11047_16 hK hR ?_
  refine x_cV5 (MCz := 0) (MSz := 0) k11047_43 v11_329_5 (hK.at rfl) (Nat.le_of_ble_eq_true rfl) (Nat.le_of_ble_eq_true rfl) (Nat.le_refl _) (Nat.le_refl _) ?_
  refine s5001w (n := pN p) hK hR (by rw [e51]; exact cI.2.1.1) n40 (fun i hi => by rw [e53]; exact qIn_vp (hwm i hi) (Nat.le_refl _) (by omega)) (by rw [e54]; exact cI.2.1.2.2.2) ?_
  refine g11047_46 ?_
  have hf2 : qFr (fun j k => scL j k ∨ j = 56 ∨ j = 70 ∨ (j = 69 ∧ k = 2)) I (va_up (va_up J 69 (upd (J 69) 2 (J 22 1))) 70 (qLy (J 56) (J 52) (J 53) (J 54) b (J 0 7) (qfi (-1) (J 70) 5) (pN p))) := by
    have h1 : qFr (fun j k => scL j k ∨ j = 56 ∨ j = 70 ∨ (j = 69 ∧ k = 2)) J (va_up J 69 (upd (J 69) 2 (J 22 1))) := qFr.up1 (P := fun j k => scL j k ∨ j = 56 ∨ j = 70 ∨ (j = 69 ∧ k = 2)) (Or.inr (Or.inr (Or.inr ⟨rfl, rfl⟩)))
    refine ((hf.mono (fun j k h => h.elim Or.inl (fun q => Or.inr (Or.inl q)))).trans h1).trans (qFr.up (fun _ => Or.inr (Or.inr (Or.inl rfl))))
  have hfQ := hf2.mono (P' := scQ) (fun j k h => by
    intro q
    unfold scL at h
    unfold kpQ at q
    omega)
  have hrow : ∀ j, (j ≠ 56 ∧ j ≠ 70 ∧ j ≠ 69 ∧ 50 < j) → (va_up (va_up J 69 (upd (J 69) 2 (J 22 1))) 70 (qLy (J 56) (J 52) (J 53) (J 54) b (J 0 7) (qfi (-1) (J 70) 5) (pN p))) j = I j := fun j h => hf2.row (fun k q => by unfold scL at q; omega)
  have g : qAf I p (va_up (va_up J 69 (upd (J 69) 2 (J 22 1))) 70 (qLy (J 56) (J 52) (J 53) (J 54) b (J 0 7) (qfi (-1) (J 70) 5) (pN p))) := (qAf.refl cI).up hfQ (hrow 51 (by omega)) (hrow 55 (by omega))
  have e70 : ∀ s, s < pS p → (va_up (va_up J 69 (upd (J 69) 2 (J 22 1))) 70 (qLy (J 56) (J 52) (J 53) (J 54) b (J 0 7) (qfi (-1) (J 70) 5) (pN p))) 70 s = LEw I p l b s := by
    intro s hs
    rw [vu_s, e52, e53, e54, e0]
    unfold LEw
    refine qLy_ln (by rw [qfi, if_pos (by omega)]) (pN p) (fun i hi => ?_)
    have := hT i hi
    rw [qCnt_fr hf (fun j k h => scW_no (by omega) k) (scW_no (by omega)) (scW_no (by omega)) (scW_no (by omega)) (hwm i hi)] at this
    exact this
  refine l11047 (p := p) (d := d + 5) hK hR g.2.lS w5 ?_ ?_ (pS p) 0 (by omega)
  · rw [vu_n (by decide), vu_s, upd, if_pos rfl, e22]; exact cI.lS
  · have := hq _ ⟨g, hrow 51 (by omega), hrow 55 (by omega), hrow 72 (by omega)⟩
    rw [trT_cong (pS p) (fun s hs => ⟨(hd_cong (LEw_val cI l b) hs w5 e70), congrFun (hrow 72 (by omega)) s⟩)]
    exact this
theorem z12059 {t : Int32} (hK : qLay K sz) (hR : qRef R) (cI : CI I p) (rW : RI (w34 I) p) (hw : qIn (pN p) (I 73 34)) (hq : ∀ J, qLwt I p t J → Q none (K, J, L, R, sz)) : X (d + 7) 0 0 12059 0 0 0 (qent (qml 12059) [.ref 73, .int t]) [] (K, I, L, R, sz) Q := by
  obtain ⟨l, hl, el⟩ := hw
  have n40 := cI.2.1.2.1
  have w5 := cI.w5
  obtain ⟨r1, r2, r3, r4, r5, r6⟩ := rW
  have r24 : I 73 24 = I 22 1 := r1.2.1
  have r33 : I 73 33 = I 51 5 := r3.1
  have r86 : I 86 = I 52 := r3.2.1
  have r87 : I 87 = I 53 := r3.2.2.1
  have r88 : I 88 = I 54 := r3.2.2.2
  have r28 : I 73 28 = I 0 7 := r5.1
  have r4' : qHoR I (pH p) := r4
  refine s12059 (n := pN p) (nS := pS p) hK hR n40 w5 (by rw [r24]; exact cI.lS) (by rw [r33]; exact cI.2.1.1) (fun i hi => by rw [r87]; exact (cI.2.1.2.2.1 i hi).2.1) r4' (fun J h1 h2 h3 => hq J ⟨h1, fun s hs => ?_⟩)
  rw [h2 s hs, r28, r86, r87, r88, el, nI_c (by omega)]
  unfold LEw
  refine congrFun (qLn_cong (pN p) (fun i hi => ?_)) s
  have hw : (I 53 i).toNatClampNeg < 5 := Nat.lt_of_lt_of_le (qIn_c (cI.2.1.2.2.1 i hi).2.1 w5) w5
  have hb : qBrR I (I 53 i).toNatClampNeg = qBr I (I 53 i).toNatClampNeg := by
    have h := r2.1 (I 53 i).toNatClampNeg 1 hw (qIn_c (cI.2.1.2.2.1 i hi).2.1 w5) (by omega)
    have e : w34 I (24 + (I 53 i).toNatClampNeg) = I (24 + (I 53 i).toNatClampNeg) := vu_n (by omega)
    rw [e] at h
    exact h
  rw [qCnt_br hb, nI_eq (by omega) (by omega)]
end L64
