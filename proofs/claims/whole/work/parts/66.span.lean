/-! spans: swing, both -/
theorem lyB_rest {f : Nat → Int32} {i : Nat} (h0 : 0 ≤ (lyB f i).1) : ∀ k, (∀ j, i ≤ j → j < i + k → f j = 0) → lyB f (i + k) = lyB f i := by
  intro k
  induction k with
  | zero => intro _; rfl
  | succ k ih =>
    intro h
    rw [← Nat.add_assoc, lyB, ih (fun j h1 h2 => h j h1 (by omega)), h (i + k) (by omega) (by omega), if_pos h0]
theorem lyB_pos {f : Nat → Int32} (hf : ∀ j, 0 ≤ f j) : ∀ i, 0 ≤ (lyB f i).1 := by
  intro i
  rcases lyB_inv (f := f) i with ⟨-, h⟩ | ⟨k, -, -, h⟩
  · rw [h]; decide
  · rw [h]; exact hf k
theorem lyB_cong {f g : Nat → Int32} : ∀ i, (∀ j, j < i → g j = f j) → lyB g i = lyB f i := by
  intro i
  induction i with
  | zero => intro _; rfl
  | succ i ih =>
    intro h
    rw [lyB, lyB, ih (fun j hj => h j (by omega)), h i (Nat.lt_succ_self i)]
noncomputable def swT (I : Nat → Nat → Int32) (p : qPa) (t : Int32) : Nat → Int32 := fun l => nI (trT (fun s => hd (LEn I p t) (pS p) (nI s)) (LEw I p l t) (pS p) (pS p))
noncomputable def fSwing (I : Nat → Nat → Int32) (p : qPa) (t w : Int32) : Int32 := @ite Int32 (0 ≤ t ∧ (w = 0 ∨ w = 1)) (Classical.propDecidable _) (if (lyB (swT I p t) (pN p)).2 = -1 ∨ w = 0 then (lyB (swT I p t) (pN p)).2 else (lyB (swT I p t) (pN p)).1) (-1)
theorem swT_late {I : Nat → Nat → Int32} {p : qPa} (c : CI I p) {l : Nat} {t : Int32} (hl : l < pN p) (ht : t < I 54 l) : swT I p t l = 0 := by
  unfold swT
  rw [trT_0 (pS p) (fun s hs => by rw [LEw_late c hl ht])]; rfl
theorem swT_pos {I : Nat → Nat → Int32} {p : qPa} (c : CI I p) (t : Int32) (l : Nat) : 0 ≤ swT I p t l := by
  unfold swT
  exact nI_pos' (by have := trT_le (h := fun s => hd (LEn I p t) (pS p) (nI s)) (g := LEw I p l t) (n := pS p) (pS p); have := c.w5; omega)
theorem qSw.trans {I J H : Nat → Nat → Int32} {p : qPa} (h : qSw I p J) (g : qSw J p H) : qSw I p H := ⟨h.1.trans g.1, g.2.1.trans h.2.1, g.2.2.1.trans h.2.2.1, g.2.2.2.trans h.2.2.2⟩
section L66
variable {d : Nat} {K : qK} {I : Nat → Nat → Int32} {L : Nat → Nat → Int64} {R : Nat → Nat → Option Nat} {sz : Nat} {Q : Option Value → qMem → Prop} {p : qPa}
theorem l11032a {x1 x2 : Int32} (hK : qLay K sz) (hR : qRef R) (lS : I 22 1 = nI (pS p)) (w5 : pS p ≤ 5) (hn : I 69 2 = nI (pS p)) : ∀ (k i : Nat) (J : Nat → Nat → Int32), i + k = pS p → qFr (fun j _ => j = 72) I J → (∀ s, s < i → J 72 s = hd (I 70) (pS p) (nI s)) → (∀ J, qFr (fun j _ => j = 72) I J → (∀ s, s < pS p → J 72 s = hd (I 70) (pS p) (nI s)) → X (d + 2) 0 0 11032 0 0 59 [some (.ref 0), some (.int x1), some (.int x2), some (.int 0), some (.int (-1)), some (.int 0), none] [] (K, J, L, R, sz) Q) → X (d + 2) 0 0 11032 0 0 20 [some (.ref 0), some (.int x1), some (.int x2), some (.int (nI i)), none, none, none] [] (K, J, L, R, sz) Q := by
  intro k
  induction k with
  | zero =>
    intro i J hi hf h72 hq
    have hle : J 22 1 ≤ nI i := by rw [hf 22 1 (by decide), lS]; exact nI_le (by omega) (by omega)
    have : i = pS p := by omega
    subst this
    exact g11032_20 (p := p) hK hR (fun h => absurd hle h) (fun h => absurd hle h) (fun h => absurd hle h) (fun _ => hq J hf h72) (fun h => absurd hle h)
  | succ k ih =>
    intro i J hi hf h72 hq
    have hnl : ¬ J 22 1 ≤ nI i := by rw [hf 22 1 (by decide), lS]; exact nI_ge (by omega) (by omega)
    refine g11032_20 (p := p) hK hR (fun _ => by rw [hf 69 2 (by decide)]; exact hn) (fun _ => w5) (fun _ => vI (by omega) (by omega)) (fun h => absurd h hnl) (fun _ => ?_)
    rw [nI_1, nI_c (by omega), hf.row (j := 70) (fun _ => by decide)]
    refine ih (i + 1) _ (by omega) (hf.trans (qFr.up (P := fun j _ => j = 72) (fun _ => rfl))) (fun s hs => ?_) hq
    rw [vu_s, upd]
    by_cases h : s = i
    · rw [if_pos h, h]
    · rw [if_neg h]; exact h72 s (by omega)
theorem l11032 {t w : Int32} {f : Nat → Int32} (hK : qLay K sz) (hR : qRef R) : ∀ (k i : Nat) (I : Nat → Nat → Int32), i + k = pN p → CI I p → I 51 6 = nI (pN p) → qJud I (pH p) (pN p) → (∀ s, s < pS p → I 72 s = hd (LEn I p t) (pS p) (nI s)) → (∀ j, swT I p t j = f j) → (∀ J, qSw I p J → Q (some (.int (if (lyB f (pN p)).2 = -1 ∨ w = 0 then (lyB f (pN p)).2 else (lyB f (pN p)).1))) (K, J, L, R, sz)) → X (d + 8) 0 0 11032 0 0 59 [some (.ref 0), some (.int t), some (.int w), some (.int (lyB f i).1), some (.int (lyB f i).2), some (.int (nI i)), none] [] (K, I, L, R, sz) Q := by
  intro k
  have hend : ∀ (i : Nat) (I : Nat → Nat → Int32), lyB f i = lyB f (pN p) → CI I p → (∀ J, qSw I p J → Q (some (.int (if (lyB f (pN p)).2 = -1 ∨ w = 0 then (lyB f (pN p)).2 else (lyB f (pN p)).1))) (K, J, L, R, sz)) → ((lyB f i).2 = -1 → Q (some (.int (lyB f i).2)) (K, I, L, R, sz)) ∧ (¬ (lyB f i).2 = -1 → ¬ w = 0 → Q (some (.int (lyB f i).1)) (K, I, L, R, sz)) ∧ (¬ (lyB f i).2 = -1 → w = 0 → Q (some (.int (lyB f i).2)) (K, I, L, R, sz)) := by
    intro i I he cI hq
    have hq' := hq I ⟨qAf.refl cI, rfl, rfl, rfl⟩
    rw [he]
    refine ⟨fun h => ?_, fun h1 h2 => ?_, fun h1 h2 => ?_⟩
    · rw [if_pos (Or.inl h)] at hq'; exact hq'
    · rw [if_neg (fun q => q.elim h1 h2)] at hq'; exact hq'
    · rw [if_pos (Or.inr h2)] at hq'; exact hq'
  induction k with
  | zero =>
    intro i I hi cI h6 hj h72 hf hq
    have n40 := cI.2.1.2.1
    have hle : I 51 5 ≤ nI i := by rw [cI.2.1.1]; exact nI_le (by omega) (by omega)
    have : i = pN p := by omega
    obtain ⟨e1, e2, e3⟩ := hend i I (by rw [this]) cI hq
    exact g11032_59 (p := p) hK hR cI (fun h => absurd hle h) (fun h => absurd hle h) (fun h => absurd hle h) (fun h => absurd hle h) (fun _ => e1) (fun _ => e2) (fun _ => e3) (fun h => absurd hle h) (fun h => absurd hle h) (fun h => absurd hle h) (fun h => absurd hle h) (fun h => absurd hle h)
  | succ k ih =>
    intro i I hi cI h6 hj h72 hf hq
    have n40 := cI.2.1.2.1
    have hnl : ¬ I 51 5 ≤ nI i := by rw [cI.2.1.1]; exact nI_ge (by omega) (by omega)
    have hci : (nI i).toNatClampNeg = i := nI_c (by omega)
    have eT : nI (trT (I 72) (LEw I p i t) (pS p) (pS p)) = f i := by
      rw [← hf i, swT, trT_cong (pS p) (fun s hs => ⟨rfl, h72 s hs⟩)]
    have hlate : t < I 54 i → lyB f i = lyB f (pN p) := by
      intro ht
      have := lyB_rest (f := f) (i := i) (lyB_pos (fun j => by rw [← hf j]; exact swT_pos cI t j) i) (k + 1) (fun j h1 h2 => by
        rw [← hf j]
        refine swT_late cI (by omega) ?_
        have := cI.2.1.2.2.2 i j h1 (by omega)
        rw [i_lt] at this ht ⊢
        omega)
      rw [← this, hi]
    have hnx : ∀ J, qSw I p J → ∀ S, S = lyB f (i + 1) → X (d + 8) 0 0 11032 0 0 59 [some (.ref 0), some (.int t), some (.int w), some (.int S.1), some (.int S.2), some (.int (nI i + 1)), none] [] (K, J, L, R, sz) Q := by
      intro J hJ S hS
      rw [nI_1, hS]
      have g := hJ.1
      refine ih (i + 1) J (by omega) g.2 (by rw [hJ.2.1]; exact h6) ?_ (fun s hs => by rw [hJ.2.2.2, h72 s hs, g.le cI]) (fun j => ?_) (fun J2 h2 => hq J2 (hJ.trans h2))
      · have w5 := cI.w5
        intro j hj'
        have := hj j hj'
        have hw : qIn 5 (I 53 j) := (cI.2.1.2.2.1 j hj').2.1.to5 w5
        rw [hJ.2.2.1, g.1.row (j := 52) (scQ_no (by omega)), g.1.row (j := 53) (scQ_no (by omega)), g.1.row (j := 54) (scQ_no (by omega))]
        rw [qCnt_br (br' := qBr J) (br := qBr I) (g.1 _ _ (scQ_no (by have := qIn_c hw (Nat.le_refl _); omega) _))]
        exact this
      · rw [← hf j, swT, swT, LEw_fr g.1 cI, g.le cI]
    refine g11032_59 (p := p) hK hR cI (fun _ => vI (by omega) (by omega)) (fun _ _ => ⟨i, by omega, rfl⟩) (fun _ _ => h6) (fun _ _ => hj) (fun h => absurd h hnl) (fun h => absurd h hnl) (fun h => absurd h hnl) ?_ ?_ ?_ ?_ ?_ <;> rw [hci] <;> intro _ h
    · exact (hend i I (hlate h) cI hq).1
    · exact (hend i I (hlate h) cI hq).2.1
    · exact (hend i I (hlate h) cI hq).2.2
    · intro J hJ h2
      rw [eT] at h2
      exact hnx J hJ _ (by rw [lyB, if_pos h2])
    · intro J hJ h2
      rw [eT] at h2 ⊢
      exact hnx J hJ (f i, nI i) (by rw [lyB, if_neg h2])
theorem s11032 {t w : Int32} (hK : qLay K sz) (hR : qRef R) (cI : CI I p) (hq : ∀ J, qAf I p J → Q (some (.int (fSwing I p t w))) (K, J, L, R, sz)) : X (d + 8) 0 0 11032 0 0 0 (qent (qml 11032) [.ref 0, .int t, .int w]) [] (K, I, L, R, sz) Q := by
  unfold fSwing at hq
  have w5 := cI.w5
  refine e11032 (p := p) (d := d + 1) hK hR cI (fun h1 h2 J hJ => ?_) (fun h1 h2 => ?_) (fun h1 => ?_)
  · have g := hJ.af cI
    refine l11032a (p := p) (I := J) (d := d + 6) hK hR g.2.lS w5 hJ.2.1 (pS p) 0 J (by omega) qFr.refl (fun s hs => by omega) (fun J2 hf h72 => ?_)
    have g2 : qAf J p J2 := (qAf.refl g.2).up (hf.mono (fun j k e => by rw [e]; exact sc72 k)) (hf.row (by omega)) (hf.row (by omega))
    have h3 := l11032 (p := p) (d := d) (Q := Q) (L := L) (t := t) (w := w) (f := swT I p t) hK hR (pN p) 0 J2 (by omega) g2.2 (by rw [hf 51 6 (by decide)]; exact hJ.2.2.2.1) (by
      refine qJud_fr (P := fun j _ => j = 72) hf (by omega) (by omega) (by omega) (by omega) (by omega) (fun i hi => ?_) hJ.2.2.2.2
      exact (g.2.2.1.2.2.1 i hi).2.1.to5 w5) (fun s hs => by rw [h72 s hs, hJ.hd cI hs, (g.trans g2).le cI]) (fun j => by rw [swT, swT, LEw_fr (g.trans g2).1 cI, (g.trans g2).le cI]) (fun J3 h4 => by
      have := hq J3 ((g.trans g2).trans h4.1)
      rw [if_pos ⟨h2, h1⟩] at this
      exact this)
    exact h3
  · have := hq I (qAf.refl cI)
    rw [if_neg (fun q => h2 q.1)] at this
    exact this
  · have := hq I (qAf.refl cI)
    rw [if_neg (fun q => h1 q.2)] at this
    exact this
theorem w34_id {J : Nat → Nat → Int32} (h : J 73 34 = -1) : w34 J = J := by
  unfold w34
  funext j
  by_cases hj : j = 73
  · subst hj
    rw [vu_s]
    funext k
    rw [upd]
    split
    · next e => rw [e, h]
    · rfl
  · rw [vu_n hj]
theorem w34_up {J : Nat → Nat → Int32} {v : Int32} : w34 (va_up J 73 (upd (J 73) 34 v)) = w34 J := by
  unfold w34
  rw [vu_t, vu_s]
  congr 1
  funext k
  rw [upd, upd, upd]
  split <;> rfl
theorem w34_fr {P : Nat → Nat → Prop} {J H : Nat → Nat → Int32} (h : qFr P J H) : qFr P (w34 J) (w34 H) := by
  intro j k hn
  unfold w34
  by_cases hj : j = 73
  · subst hj
    rw [vu_s, vu_s, upd, upd, h 73 k hn]
  · rw [vu_n hj, vu_n hj]; exact h j k hn
theorem w34_row {J : Nat → Nat → Int32} {j : Nat} (h : j ≠ 73) : w34 J j = J j := vu_n h
theorem CI_w {J : Nat → Nat → Int32} (h : CI (w34 J) p) : CI J p := CI_tr (w34_row (by decide)).symm (fun j _ _ => (w34_row (by omega)).symm) h
theorem LEw_w {J : Nat → Nat → Int32} (h : CI J p) (l : Nat) (t : Int32) : LEw (w34 J) p l t = LEw J p l t := by
  unfold LEw
  have w5 := h.w5
  rw [w34_row (by decide), w34_row (by decide), w34_row (by decide), w34_row (by decide)]
  refine qLn_cong (pN p) (fun i hi => ?_)
  have := Nat.lt_of_lt_of_le (qIn_c (h.2.1.2.2.1 i hi).2.1 w5) w5
  rw [qCnt_br (br' := qBr (w34 J)) (br := qBr J) (congrFun (w34_row (by omega)) _)]
theorem l12100a {x1 x2 : Int32} (hK : qLay K sz) (hR : qRef R) (mS : I 73 24 = nI (pS p)) (w5 : pS p ≤ 5) (hv : qVal (I 89) (pS p)) : ∀ (k i : Nat) (J : Nat → Nat → Int32), i + k = pS p → qFr (fun j _ => j = 104) I J → (∀ s, s < i → J 104 s = hd (I 89) (pS p) (nI s)) → (∀ J, qFr (fun j _ => j = 104) I J → (∀ s, s < pS p → J 104 s = hd (I 89) (pS p) (nI s)) → X (d + 2) 0 0 12100 0 0 62 [some (.ref 73), some (.int x1), some (.int x2), some (.int (-1)), some (.int 0), some (.int 0), none, none] [] (K, J, L, R, sz) Q) → X (d + 2) 0 0 12100 0 0 29 [some (.ref 73), some (.int x1), some (.int x2), some (.int (nI i)), none, none, none, none] [] (K, J, L, R, sz) Q := by
  intro k
  induction k with
  | zero =>
    intro i J hi hf h104 hq
    have hle : J 73 24 ≤ nI i := by rw [hf 73 24 (by decide), mS]; exact nI_le (by omega) (by omega)
    have : i = pS p := by omega
    subst this
    exact g12100_29 (p := p) hK hR (fun h => absurd hle h) (fun h => absurd hle h) (fun h => absurd hle h) (fun h => absurd hle h) (fun h => absurd hle h) (fun _ => hq J hf h104) (fun h => absurd hle h)
  | succ k ih =>
    intro i J hi hf h104 hq
    have hnl : ¬ J 73 24 ≤ nI i := by rw [hf 73 24 (by decide), mS]; exact nI_ge (by omega) (by omega)
    have e89 : J 89 = I 89 := hf.row (fun _ => by decide)
    refine g12100_29 (p := p) hK hR (fun _ => by rw [hf 73 24 (by decide)]; exact mS) (fun _ => w5) (fun _ => by rw [e89]; exact hv) (fun _ => ⟨i, by omega, rfl⟩) (fun _ => vI (by omega) (by omega)) (fun h => absurd h hnl) (fun _ => ?_)
    rw [nI_1, nI_c (by omega), e89]
    refine ih (i + 1) _ (by omega) (hf.trans (qFr.up (P := fun j _ => j = 104) (fun _ => rfl))) (fun s hs => ?_) hq
    rw [vu_s, upd]
    by_cases h : s = i
    · rw [if_pos h, h]
    · rw [if_neg h]; exact h104 s (by omega)
theorem l12100b {x1 x2 x3 x4 : Int32} {i : Nat} {h g : Nat → Int32} (hK : qLay K sz) (hR : qRef R) (mS : I 73 24 = nI (pS p)) (w5 : pS p ≤ 5) (hv : qVal g (pS p)) (h89 : ∀ s, s < pS p → I 89 s = g s) (h104 : ∀ s, s < pS p → I 104 s = h s)
    (hq : ∀ S, S = (if nI (trT h g (pS p) (pS p)) ≤ x4 then (x4, x3) else (nI (trT h g (pS p) (pS p)), nI i)) → X (d + 2) 0 0 12100 0 0 62 [some (.ref 73), some (.int x1), some (.int x2), some (.int S.2), some (.int S.1), some (.int (nI (i + 1))), none, none] [] (K, I, L, R, sz) Q) : ∀ (k j : Nat), j + k = pS p → X (d + 2) 0 0 12100 0 0 88 [some (.ref 73), some (.int x1), some (.int x2), some (.int x3), some (.int x4), some (.int (nI i)), some (.int (nI (trT h g (pS p) j))), some (.int (nI j))] [] (K, I, L, R, sz) Q := by
  intro k
  induction k with
  | zero =>
    intro j hj
    have hle : I 73 24 ≤ nI j := by rw [mS]; exact nI_le (by omega) (by omega)
    have : j = pS p := by omega
    subst this
    refine g12100_88 (p := p) hK hR (fun h => absurd hle h) (fun h => absurd hle h) (fun h => absurd hle h) (fun h => absurd hle h) (fun h => absurd hle h) (fun _ h1 => ?_) (fun _ h1 => ?_) (fun h => absurd hle h) (fun h => absurd hle h)
    · have := hq _ (if_pos h1).symm
      rw [nI_1]
      exact x_wk2 this ⟨rfl, rfl, rfl, rfl, rfl, rfl, True.intro⟩
    · have := hq _ (if_neg h1).symm
      rw [nI_1]
      exact x_wk2 this ⟨rfl, rfl, rfl, rfl, rfl, rfl, True.intro⟩
  | succ k ih =>
    intro j hj
    have hnl : ¬ I 73 24 ≤ nI j := by rw [mS]; exact nI_ge (by omega) (by omega)
    have ih' := ih (j + 1) (by omega)
    have ehd : hd (I 89) (pS p) (nI j) = hd g (pS p) (nI j) := hd_cong hv (by omega) w5 h89
    refine g12100_88 (p := p) hK hR (fun _ => mS) (fun _ => w5) (fun _ => qVal_cong h89 hv) (fun _ => ⟨j, by omega, rfl⟩) (fun _ => vI (by omega) (by omega)) (fun h => absurd h hnl) (fun h => absurd h hnl) (fun _ h1 => ?_) (fun _ h1 => ?_)
    · rw [nI_c (by omega), ehd, h104 j (by omega)] at h1
      rw [trT, if_pos h1] at ih'
      rw [nI_1, Int32.add_zero]; exact ih'
    · rw [nI_c (by omega), ehd, h104 j (by omega)] at h1
      rw [trT, if_neg h1] at ih'
      rw [nI_1, nI_1 j]; exact ih'
theorem l12100 {t w : Int32} {f h : Nat → Int32} {I0 : Nat → Nat → Int32} (hK : qLay K sz) (hR : qRef R) (c0 : CI I0 p) (hf : ∀ l, nI (trT h (LEw I0 p l t) (pS p) (pS p)) = f l) (hq : ∀ J, qAf I0 p J → Q (some (.int (if (lyB f (pN p)).2 = -1 ∨ w = 0 then (lyB f (pN p)).2 else (lyB f (pN p)).1))) (K, J, L, R, sz)) : ∀ (k i : Nat) (I : Nat → Nat → Int32), i + k = pN p → qAf I0 p (w34 I) → RI (w34 I) p → (∀ s, s < pS p → I 104 s = h s) → X (d + 8) 0 0 12100 0 0 62 [some (.ref 73), some (.int t), some (.int w), some (.int (lyB f i).2), some (.int (lyB f i).1), some (.int (nI i)), none, none] [] (K, I, L, R, sz) Q := by
  intro k
  have n40 := c0.2.1.2.1
  have w5 := c0.w5
  induction k with
  | zero =>
    intro i I hi g rI h104
    have e33 : I 73 33 = nI (pN p) := by have := rI.2.2.1.1; rw [w34_row (j := 51) (by decide)] at this; exact Eq.trans this (CI_w g.2).2.1.1
    have hle : I 73 33 ≤ nI i := by rw [e33]; exact nI_le (by omega) (by omega)
    have : i = pN p := by omega
    subst this
    have hq' := hq (w34 I) g
    refine g12100_62 hK (fun _ h => ?_) (fun _ h1 h2 => ?_) (fun _ h1 h2 => ?_) (fun h => absurd hle h)
    · rw [if_pos (Or.inl h)] at hq'; exact hq'
    · rw [if_neg (fun q => q.elim h1 h2)] at hq'; exact hq'
    · rw [if_pos (Or.inr h2)] at hq'; exact hq'
  | succ k ih =>
    intro i I hi g rI h104
    have e33 : I 73 33 = nI (pN p) := by have := rI.2.2.1.1; rw [w34_row (j := 51) (by decide)] at this; exact Eq.trans this (CI_w g.2).2.1.1
    have hnl : ¬ I 73 33 ≤ nI i := by rw [e33]; exact nI_ge (by omega) (by omega)
    refine g12100_62 hK (fun h => absurd h hnl) (fun h => absurd h hnl) (fun h => absurd h hnl) (fun _ => ?_)
    have cI1 : CI (va_up I 73 (upd (I 73) 34 (nI i))) p := CI_w (by rw [w34_up]; exact g.2)
    refine x_cV1 (MCz := 0) (MSz := 0) k12100_79 v12_348_11 (hK.at rfl) (Nat.le_of_ble_eq_true rfl) (Nat.le_of_ble_eq_true rfl) (Nat.le_refl _) (Nat.le_refl _) ?_
    refine z12059 (p := p) hK hR cI1 (by rw [w34_up]; exact rI) ⟨i, by omega, by rw [vu_s, upd, if_pos rfl]⟩ (fun J hJ => ?_)
    obtain ⟨hJf, hJ89⟩ := hJ
    refine g12100_82 ?_
    have e34 : (va_up I 73 (upd (I 73) 34 (nI i)) 73 34).toNatClampNeg = i := by rw [vu_s, upd, if_pos rfl, nI_c (by omega)]
    rw [e34] at hJ89
    have hw := w34_fr hJf
    rw [w34_up] at hw
    have hwQ := hw.mono (fun j k => scN_Q)
    have g2 : qAf I0 p (w34 J) := g.up hwQ (hw.row (scN_no (by omega))) (hw.row (scN_no (by omega)))
    have rJ : RI (w34 J) p := RI_fr hwQ rI
    have eW : LEw (va_up I 73 (upd (I 73) 34 (nI i))) p i t = LEw I0 p i t := by
      rw [← LEw_w cI1, w34_up, LEw_fr g.1 c0]
    have e24 : J 73 24 = nI (pS p) := by
      have := rJ.1.2.1
      rw [w34_row (j := 22) (by decide)] at this
      exact Eq.trans this (CI_w g2.2).lS
    have h104J : ∀ s, s < pS p → J 104 s = h s := fun s hs => by
      rw [hJf 104 s (scN_no (by omega) _), vu_n (by decide)]; exact h104 s hs
    have h0 := l12100b (p := p) (d := d + 6) (Q := Q) (L := L) (x1 := t) (x2 := w) (x3 := (lyB f i).2) (x4 := (lyB f i).1) (i := i) (h := h) (g := LEw I0 p i t) hK hR e24 w5 (LEw_val c0 i t) (fun s hs => by rw [hJ89 s hs, eW]) h104J (fun S hS => by
      have := ih (i + 1) J (by omega) g2 rJ h104J
      rw [lyB] at this
      rw [hf i] at hS
      rw [hS]
      exact this) (pS p) 0 (by omega)
    exact h0
theorem s12100 {t w : Int32} (hK : qLay K sz) (hR : qRef R) (cI : CI I p) (rI : RI I p) (hq : ∀ J, qAf I p J → Q (some (.int (fSwing I p t w))) (K, J, L, R, sz)) : X (d + 8) 0 0 12100 0 0 0 (qent (qml 12100) [.ref 73, .int t, .int w]) [] (K, I, L, R, sz) Q := by
  unfold fSwing at hq
  have w5 := cI.w5
  have n40 := cI.2.1.2.1
  refine e12100 (p := p) hK hR cI rI (fun h1 => ?_) (fun h1 h2 => ?_) (fun h1 h2 h3 h4 J hJ => ?_) (fun h1 h2 h3 => ?_)
  · have hS : pS p = 0 := by
      rw [rI.mS cI] at h1
      exact (nI_eq (a := pS p) (b := 0) (by omega) (by omega)).mp h1
    have hz : lyB (swT I p t) (pN p) = (0, -1) := by
      have := lyB_rest (f := swT I p t) (i := 0) (show (0 : Int32) ≤ 0 by decide) (pN p) (fun j _ _ => by unfold swT; rw [hS]; rfl)
      rw [Nat.zero_add] at this
      exact this
    have := hq I (qAf.refl cI)
    by_cases hc : 0 ≤ t ∧ (w = 0 ∨ w = 1)
    · rw [if_pos hc, hz, if_pos (Or.inl rfl)] at this; exact this
    · rw [if_neg hc] at this; exact this
  · have := hq I (qAf.refl cI)
    rw [if_neg (fun q => by
      have q1 := q.1
      rw [i_le] at q1
      rw [i_lt] at h2
      omega)] at this
    exact this
  · have g := hJ.af cI
    have rJ := RI_fr g.1 rI
    refine l12100a (p := p) (I := J) (d := d + 6) hK hR (rJ.mS g.2) w5 (hJ.val cI) (pS p) 0 J (by omega) qFr.refl (fun s hs => by omega) (fun J2 hf h104 => ?_)
    have g2 : qAf J p J2 := (qAf.refl g.2).up (hf.mono (fun j k e => by rw [e]; exact sc104 k)) (hf.row (by omega)) (hf.row (by omega))
    have rJ2 := RI_fr g2.1 rJ
    have ew : w34 J2 = J2 := w34_id rJ2.2.2.2.2.2
    have h5 := l12100 (p := p) (d := d) (Q := Q) (L := L) (t := t) (w := w) (f := swT I p t) (h := fun s => hd (LEn I p t) (pS p) (nI s)) (I0 := I) hK hR cI (fun l => rfl) (fun J3 h6 => by
      have := hq J3 h6
      rw [if_pos ⟨by rw [i_le]; rw [i_lt] at h2; omega, i01.mp ⟨h3, h4⟩⟩] at this
      exact this) (pN p) 0 J2 (by omega) (by rw [ew]; exact g.trans g2) (by rw [ew]; exact rJ2) (fun s hs => by rw [h104 s hs, hJ.hd cI hs])
    exact h5
  · have := hq I (qAf.refl cI)
    rw [if_neg (fun q => h3 (i01.mpr q.2))] at this
    exact this
end L66
