/-! spans: loyal, both -/
/-- the most of f below i: how many, whose -/
def lyB (f : Nat → Int32) : Nat → Int32 × Int32
  | 0 => (0, -1)
  | i + 1 => if f i ≤ (lyB f i).1 then lyB f i else (f i, nI i)
theorem lyB_inv {f : Nat → Int32} : ∀ i, ((lyB f i).2 = -1 ∧ (lyB f i).1 = 0) ∨ ∃ k, k < i ∧ (lyB f i).2 = nI k ∧ (lyB f i).1 = f k := by
  intro i
  induction i with
  | zero => exact Or.inl ⟨rfl, rfl⟩
  | succ i ih =>
    rw [lyB]
    split
    · rcases ih with h | ⟨k, h1, h2⟩
      · exact Or.inl h
      · exact Or.inr ⟨k, by omega, h2⟩
    · exact Or.inr ⟨i, by omega, rfl, rfl⟩
noncomputable def lyF (LE : Int32 → Nat → Int32) (p : qPa) (m f t : Int32) : Nat → Int32 := fun s => nI (cnM LE (pS p) m s f.toNatClampNeg (t.toNatClampNeg - f.toNatClampNeg))
noncomputable def fLoyal (LE : Int32 → Nat → Int32) (p : qPa) (m f t w : Int32) : Int32 := @ite Int32 (qIn (pM p) m ∧ qSpan f t ∧ (w = 0 ∨ w = 1)) (Classical.propDecidable _) (if (lyB (lyF LE p m f t) (pS p)).2 = -1 ∨ w = 0 then (lyB (lyF LE p m f t) (pS p)).2 else (lyB (lyF LE p m f t) (pS p)).1) (-1)
section L60
variable {d : Nat} {K : qK} {I : Nat → Nat → Int32} {L : Nat → Nat → Int64} {R : Nat → Nat → Option Nat} {sz : Nat} {Q : Option Value → qMem → Prop} {p : qPa}
theorem l11034 {x1 x2 x3 w : Int32} {f : Nat → Int32} (hK : qLay K sz) (hR : qRef R) (lS : I 22 1 = nI (pS p)) (w5 : pS p ≤ 5) (h72 : ∀ s, s < pS p → I 72 s = f s) (hq : Q (some (.int (if (lyB f (pS p)).2 = -1 ∨ w = 0 then (lyB f (pS p)).2 else (lyB f (pS p)).1))) (K, I, L, R, sz)) : ∀ (k i : Nat), i + k = pS p → X d 0 0 11034 0 0 42 [some (.ref 0), some (.int x1), some (.int x2), some (.int x3), some (.int w), some (.int (lyB f i).1), some (.int (lyB f i).2), some (.int (nI i))] [] (K, I, L, R, sz) Q := by
  intro k
  induction k with
  | zero =>
    intro i hi
    have hle : I 22 1 ≤ nI i := by rw [lS]; exact nI_le (by omega) (by omega)
    have : i = pS p := by omega
    subst this
    refine g11034_42 hK hR (fun h => absurd hle h) (fun _ h => ?_) (fun _ h1 h2 => ?_) (fun _ h1 h2 => ?_) (fun h => absurd hle h) (fun h => absurd hle h)
    · rw [if_pos (Or.inl h)] at hq; exact hq
    · rw [if_neg (fun q => q.elim h1 h2)] at hq; exact hq
    · rw [if_pos (Or.inr h2)] at hq; exact hq
  | succ k ih =>
    intro i hi
    have hnl : ¬ I 22 1 ≤ nI i := by rw [lS]; exact nI_ge (by omega) (by omega)
    have hci : (nI i).toNatClampNeg = i := nI_c (by omega)
    have ih' := ih (i + 1) (by omega)
    refine g11034_42 hK hR (fun _ => vI (by omega) (by omega)) (fun h => absurd h hnl) (fun h => absurd h hnl) (fun h => absurd h hnl) (fun _ h => ?_) (fun _ h => ?_)
    · rw [hci, h72 i (by omega)] at h
      rw [lyB, if_pos h] at ih'
      rw [nI_1]; exact ih'
    · rw [hci, h72 i (by omega)] at h ⊢
      rw [lyB, if_neg h] at ih'
      rw [nI_1]; exact ih'
theorem s11034 {m f t w : Int32} (hK : qLay K sz) (hR : qRef R) (cI : CI I p) (hq : ∀ J, qAf I p J → Q (some (.int (fLoyal (LEn I p) p m f t w))) (K, J, L, R, sz)) : X (d + 8) 0 0 11034 0 0 0 (qent (qml 11034) [.ref 0, .int m, .int f, .int t, .int w]) [] (K, I, L, R, sz) Q := by
  unfold fLoyal at hq
  refine e11034 (p := p) hK hR cI (fun _ h _ => h) (fun h1 h2 h3 J hJ => ?_) (fun h1 h2 h3 => ?_) (fun h1 h2 => ?_) (fun h1 => ?_)
  · have := hq J hJ.1
    rw [if_pos ⟨h1, h2, h3⟩] at this
    exact l11034 (p := p) (f := lyF (LEn I p) p m f t) hK hR hJ.1.2.lS cI.w5 hJ.2 this (pS p) 0 (by omega)
  · have := hq I (qAf.refl cI)
    rw [if_neg (fun q => h3 q.2.2)] at this
    exact this
  · have := hq I (qAf.refl cI)
    rw [if_neg (fun q => h2 q.2.1)] at this
    exact this
  · have := hq I (qAf.refl cI)
    rw [if_neg (fun q => h1 q.1)] at this
    exact this
theorem sc104 : ∀ k, scQ 104 k := by
  intro k q
  unfold kpQ at q
  omega
theorem l12102a {x1 x2 x3 x4 : Int32} (hK : qLay K sz) (hR : qRef R) (mS : I 73 24 = nI (pS p)) (w5 : pS p ≤ 5) (hq : X d 0 0 12102 0 0 61 [some (.ref 73), some (.int x1), some (.int x2), some (.int x3), some (.int x4), some (.int x2), none, none] [] (K, va_up I 104 (qfi 0 (I 104) (pS p)), L, R, sz) Q) : ∀ (k i : Nat), i + k = pS p → X d 0 0 12102 0 0 35 [some (.ref 73), some (.int x1), some (.int x2), some (.int x3), some (.int x4), some (.int (nI i)), none, none] [] (K, va_up I 104 (qfi 0 (I 104) i), L, R, sz) Q := by
  intro k
  have e : ∀ i, va_up I 104 (qfi 0 (I 104) i) 73 24 = nI (pS p) := fun i => by rw [vu_n (by decide)]; exact mS
  induction k with
  | zero =>
    intro i hi
    have hle : nI (pS p) ≤ nI i := nI_le (by omega) (by omega)
    rw [← e i] at hle
    have : i = pS p := by omega
    subst this
    exact g12102_35 hK hR (fun h => absurd hle h) (fun _ => hq) (fun h => absurd hle h)
  | succ k ih =>
    intro i hi
    have hnl : ¬ nI (pS p) ≤ nI i := nI_ge (by omega) (by omega)
    rw [← e i] at hnl
    refine g12102_35 hK hR (fun _ => vI (by omega) (by omega)) (fun h => absurd h hnl) (fun _ => ?_)
    rw [vu_t, vu_s, nI_c (by omega), nI_1]
    have := ih (i + 1) (by omega)
    rw [← qfi_succ] at this
    exact this
theorem l12102b {x1 x2 x3 x4 x5 x6 : Int32} (hK : qLay K sz) (hR : qRef R) (hb : ∀ s, s < pS p → ((x6 >>> (nI s &&& 31)) &&& 1) = 1 ∨ ((x6 >>> (nI s &&& 31)) &&& 1) = 0) : ∀ (k i : Nat) (I : Nat → Nat → Int32), i + k = pS p → I 73 24 = nI (pS p) → pS p ≤ 5 → (∀ J, qFr (fun j _ => j = 104) I J → (∀ s, s < i → J 104 s = I 104 s) → (∀ s, i ≤ s → s < pS p → J 104 s = I 104 s + ((x6 >>> (nI s &&& 31)) &&& 1)) → X (d + 1) 0 0 12102 0 0 61 [some (.ref 73), some (.int x1), some (.int x2), some (.int x3), some (.int x4), some (.int (x5 + 1)), none, none] [] (K, J, L, R, sz) Q) → X (d + 1) 0 0 12102 0 0 83 [some (.ref 73), some (.int x1), some (.int x2), some (.int x3), some (.int x4), some (.int x5), some (.int x6), some (.int (nI i))] [] (K, I, L, R, sz) Q := by
  intro k
  induction k with
  | zero =>
    intro i I hi mS w5 hq
    have hle : I 73 24 ≤ nI i := by rw [mS]; exact nI_le (by omega) (by omega)
    exact g12102_83 hK hR (fun h => absurd hle h) (fun _ => hq I qFr.refl (fun _ _ => rfl) (fun s h1 h2 => by omega)) (fun h => absurd hle h) (fun h => absurd hle h)
  | succ k ih =>
    intro i I hi mS w5 hq
    have hnl : ¬ I 73 24 ≤ nI i := by rw [mS]; exact nI_ge (by omega) (by omega)
    have hci : (nI i).toNatClampNeg = i := nI_c (by omega)
    have hnx : ∀ v, v = ((x6 >>> (nI i &&& 31)) &&& 1) → X (d + 1) 0 0 12102 0 0 83 [some (.ref 73), some (.int x1), some (.int x2), some (.int x3), some (.int x4), some (.int x5), some (.int x6), some (.int (nI i + 1))] [] (K, va_up I 104 (upd (I 104) (nI i).toNatClampNeg ((I 104 (nI i).toNatClampNeg) + v)), L, R, sz) Q := by
      intro v hv
      rw [nI_1, hci]
      refine ih (i + 1) _ (by omega) mS w5 (fun J hJ h1 h2 => ?_)
      refine hq J ((qFr.up (P := fun j _ => j = 104) (fun _ => rfl)).trans hJ) (fun s hs => ?_) (fun s hs1 hs2 => ?_)
      · rw [h1 s (by omega), vu_s, upd, if_neg (by omega)]
      · by_cases hsi : s = i
        · subst hsi
          rw [h1 s (by omega), vu_s, upd, if_pos rfl, hv]
        · rw [h2 s (by omega) hs2, vu_s, upd, if_neg (by omega)]
    refine g12102_83 hK hR (fun _ => vI (by omega) (by omega)) (fun h => absurd h hnl) (fun _ h => ?_) (fun _ h => ?_)
    · exact hnx 1 h.symm
    · exact hnx 0 ((hb i (by omega)).resolve_left h).symm
theorem l12102d {x1 x2 x3 w : Int32} {f : Nat → Int32} (hK : qLay K sz) (hR : qRef R) (mS : I 73 24 = nI (pS p)) (w5 : pS p ≤ 5) (h104 : ∀ s, s < pS p → I 104 s = f s) (hq : Q (some (.int (if (lyB f (pS p)).2 = -1 ∨ w = 0 then (lyB f (pS p)).2 else (lyB f (pS p)).1))) (K, I, L, R, sz)) : ∀ (k i : Nat), i + k = pS p → X d 0 0 12102 0 0 135 [some (.ref 73), some (.int x1), some (.int x2), some (.int x3), some (.int w), some (.int (lyB f i).2), some (.int (nI i)), none] [] (K, I, L, R, sz) Q := by
  intro k
  induction k with
  | zero =>
    intro i hi
    have hle : I 73 24 ≤ nI i := by rw [mS]; exact nI_le (by omega) (by omega)
    have : i = pS p := by omega
    subst this
    have hbd : ¬ (lyB f (pS p)).2 = -1 → ∃ k, k < pS p ∧ (lyB f (pS p)).2 = nI k ∧ (lyB f (pS p)).1 = f k := fun h => (lyB_inv (f := f) (pS p)).resolve_left (fun q => h q.1)
    refine g12102_135 hK hR (fun _ h _ => ?_) (fun h => absurd hle h) (fun h => absurd hle h) (fun _ h => ?_) (fun _ h1 h2 => ?_) (fun _ h1 h2 => ?_) (fun h => absurd hle h) (fun h => absurd hle h) (fun h => absurd hle h) (fun h => absurd hle h)
    · obtain ⟨k, h1, h2, h3⟩ := hbd h
      rw [h2]; exact vI (by omega) (by omega)
    · rw [if_pos (Or.inl h)] at hq; exact hq
    · rw [if_neg (fun q => q.elim h1 h2)] at hq
      obtain ⟨k, h3, h4, h5⟩ := hbd h1
      rw [h4, nI_c (by omega), h104 k h3, ← h5]
      exact hq
    · rw [if_pos (Or.inr h2)] at hq; exact hq
  | succ k ih =>
    intro i hi
    have hnl : ¬ I 73 24 ≤ nI i := by rw [mS]; exact nI_ge (by omega) (by omega)
    have hci : (nI i).toNatClampNeg = i := nI_c (by omega)
    have ih' := ih (i + 1) (by omega)
    have hbd : ¬ (lyB f i).2 = -1 → ∃ k, k < i ∧ (lyB f i).2 = nI k ∧ (lyB f i).1 = f k := fun h => (lyB_inv (f := f) i).resolve_left (fun q => h q.1)
    have h0 : (lyB f i).2 = -1 → (lyB f i).1 = 0 := fun h => by
      rcases lyB_inv (f := f) i with q | ⟨k, h1, h2, h3⟩
      · exact q.2
      · rw [h2] at h; exact absurd h (nI_m1 (by omega))
    refine g12102_135 hK hR (fun h => absurd h hnl) (fun _ => vI (by omega) (by omega)) (fun _ h => ?_) (fun h => absurd h hnl) (fun h => absurd h hnl) (fun h => absurd h hnl) (fun _ h1 h => ?_) (fun _ h1 h => ?_) (fun _ h1 h => ?_) (fun _ h1 h => ?_)
    · obtain ⟨k, h1, h2, h3⟩ := hbd h
      rw [h2]; exact vI (by omega) (by omega)
    · obtain ⟨k, h3, h4, h5⟩ := hbd h1
      rw [hci, h104 i (by omega), h4, nI_c (by omega), h104 k (by omega), ← h5] at h
      rw [lyB, if_pos h] at ih'
      rw [nI_1]; exact ih'
    · obtain ⟨k, h3, h4, h5⟩ := hbd h1
      rw [hci, h104 i (by omega), h4, nI_c (by omega), h104 k (by omega), ← h5] at h
      rw [lyB, if_neg h] at ih'
      rw [nI_1]; exact ih'
    · rw [hci, h104 i (by omega), ← h0 h1] at h
      rw [lyB, if_pos h] at ih'
      rw [nI_1]; exact ih'
    · rw [hci, h104 i (by omega), ← h0 h1] at h
      rw [lyB, if_neg h] at ih'
      rw [nI_1]; exact ih'
theorem l12102 {m w x2 : Int32} {a b : Nat} {LE : Int32 → Nat → Int32} (hK : qLay K sz) (hR : qRef R) (hb10 : b ≤ 1000) : ∀ (k t : Nat) (I : Nat → Nat → Int32), t + k = b → a ≤ t → CI I p → RI I p → qJudR I (pH p) (pN p) → (∀ u, LEn I p u = LE u) → (∀ s, s < pS p → I 104 s = nI (cnM LE (pS p) m s a (t - a))) → (∀ J, qAf I p J → J 73 24 = nI (pS p) → (∀ s, s < pS p → J 104 s = nI (cnM LE (pS p) m s a (b - a))) → X (d + 3) 0 0 12102 0 0 135 [some (.ref 73), some (.int m), some (.int x2), some (.int (nI b)), some (.int w), some (.int (-1)), some (.int 0), none] [] (K, J, L, R, sz) Q) → X (d + 3) 0 0 12102 0 0 61 [some (.ref 73), some (.int m), some (.int x2), some (.int (nI b)), some (.int w), some (.int (nI t)), none, none] [] (K, I, L, R, sz) Q := by
  intro k
  induction k with
  | zero =>
    intro t I ht hat cI rI hc hLE h104 hq
    have : t = b := by omega
    subst this
    have hle : nI t ≤ nI t := nI_le (Nat.le_refl _) (by omega)
    exact g12102_61 (p := p) hK hR cI rI (fun h => absurd hle h) (fun h => absurd hle h) (fun h => absurd hle h) (fun h => absurd hle h) (fun _ => hq I (qAf.refl cI) (rI.mS cI) h104) (fun h => absurd hle h)
  | succ k ih =>
    intro t I ht hat cI rI hc hLE h104 hq
    have w5 := cI.w5
    have hnl : ¬ nI b ≤ nI t := nI_ge (by omega) (by omega)
    have hvl : ∀ J : Nat → Nat → Int32, qLs I p (nI t) J → qVal (J 89) (pS p) := fun J hJ => qVal_cong hJ.2.2.1 (LEn_val cI _)
    refine g12102_61 (p := p) hK hR cI rI (fun _ => hc) (fun _ J hJ => (RI_fr hJ.1.1 rI).mS hJ.1.2) (fun _ _ _ => w5) (fun _ J hJ => hvl J hJ) (fun h => absurd h hnl) (fun _ J hJ => ?_)
    have hhb : hb (J 89) (pS p) m (pS p) = hb (LEn I p (nI t)) (pS p) m (pS p) := hb_cong (LEn_val cI _) w5 hJ.2.2.1 _ (Nat.le_refl _)
    have rJ := RI_fr hJ.1.1 rI
    rw [hhb]
    refine l12102b (p := p) (d := d + 2) hK hR (fun s _ => bit_01 _ _) (pS p) 0 J (by omega) (rJ.mS hJ.1.2) w5 (fun J2 hJ2 _ h2 => ?_)
    have g2 : qAf J p J2 := (qAf.refl hJ.1.2).up (hJ2.mono (fun j k e => by rw [e]; exact sc104 k)) (hJ2.row (by omega)) (hJ2.row (by omega))
    have hc2 : qJudR J2 (pH p) (pN p) := qJudR_fr (hJ2.row (by omega)) (by rw [hJ2.row (j := 73) (by omega)]) (hJ2.row (by omega)) (hJ2.row (by omega)) (hJ2.row (by omega)) (hJ2.row (by omega)) hJ.2.1
    rw [nI_1]
    refine ih (t + 1) J2 (by omega) (by omega) g2.2 (RI_fr g2.1 rJ) hc2 (fun u => by rw [g2.le hJ.1.2, hJ.1.le cI]; exact hLE u) (fun s hs => ?_) (fun J3 h3 h4 h5 => hq J3 ((hJ.1.trans g2).trans h3) h4 h5)
    rw [h2 s (by omega) hs, hJ.2.2.2, h104 s hs, hb_bit w5 hs, hLE, show t + 1 - a = (t - a) + 1 from by omega, cnM, show a + (t - a) = t from by omega]
    by_cases hh : hd (LE (nI t)) (pS p) (nI s) = m
    · rw [if_pos hh, if_pos hh, nI_1]
    · rw [if_neg hh, if_neg hh, Int32.add_zero, Nat.add_zero]
theorem s12102 {m f t w : Int32} (hK : qLay K sz) (hR : qRef R) (cI : CI I p) (rI : RI I p) (hq : ∀ J, qAf I p J → Q (some (.int (fLoyal (LEn I p) p m f t w))) (K, J, L, R, sz)) : X (d + 7) 0 0 12102 0 0 0 (qent (qml 12102) [.ref 73, .int m, .int f, .int t, .int w]) [] (K, I, L, R, sz) Q := by
  unfold fLoyal at hq
  have w5 := cI.w5
  refine e12102 (p := p) hK hR cI rI (fun h1 h2 h30 h4 J hJ => ?_) (fun h1 h2 h3 => ?_) (fun h1 h2 => ?_) (fun h1 => ?_)
  · obtain ⟨g, hc⟩ := hJ
    obtain ⟨a, b, ab, b10, rfl, rfl⟩ := qSpan_n h2
    have rJ := RI_fr g.1 rI
    have g2 : qAf J p (va_up J 104 (qfi 0 (J 104) (pS p))) := (qAf.refl g.2).up (qFr.up sc104) (vu_n (by decide)) (vu_n (by decide))
    have hc2 : qJudR (va_up J 104 (qfi 0 (J 104) (pS p))) (pH p) (pN p) := qJudR_fr (vu_n (by decide)) (by rw [vu_n (by decide)]) (vu_n (by decide)) (vu_n (by decide)) (vu_n (by decide)) (vu_n (by decide)) hc
    have h0 := l12102 (p := p) (d := d + 4) (Q := Q) (L := L) (m := m) (w := w) (x2 := nI a) (a := a) (b := b) (LE := LEn I p) hK hR b10 (b - a) a _ (by omega) (Nat.le_refl _) g2.2 (RI_fr g2.1 rJ) hc2 (fun u => by rw [g2.le g.2, g.le cI]) (fun s hs => by rw [vu_s, qfi, if_pos hs, Nat.sub_self, cnM]; rfl) (fun J3 h3 h5 h6 => by
      have h7 := hq J3 ((g.trans g2).trans h3)
      rw [if_pos ⟨h1, h2, i01.mp ⟨h30, h4⟩⟩] at h7
      exact l12102d (p := p) (f := lyF (LEn I p) p m (nI a) (nI b)) hK hR h5 w5 (fun s hs => by rw [h6 s hs, lyF, nI_c (by omega), nI_c (by omega)]) h7 (pS p) 0 (by omega))
    have := l12102a (p := p) (d := d + 7) hK hR (rJ.mS g.2) w5 h0 (pS p) 0 (by omega)
    rw [qfi_0, vu_id] at this
    exact this
  · have := hq I (qAf.refl cI)
    rw [if_neg (fun q => h3 (i01.mpr q.2.2))] at this
    exact this
  · have := hq I (qAf.refl cI)
    rw [if_neg (fun q => h2 q.2.1)] at this
    exact this
  · have := hq I (qAf.refl cI)
    rw [if_neg (fun q => h1 q.1)] at this
    exact this
end L60
