/-! spans: wages of the class -/
/-- the wages of the servants below i: minutes by wage -/
noncomputable def wgS (LE : Int32 → Nat → Int32) (wg : Nat → Int32) (n : Nat) (m : Int32) (a k : Nat) : Nat → Int32
  | 0 => 0
  | i + 1 => wgS LE wg n m a k i + nI (cnM LE n m i a k) * wg i
noncomputable def fWages (I : Nat → Nat → Int32) (p : qPa) (m f t : Int32) : Int32 := @ite Int32 (qIn (pM p) m ∧ qSpan f t) (Classical.propDecidable _) (wgS (LEn I p) (fun s => I (24 + s) 2) (pS p) m f.toNatClampNeg (t.toNatClampNeg - f.toNatClampNeg) (pS p)) (-1)
section L55
variable {d : Nat} {K : qK} {I : Nat → Nat → Int32} {L : Nat → Nat → Int64} {R : Nat → Nat → Option Nat} {sz : Nat} {Q : Option Value → qMem → Prop} {p : qPa}
theorem l11019 {x1 x2 x3 m : Int32} {LE : Int32 → Nat → Int32} {wg : Nat → Int32} {a c : Nat} (hK : qLay K sz) (hR : qRef R) (lS : I 22 1 = nI (pS p)) (w5 : pS p ≤ 5) (h72 : ∀ s, s < pS p → I 72 s = nI (cnM LE (pS p) m s a c)) (hw : ∀ s, s < pS p → I (24 + s) 2 = wg s) (hq : Q (some (.int (wgS LE wg (pS p) m a c (pS p)))) (K, I, L, R, sz)) : ∀ (k i : Nat), i + k = pS p → X d 0 0 11019 0 0 31 [some (.ref 0), some (.int x1), some (.int x2), some (.int x3), some (.int (wgS LE wg (pS p) m a c i)), some (.int (nI i))] [] (K, I, L, R, sz) Q := by
  intro k
  induction k with
  | zero =>
    intro i hi
    have hle : I 22 1 ≤ nI i := by rw [lS]; exact nI_le (by omega) (by omega)
    have : i = pS p := by omega
    subst this
    exact g11019_31 hK hR (fun h => absurd hle h) (fun _ => hq) (fun h => absurd hle h)
  | succ k ih =>
    intro i hi
    have hnl : ¬ I 22 1 ≤ nI i := by rw [lS]; exact nI_ge (by omega) (by omega)
    have hci : (nI i).toNatClampNeg = i := nI_c (by omega)
    refine g11019_31 hK hR (fun _ => vI (by omega) (by omega)) (fun h => absurd h hnl) (fun _ => ?_)
    rw [hci, h72 i (by omega), hw i (by omega), nI_1]
    exact ih (i + 1) (by omega)
theorem s11019 {m f t : Int32} (hK : qLay K sz) (hR : qRef R) (cI : CI I p) (hq : ∀ J, qAf I p J → Q (some (.int (fWages I p m f t))) (K, J, L, R, sz)) : X (d + 8) 0 0 11019 0 0 0 (qent (qml 11019) [.ref 0, .int m, .int f, .int t]) [] (K, I, L, R, sz) Q := by
  unfold fWages at hq
  have w5 := cI.w5
  refine e11019 (p := p) hK hR cI (fun _ h => h) (fun h1 h2 J hJ => ?_) (fun h1 h2 => ?_) (fun h1 => ?_)
  · have := hq J hJ.1
    rw [if_pos ⟨h1, h2⟩] at this
    exact l11019 (p := p) hK hR hJ.1.2.lS w5 hJ.2 (fun s hs => hJ.1.1 _ _ (scQ_no (by omega) _)) this (pS p) 0 (by omega)
  · have := hq I (qAf.refl cI)
    rw [if_neg (fun q => h2 q.2)] at this
    exact this
  · have := hq I (qAf.refl cI)
    rw [if_neg (fun q => h1 q.1)] at this
    exact this
end L55
