/-! spans: wages of the reference -/
noncomputable def mnS (f : Nat → Int32) (wg : Nat → Int32) (n : Nat) (m : Int32) : Nat → Int32
  | 0 => 0
  | i + 1 => mnS f wg n m i + (if hd f n (nI i) = m then wg i else 0)
theorem wgS_step {LE : Int32 → Nat → Int32} {wg : Nat → Int32} {n : Nat} {m : Int32} {a k : Nat} : ∀ i, wgS LE wg n m a (k + 1) i = wgS LE wg n m a k i + mnS (LE (nI (a + k))) wg n m i := by
  intro i
  induction i with
  | zero => rw [wgS, wgS, mnS, Int32.add_zero]
  | succ i ih =>
    rw [wgS, wgS, mnS, ih, cnM]
    by_cases h : hd (LE (nI (a + k))) n (nI i) = m
    · rw [if_pos h, if_pos h, ← nI_add (cnM LE n m i a k) 1, Int32.add_mul, show nI 1 = (1 : Int32) from rfl, Int32.one_mul]
      ac_rfl
    · rw [if_neg h, if_neg h, Nat.add_zero, Int32.add_zero]
      ac_rfl
theorem wgS_0 {LE : Int32 → Nat → Int32} {wg : Nat → Int32} {n : Nat} {m : Int32} {a : Nat} : ∀ i, wgS LE wg n m a 0 i = 0 := by
  intro i
  induction i with
  | zero => rfl
  | succ i ih => rw [wgS, ih, cnM, show nI 0 = (0 : Int32) from rfl, Int32.zero_mul, Int32.add_zero]
section L58
variable {d : Nat} {K : qK} {I : Nat → Nat → Int32} {L : Nat → Nat → Int64} {R : Nat → Nat → Option Nat} {sz : Nat} {Q : Option Value → qMem → Prop} {p : qPa}
theorem l12073b {x1 x2 x3 x4 x5 : Int32} {f wg : Nat → Int32} (hK : qLay K sz) (hR : qRef R) (mS : I 73 24 = nI (pS p)) (w5 : pS p ≤ 5) (hv : qVal f (pS p)) (hf : ∀ s, s < pS p → I 89 s = f s) (hw : ∀ s, s < pS p → I 85 (3 * s + 2) = wg s) (hq : X (d + 2) 0 0 12073 0 0 28 [some (.ref 73), some (.int x1), some (.int x2), some (.int x3), some (.int (x4 + mnS f wg (pS p) x1 (pS p))), some (.int (x5 + 1)), none] [] (K, I, L, R, sz) Q) : ∀ (k i : Nat), i + k = pS p → X (d + 2) 0 0 12073 0 0 43 [some (.ref 73), some (.int x1), some (.int x2), some (.int x3), some (.int (x4 + mnS f wg (pS p) x1 i)), some (.int x5), some (.int (nI i))] [] (K, I, L, R, sz) Q := by
  intro k
  induction k with
  | zero =>
    intro i hi
    have hle : I 73 24 ≤ nI i := by rw [mS]; exact nI_le (by omega) (by omega)
    have : i = pS p := by omega
    subst this
    exact g12073_43 (p := p) hK hR (fun h => absurd hle h) (fun h => absurd hle h) (fun h => absurd hle h) (fun h => absurd hle h) (fun h => absurd hle h) (fun _ => hq) (fun h => absurd hle h) (fun h => absurd hle h)
  | succ k ih =>
    intro i hi
    have hnl : ¬ I 73 24 ≤ nI i := by rw [mS]; exact nI_ge (by omega) (by omega)
    have hhd : hd (I 89) (pS p) (nI i) = hd f (pS p) (nI i) := hd_cong hv (by omega) w5 hf
    have e3 : (3 * nI i + 2 : Int32) = nI (3 * i + 2) := q_3j i 2
    have ih' := ih (i + 1) (by omega)
    refine g12073_43 (p := p) hK hR (fun _ => mS) (fun _ => w5) (fun _ => qVal_cong hf hv) (fun _ => ⟨i, by omega, rfl⟩) (fun _ _ => by rw [e3]; exact vI (by omega) (by omega)) (fun h => absurd h hnl) (fun _ h => ?_) (fun _ h => ?_)
    · rw [hhd] at h
      rw [mnS, if_neg h, Int32.add_zero] at ih'
      rw [nI_1, Int32.add_zero]; exact ih'
    · rw [hhd] at h
      rw [mnS, if_pos h, ← Int32.add_assoc] at ih'
      rw [nI_1, e3, nI_c (by omega), hw i (by omega)]; exact ih'
theorem l12073 {x1 x2 : Int32} {a b : Nat} {LE : Int32 → Nat → Int32} {wg : Nat → Int32} (hK : qLay K sz) (hR : qRef R) (hb : b ≤ 1000) : ∀ (k t : Nat) (I : Nat → Nat → Int32), t + k = b → a ≤ t → CI I p → RI I p → qJudR I (pH p) (pN p) → (∀ u, LEn I p u = LE u) → (∀ s, s < pS p → I 85 (3 * s + 2) = wg s) → (∀ J, qAf I p J → Q (some (.int (wgS LE wg (pS p) x1 a (b - a) (pS p)))) (K, J, L, R, sz)) → X (d + 2) 0 0 12073 0 0 28 [some (.ref 73), some (.int x1), some (.int x2), some (.int (nI b)), some (.int (wgS LE wg (pS p) x1 a (t - a) (pS p))), some (.int (nI t)), none] [] (K, I, L, R, sz) Q := by
  intro k
  induction k with
  | zero =>
    intro t I ht hat cI rI hc hLE hw hq
    have : t = b := by omega
    subst this
    have hle : nI t ≤ nI t := nI_le (Nat.le_refl _) (by omega)
    exact g12073_28 (p := p) (d := d + 1) hK hR cI rI (fun h => absurd hle h) (fun _ => hq I (qAf.refl cI)) (fun h => absurd hle h)
  | succ k ih =>
    intro t I ht hat cI rI hc hLE hw hq
    have hnl : ¬ nI b ≤ nI t := nI_ge (by omega) (by omega)
    refine g12073_28 (p := p) (d := d + 1) hK hR cI rI (fun _ => hc) (fun h => absurd h hnl) (fun _ J hJ => ?_)
    obtain ⟨g, hcJ, h89, -⟩ := hJ
    have rJ := RI_fr g.1 rI
    have hwJ : ∀ s, s < pS p → J 85 (3 * s + 2) = wg s := fun s hs => by rw [g.1.row (j := 85) (scQ_no (by omega))]; exact hw s hs
    have hv : qVal (LE (nI t)) (pS p) := by rw [← hLE]; exact LEn_val cI _
    have := l12073b (p := p) (d := d) (Q := Q) (L := L) (x1 := x1) (x2 := x2) (x3 := nI b) (x4 := wgS LE wg (pS p) x1 a (t - a) (pS p)) (x5 := nI t) (f := LE (nI t)) (wg := wg) hK hR (rJ.mS g.2) cI.w5 hv (fun s hs => by rw [h89 s hs, hLE]) hwJ (by
      have h1 := ih (t + 1) J (by omega) (by omega) g.2 rJ hcJ (fun u => by rw [g.le cI]; exact hLE u) hwJ (fun J' hJ' => hq J' (g.trans hJ'))
      rw [show t + 1 - a = (t - a) + 1 from by omega, wgS_step, show a + (t - a) = t from by omega] at h1
      rw [nI_1]
      exact h1) (pS p) 0 (by omega)
    rw [mnS, Int32.add_zero] at this
    exact this
theorem s12073 {m f t : Int32} (hK : qLay K sz) (hR : qRef R) (cI : CI I p) (rI : RI I p) (hq : ∀ J, qAf I p J → Q (some (.int (fWages I p m f t))) (K, J, L, R, sz)) : X (d + 7) 0 0 12073 0 0 0 (qent (qml 12073) [.ref 73, .int m, .int f, .int t]) [] (K, I, L, R, sz) Q := by
  unfold fWages at hq
  have w5 := cI.w5
  refine e12073 (p := p) hK hR cI rI (fun h1 h2 J hJ => ?_) (fun h1 h2 => ?_) (fun h1 => ?_)
  · obtain ⟨g, hc⟩ := hJ
    obtain ⟨a, b, ab, b10, rfl, rfl⟩ := qSpan_n h2
    have rJ := RI_fr g.1 rI
    have := l12073 (p := p) (d := d + 5) (Q := Q) (L := L) (x1 := m) (x2 := nI a) (a := a) (b := b) (LE := LEn I p) (wg := fun s => I (24 + s) 2) hK hR b10 (b - a) a J (by omega) (Nat.le_refl _) g.2 rJ hc (g.le cI) (fun s hs => by
      rw [rJ.2.1.1 s 2 (by omega) hs (by omega)]
      exact g.1 _ _ (scQ_no (by omega) _)) (fun J' hJ' => by
      have h3 := hq J' (g.trans hJ')
      rw [if_pos ⟨h1, h2⟩, nI_c (by omega), nI_c (by omega)] at h3
      exact h3)
    rw [Nat.sub_self, wgS_0] at this
    exact this
  · have := hq I (qAf.refl cI)
    rw [if_neg (fun q => h2 q.2)] at this
    exact this
  · have := hq I (qAf.refl cI)
    rw [if_neg (fun q => h1 q.1)] at this
    exact this
end L58
