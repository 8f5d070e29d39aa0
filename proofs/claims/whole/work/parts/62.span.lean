/-! spans: apart and changes, both -/
/-- the longest run of z in the first k from a on: how long, its first, the run at the end -/
def apS (z : Nat → Bool) (a : Nat) : Nat → Nat × Int32 × Nat
  | 0 => (0, -1, 0)
  | k + 1 => if z (a + k) then (if (apS z a k).2.2 + 1 ≤ (apS z a k).1 then ((apS z a k).1, (apS z a k).2.1, (apS z a k).2.2 + 1) else ((apS z a k).2.2 + 1, nI (a + k - (apS z a k).2.2), (apS z a k).2.2 + 1)) else ((apS z a k).1, (apS z a k).2.1, 0)
theorem apS_b {z : Nat → Bool} {a : Nat} : ∀ k, (apS z a k).2.2 ≤ (apS z a k).1 ∧ (apS z a k).1 ≤ k := by
  intro k
  induction k with
  | zero => exact ⟨Nat.le_refl _, Nat.le_refl _⟩
  | succ k ih =>
    rw [apS]
    split
    · split
      · next h => exact ⟨h, by show (apS z a k).1 ≤ k + 1; omega⟩
      · exact ⟨Nat.le_refl _, by show (apS z a k).2.2 + 1 ≤ k + 1; omega⟩
    · exact ⟨Nat.zero_le _, by show (apS z a k).1 ≤ k + 1; omega⟩
theorem apS_t {z : Nat → Bool} {a k : Nat} : ∀ j, (∀ v, a + k ≤ v → v < a + k + j → z v = true) → apS z a (k + j) = if (apS z a k).2.2 + j ≤ (apS z a k).1 then ((apS z a k).1, (apS z a k).2.1, (apS z a k).2.2 + j) else ((apS z a k).2.2 + j, nI (a + k - (apS z a k).2.2), (apS z a k).2.2 + j) := by
  intro j
  have hb := (apS_b (z := z) (a := a) k)
  induction j with
  | zero => intro _; rw [if_pos (by omega)]; rfl
  | succ j ih =>
    intro h
    rw [← Nat.add_assoc, apS, if_pos (h _ (by omega) (by omega)), ih (fun v h1 h2 => h v h1 (by omega))]
    by_cases h1 : (apS z a k).2.2 + j ≤ (apS z a k).1
    · rw [if_pos h1]
      show (if (apS z a k).2.2 + j + 1 ≤ (apS z a k).1 then _ else _) = _
      by_cases h2 : (apS z a k).2.2 + j + 1 ≤ (apS z a k).1
      · rw [if_pos h2, if_pos (by omega)]; rfl
      · rw [if_neg h2, if_neg (by omega)]
        show ((apS z a k).2.2 + j + 1, nI (a + (k + j) - ((apS z a k).2.2 + j)), (apS z a k).2.2 + j + 1) = _
        rw [show a + (k + j) - ((apS z a k).2.2 + j) = a + k - (apS z a k).2.2 from by omega]; rfl
    · rw [if_neg h1, if_neg (show ¬ (apS z a k).2.2 + (j + 1) ≤ (apS z a k).1 from by omega)]
      show (if (apS z a k).2.2 + j + 1 ≤ (apS z a k).2.2 + j then _ else _) = _
      rw [if_neg (by omega)]
      show ((apS z a k).2.2 + j + 1, nI (a + (k + j) - ((apS z a k).2.2 + j)), (apS z a k).2.2 + j + 1) = _
      rw [show a + (k + j) - ((apS z a k).2.2 + j) = a + k - (apS z a k).2.2 from by omega]; rfl
theorem apS_f {z : Nat → Bool} {a k : Nat} : ∀ j, (∀ v, a + k ≤ v → v < a + k + (j + 1) → z v = false) → apS z a (k + (j + 1)) = ((apS z a k).1, (apS z a k).2.1, 0) := by
  intro j
  induction j with
  | zero => intro h; rw [apS, h _ (Nat.le_refl _) (by omega)]; rfl
  | succ j ih =>
    intro h
    rw [← Nat.add_assoc, apS, h _ (by omega) (by omega), ih (fun v h1 h2 => h v h1 (by omega))]; rfl
noncomputable def apZ (LE : Int32 → Nat → Int32) (p : qPa) (m : Int32) : Nat → Bool := fun v => decide (hb (LE (nI v)) (pS p) m (pS p) = 0)
noncomputable def fApart (LE : Int32 → Nat → Int32) (p : qPa) (m f t w : Int32) : Int32 := @ite Int32 (qIn (pM p) m ∧ qSpan f t ∧ (w = 0 ∨ w = 1)) (Classical.propDecidable _) (if w = 0 then nI (apS (apZ LE p m) f.toNatClampNeg (t.toNatClampNeg - f.toNatClampNeg)).1 else (apS (apZ LE p m) f.toNatClampNeg (t.toNatClampNeg - f.toNatClampNeg)).2.1) (-1000000)
/-- how often h changes in the k from a on, the last -/
def chS (h : Nat → Int32) (a : Nat) (pv : Int32) : Nat → Nat × Int32
  | 0 => (0, pv)
  | k + 1 => if h (a + k) = (chS h a pv k).2 then chS h a pv k else ((chS h a pv k).1 + 1, h (a + k))
theorem chS_2 {h : Nat → Int32} {a : Nat} {pv : Int32} (k : Nat) : (chS h a pv (k + 1)).2 = h (a + k) := by
  rw [chS]
  split
  · next e => exact e.symm
  · rfl
theorem chS_b {h : Nat → Int32} {a : Nat} {pv : Int32} : ∀ k, (chS h a pv k).1 ≤ k := by
  intro k
  induction k with
  | zero => exact Nat.le_refl _
  | succ k ih =>
    rw [chS]
    split
    · omega
    · show (chS h a pv k).1 + 1 ≤ k + 1; omega
theorem chS_c {h : Nat → Int32} {a k : Nat} {pv : Int32} : ∀ j, (∀ v, a + k < v → v ≤ a + k + j → h v = h (a + k)) → chS h a pv (k + 1 + j) = chS h a pv (k + 1) := by
  intro j
  induction j with
  | zero => intro _; rfl
  | succ j ih =>
    intro hh
    rw [← Nat.add_assoc, chS, ih (fun v h1 h2 => hh v h1 (by omega)), chS_2, if_pos (by rw [show a + (k + 1 + j) = a + k + (j + 1) from by omega]; exact hh _ (by omega) (by omega))]
noncomputable def chH (LE : Int32 → Nat → Int32) (p : qPa) (s : Int32) : Nat → Int32 := fun v => hd (LE (nI v)) (pS p) s
noncomputable def chP (LE : Int32 → Nat → Int32) (p : qPa) (s f : Int32) : Int32 := if f ≤ 0 then -1 else hd (LE (f - 1)) (pS p) s
noncomputable def fChanges (LE : Int32 → Nat → Int32) (p : qPa) (s f t : Int32) : Int32 := @ite Int32 (qIn (pS p) s ∧ qSpan f t) (Classical.propDecidable _) (nI (chS (chH LE p s) f.toNatClampNeg (chP LE p s f) (t.toNatClampNeg + 1 - f.toNatClampNeg)).1) (-1)
theorem nxt2 {t b : Nat} {r : Int32} (ht : t ≤ b) (hb : b ≤ 1000) (hr : (t : Int) < r.toInt) : (nI b < (if nI t + 1 < r then r else nI t + 1) ∧ ∀ v, t < v → v ≤ b → (v : Int) < r.toInt) ∨ ∃ u, t < u ∧ u ≤ b ∧ (if nI t + 1 < r then r else nI t + 1) = nI u ∧ (u = t + 1 ∨ (u : Int) ≤ r.toInt) := by
  rw [nI_1]
  by_cases h2 : nI (t + 1) < r
  · rw [if_pos h2]
    by_cases h3 : nI b < r
    · left
      refine ⟨h3, fun v _ h5 => ?_⟩
      rw [i_lt, nI_i (by omega)] at h3
      omega
    · right
      rw [i_lt, nI_i (by omega)] at h3
      refine ⟨r.toInt.toNat, by omega, by omega, ?_, Or.inr (by omega)⟩
      rw [i_eq, nI_i (by omega)]
      omega
  · rw [if_neg h2]
    by_cases h3 : t + 1 ≤ b
    · exact Or.inr ⟨t + 1, by omega, h3, rfl, Or.inl rfl⟩
    · exact Or.inl ⟨nI_lt (by omega) (by omega), fun v _ _ => by omega⟩
section L62
variable {d : Nat} {K : qK} {I : Nat → Nat → Int32} {L : Nat → Nat → Int64} {R : Nat → Nat → Option Nat} {sz : Nat} {Q : Option Value → qMem → Prop} {p : qPa}
theorem l11033 {m w x2 : Int32} {a b : Nat} (hK : qLay K sz) (hR : qRef R) (hb10 : b ≤ 1000) (LE : Int32 → Nat → Int32) : ∀ (k t : Nat) (I : Nat → Nat → Int32) (S : Nat × Int32 × Nat), b - t = k → a ≤ t → t ≤ b → CI I p → (∀ u, LEn I p u = LE u) → S = apS (apZ LE p m) a (t - a) → (∀ J, qAf I p J → Q (some (.int (if w = 0 then nI (apS (apZ LE p m) a (b - a)).1 else (apS (apZ LE p m) a (b - a)).2.1))) (K, J, L, R, sz)) → X (d + 7) 0 0 11033 0 0 39 [some (.ref 0), some (.int m), some (.int x2), some (.int (nI b)), some (.int w), some (.int (nI S.1)), some (.int S.2.1), some (.int (nI (t - S.2.2))), some (.int (nI t)), none] [] (K, I, L, R, sz) Q := by
  intro k
  induction k using Nat.strongRecOn with
  | _ k ih =>
    intro t I S hk hat htb cI hLE hS hq
    have hSb := apS_b (z := apZ LE p m) (a := a) (t - a)
    rw [← hS] at hSb
    by_cases hle : nI b ≤ nI t
    · have : t = b := by have := (nI_leI (a := b) (b := t) (by omega) (by omega)).mp hle; omega
      subst this
      refine g11033_39 (p := p) hK hR cI (fun h => absurd hle h) (fun h => absurd hle h) (fun h => absurd hle h) (fun h => absurd hle h) (fun h => absurd hle h) (fun _ h => ?_) (fun _ h => ?_) (fun h => absurd hle h) (fun h => absurd hle h) (fun h => absurd hle h)
      · have := hq I (qAf.refl cI)
        rw [if_neg h, ← hS] at this; exact this
      · have := hq I (qAf.refl cI)
        rw [if_pos h, ← hS] at this; exact this
    · have htb' : t < b := by
        have : ¬ b ≤ t := fun q => hle (nI_le q (by omega))
        omega
      have w5 := cI.w5
      have hstep : ∀ (J : Nat → Nat → Int32), qLk I p (nI t) J → ∀ r, qNx (J 54) (nI t) (J 0 7) (pN p) r → ∃ u, t < u ∧ u ≤ b ∧ (if nI t + 1 < (if r < nI b then r else nI b) then (if r < nI b then r else nI b) else nI t + 1) = nI u ∧ (∀ v, t ≤ v → v < u → apZ LE p m v = decide (hb (J 70) (pS p) m (pS p) = 0)) ∧ ∀ S2, S2 = apS (apZ LE p m) a (u - a) → X (d + 7) 0 0 11033 0 0 39 [some (.ref 0), some (.int m), some (.int x2), some (.int (nI b)), some (.int w), some (.int (nI S2.1)), some (.int S2.2.1), some (.int (nI (u - S2.2.2))), some (.int (nI u)), none] [] (K, J, L, R, sz) Q := by
        intro J hJ r hr
        have g := hJ.af cI
        have hr0 : (t : Int) < r.toInt := by
          have := hr.1
          rw [nI_i (by omega)] at this
          exact this
        obtain ⟨u, hu1, hu2, hu3, hu4⟩ := nxt_at htb' hb10 hr0
        have cJ := g.2
        have hLJ : ∀ u, LEn J p u = LE u := fun v => by rw [g.le cI]; exact hLE v
        refine ⟨u, hu1, hu2, hu3, ?_, fun S2 hS2 => ih (b - u) (by omega) u J S2 rfl (by omega) hu2 cJ hLJ hS2 (fun J2 h2 => hq J2 (g.trans h2))⟩
        intro v hv1 hv2
        have hstay : LE (nI v) = LE (nI t) := by
          rcases hu4 with h | h
          · rw [show v = t from by omega]
          · rw [← hLJ, ← hLJ]
            exact LEn_stay cJ hr hv1 (by omega) (by omega)
        rw [apZ, hstay, hJ.hb cI, hLE]
      refine g11033_39 (p := p) hK hR cI (fun _ J hJ => (hJ.af cI).2.2.1.1) (fun _ J hJ => cI.2.1.2.1) (fun _ J hJ => by rw [nI_i (by omega)]; omega) (fun _ J hJ _ _ => hJ.2.1) (fun _ _ _ _ _ => w5) (fun h => absurd h hle) (fun h => absurd h hle) (fun _ J hJ r hr h1 h2 => ?_) (fun _ J hJ r hr h1 h2 => ?_) (fun _ J hJ r hr h1 => ?_)
      · obtain ⟨u, hu1, hu2, hu3, hz, hX⟩ := hstep J hJ r hr
        rw [hu3] at h2 ⊢
        have e := apS_t (z := apZ LE p m) (a := a) (k := t - a) (u - t) (fun v h3 h4 => by rw [hz v (by omega) (by omega), h1]; rfl)
        rw [← hS, show t - a + (u - t) = u - a from by omega] at e
        rw [pk_sub (by omega), nI_leI (by omega) (by omega)] at h2
        rw [if_pos (by omega)] at e
        have := hX _ e.symm
        rw [show u - (S.1, S.2.1, S.2.2 + (u - t)).2.2 = t - S.2.2 from by show u - (S.2.2 + (u - t)) = t - S.2.2; omega] at this
        exact this
      · obtain ⟨u, hu1, hu2, hu3, hz, hX⟩ := hstep J hJ r hr
        rw [hu3] at h2 ⊢
        have e := apS_t (z := apZ LE p m) (a := a) (k := t - a) (u - t) (fun v h3 h4 => by rw [hz v (by omega) (by omega), h1]; rfl)
        rw [← hS, show t - a + (u - t) = u - a from by omega, show a + (t - a) = t from by omega] at e
        rw [pk_sub (by omega)] at h2 ⊢
        rw [nI_leI (by omega) (by omega)] at h2
        rw [if_neg (by omega)] at e
        have := hX _ e.symm
        rw [show u - (S.2.2 + (u - t), nI (t - S.2.2), S.2.2 + (u - t)).2.2 = t - S.2.2 from by show u - (S.2.2 + (u - t)) = t - S.2.2; omega, show (S.2.2 + (u - t), nI (t - S.2.2), S.2.2 + (u - t)).1 = u - (t - S.2.2) from by show S.2.2 + (u - t) = _; omega] at this
        exact this
      · obtain ⟨u, hu1, hu2, hu3, hz, hX⟩ := hstep J hJ r hr
        rw [hu3]
        have e := apS_f (z := apZ LE p m) (a := a) (k := t - a) (u - t - 1) (fun v h3 h4 => by rw [hz v (by omega) (by omega), decide_eq_false h1])
        rw [← hS, show t - a + (u - t - 1 + 1) = u - a from by omega] at e
        exact hX _ e.symm
theorem s11033 {m f t w : Int32} (hK : qLay K sz) (hR : qRef R) (cI : CI I p) (hq : ∀ J, qAf I p J → Q (some (.int (fApart (LEn I p) p m f t w))) (K, J, L, R, sz)) : X (d + 7) 0 0 11033 0 0 0 (qent (qml 11033) [.ref 0, .int m, .int f, .int t, .int w]) [] (K, I, L, R, sz) Q := by
  unfold fApart at hq
  refine e11033 (p := p) (d := d + 6) hK hR cI (fun h1 h2 h3 => ?_) (fun h1 h2 h3 => ?_) (fun h1 h2 => ?_) (fun h1 => ?_)
  · obtain ⟨a, b, ab, b10, rfl, rfl⟩ := qSpan_n h2
    have h0 := l11033 (p := p) (d := d) (Q := Q) (L := L) (m := m) (w := w) (x2 := nI a) (a := a) (b := b) hK hR b10 (LEn I p) (b - a) a I (0, -1, 0) rfl (Nat.le_refl _) ab cI (fun _ => rfl) (by rw [Nat.sub_self]; rfl) (fun J hJ => by
      have := hq J hJ
      rw [if_pos ⟨h1, h2, h3⟩, nI_c (by omega), nI_c (by omega)] at this
      exact this)
    exact h0
  · have := hq I (qAf.refl cI)
    rw [if_neg (fun q => h3 q.2.2)] at this
    exact this
  · have := hq I (qAf.refl cI)
    rw [if_neg (fun q => h2 q.2.1)] at this
    exact this
  · have := hq I (qAf.refl cI)
    rw [if_neg (fun q => h1 q.1)] at this
    exact this
theorem l12101 {m w x2 : Int32} {a b : Nat} {LE : Int32 → Nat → Int32} (hK : qLay K sz) (hR : qRef R) (hb10 : b ≤ 1000) : ∀ (k t : Nat) (I : Nat → Nat → Int32) (S : Nat × Int32 × Nat), t + k = b → a ≤ t → CI I p → RI I p → qJudR I (pH p) (pN p) → (∀ u, LEn I p u = LE u) → S = apS (apZ LE p m) a (t - a) → (∀ J, qAf I p J → Q (some (.int (if w = 0 then nI (apS (apZ LE p m) a (b - a)).1 else (apS (apZ LE p m) a (b - a)).2.1))) (K, J, L, R, sz)) → X (d + 3) 0 0 12101 0 0 46 [some (.ref 73), some (.int m), some (.int x2), some (.int (nI b)), some (.int w), some (.int (nI S.1)), some (.int S.2.1), some (.int (nI S.2.2)), some (.int (nI t))] [] (K, I, L, R, sz) Q := by
  intro k
  induction k with
  | zero =>
    intro t I S ht hat cI rI hc hLE hS hq
    have : t = b := by omega
    subst this
    have hle : nI t ≤ nI t := nI_le (Nat.le_refl _) (by omega)
    refine g12101_46 (p := p) hK hR cI rI (fun h => absurd hle h) (fun h => absurd hle h) (fun h => absurd hle h) (fun h => absurd hle h) (fun _ h => ?_) (fun _ h => ?_) (fun h => absurd hle h) (fun h => absurd hle h) (fun h => absurd hle h) (fun h => absurd hle h)
    · have := hq I (qAf.refl cI)
      rw [if_neg h, ← hS] at this; exact this
    · have := hq I (qAf.refl cI)
      rw [if_pos h, ← hS] at this; exact this
  | succ k ih =>
    intro t I S ht hat cI rI hc hLE hS hq
    have w5 := cI.w5
    have hSb := apS_b (z := apZ LE p m) (a := a) (t - a)
    rw [← hS] at hSb
    have hnl : ¬ nI b ≤ nI t := nI_ge (by omega) (by omega)
    have hvl : ∀ J : Nat → Nat → Int32, qLs I p (nI t) J → qVal (J 89) (pS p) := fun J hJ => qVal_cong hJ.2.2.1 (LEn_val cI _)
    have hhb : ∀ J : Nat → Nat → Int32, qLs I p (nI t) J → hb (J 89) (pS p) m (pS p) = hb (LE (nI t)) (pS p) m (pS p) := fun J hJ => by rw [← hLE]; exact hb_cong (LEn_val cI _) w5 hJ.2.2.1 _ (Nat.le_refl _)
    have hn : ∀ (J : Nat → Nat → Int32), qLs I p (nI t) J → ∀ S2, S2 = apS (apZ LE p m) a (t + 1 - a) → X (d + 3) 0 0 12101 0 0 46 [some (.ref 73), some (.int m), some (.int x2), some (.int (nI b)), some (.int w), some (.int (nI S2.1)), some (.int S2.2.1), some (.int (nI S2.2.2)), some (.int (nI t + 1))] [] (K, J, L, R, sz) Q := fun J hJ S2 h2 => by
      rw [nI_1]
      exact ih (t + 1) J S2 (by omega) (by omega) hJ.1.2 (RI_fr hJ.1.1 rI) hJ.2.1 (fun u => by rw [hJ.1.le cI]; exact hLE u) h2 (fun J3 h3 => hq J3 (hJ.1.trans h3))
    have e : apS (apZ LE p m) a (t + 1 - a) = if apZ LE p m t = true then (if S.2.2 + 1 ≤ S.1 then (S.1, S.2.1, S.2.2 + 1) else (S.2.2 + 1, nI (t - S.2.2), S.2.2 + 1)) else (S.1, S.2.1, 0) := by
      rw [show t + 1 - a = (t - a) + 1 from by omega, apS, ← hS, show a + (t - a) = t from by omega]
    have e0 : ∀ J : Nat → Nat → Int32, qLs I p (nI t) J → (apZ LE p m t = true ↔ hb (J 89) (pS p) m (pS p) = 0) := fun J hJ => by
      rw [apZ, hhb J hJ, decide_eq_true_eq]
    refine g12101_46 (p := p) hK hR cI rI (fun _ => hc) (fun _ J hJ => (RI_fr hJ.1.1 rI).mS hJ.1.2) (fun _ _ _ => w5) (fun _ J hJ => hvl J hJ) (fun h => absurd h hnl) (fun h => absurd h hnl) (fun _ J hJ h1 h2 => ?_) (fun _ J hJ h1 h2 => ?_) (fun _ J hJ h1 h2 => ?_) (fun _ J hJ h1 h2 => ?_)
    · rw [if_neg (fun q => h1 ((e0 J hJ).mp q))] at e
      exact hn J hJ _ e.symm
    · exact absurd (nI_pos' (by omega)) h2
    · rw [nI_1, nI_leI (by omega) (by omega)] at h2
      rw [if_pos ((e0 J hJ).mpr h1), if_pos h2] at e
      rw [nI_1 S.2.2]
      exact hn J hJ _ e.symm
    · rw [nI_1, nI_leI (by omega) (by omega)] at h2
      rw [if_pos ((e0 J hJ).mpr h1), if_neg h2] at e
      have := hn J hJ _ e.symm
      by_cases hc0 : S.2.2 + 1 ≤ t
      · rw [nI_1 S.2.2, pk_sub hc0, nI_1, show t - (S.2.2 + 1) + 1 = t - S.2.2 from by omega]
        exact this
      · have : S.2.2 = t := by omega
        rw [nI_1 S.2.2, show nI t - nI (S.2.2 + 1) + 1 = nI (t - S.2.2) from by
          rw [this, Nat.sub_self, ← nI_1, Int32.sub_eq_add_neg, Int32.neg_add, Int32.sub_eq_add_neg (-nI t) 1]
          have : nI t + (-nI t + -1) + 1 = (nI t + -nI t) + (-1 + 1) := by ac_rfl
          rw [this, Int32.add_right_neg]; rfl]
        exact hn J hJ _ e.symm
theorem s12101 {m f t w : Int32} (hK : qLay K sz) (hR : qRef R) (cI : CI I p) (rI : RI I p) (hq : ∀ J, qAf I p J → Q (some (.int (fApart (LEn I p) p m f t w))) (K, J, L, R, sz)) : X (d + 7) 0 0 12101 0 0 0 (qent (qml 12101) [.ref 73, .int m, .int f, .int t, .int w]) [] (K, I, L, R, sz) Q := by
  unfold fApart at hq
  refine e12101 (p := p) hK hR cI rI (fun h1 h2 h3 h4 J hJ => ?_) (fun h1 h2 h3 => ?_) (fun h1 h2 => ?_) (fun h1 => ?_)
  · obtain ⟨g, hc⟩ := hJ
    obtain ⟨a, b, ab, b10, rfl, rfl⟩ := qSpan_n h2
    have h0 := l12101 (p := p) (d := d + 4) (Q := Q) (L := L) (m := m) (w := w) (x2 := nI a) (a := a) (b := b) (LE := LEn I p) hK hR b10 (b - a) a J (0, -1, 0) (by omega) (Nat.le_refl _) g.2 (RI_fr g.1 rI) hc (g.le cI) (by rw [Nat.sub_self]; rfl) (fun J2 h5 => by
      have := hq J2 (g.trans h5)
      rw [if_pos ⟨h1, h2, i01.mp ⟨h3, h4⟩⟩, nI_c (by omega), nI_c (by omega)] at this
      exact this)
    exact h0
  · have := hq I (qAf.refl cI)
    rw [if_neg (fun q => h3 (i01.mpr q.2.2))] at this
    exact this
  · have := hq I (qAf.refl cI)
    rw [if_neg (fun q => h2 q.2.1)] at this
    exact this
  · have := hq I (qAf.refl cI)
    rw [if_neg (fun q => h1 q.1)] at this
    exact this
theorem l11031 {x2 pv : Int32} {a b s : Nat} (hK : qLay K sz) (hR : qRef R) (hb10 : b ≤ 1000) (hs : s < pS p) (LE : Int32 → Nat → Int32) : ∀ (k t : Nat) (I : Nat → Nat → Int32), b - t = k → a ≤ t → t ≤ b → CI I p → (∀ u, LEn I p u = LE u) → (∀ J, qAf I p J → Q (some (.int (nI (chS (chH LE p (nI s)) a pv (b + 1 - a)).1))) (K, J, L, R, sz)) → X (d + 7) 0 0 11031 0 0 48 [some (.ref 0), some (.int (nI s)), some (.int x2), some (.int (nI b)), some (.int (chS (chH LE p (nI s)) a pv (t - a)).2), some (.int (nI (chS (chH LE p (nI s)) a pv (t - a)).1)), some (.int (nI t)), none] [] (K, I, L, R, sz) Q := by
  intro k
  induction k using Nat.strongRecOn with
  | _ k ih =>
    intro t I hk hat htb cI hLE hq
    have w5 := cI.w5
    have hnl : ¬ nI b < nI t := nI_nlt htb (by omega)
    have ehd : ∀ J : Nat → Nat → Int32, qLk I p (nI t) J → hd (J 70) (pS p) (nI s) = chH LE p (nI s) t := fun J hJ => by rw [chH, hJ.hd cI hs, hLE]
    have hstep : ∀ (J : Nat → Nat → Int32), qLk I p (nI t) J → ∀ r, qNx (J 54) (nI t) (J 0 7) (pN p) r → X (d + 7) 0 0 11031 0 0 48 [some (.ref 0), some (.int (nI s)), some (.int x2), some (.int (nI b)), some (.int (chS (chH LE p (nI s)) a pv (t + 1 - a)).2), some (.int (nI (chS (chH LE p (nI s)) a pv (t + 1 - a)).1)), some (.int (if nI t + 1 < r then r else nI t + 1)), none] [] (K, J, L, R, sz) Q := by
      intro J hJ r hr
      have g := hJ.af cI
      have hr0 : (t : Int) < r.toInt := by
        have := hr.1
        rw [nI_i (by omega)] at this
        exact this
      have cJ := g.2
      have hLJ : ∀ u, LEn J p u = LE u := fun v => by rw [g.le cI]; exact hLE v
      have hst : ∀ v, t ≤ v → (v : Int) < r.toInt → v ≤ 1000 → chH LE p (nI s) v = chH LE p (nI s) t := fun v h1 h2 h3 => by
        rw [chH, chH, ← hLJ, ← hLJ, LEn_stay cJ hr h1 h2 h3]
      rcases nxt2 htb hb10 hr0 with ⟨h1, h2⟩ | ⟨u, hu1, hu2, hu3, hu4⟩
      · refine g11031_48 (p := p) hK hR cJ (fun h => absurd h1 h) (fun h => absurd h1 h) (fun h => absurd h1 h) (fun h => absurd h1 h) (fun h => absurd h1 h) (fun h => absurd h1 h) (fun h => absurd h1 h) (fun h => absurd h1 h) (fun _ => ?_) (fun h => absurd h1 h) (fun h => absurd h1 h)
        have e := chS_c (h := chH LE p (nI s)) (a := a) (pv := pv) (k := t - a) (b - t) (fun v h3 h4 => by rw [show a + (t - a) = t from by omega]; exact hst v (by omega) (h2 v (by omega) (by omega)) (by omega))
        rw [show t - a + 1 + (b - t) = b + 1 - a from by omega, show t - a + 1 = t + 1 - a from by omega] at e
        rw [← e]
        exact hq J g
      · have e := chS_c (h := chH LE p (nI s)) (a := a) (pv := pv) (k := t - a) (u - t - 1) (fun v h3 h4 => by
          rw [show a + (t - a) = t from by omega]
          rcases hu4 with h | h
          · exact absurd h4 (by omega)
          · exact hst v (by omega) (by omega) (by omega))
        rw [show t - a + 1 + (u - t - 1) = u - a from by omega, show t - a + 1 = t + 1 - a from by omega] at e
        rw [hu3, ← e]
        exact ih (b - u) (by omega) u J rfl (by omega) hu2 cJ hLJ (fun J2 h2 => hq J2 (g.trans h2))
    refine g11031_48 (p := p) hK hR cI (fun _ J hJ => hJ.2.1) (fun _ _ _ => w5) (fun _ J hJ _ => (hJ.af cI).2.2.1.1) (fun _ J hJ _ => cI.2.1.2.1) (fun _ J hJ _ => by rw [nI_i (by omega)]; omega) (fun _ J hJ _ => (hJ.af cI).2.2.1.1) (fun _ J hJ _ => cI.2.1.2.1) (fun _ J hJ _ => by rw [nI_i (by omega)]; omega) (fun h => absurd h hnl) (fun _ J hJ h1 r hr => ?_) (fun _ J hJ h1 r hr => ?_)
    · rw [ehd J hJ] at h1 ⊢
      have := hstep J hJ r hr
      rw [show t + 1 - a = t - a + 1 from by omega, chS, show a + (t - a) = t from by omega, if_pos h1, ← h1] at this
      exact this
    · rw [ehd J hJ] at h1 ⊢
      have := hstep J hJ r hr
      rw [show t + 1 - a = t - a + 1 from by omega, chS, show a + (t - a) = t from by omega, if_neg h1] at this
      rw [nI_1]
      exact this
theorem s11031 {s f t : Int32} (hK : qLay K sz) (hR : qRef R) (cI : CI I p) (hq : ∀ J, qAf I p J → Q (some (.int (fChanges (LEn I p) p s f t))) (K, J, L, R, sz)) : X (d + 7) 0 0 11031 0 0 0 (qent (qml 11031) [.ref 0, .int s, .int f, .int t]) [] (K, I, L, R, sz) Q := by
  unfold fChanges at hq
  have w5 := cI.w5
  refine e11031 (p := p) hK hR cI (fun _ _ _ J hJ => hJ.2.1) (fun _ _ _ _ _ => w5) (fun h1 h2 h3 => ?_) (fun h1 h2 h3 J hJ => ?_) (fun h1 h2 => ?_) (fun h1 => ?_)
  · obtain ⟨a, b, ab, b10, rfl, rfl⟩ := qSpan_n h2
    obtain ⟨s, hs, rfl⟩ := h1
    have h0 := l11031 (p := p) (d := d) (Q := Q) (L := L) (x2 := nI a) (pv := -1) (a := a) (b := b) hK hR b10 hs (LEn I p) (b - a) a I rfl (Nat.le_refl _) ab cI (fun _ => rfl) (fun J hJ => by
      have := hq J hJ
      rw [if_pos ⟨⟨s, hs, rfl⟩, h2⟩, nI_c (by omega), nI_c (by omega), chP, if_pos h3] at this
      exact this)
    rw [Nat.sub_self] at h0
    exact h0
  · obtain ⟨a, b, ab, b10, rfl, rfl⟩ := qSpan_n h2
    obtain ⟨s, hs, rfl⟩ := h1
    have g := hJ.af cI
    have h0 := l11031 (p := p) (d := d) (Q := Q) (L := L) (x2 := nI a) (pv := chP (LEn I p) p (nI s) (nI a)) (a := a) (b := b) hK hR b10 hs (LEn I p) (b - a) a J rfl (Nat.le_refl _) ab g.2 (g.le cI) (fun J2 hJ2 => by
      have := hq J2 (g.trans hJ2)
      rw [if_pos ⟨⟨s, hs, rfl⟩, h2⟩, nI_c (by omega), nI_c (by omega)] at this
      exact this)
    rw [Nat.sub_self] at h0
    rw [hJ.hd cI hs]
    unfold chP at h0
    rw [if_neg h3] at h0
    exact h0
  · have := hq I (qAf.refl cI)
    rw [if_neg (fun q => h2 q.2)] at this
    exact this
  · have := hq I (qAf.refl cI)
    rw [if_neg (fun q => h1 q.1)] at this
    exact this
theorem l12099 {x2 pv : Int32} {a b s : Nat} {LE : Int32 → Nat → Int32} (hK : qLay K sz) (hR : qRef R) (hb10 : b ≤ 1000) (hs : s < pS p) : ∀ (k t : Nat) (I : Nat → Nat → Int32), t + k = b + 1 → a ≤ t → CI I p → RI I p → qJudR I (pH p) (pN p) → (∀ u, LEn I p u = LE u) → (∀ J, qAf I p J → Q (some (.int (nI (chS (chH LE p (nI s)) a pv (b + 1 - a)).1))) (K, J, L, R, sz)) → X (d + 2) 0 0 12099 0 0 49 [some (.ref 73), some (.int (nI s)), some (.int x2), some (.int (nI b)), some (.int (chS (chH LE p (nI s)) a pv (t - a)).2), some (.int (nI (chS (chH LE p (nI s)) a pv (t - a)).1)), some (.int (nI t))] [] (K, I, L, R, sz) Q := by
  intro k
  induction k with
  | zero =>
    intro t I ht hat cI rI hc hLE hq
    have : t = b + 1 := by omega
    subst this
    have hlt : nI b < nI (b + 1) := nI_lt (by omega) (by omega)
    exact g12099_49 (p := p) hK hR cI rI (fun h => absurd hlt h) (fun h => absurd hlt h) (fun h => absurd hlt h) (fun h => absurd hlt h) (fun h => absurd hlt h) (fun _ => hq I (qAf.refl cI)) (fun h => absurd hlt h) (fun h => absurd hlt h)
  | succ k ih =>
    intro t I ht hat cI rI hc hLE hq
    have w5 := cI.w5
    have hnl : ¬ nI b < nI t := nI_nlt (by omega) (by omega)
    have hvl : ∀ J : Nat → Nat → Int32, qLs I p (nI t) J → qVal (J 89) (pS p) := fun J hJ => qVal_cong hJ.2.2.1 (LEn_val cI _)
    have ehd : ∀ J : Nat → Nat → Int32, qLs I p (nI t) J → hd (J 89) (pS p) (nI s) = chH LE p (nI s) t := fun J hJ => by rw [chH, ← hLE]; exact hd_cong (LEn_val cI _) hs w5 hJ.2.2.1
    have hn : ∀ (J : Nat → Nat → Int32), qLs I p (nI t) J → X (d + 2) 0 0 12099 0 0 49 [some (.ref 73), some (.int (nI s)), some (.int x2), some (.int (nI b)), some (.int (chS (chH LE p (nI s)) a pv (t + 1 - a)).2), some (.int (nI (chS (chH LE p (nI s)) a pv (t + 1 - a)).1)), some (.int (nI t + 1))] [] (K, J, L, R, sz) Q := fun J hJ => by
      rw [nI_1]
      exact ih (t + 1) J (by omega) (by omega) hJ.1.2 (RI_fr hJ.1.1 rI) hJ.2.1 (fun u => by rw [hJ.1.le cI]; exact hLE u) (fun J3 h3 => hq J3 (hJ.1.trans h3))
    refine g12099_49 (p := p) hK hR cI rI (fun _ => hc) (fun _ J hJ => (RI_fr hJ.1.1 rI).mS hJ.1.2) (fun _ _ _ => w5) (fun _ J hJ => hvl J hJ) (fun _ _ _ => ⟨s, hs, rfl⟩) (fun h => absurd h hnl) (fun _ J hJ h1 => ?_) (fun _ J hJ h1 => ?_)
    · rw [ehd J hJ] at h1 ⊢
      have := hn J hJ
      rw [show t + 1 - a = t - a + 1 from by omega, chS, show a + (t - a) = t from by omega, if_pos h1, ← h1] at this
      rw [Int32.add_zero]
      exact this
    · rw [ehd J hJ] at h1 ⊢
      have := hn J hJ
      rw [show t + 1 - a = t - a + 1 from by omega, chS, show a + (t - a) = t from by omega, if_neg h1] at this
      rw [nI_1 (chS _ _ _ _).1]
      exact this
theorem s12099 {s f t : Int32} (hK : qLay K sz) (hR : qRef R) (cI : CI I p) (rI : RI I p) (hq : ∀ J, qAf I p J → Q (some (.int (fChanges (LEn I p) p s f t))) (K, J, L, R, sz)) : X (d + 7) 0 0 12099 0 0 0 (qent (qml 12099) [.ref 73, .int s, .int f, .int t]) [] (K, I, L, R, sz) Q := by
  unfold fChanges at hq
  have w5 := cI.w5
  have hvl : ∀ (I J : Nat → Nat → Int32) (u : Int32), CI I p → qLs I p u J → qVal (J 89) (pS p) := fun I J u c hJ => qVal_cong hJ.2.2.1 (LEn_val c _)
  have hmS : ∀ (J J2 : Nat → Nat → Int32) (u : Int32), qCa I p J → qLs J p u J2 → J2 73 24 = nI (pS p) := fun J J2 u h1 h2 => (RI_fr h2.1.1 (RI_fr h1.1.1 rI)).mS h2.1.2
  refine e12099 (p := p) hK hR cI rI (fun h1 h2 J hJ h3 => ?_) (fun h1 h2 J hJ h3 => ?_) (fun h1 h2 => ?_) (fun h1 => ?_)
  · obtain ⟨a, b, ab, b10, rfl, rfl⟩ := qSpan_n h2
    obtain ⟨s, hs, rfl⟩ := h1
    have g := hJ.1
    have h0 := l12099 (p := p) (d := d + 5) (Q := Q) (L := L) (x2 := nI a) (pv := -1) (a := a) (b := b) (LE := LEn I p) hK hR b10 hs (b + 1 - a) a J (by omega) (Nat.le_refl _) g.2 (RI_fr g.1 rI) hJ.2 (g.le cI) (fun J2 hJ2 => by
      have := hq J2 (g.trans hJ2)
      rw [if_pos ⟨⟨s, hs, rfl⟩, h2⟩, nI_c (by omega), nI_c (by omega), chP, if_pos h3] at this
      exact this)
    rw [Nat.sub_self] at h0
    exact h0
  · obtain ⟨a, b, ab, b10, rfl, rfl⟩ := qSpan_n h2
    obtain ⟨s, hs, rfl⟩ := h1
    refine x_cV1 (MCz := 0) (MSz := 0) k12099_33 v12_336_11 (hK.at rfl) (Nat.le_of_ble_eq_true rfl) (Nat.le_of_ble_eq_true rfl) (Nat.le_refl _) (Nat.le_refl _) ?_
    refine u12058 (p := p) hK hR hJ.1.2 (RI_fr hJ.1.1 rI) hJ.2 (fun J2 hJ2 => ?_)
    have g := hJ.1.trans hJ2.1
    refine g12099_36 (p := p) (d := d + 5) hK hR (hmS J J2 _ hJ hJ2) w5 (hvl J J2 _ hJ.1.2 hJ2) ⟨s, hs, rfl⟩ ?_
    have h0 := l12099 (p := p) (d := d + 5) (Q := Q) (L := L) (x2 := nI a) (pv := chP (LEn I p) p (nI s) (nI a)) (a := a) (b := b) (LE := LEn I p) hK hR b10 hs (b + 1 - a) a J2 (by omega) (Nat.le_refl _) g.2 (RI_fr g.1 rI) hJ2.2.1 (g.le cI) (fun J3 hJ3 => by
      have := hq J3 (g.trans hJ3)
      rw [if_pos ⟨⟨s, hs, rfl⟩, h2⟩, nI_c (by omega), nI_c (by omega)] at this
      exact this)
    rw [Nat.sub_self] at h0
    have e : hd (J2 89) (pS p) (nI s) = hd (LEn I p (nI a - 1)) (pS p) (nI s) := by
      rw [← hJ.1.le cI]
      exact hd_cong (LEn_val hJ.1.2 _) hs w5 hJ2.2.2.1
    rw [e]
    unfold chP at h0
    rw [if_neg h3] at h0
    exact h0
  · have := hq I (qAf.refl cI)
    rw [if_neg (fun q => h2 q.2)] at this
    exact this
  · have := hq I (qAf.refl cI)
    rw [if_neg (fun q => h1 q.1)] at this
    exact this
end L62
