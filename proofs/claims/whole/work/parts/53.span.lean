/-! spans: the class's minutes counted, the outer loop -/
section L53
variable {d : Nat} {K : qK} {I : Nat → Nat → Int32} {L : Nat → Nat → Int64} {R : Nat → Nat → Option Nat} {sz : Nat} {Q : Option Value → qMem → Prop} {p : qPa}
theorem bit_01 (a b : Int32) : ((a >>> (b &&& 31)) &&& 1) = 1 ∨ ((a >>> (b &&& 31)) &&& 1) = 0 := by
  obtain ⟨j, h1, h2⟩ := pk_andE (a >>> (b &&& 31)) (m := 1) 1 (by decide)
  have : j = 0 ∨ j = 1 := by omega
  rcases this with h | h <;> subst h
  · right; exact h2
  · left; exact h2
theorem l11046b {x1 x2 : Int32} {a b : Nat} (hK : qLay K sz) (hR : qRef R) (hb : b ≤ 1000) (LE : Int32 → Nat → Int32) : ∀ (k t : Nat) (I : Nat → Nat → Int32), b - t = k → a ≤ t → t ≤ b → CI I p → (∀ u, LEn I p u = LE u) → (∀ s, s < pS p → I 72 s = nI (cnM LE (pS p) x1 s a (t - a))) → (∀ J, qAf I p J → (∀ s, s < pS p → J 72 s = nI (cnM LE (pS p) x1 s a (b - a))) → Q none (K, J, L, R, sz)) → X (d + 7) 0 0 11046 0 0 26 [some (.ref 0), some (.int x1), some (.int x2), some (.int (nI b)), some (.int (nI t)), none, none, none] [] (K, I, L, R, sz) Q := by
  intro k
  induction k using Nat.strongRecOn with
  | _ k ih =>
    intro t I hk hat htb cI hLE h72 hq
    by_cases hle : nI b ≤ nI t
    · have : t = b := by have := (nI_leI (a := b) (b := t) (by omega) (by omega)).mp hle; omega
      subst this
      exact g11046_26 (p := p) hK hR cI (fun h => absurd hle h) (fun h => absurd hle h) (fun h => absurd hle h) (fun h => absurd hle h) (fun h => absurd hle h) (fun _ => hq I (qAf.refl cI) h72) (fun h => absurd hle h)
    · have htb' : t < b := by
        have : ¬ b ≤ t := fun q => hle (nI_le q (by omega))
        omega
      have w5 := cI.w5
      refine g11046_26 (p := p) hK hR cI (fun _ J hJ => (hJ.af cI).2.2.1.1) (fun _ J hJ => cI.2.1.2.1) (fun _ J hJ => by rw [nI_i (by omega)]; omega) (fun _ J hJ _ _ => hJ.2.1) (fun _ _ _ _ _ => w5) (fun h => absurd h hle) (fun _ J hJ r hr => ?_)
      have g := hJ.af cI
      have hr0 : (t : Int) < r.toInt := by
        have := hr.1
        rw [nI_i (by omega)] at this
        exact this
      obtain ⟨u, hu1, hu2, hu3, hu4⟩ := nxt_at htb' hb hr0
      rw [hu3, hJ.hb cI]
      have cJ := g.2
      have hLJ : ∀ u, LEn J p u = LE u := fun v => by rw [g.le cI]; exact hLE v
      have hstay : ∀ v, t ≤ v → v < u → LE (nI v) = LE (nI t) := by
        intro v hv1 hv2
        rcases hu4 with h | h
        · rw [show v = t from by omega]
        · rw [← hLJ, ← hLJ]
          exact LEn_stay cJ hr hv1 (by omega) (by omega)
      refine l11046c (p := p) (d := d + 7) (t := t) (u := u) (f := fun _ => 0) hK hR rfl (by omega) (fun s hs => bit_01 _ _) (pS p) 0 J (by omega) (cJ.lS) w5 (fun J2 hJ2 _ h2 => ?_)
      have g2 : qAf J p J2 := (qAf.refl cJ).up (hJ2.mono (fun j k e => by rw [e]; exact sc72 k)) (hJ2.row (by omega)) (hJ2.row (by omega))
      refine ih (b - u) (by omega) u J2 rfl (by omega) hu2 g2.2 (fun v => by rw [g2.le cJ]; exact hLJ v) (fun s hs => ?_) (fun J3 h3 h4 => hq J3 ((g.trans g2).trans h3) h4)
      have e72 : J 72 s = I 72 s := hJ.1 _ _ (scV_no (by omega) _)
      rw [h2 s (by omega) hs, e72, h72 s hs, hb_bit w5 hs, hLE]
      have ec : cnM LE (pS p) x1 s a (u - a) = cnM LE (pS p) x1 s a (t - a) + (if hd (LE (nI t)) (pS p) (nI s) = x1 then u - t else 0) := by
        have h5 := cnM_add (LE := LE) (n := pS p) (m := x1) (s := s) (a := a) (k := t - a) (u - t)
        rw [show t - a + (u - t) = u - a from by omega, show a + (t - a) = t from by omega] at h5
        rw [h5, cnM_const (u - t) (fun j hj => by rw [hstay (t + j) (by omega) (by omega)])]
      rw [ec]
      by_cases hh : hd (LE (nI t)) (pS p) (nI s) = x1
      · rw [if_pos hh, if_pos hh, Int32.one_mul, nI_add]
      · rw [if_neg hh, if_neg hh, Int32.zero_mul, Int32.add_zero, Nat.add_zero]
end L53
