/-! spans: the class's minutes counted -/
theorem nxt_at {t b : Nat} {r : Int32} (ht : t < b) (hb : b ≤ 1000) (hr : (t : Int) < r.toInt) : ∃ u, t < u ∧ u ≤ b ∧ (if nI t + 1 < (if r < nI b then r else nI b) then (if r < nI b then r else nI b) else nI t + 1) = nI u ∧ (u = t + 1 ∨ (u : Int) ≤ r.toInt) := by
  rw [nI_1]
  by_cases h1 : r < nI b
  · rw [if_pos h1]
    have h1' := h1
    rw [i_lt, nI_i (by omega)] at h1'
    by_cases h2 : nI (t + 1) < r
    · rw [if_pos h2]
      refine ⟨r.toInt.toNat, by omega, by omega, ?_, Or.inr (by omega)⟩
      rw [i_eq, nI_i (by omega)]
      omega
    · rw [if_neg h2]
      exact ⟨t + 1, by omega, by omega, rfl, Or.inl rfl⟩
  · rw [if_neg h1]
    rw [i_lt, nI_i (by omega)] at h1
    by_cases h2 : nI (t + 1) < nI b
    · rw [if_pos h2]
      exact ⟨b, ht, Nat.le_refl _, rfl, Or.inr (by omega)⟩
    · rw [if_neg h2]
      exact ⟨t + 1, by omega, by omega, rfl, Or.inl rfl⟩
section L52
variable {d : Nat} {K : qK} {I : Nat → Nat → Int32} {L : Nat → Nat → Int64} {R : Nat → Nat → Option Nat} {sz : Nat} {Q : Option Value → qMem → Prop} {p : qPa}
theorem LEn_stay {t u : Nat} {r : Int32} (cI : CI I p) (hx : qNx (I 54) (nI t) (I 0 7) (pN p) r) (h1 : t ≤ u) (h2 : (u : Int) < r.toInt) (h3 : u ≤ 1000) : LEn I p (nI u) = LEn I p (nI t) := by
  unfold LEn
  obtain ⟨l, l1, l2⟩ := cI.2.2.2.2.2
  refine qLn_stay (pN p) hx ?_ ?_ ?_ ?_ ?_ ?_ ?_
  · rw [nI_i (by omega), nI_i (by omega)]; omega
  · rw [nI_i (by omega)]; exact h2
  · rw [l2, nI_i (by omega)]; omega
  · intro j hj
    obtain ⟨m, m1, m2⟩ := (cI.2.1.2.2.1 j hj).2.2
    rw [m2, nI_i (by omega)]; omega
  · rw [l2, nI_i (by omega)]; omega
  · rw [nI_i (by omega)]; omega
  · rw [nI_i (by omega)]; omega
theorem sc72 : ∀ k, scQ 72 k := by
  intro k q
  unfold kpQ at q
  omega
/-- the inner loop: each servant's minutes -/
theorem l11046c {x1 x2 x3 x4 x6 : Int32} {t u : Nat} {f : Nat → Nat} (hK : qLay K sz) (hR : qRef R) (hx4 : x4 = nI t) (htu : t ≤ u) (hb : ∀ s, s < pS p → ((x6 >>> (nI s &&& 31)) &&& 1) = 1 ∨ ((x6 >>> (nI s &&& 31)) &&& 1) = 0) : ∀ (k i : Nat) (I : Nat → Nat → Int32), i + k = pS p → I 22 1 = nI (pS p) → pS p ≤ 5 → (∀ J, qFr (fun j _ => j = 72) I J → (∀ s, s < i → J 72 s = I 72 s) → (∀ s, i ≤ s → s < pS p → J 72 s = I 72 s + ((x6 >>> (nI s &&& 31)) &&& 1) * nI (u - t)) → X d 0 0 11046 0 0 26 [some (.ref 0), some (.int x1), some (.int x2), some (.int x3), some (.int (nI u)), none, none, none] [] (K, J, L, R, sz) Q) → X d 0 0 11046 0 0 77 [some (.ref 0), some (.int x1), some (.int x2), some (.int x3), some (.int x4), some (.int (nI u)), some (.int x6), some (.int (nI i))] [] (K, I, L, R, sz) Q := by
  intro k
  induction k with
  | zero =>
    intro i I hi lS w5 hq
    have hle : I 22 1 ≤ nI i := by rw [lS]; exact nI_le (by omega) (by omega)
    exact g11046_77 hK hR (fun h => absurd hle h) (fun _ => hq I qFr.refl (fun _ _ => rfl) (fun s h1 h2 => by omega)) (fun h => absurd hle h)
  | succ k ih =>
    intro i I hi lS w5 hq
    have hnl : ¬ I 22 1 ≤ nI i := by rw [lS]; exact nI_ge (by omega) (by omega)
    have hci : (nI i).toNatClampNeg = i := nI_c (by omega)
    refine g11046_77 hK hR (fun _ => vI (by omega) (by omega)) (fun h => absurd h hnl) (fun _ => ?_)
    rw [nI_1, hci, hx4, show nI u - nI t = nI (u - t) from by rw [pk_sub htu], ← hx4]
    refine ih (i + 1) _ (by omega) lS w5 (fun J hJ h1 h2 => ?_)
    refine hq J ((qFr.up (P := fun j _ => j = 72) (fun _ => rfl)).trans hJ) (fun s hs => ?_) (fun s hs1 hs2 => ?_)
    · rw [h1 s (by omega), vu_s, upd, if_neg (by omega)]
    · by_cases hsi : s = i
      · subst hsi
        rw [h1 s (by omega), vu_s, upd, if_pos rfl]
      · rw [h2 s (by omega) hs2, vu_s, upd, if_neg (by omega)]
end L52
