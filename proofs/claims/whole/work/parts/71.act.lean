/-! acts: undo, see, count, end, set -/
section L71
variable {d : Nat} {K : qK} {I J H : Nat → Nat → Int32} {L : Nat → Nat → Int64} {R : Nat → Nat → Option Nat} {sz : Nat} {Q : Option Value → qMem → Prop} {p : qPa}
theorem iNV_thank {a b c : Int32} (h : iNV I p) (ok : tkOk p (I 54) a b c) (g : tkC I p a b c J) (g2 : apR J (pN p) 1 (fun _ => a) (fun _ => b) (fun _ => c) H) : iNV H (pNn p (pN p + 1)) := by
  obtain ⟨f1, f2, f3, f4, f5⟩ := g
  obtain ⟨k1, k2, k3, k4, k5⟩ := g2
  have hc := h.1
  have r := h.2.1
  have n40 := hc.2.1.2.1
  obtain ⟨j0, j1, j2, -⟩ := hc.2.2.1
  have hlt := ok.2.2.2.2
  have e1 : ∀ j, 52 ≤ j → j ≤ 54 → H j = J j := fun j q1 q2 => k1.row (fun k q => by omega)
  have e2 : ∀ j, 86 ≤ j → j ≤ 88 → J j = I j := fun j q1 q2 => f1.row (fun k q => by omega)
  refine iNV_tk (n := pN p + 1) (j0 := j0) (j := j0) h (fun j k q => ?_) ⟨by omega, ?_, ?_⟩ (by rw [k1 51 5 (by omega)]; exact f2) (by rw [k1 51 6 (by omega), f1 51 6 (by omega)]; exact j2) j2 j1 (Nat.le_refl _) (by omega) ((e1 52 (by omega) (by omega)).trans f3) ((e1 53 (by omega) (by omega)).trans f4) ((e1 54 (by omega) (by omega)).trans f5) k2 (by rw [k3, e2 86 (by omega) (by omega), r.2.2.1.2.1]) (by rw [k4, e2 87 (by omega) (by omega), r.2.2.1.2.2.1]) (by rw [k5, e2 88 (by omega) (by omega), r.2.2.1.2.2.2]) (fun i hi => ?_)
  · rw [k1 j k (by omega), f1 j k (by omega)]
  · intro i hi
    rw [dyW, dyW, dyW]
    by_cases hin : pN p ≤ i ∧ i < pN p + 1
    · rw [if_pos hin, if_pos hin, if_pos hin]
      refine ⟨?_, ok.2.1, ?_⟩
      · rcases ok.1 with q | q
        · obtain ⟨m, m1, m2⟩ := q; exact Or.inl ⟨m, m1, m2⟩
        · obtain ⟨s, s1, s2⟩ := q.1
          refine Or.inr ⟨s, s1, ?_⟩
          rw [a10_b.mp s2, q_10p]
      · have h0 := ok.2.2.1
        have h9 := ok.2.2.2.1
        rw [i_le] at h0 h9
        have e9 : (999 : Int32).toInt = 999 := rfl
        have e0 : (0 : Int32).toInt = 0 := rfl
        have hp : 0 ≤ c.toInt := by
          by_cases hz : pN p = 0
          · rw [if_pos hz] at h0; omega
          · rw [if_neg hz] at h0
            obtain ⟨m, m1, m2⟩ := (hc.2.1.2.2.1 (pN p - 1) (by omega)).2.2
            rw [m2, nI_i (by omega)] at h0; omega
        exact ⟨c.toInt.toNat, by omega, by rw [i_eq, nI_i (by omega)]; omega⟩
    · rw [if_neg hin, if_neg hin, if_neg hin]
      exact hc.2.1.2.2.1 i (by omega)
  · intro i j hij hj
    rw [dyW, dyW]
    by_cases hjn : pN p ≤ j ∧ j < pN p + 1
    · rw [if_pos hjn]
      by_cases hin : pN p ≤ i ∧ i < pN p + 1
      · rw [if_pos hin]; rw [i_lt]; omega
      · rw [if_neg hin]
        have h0 := ok.2.2.1
        rw [if_neg (by omega), i_le] at h0
        have := hc.2.1.2.2.2 i (pN p - 1) (by omega) (by omega)
        rw [i_lt] at this ⊢
        omega
    · rw [if_neg hjn, if_neg (by omega)]
      exact hc.2.1.2.2.2 i j hij (by omega)
  · rw [dyW, dyW, dyW, if_neg (by omega), if_neg (by omega), if_neg (by omega)]
    exact ⟨rfl, rfl, rfl⟩
theorem s11011 (hK : qLay K sz) (hR : qRef R) (cI : CI I p) (h0 : pN p = 0 → Q (some (.int (-1))) (K, I, L, R, sz)) (h1 : ¬ pN p = 0 → ∀ J, unC I p J → Q (some (.int (nI (pN p - 1)))) (K, J, L, R, sz)) : X (d + 2) 0 0 11011 0 0 0 (qent (qml 11011) [.ref 0]) [] (K, I, L, R, sz) Q := by
  have e := cI.2.1.1
  have n40 := cI.2.1.2.1
  refine z11011 (p := p) hK hR cI (fun h2 h3 => ?_) (fun _ h3 J hJ => by rw [hJ.2.1]; exact h1 h3 J hJ) (fun h2 => h0 ?_)
  · rw [e, h3] at h2; exact absurd h2 (by decide)
  · by_cases hz : pN p = 0
    · exact hz
    · exact absurd (show (0 : Int32) < I 51 5 by rw [e]; exact nI_lt (a := 0) (by omega) (by omega)) h2
theorem s12056 (hK : qLay K sz) (h33 : I 73 33 = nI (pN p)) (n40 : pN p ≤ 40) (h0 : pN p = 0 → Q (some (.int (-1))) (K, I, L, R, sz)) (h1 : ¬ pN p = 0 → Q (some (.int (nI (pN p - 1)))) (K, va_up I 73 (upd (I 73) 33 (nI (pN p - 1))), L, R, sz)) : X d 0 0 12056 0 0 0 (qent (qml 12056) [.ref 73]) [] (K, I, L, R, sz) Q := by
  have hz : I 73 33 = 0 ↔ pN p = 0 := by rw [h33]; exact nI_eq (b := 0) (by omega) (by omega)
  refine t12056 hK (fun h => ?_) (fun h => h0 (hz.mp h))
  have hn0 : ¬ pN p = 0 := fun q => h (hz.mpr q)
  have hm1 : I 73 33 - 1 = nI (pN p - 1) := by rw [h33, show pN p = (pN p - 1) + 1 from by omega, nI_pred]; rfl
  rw [hm1]
  exact h1 hn0
theorem iNV_undo (h : iNV I p) (hn : ¬ pN p = 0) (g : unC I p J) : iNV (va_up J 73 (upd (J 73) 33 (nI (pN p - 1)))) (pNn p (pN p - 1)) := by
  obtain ⟨f1, f2, f3⟩ := g
  have hc := h.1
  have r := h.2.1
  have n40 := hc.2.1.2.1
  obtain ⟨j0, j1, j2, -⟩ := hc.2.2.1
  have e1 : ∀ j, j ≠ 51 → j ≠ 73 → va_up J 73 (upd (J 73) 33 (nI (pN p - 1))) j = I j := fun j q1 q2 => by rw [vu_n q2]; exact f1.row (fun k q => by omega)
  refine iNV_tk (n := pN p - 1) (j0 := j0) (j := min (pN p - 1) j0) h ?_ ⟨by omega, fun i hi => hc.2.1.2.2.1 i (by omega), fun i j hij hj => hc.2.1.2.2.2 i j hij (by omega)⟩ ?_ ?_ j2 j1 (by omega) (by omega) (e1 52 (by omega) (by omega)) (e1 53 (by omega) (by omega)) (e1 54 (by omega) (by omega)) ?_ ((e1 86 (by omega) (by omega)).trans r.2.2.1.2.1) ((e1 87 (by omega) (by omega)).trans r.2.2.1.2.2.1) ((e1 88 (by omega) (by omega)).trans r.2.2.1.2.2.2) (fun i hi => ⟨rfl, rfl, rfl⟩)
  · intro j k q
    by_cases hj : j = 73
    · subst hj
      rw [vu_s, upd, if_neg (by omega), f1 73 k (by omega)]
    · rw [vu_n hj, f1 j k (by omega)]
  · rw [vu_n (by decide)]; exact f2
  · rw [vu_n (by decide), f3, j2]
    by_cases hlt : nI (pN p - 1) < nI j0
    · rw [if_pos hlt]
      have := (nI_ltI (by omega) (by omega)).mp hlt
      rw [Nat.min_eq_left (by omega)]
    · rw [if_neg hlt]
      have : ¬ pN p - 1 < j0 := fun q => hlt (nI_lt q (by omega))
      rw [Nat.min_eq_right (by omega)]
  · rw [vu_s, upd, if_pos rfl]
/-- whether a sight is taken -/
def seOk (p : qPa) (a b : Int32) : Prop := qIn (pS p) a ∧ qSee (pM p) b
theorem s11025 {a b : Int32} (hK : qLay K sz) (hR : qRef R) (cI : CI I p) (ht : seOk p a b → Q (some (.int 1)) (K, va_up I 58 (upd (I 58) a.toNatClampNeg b), L, R, sz)) (hf : ¬ seOk p a b → Q (some (.int 0)) (K, I, L, R, sz)) : X (d + 1) 0 0 11025 0 0 0 (qent (qml 11025) [.ref 0, .int a, .int b]) [] (K, I, L, R, sz) Q := by
  have hv : qIn (pS p) a → vp_in a 5 := fun h => qIn_vp h cI.w5 (by omega)
  refine e11025 (p := p) hK hR cI (fun h _ => hv h) (fun h _ _ => hv h) (fun h _ _ _ => hv h) (fun h1 h2 => ht ⟨h1, Or.inl h2⟩) (fun h1 h2 h3 => ht ⟨h1, Or.inr (Or.inl h3)⟩) (fun h1 h2 h3 h4 => ht ⟨h1, Or.inr (Or.inr h4)⟩) (fun h1 h2 h3 h4 => hf (fun q => ?_)) (fun h1 => hf (fun q => h1 q.1))
  rcases q.2 with q2 | q2 | q2
  · exact h2 q2
  · exact h3 q2
  · exact h4 q2
theorem s12091 {a b : Int32} (hK : qLay K sz) (hR : qRef R) (cI : CI I p) (rI : RI I p) (ht : seOk p a b → Q (some (.int 1)) (K, va_up I 100 (upd (I 100) a.toNatClampNeg b), L, R, sz)) (hf : ¬ seOk p a b → Q (some (.int 0)) (K, I, L, R, sz)) : X (d + 2) 0 0 12091 0 0 0 (qent (qml 12091) [.ref 73, .int a, .int b]) [] (K, I, L, R, sz) Q := by
  have hv : qIn (pS p) a → vp_in a 5 := fun h => qIn_vp h cI.w5 (by omega)
  refine e12091 (p := p) hK hR cI rI (fun h _ => hv h) (fun h _ _ => hv h) (fun h _ _ _ => hv h) (fun h1 h2 => ht ⟨h1, Or.inr (Or.inr h2)⟩) (fun h1 h2 h3 => ht ⟨h1, Or.inr (Or.inl h3)⟩) (fun h1 h2 h3 h4 => ht ⟨h1, Or.inl h4⟩) (fun h1 h2 h3 h4 => hf (fun q => ?_)) (fun h1 => hf (fun q => h1 q.1))
  rcases q.2 with q2 | q2 | q2
  · exact h4 q2
  · exact h3 q2
  · exact h2 q2
theorem iNV_see1 {a b : Int32} (h : iNV I p) (ok : seOk p a b) : CI (va_up I 58 (upd (I 58) a.toNatClampNeg b)) p ∧ RI (va_up I 58 (upd (I 58) a.toNatClampNeg b)) p := by
  have hc : ∀ j k, kpC j k → va_up I 58 (upd (I 58) a.toNatClampNeg b) j k = I j k := fun j k q => by rw [vu_n (by unfold kpC at q; omega)]
  exact ⟨CI_cr hc h.1, RI_cr hc h.2.1⟩
theorem iNV_see {a b : Int32} (h : iNV I p) (ok : seOk p a b) : iNV (va_up (va_up I 58 (upd (I 58) a.toNatClampNeg b)) 100 (upd (va_up I 58 (upd (I 58) a.toNatClampNeg b) 100) a.toNatClampNeg b)) p := by
  refine iNV_sn h ?_ ?_
  · exact (qFr.up (P := kpS) (fun _ => Or.inl rfl)).trans (qFr.up (P := kpS) (fun _ => Or.inr rfl))
  · intro s hs
    have h0 := h.2.2.2.2.1 s hs
    rw [vu_s, vu_n (j := 58) (by decide), vu_s, vu_n (by decide), upd, upd]
    by_cases hsa : s = a.toNatClampNeg
    · rw [if_pos hsa, if_pos hsa]; exact ⟨rfl, ok.2⟩
    · rw [if_neg hsa, if_neg hsa]; exact h0
def fCount (I : Nat → Nat → Int32) (a : Int32) : Int32 := if a = 0 then I 22 0 else if a = 1 then I 22 1 else if a = 2 then I 22 2 else if a = 3 then I 22 3 else if a = 4 then I 0 5 else if a = 5 then I 1 1 else if a = 6 then I 51 5 else if a = 7 then I 0 6 else if a = 8 then I 0 7 else if a = 9 then I 0 8 else -1000000
theorem s11037 {a : Int32} (hK : qLay K sz) (hR : qRef R) (hq : Q (some (.int (fCount I a))) (K, I, L, R, sz)) : X d 0 0 11037 0 0 0 (qent (qml 11037) [.ref 0, .int a]) [] (K, I, L, R, sz) Q := by
  unfold fCount at hq
  refine t11037 hK hR ?_ ?_ ?_ ?_ ?_ ?_ ?_ ?_ ?_ ?_ ?_ <;> intros <;> simp_all
theorem s12105 {a : Int32} (hK : qLay K sz) (h : iNV I p) (hq : Q (some (.int (fCount I a))) (K, I, L, R, sz)) : X d 0 0 12105 0 0 0 (qent (qml 12105) [.ref 73, .int a]) [] (K, I, L, R, sz) Q := by
  unfold fCount at hq
  obtain ⟨c, r, ⟨n, n1, n2, n3, n4⟩, -⟩ := h
  obtain ⟨⟨a1, a2, a3, a4⟩, -, ⟨c1, -⟩, -, ⟨e1, e2, e3, e4⟩, -⟩ := r
  rw [← a1, ← a2, ← a3, ← a4, ← e4, n2, ← n3, ← c1, ← e2, ← e1, ← e3] at hq
  refine t12105 hK ?_ ?_ ?_ ?_ ?_ ?_ ?_ ?_ ?_ ?_ ?_ <;> intros <;> simp_all
end L71
