/-! the class reads a law -/
section L36w
variable {d : Nat} {K : qK} {I : Nat → Nat → Int32} {L : Nat → Nat → Int64} {R : Nat → Nat → Option Nat} {sz : Nat} {Q : Option Value → qMem → Prop} {b : Nat → Int32} {n : Nat}
/-- the condition's end and the clause's: what guarded puts -/
def gGdE (b : Nat → Int32) (n : Nat) : qPr := fun k => qMp (fun c : List Int32 => c ++ [-59]) (gGd b n k)
theorem w4004 (hK : qLay K sz) (hR : qRef R) (hA : CSp (d + 3) 4011 [.ref 20, .int 0] K L R sz b n (gSum b n (gAtom b n 6))) : CSp (d + 4) 4004 [.ref 20] K L R sz b n (gGdE b n) := by
  intro I Q ⟨k, s, S, sk⟩ ht hf
  have hb := S.tb
  have n0 := S.n160
  have n1 := @nx_ge b n k
  have o2 : ∀ I1 I3, cOk b n (gPs b n 63) I I1 → cEm b n I1 (-63) I3 → b (nx b n k) = 63 ∧ nx b n k < n ∧ cO b n I s (nx b n k + 1) [-63] I3 := fun I1 I3 h1 h3 => by
    obtain ⟨k1, c1, e1, o1⟩ := h1.at S
    obtain ⟨g1, rfl, rfl⟩ := gPs_ok e1
    exact ⟨g1, hb.lt (by rw [g1]; decide), o1.tr0 (h3.at o1.st0)⟩
  have eg : ∀ k5 c5, b (nx b n k) = 63 → gSum b n (gAtom b n 6) (nx b n k + 1) = (k5, some c5) → gGd b n k = (k5, some ([-63] ++ c5)) := fun k5 c5 g1 e5 => by
    unfold gGd
    rw [if_pos g1, qBd_S e5]
  refine e4004 (hA := hA) (hK := hK) (hR := hR) (b1 := ⟨S.p1, by decide⟩) (b2 := fun I1 h1 => ?_) (b3 := fun I1 h1 I3 h3 => ?_) (b4 := fun I1 h1 I3 h3 I5 h5 => ?_) (q1 := fun I1 h1 I3 h3 I5 h5 I7 h7 => ?_) (q2 := fun I1 h1 I3 h3 I5 h5 => ?_) (q3 := fun I1 h1 => ?_)
  · obtain ⟨k1, c1, e1, o1⟩ := h1.at S
    obtain ⟨g1, rfl, rfl⟩ := gPs_ok e1
    have hl := hb.lt (k := nx b n k) (by rw [g1]; decide)
    exact ⟨_, s, o1.st0, by omega⟩
  · obtain ⟨g1, hl, o3⟩ := o2 I1 I3 h1 h3
    exact ⟨_, _, o3.st, by simp only [List.length_singleton]; omega⟩
  · obtain ⟨g1, hl, o3⟩ := o2 I1 I3 h1 h3
    obtain ⟨k5, c5, e5, o5⟩ := h5.at o3.st
    have w := (gGd_W hb k S.kn).1 _ _ (eg k5 c5 g1 e5)
    have w2 : k + ([-63] ++ c5).length ≤ k5 := w.2.2
    have w3 : k5 ≤ n := w.2.1
    exact ⟨k5, _, (o3.tr o5).st, by omega⟩
  · obtain ⟨g1, hl, o3⟩ := o2 I1 I3 h1 h3
    obtain ⟨k5, c5, e5, o5⟩ := h5.at o3.st
    have o7 := h7.at (o3.tr o5).st
    exact ht I7 ⟨k, s, k5, ([-63] ++ c5) ++ [-59], S, show qMp _ (gGd b n k) = _ from qMp_S (eg k5 c5 g1 e5), (o3.tr o5).tr o7⟩
  · obtain ⟨g1, hl, o3⟩ := o2 I1 I3 h1 h3
    obtain ⟨k5, e5, o5⟩ := h5.at o3.st
    refine hf I5 ⟨k, s, k5, S, ?_, o3.trF o5⟩
    show qMp _ (gGd b n k) = _
    refine qMp_N ?_
    unfold gGd
    rw [if_pos g1, qBd_N e5]
  · obtain ⟨k1, e1, o1⟩ := h1.at S
    obtain ⟨g1, rfl⟩ := gPs_no e1
    refine hf I1 ⟨k, s, _, S, ?_, o1⟩
    show qMp _ (gGd b n k) = _
    refine qMp_N ?_
    unfold gGd
    rw [if_neg g1]
theorem w4002b (hK : qLay K sz) (hR : qRef R) (hD : CSp (d + 3) 4005 [.ref 20, .int 0] K L R sz b n (gCond b n (gUnit b n 6))) (hA : CSp (d + 3) 4011 [.ref 20, .int 0] K L R sz b n (gSum b n (gAtom b n 6))) (hB : CSp (d + 3) 4010 [.ref 20, .int 0] K L R sz b n (gCmp b n 6)) (hM : CSp (d + 3) 4008 [.ref 20, .int 0] K L R sz b n (gLp b n cAnd (gUnit b n 6) 160)) (hN : CSp (d + 3) 4006 [.ref 20, .int 0] K L R sz b n (gLp b n cOr (gTruth b n (gUnit b n 6)) 160)) (hG : CSp (d + 3) 4004 [.ref 20] K L R sz b n (gGdE b n)) {k s : Nat} (S : cS b n I k s) (sk : s ≤ k) (hok : ∀ J k' c, gBody b n k = (k', some c) → cO b n I s k' (cuC c) J → Q (some (.int 1)) (K, J, L, R, sz)) (hno : ∀ J k', gBody b n k = (k', none) → cF I k' J → Q (some (.int 0)) (K, J, L, R, sz)) : X (d + 4) 0 0 4002 0 0 20 [some (.ref 20), none] [] (K, I, L, R, sz) Q := by
  have hb := S.tb
  have hv := cV_at S
  have n0 := S.n160
  have n1 := @nx_ge b n k
  have n2 := nx_le hb S.kn
  have eC : ∀ c t : List Int32, cuC (some c, t) = c ++ (([-63] ++ t) ++ [-59]) := fun c t => by simp [cuC]
  have S1 : ∀ I1, cOk b n (gNx b n) I I1 → cO b n I s (nx b n k) [] I1 := fun I1 h => cNx S h
  have hc : (cV b n I = 33 ∨ cV b n I = 40) → gBody b n k = qBd (gCond b n (gUnit b n 6) (nx b n k)) (gGuard b n) := fun h => by unfold gBody; rw [if_pos (by rw [← hv]; exact h)]
  have hd : ¬ cV b n I = 33 → ¬ cV b n I = 40 → gBody b n k = qBd (gSum b n (gAtom b n 6) (nx b n k)) (fun k1 s => if cCmp (b (nx b n k1)) = true then qBd (gMore b n (nx b n k1)) (fun k2 c => gGuard b n k2 (s ++ c)) else (nx b n k1, some (none, s))) := fun h1 h2 => by
    unfold gBody; rw [if_neg (by rw [← hv]; exact fun q => by rcases q with q | q; exact h1 q; exact h2 q)]
  have lD : ∀ k' c, gCond b n (gUnit b n 6) (nx b n k) = (k', some c) → s + c.length ≤ k' ∧ k' ≤ n := fun k' c e => by
    have := (gCond_W hb (gUnit_W hb 6) _ n2).1 _ _ e; omega
  have lA : ∀ k' c, gSum b n (gAtom b n 6) (nx b n k) = (k', some c) → s + c.length ≤ k' ∧ k' ≤ n := fun k' c e => by
    have := (gS_W hb 6 _ n2).1 _ _ e; omega
  -- behind the condition
  have cond : (cV b n I = 33 ∨ cV b n I = 40) → ∀ I1, cOk b n (gNx b n) I I1 → cIn b n I1 ∧ (∀ I4, cOk b n (gCond b n (gUnit b n 6)) I1 I4 → cIn b n I4 ∧ (∀ I6, cOk b n (gGdE b n) I4 I6 → Q (some (.int 1)) (K, I6, L, R, sz)) ∧ (∀ I8, cNot b n (gGdE b n) I4 I8 → Q (some (.int 0)) (K, I8, L, R, sz))) ∧ (∀ I4, cNot b n (gCond b n (gUnit b n 6)) I1 I4 → Q (some (.int 0)) (K, I4, L, R, sz)) := fun h I1 h1 => by
    have o1 := S1 I1 h1
    refine ⟨⟨_, s, o1.st0, by omega⟩, fun I4 h4 => ?_, fun I4 h4 => ?_⟩
    · obtain ⟨k4, c4, e4, o4⟩ := h4.at o1.st0
      obtain ⟨l1, l2⟩ := lD _ _ e4
      refine ⟨⟨k4, _, o4.st, l1⟩, fun I6 h6 => ?_, fun I6 h6 => ?_⟩
      · obtain ⟨k6, c6, e6, o6⟩ := h6.at o4.st
        obtain ⟨c7, e7, rfl⟩ := qMp_some e6
        obtain ⟨t, rfl, g6⟩ := gGd_ok e7
        exact hok I6 k6 (some c4, t) (by rw [hc h, qBd_S e4]; exact g6 c4) (by rw [eC]; exact o1.tr0 (o4.tr o6))
      · obtain ⟨k6, e6, o6⟩ := h6.at o4.st
        exact hno I6 k6 (by rw [hc h, qBd_S e4]; exact gGd_no (qMp_none e6) c4) (o1.trF (o4.trF o6))
    · obtain ⟨k4, e4, o4⟩ := h4.at o1.st0
      exact hno I4 k4 (by rw [hc h, qBd_N e4]) (o1.trF o4)
  have h15 : ∀ I1 I13 I15, cOk b n (gNx b n) I I1 → cOk b n (gSum b n (gAtom b n 6)) I1 I13 → cOk b n (gNx b n) I13 I15 → ∃ k1 c1, gSum b n (gAtom b n 6) (nx b n k) = (k1, some c1) ∧ s + c1.length ≤ k1 ∧ k1 ≤ n ∧ cV b n I13 = b (nx b n k1) ∧ cO b n I s (nx b n k1) c1 I15 := fun I1 I13 I15 h1 h2 h3 => by
    obtain ⟨k1, c1, e1, o1⟩ := h2.at (S1 I1 h1).st0
    obtain ⟨l1, l2⟩ := lA _ _ e1
    exact ⟨k1, c1, e1, l1, l2, cV_at o1.st, (S1 I1 h1).tr0 (o1.t0 (cNx o1.st h3))⟩
  have h18 : ∀ I1 I13 I15 I18, cOk b n (gNx b n) I I1 → cOk b n (gSum b n (gAtom b n 6)) I1 I13 → cOk b n (gNx b n) I13 I15 → cCmp (cV b n I13) = true → cOk b n (gCmp b n 6) I15 I18 → ∃ k1 c1 k2 c2, gSum b n (gAtom b n 6) (nx b n k) = (k1, some c1) ∧ cCmp (b (nx b n k1)) = true ∧ gCmp b n 6 (nx b n k1) = (k2, some c2) ∧ s + (c1 ++ c2).length ≤ k2 ∧ k2 ≤ n ∧ cO b n I s k2 (c1 ++ c2) I18 := fun I1 I13 I15 I18 h1 h2 h3 hx h4 => by
    obtain ⟨k1, c1, e1, l1, l2, ev, o⟩ := h15 I1 I13 I15 h1 h2 h3
    obtain ⟨k2, c2, e2, o2⟩ := h4.at o.st
    have n3 := @nx_ge b n k1
    have := (gCmp_W hb 6 _ (nx_le hb l2)).1 _ _ e2
    exact ⟨k1, c1, k2, c2, e1, by rw [← ev]; exact hx, e2, by rw [List.length_append]; omega, this.2.1, o.tr o2⟩
  have h20 : ∀ I1 I13 I15 I18 I20, cOk b n (gNx b n) I I1 → cOk b n (gSum b n (gAtom b n 6)) I1 I13 → cOk b n (gNx b n) I13 I15 → cCmp (cV b n I13) = true → cOk b n (gCmp b n 6) I15 I18 → cOk b n (gLp b n cAnd (gUnit b n 6) 160) I18 I20 → ∃ k1 c1 k2 c2 k3 c3, gSum b n (gAtom b n 6) (nx b n k) = (k1, some c1) ∧ cCmp (b (nx b n k1)) = true ∧ gCmp b n 6 (nx b n k1) = (k2, some c2) ∧ gLp b n cAnd (gUnit b n 6) 160 k2 = (k3, some c3) ∧ s + (c1 ++ c2 ++ c3).length ≤ k3 ∧ k3 ≤ n ∧ cO b n I s k3 (c1 ++ c2 ++ c3) I20 := fun I1 I13 I15 I18 I20 h1 h2 h3 hx h4 h5 => by
    obtain ⟨k1, c1, k2, c2, e1, ex, e2, l1, l2, o⟩ := h18 I1 I13 I15 I18 h1 h2 h3 hx h4
    obtain ⟨k3, c3, e3, o3⟩ := h5.at o.st
    have := (gLp_W hb cAnd_n (gUnit_W hb 6) 160 _ l2).1 _ _ e3
    exact ⟨k1, c1, k2, c2, k3, c3, e1, ex, e2, e3, by rw [List.length_append]; omega, this.2.1, o.tr o3⟩
  have h22 : ∀ I1 I13 I15 I18 I20 I22, cOk b n (gNx b n) I I1 → cOk b n (gSum b n (gAtom b n 6)) I1 I13 → cOk b n (gNx b n) I13 I15 → cCmp (cV b n I13) = true → cOk b n (gCmp b n 6) I15 I18 → cOk b n (gLp b n cAnd (gUnit b n 6) 160) I18 I20 → cOk b n (gLp b n cOr (gTruth b n (gUnit b n 6)) 160) I20 I22 → ∃ k1 c1 k4 c, gSum b n (gAtom b n 6) (nx b n k) = (k1, some c1) ∧ cCmp (b (nx b n k1)) = true ∧ gMore b n (nx b n k1) = (k4, some c) ∧ s + (c1 ++ c).length ≤ k4 ∧ k4 ≤ n ∧ cO b n I s k4 (c1 ++ c) I22 := fun I1 I13 I15 I18 I20 I22 h1 h2 h3 hx h4 h5 h6 => by
    obtain ⟨k1, c1, k2, c2, k3, c3, e1, ex, e2, e3, l1, l2, o⟩ := h20 I1 I13 I15 I18 I20 h1 h2 h3 hx h4 h5
    obtain ⟨k4, c4, e4, o4⟩ := h6.at o.st
    have := (gLp_W hb cOr_n (gTruth_W hb (gUnit_W hb 6)) 160 _ l2).1 _ _ e4
    have ea : c1 ++ (c2 ++ (c3 ++ c4)) = c1 ++ c2 ++ c3 ++ c4 := by simp only [List.append_assoc]
    refine ⟨k1, c1, k4, c2 ++ (c3 ++ c4), e1, ex, ?_, by rw [ea, List.length_append]; omega, this.2.1, by rw [ea]; exact o.tr o4⟩
    show gSq (gCmp b n 6) (gSq (gLp b n cAnd (gUnit b n 6) 160) (gLp b n cOr (gTruth b n (gUnit b n 6)) 160)) (nx b n k1) = _
    unfold gSq
    rw [qBd_S e2, qBd_S e3, qBd_S e4]; rfl
  refine g4002_20 (hD := hD) (hA := hA) (hB := hB) (hM := hM) (hN := hN) (hG := hG) (hK := hK) (hR := hR) (b1 := S.p1)
    (b2 := fun I1 h1 hx => (cond (Or.inl hx) I1 h1).1) (b3 := fun I1 h1 hx I4 h4 => ((cond (Or.inl hx) I1 h1).2.1 I4 h4).1)
    (b4 := fun I1 h1 _ _ => ⟨_, s, (S1 I1 h1).st0, by omega⟩) (b5 := fun I1 h1 _ _ I13 h2 => ?_) (b6 := fun I1 h1 _ _ I13 h2 I15 h3 hx => ?_) (b7 := fun I1 h1 _ _ I13 h2 I15 h3 hx I18 h4 => ?_) (b8 := fun I1 h1 _ _ I13 h2 I15 h3 hx I18 h4 I20 h5 => ?_) (b9 := fun I1 h1 _ _ I13 h2 I15 h3 hx I18 h4 I20 h5 I22 h6 => ?_)
    (b10 := fun I1 h1 _ _ I13 h2 I15 h3 _ => ?_) (b11 := fun I1 h1 _ hx => (cond (Or.inr hx) I1 h1).1) (b12 := fun I1 h1 _ hx I4 h4 => ((cond (Or.inr hx) I1 h1).2.1 I4 h4).1)
    (q1 := fun I1 h1 hx I4 h4 I6 h6 => ((cond (Or.inl hx) I1 h1).2.1 I4 h4).2.1 I6 h6) (q2 := fun I1 h1 hx I4 h4 I6 h6 => ((cond (Or.inl hx) I1 h1).2.1 I4 h4).2.2 I6 h6) (q3 := fun I1 h1 hx I4 h4 => (cond (Or.inl hx) I1 h1).2.2 I4 h4)
    (q4 := fun I1 h1 hy hz I13 h2 I15 h3 hx I18 h4 I20 h5 I22 h6 I24 h7 => ?_) (q5 := fun I1 h1 hy hz I13 h2 I15 h3 hx I18 h4 I20 h5 I22 h6 I24 h7 => ?_) (q6 := fun I1 h1 hy hz I13 h2 I15 h3 hx I18 h4 I20 h5 I22 h6 => ?_) (q7 := fun I1 h1 hy hz I13 h2 I15 h3 hx I18 h4 I20 h5 => ?_) (q8 := fun I1 h1 hy hz I13 h2 I15 h3 hx I18 h4 => ?_) (q9 := fun I1 h1 hy hz I13 h2 I15 h3 hx I35 h35 => ?_) (q10 := fun I1 h1 hy hz I13 h2 => ?_)
    (q11 := fun I1 h1 _ hx I4 h4 I6 h6 => ((cond (Or.inr hx) I1 h1).2.1 I4 h4).2.1 I6 h6) (q12 := fun I1 h1 _ hx I4 h4 I6 h6 => ((cond (Or.inr hx) I1 h1).2.1 I4 h4).2.2 I6 h6) (q13 := fun I1 h1 _ hx I4 h4 => (cond (Or.inr hx) I1 h1).2.2 I4 h4)
  · obtain ⟨k1, c1, e1, o1⟩ := h2.at (S1 I1 h1).st0
    exact o1.st.p1
  · obtain ⟨k1, c1, e1, l1, l2, ev, o⟩ := h15 I1 I13 I15 h1 h2 h3
    have n3 := @nx_ge b n k1
    exact ⟨_, _, o.st, by omega⟩
  · obtain ⟨k1, c1, k2, c2, e1, ex, e2, l1, l2, o⟩ := h18 I1 I13 I15 I18 h1 h2 h3 hx h4
    exact ⟨_, _, o.st, l1⟩
  · obtain ⟨k1, c1, k2, c2, k3, c3, e1, ex, e2, e3, l1, l2, o⟩ := h20 I1 I13 I15 I18 I20 h1 h2 h3 hx h4 h5
    exact ⟨_, _, o.st, l1⟩
  · obtain ⟨k1, c1, k4, c, e1, ex, e4, l1, l2, o⟩ := h22 I1 I13 I15 I18 I20 I22 h1 h2 h3 hx h4 h5 h6
    exact ⟨_, _, o.st, l1⟩
  · obtain ⟨k1, c1, e1, l1, l2, ev, o⟩ := h15 I1 I13 I15 h1 h2 h3
    exact ⟨_, _, o.st, by omega⟩
  · obtain ⟨k1, c1, k4, c, e1, ex, e4, l1, l2, o⟩ := h22 I1 I13 I15 I18 I20 I22 h1 h2 h3 hx h4 h5 h6
    obtain ⟨k6, c6, e6, o6⟩ := h7.at o.st
    obtain ⟨c7, e7, rfl⟩ := qMp_some e6
    obtain ⟨t, rfl, g6⟩ := gGd_ok e7
    refine hok I24 k6 (some (c1 ++ c), t) ?_ (by rw [eC]; exact o.tr o6)
    rw [hd hy hz, qBd_S e1, if_pos ex, qBd_S e4]; exact g6 _
  · obtain ⟨k1, c1, k4, c, e1, ex, e4, l1, l2, o⟩ := h22 I1 I13 I15 I18 I20 I22 h1 h2 h3 hx h4 h5 h6
    obtain ⟨k6, e6, o6⟩ := h7.at o.st
    refine hno I24 k6 ?_ (o.trF o6)
    rw [hd hy hz, qBd_S e1, if_pos ex, qBd_S e4]; exact gGd_no (qMp_none e6) _
  · obtain ⟨k1, c1, k2, c2, k3, c3, e1, ex, e2, e3, l1, l2, o⟩ := h20 I1 I13 I15 I18 I20 h1 h2 h3 hx h4 h5
    obtain ⟨k4, e4, o4⟩ := h6.at o.st
    refine hno I22 k4 ?_ (o.trF o4)
    rw [hd hy hz, qBd_S e1, if_pos ex, qBd_N]
    show gSq (gCmp b n 6) (gSq (gLp b n cAnd (gUnit b n 6) 160) (gLp b n cOr (gTruth b n (gUnit b n 6)) 160)) (nx b n k1) = _
    unfold gSq
    rw [qBd_S e2, qBd_S e3, qBd_N e4]; rfl
  · obtain ⟨k1, c1, k2, c2, e1, ex, e2, l1, l2, o⟩ := h18 I1 I13 I15 I18 h1 h2 h3 hx h4
    obtain ⟨k4, e4, o4⟩ := h5.at o.st
    refine hno I20 k4 ?_ (o.trF o4)
    rw [hd hy hz, qBd_S e1, if_pos ex, qBd_N]
    show gSq (gCmp b n 6) (gSq (gLp b n cAnd (gUnit b n 6) 160) (gLp b n cOr (gTruth b n (gUnit b n 6)) 160)) (nx b n k1) = _
    unfold gSq
    rw [qBd_S e2, qBd_N e4]; rfl
  · obtain ⟨k1, c1, e1, l1, l2, ev, o⟩ := h15 I1 I13 I15 h1 h2 h3
    obtain ⟨k4, e4, o4⟩ := h4.at o.st
    refine hno I18 k4 ?_ (o.trF o4)
    rw [hd hy hz, qBd_S e1, if_pos (by rw [← ev]; exact hx), qBd_N]
    show gSq (gCmp b n 6) (gSq (gLp b n cAnd (gUnit b n 6) 160) (gLp b n cOr (gTruth b n (gUnit b n 6)) 160)) (nx b n k1) = _
    unfold gSq
    rw [qBd_N e4]
  · obtain ⟨k1, c1, e1, l1, l2, ev, o⟩ := h15 I1 I13 I15 h1 h2 h3
    have o7 := h35.at o.st
    refine hok I35 (nx b n k1) (none, c1) ?_ (show cO b n _ s _ ([] ++ (c1 ++ [-59])) _ from o.tr o7)
    rw [hd hy hz, qBd_S e1, if_neg (by rw [← ev]; exact hx)]
  · obtain ⟨k1, e1, o1⟩ := h2.at (S1 I1 h1).st0
    refine hno I13 k1 ?_ ((S1 I1 h1).trF o1)
    rw [hd hy hz, qBd_N e1]
theorem w4002 (hK : qLay K sz) (hR : qRef R) (hD : CSp (d + 3) 4005 [.ref 20, .int 0] K L R sz b n (gCond b n (gUnit b n 6))) (hA : CSp (d + 3) 4011 [.ref 20, .int 0] K L R sz b n (gSum b n (gAtom b n 6))) (hB : CSp (d + 3) 4010 [.ref 20, .int 0] K L R sz b n (gCmp b n 6)) (hM : CSp (d + 3) 4008 [.ref 20, .int 0] K L R sz b n (gLp b n cAnd (gUnit b n 6) 160)) (hN : CSp (d + 3) 4006 [.ref 20, .int 0] K L R sz b n (gLp b n cOr (gTruth b n (gUnit b n 6)) 160)) (hG : CSp (d + 3) 4004 [.ref 20] K L R sz b n (gGdE b n)) : CSp (d + 4) 4002 [.ref 20] K L R sz b n (gClC b n) := by
  intro I Q ⟨k, s, S, sk⟩ ht hf
  have hb := S.tb
  have n0 := S.n160
  have n1 := @nx_ge b n k
  have hok : ∀ J k' c, gCl b n k = (k', some c) → cO b n I s k' (cuC c) J → Q (some (.int 1)) (K, J, L, R, sz) := fun J k' c e o => ht J ⟨k, s, k', _, S, by unfold gClC; rw [qMp_S e], o⟩
  have hno : ∀ J k', gCl b n k = (k', none) → cF I k' J → Q (some (.int 0)) (K, J, L, R, sz) := fun J k' e o => hf J ⟨k, s, k', S, by unfold gClC; rw [qMp_N e], o⟩
  have s1 : ∀ I1, cOk b n (gPs b n 121) I I1 → b (nx b n k) = 121 ∧ nx b n k < n ∧ cO b n I s (nx b n k + 1) [] I1 := fun I1 h1 => by
    obtain ⟨k1, c1, e1, o1⟩ := h1.at S
    obtain ⟨g1, rfl, rfl⟩ := gPs_ok e1
    exact ⟨g1, hb.lt (by rw [g1]; decide), o1⟩
  have n3 := @nx_ge b n (nx b n k + 1)
  have s3 : ∀ I1 I3, cOk b n (gPs b n 121) I I1 → cOk b n (gPs b n 58) I1 I3 → gCl b n k = gBody b n (nx b n (nx b n k + 1) + 1) ∧ nx b n (nx b n k + 1) < n ∧ cO b n I s (nx b n (nx b n k + 1) + 1) [] I3 := fun I1 I3 h1 h3 => by
    obtain ⟨g1, l1, o1⟩ := s1 I1 h1
    obtain ⟨k3, c3, e3, o3⟩ := h3.at o1.st0
    obtain ⟨g3, rfl, rfl⟩ := gPs_ok e3
    exact ⟨by unfold gCl; rw [if_pos g1, if_pos g3], hb.lt (by rw [g3]; decide), o1.tr0 o3⟩
  refine e4002 (hK := hK) (hR := hR) (b1 := ⟨S.p1, by decide⟩) (b2 := fun I1 h1 => ⟨(s1 I1 h1).2.2.st0.p1, by decide⟩) (q1 := fun I1 h1 I3 h3 => ?_) (q2 := fun I1 h1 I3 h3 => ?_) (q3 := fun I1 h1 => ?_)
  · obtain ⟨e, l, o⟩ := s3 I1 I3 h1 h3
    exact w4002b hK hR hD hA hB hM hN hG o.st0 (by omega) (fun J k' c g o7 => hok J k' c (by rw [e]; exact g) (o.tr0 o7)) (fun J k' g o7 => hno J k' (by rw [e]; exact g) (o.trF o7))
  · obtain ⟨g1, l1, o1⟩ := s1 I1 h1
    obtain ⟨k3, e3, o3⟩ := h3.at o1.st0
    obtain ⟨g3, rfl⟩ := gPs_no e3
    exact hno I3 _ (by unfold gCl; rw [if_pos g1, if_neg g3]) (o1.trF o3)
  · obtain ⟨k1, e1, o1⟩ := h1.at S
    obtain ⟨g1, rfl⟩ := gPs_no e1
    exact hno I1 _ (by unfold gCl; rw [if_neg g1]) o1
theorem cClause (hK : qLay K sz) (hR : qRef R) (hb : qTb b n) (d : Nat) : CSp (d + 46) 4002 [.ref 20] K L R sz b n (gClC b n) := by
  have hU : ∀ d, CSp (d + 38) 4009 [.ref 20, .int 0] K L R sz b n (gUnit b n 6) := fun d => CSp_c (by omega) (cUnit hK hR hb 6 (by omega) d)
  have hS : ∀ d, CSp (d + 24) 4011 [.ref 20, .int 0] K L R sz b n (gSum b n (gAtom b n 6)) := fun d => CSp_c (by omega) (cSum hK hR hb 6 (by omega) d)
  have hC : ∀ d, CSp (d + 25) 4010 [.ref 20, .int 0] K L R sz b n (gCmp b n 6) := fun d => CSp_c (by omega) (cCmpr hK hR hb 6 (by omega) d)
  have hD := cCond (m := 38) hK hR hb hU (d + 38) (by omega)
  have hM : CSp (d + 45) 4008 [.ref 20, .int 0] K L R sz b n (gLp b n cAnd (gUnit b n 6) 160) := w4008 (d := d + 41) hK hR (CSp_c (by omega) (hU (d + 6))) (gUnit_W hb 6)
  have hT : CSp (d + 44) 4007 [.ref 20, .int 0] K L R sz b n (gTruth b n (gUnit b n 6)) := cTruth (d := d + 39) hK hR hb (CSp_c (by omega) (hU (d + 4))) (CSp_c (by omega) (hU (d + 5)))
  have hN : CSp (d + 45) 4006 [.ref 20, .int 0] K L R sz b n (gLp b n cOr (gTruth b n (gUnit b n 6)) 160) := w4006 (d := d + 41) hK hR hT (gTruth_W hb (gUnit_W hb 6))
  have hG : CSp (d + 45) 4004 [.ref 20] K L R sz b n (gGdE b n) := w4004 (d := d + 41) hK hR (CSp_c (by omega) (hS (d + 20)))
  exact w4002 (d := d + 42) hK hR (CSp_c (by omega) hD) (CSp_c (by omega) (hS (d + 21))) (CSp_c (by omega) (hC (d + 20))) hM hN hG
/-- a law read from the tape's beginning -/
def cLO (b : Nat → Int32) (n : Nat) (I : Nat → Nat → Int32) (k : Nat) (cs : List qUc) (J : Nat → Nat → Int32) : Prop := cO b n I 0 k (cuCs cs) J
theorem l4001 (hK : qLay K sz) (hR : qRef R) (hA : CSp (d + 3) 4002 [.ref 20] K L R sz b n (gClC b n)) : ∀ (f : Nat) (I : Nat → Nat → Int32) (k s i : Nat), i + f = 160 → n < k + 2 * f → cS b n I k s → s ≤ k → (∀ J k' cs, qBd (gCls b n f k) (fun k2 cs => if b (nx b n k2) = -1 then (nx b n k2, some cs) else (nx b n k2, none)) = (k', some cs) → cO b n I s k' (cuCs cs) J → Q (some (.int 1)) (K, J, L, R, sz)) → (∀ J k', qBd (gCls b n f k) (fun k2 cs => if b (nx b n k2) = -1 then ((nx b n k2, some cs) : qRs (List qUc)) else (nx b n k2, none)) = (k', none) → cF I k' J → Q (some (.int 0)) (K, J, L, R, sz)) → X (d + 4) 0 0 4001 0 0 21 [some (.ref 20), some (.int (nI i))] [] (K, I, L, R, sz) Q := by
  intro f
  induction f with
  | zero => intro I k s i hi hk S; have := S.kn; omega
  | succ f ih =>
    intro I k s i hi hk S sk hok hno
    have hb := S.tb
    have n0 := S.n160
    have hv := cV_at S
    have n1 := @nx_ge b n k
    have n2 := nx_le hb S.kn
    have hi' : ¬ (160 : Int32) ≤ nI i := nI_ge (b := 160) (by omega) (by omega)
    have hend : ∀ I2, cOk b n (gNx b n) I I2 → ¬ cV b n I = 59 → ∃ o2 : cO b n I s (nx b n k) [] I2, cV b n I2 = b (nx b n k) ∧ qBd (gCls b n (f + 1) k) (fun k2 cs => if b (nx b n k2) = -1 then ((nx b n k2, some cs) : qRs (List qUc)) else (nx b n k2, none)) = (if b (nx b n k) = -1 then (nx b n k, some []) else (nx b n k, none)) := fun I2 h2 hx => by
      have o2 := cNx S h2
      refine ⟨o2, by rw [cV_at o2.st0, nx_nx hb S.kn], ?_⟩
      rw [gCls, if_neg (by rw [← hv]; exact hx)]
      simp only [qBd]
      rw [nx_nx hb S.kn]
    have s3 : ∀ I2 I3, cOk b n (gNx b n) I I2 → cV b n I = 59 → I3 = va_up I2 20 (upd (I2 20) 1 ((I2 20 1) + 1)) → nx b n k < n ∧ cO b n I s (nx b n k + 1) [] I3 ∧ gCls b n (f + 1) k = qBd (gCl b n (nx b n k + 1)) (fun k2 c => qBd (gCls b n f k2) (fun k3 cs => (k3, some (c :: cs)))) := fun I2 I3 h2 hx e3 => by
      have hl := hb.lt (k := nx b n k) (by rw [← hv, hx]; decide)
      exact ⟨hl, (cNx S h2).tr0 ((cNx S h2).st0.inc hl e3), by rw [gCls, if_pos (by rw [← hv]; exact hx)]⟩
    refine g4001_21 (hA := hA) (hK := hK) (hR := hR) (b1 := fun q => absurd q hi') (b2 := fun _ => S.p1) (b3 := fun _ I2 h2 hx => (hend I2 h2 hx).1.st0.p1) (b4 := fun _ I2 h2 hx I3 e3 => ?_) (q1 := fun q => absurd q hi') (q2 := fun q => absurd q hi') (q3 := fun _ I2 h2 hx I4 h4 hy => ?_) (q4 := fun _ I2 h2 hx I4 h4 hy => ?_) (q5 := fun _ I2 h2 hx I3 e3 I5 h5 => ?_) (q6 := fun _ I2 h2 hx I3 e3 I5 h5 => ?_)
    · obtain ⟨hl, o3, -⟩ := s3 I2 I3 h2 hx e3
      exact ⟨_, s, o3.st0, by omega⟩
    · obtain ⟨o2, ev, eg⟩ := hend I2 h2 hx
      have o4 := cNx o2.st0 h4
      rw [nx_nx hb S.kn] at o4
      refine hno I4 (nx b n k) ?_ (o2.tr0 o4).toF
      rw [eg, if_neg (by rw [← ev]; exact hy)]
    · obtain ⟨o2, ev, eg⟩ := hend I2 h2 hx
      have o4 := cNx o2.st0 h4
      rw [nx_nx hb S.kn] at o4
      refine hok I4 (nx b n k) [] ?_ (o2.tr0 o4)
      rw [eg, if_pos (by rw [← ev]; exact hy)]
    · obtain ⟨hl, o3, eg⟩ := s3 I2 I3 h2 hx e3
      obtain ⟨k5, c5, e5, o5⟩ := h5.at o3.st0
      obtain ⟨c, g5, rfl⟩ := qMp_some e5
      have w := (gCl_W hb _ (by omega)).1 _ _ g5
      have w2 : nx b n k + 1 + (cuC c).length ≤ k5 := w.2.2
      have w3 : k5 ≤ n := w.2.1
      have r5 := o3.tr0 o5
      rw [nI_1]
      refine ih I5 k5 (s + (cuC c).length) (i + 1) (by omega) (by omega) r5.st (by omega) (fun J k' cs g o => ?_) (fun J k' g o => ?_)
      · obtain ⟨k6, c6, e6, e7⟩ := qBd_some g
        split at e7
        · next q =>
          simp only [Prod.mk.injEq, Option.some.injEq] at e7
          refine hok J k' (c :: cs) ?_ (r5.tr o)
          rw [eg, qBd_S g5, qBd_S e6]
          simp only [qBd]
          rw [if_pos q, e7.1, e7.2]
        · simp at e7
      · refine hno J k' ?_ (r5.trF o)
        rw [eg, qBd_S g5]
        rcases qBd_none g with e6 | ⟨k6, c6, e6, e7⟩
        · rw [qBd_N e6]; rfl
        · split at e7
          · simp at e7
          · next q => rw [qBd_S e6]; simp only [qBd]; rw [if_neg q]; exact e7
    · obtain ⟨hl, o3, eg⟩ := s3 I2 I3 h2 hx e3
      obtain ⟨k5, e5, o5⟩ := h5.at o3.st0
      refine hno I5 k5 ?_ (o3.trF o5)
      rw [eg, qBd_N (qMp_none e5)]; rfl
theorem s4001 {k0 s0 : Nat} (hK : qLay K sz) (hR : qRef R) (hA : CSp (d + 3) 4002 [.ref 20] K L R sz b n (gClC b n)) (ht : qTp I n) (hb : ∀ j, tb I n j = b j) (hok : ∀ J k' cs, gLaw b n = (k', some cs) → cO b n (va_up I 20 (upd (upd (I 20) 1 0) 3 0)) 0 k' (cuCs cs) J → Q (some (.int 1)) (K, J, L, R, sz)) (hno : ∀ J k', gLaw b n = (k', none) → cF (va_up I 20 (upd (upd (I 20) 1 0) 3 0)) k' J → Q (some (.int 0)) (K, J, L, R, sz)) : X (d + 4) 0 0 4001 0 0 0 (qent (qml 4001) [.ref 20]) [] (K, I, L, R, sz) Q := by
  have hB := qTp_b ht hb
  obtain ⟨t1, t2⟩ := qTp_up (o := 20) (f := upd (upd (I 20) 1 0) 3 0) (by decide) (by decide) ht hb
  have S0 : cS b n (va_up I 20 (upd (upd (I 20) 1 0) 3 0)) 0 0 := ⟨t1, t2, by rw [vu_s]; rfl, by rw [vu_s]; rfl, by omega, by omega⟩
  have e3 : ∀ I1 I3 : Nat → Nat → Int32, I1 = va_up I 20 (upd (I 20) 1 0) → I3 = va_up I1 20 (upd (I1 20) 3 0) → I3 = va_up I 20 (upd (upd (I 20) 1 0) 3 0) := fun I1 I3 h1 h3 => by
    rw [h3, h1, vu_t, vu_s]
  refine e4001 (hA := hA) (hK := hK) (b1 := fun I1 h1 I3 h3 => ?_) (q1 := fun I1 h1 I3 h3 I5 h5 => ?_) (q2 := fun I1 h1 I3 h3 I5 h5 => ?_)
  · rw [e3 I1 I3 h1 h3]; exact ⟨0, 0, S0, Nat.le_refl _⟩
  · rw [e3 I1 I3 h1 h3] at h5
    obtain ⟨k5, c5, e5, o5⟩ := h5.at S0
    obtain ⟨c, g5, rfl⟩ := qMp_some e5
    have w := (gCl_W hB 0 (by omega)).1 _ _ g5
    have w2 : 0 + (cuC c).length ≤ k5 := w.2.2
    have w3 : k5 ≤ n := w.2.1
    have n160 := ht.2
    refine l4001 hK hR hA 160 I5 k5 (0 + (cuC c).length) 0 (by omega) (by omega) o5.st (by omega) (fun J k' cs g o => ?_) (fun J k' g o => ?_)
    · obtain ⟨k6, c6, e6, e7⟩ := qBd_some g
      split at e7
      · next q =>
        simp only [Prod.mk.injEq, Option.some.injEq] at e7
        refine hok J k' (c :: cs) ?_ (o5.tr o)
        unfold gLaw
        rw [qBd_S g5, qBd_S e6, if_pos q, e7.1, e7.2]
      · simp at e7
    · refine hno J k' ?_ (o5.trF o)
      unfold gLaw
      rw [qBd_S g5]
      rcases qBd_none g with e6 | ⟨k6, c6, e6, e7⟩
      · rw [qBd_N e6]
      · split at e7
        · simp at e7
        · next q => rw [qBd_S e6, if_neg q]; exact e7
  · rw [e3 I1 I3 h1 h3] at h5
    obtain ⟨k5, e5, o5⟩ := h5.at S0
    refine hno I5 k5 ?_ o5
    unfold gLaw
    rw [qBd_N (qMp_none e5)]

end L36w
