/-! the reference reads laws: sums, conditions -/
section L36z
variable {d : Nat} {K : qK} {I : Nat → Nat → Int32} {L : Nat → Nat → Int64} {R : Nat → Nat → Option Nat} {sz : Nat} {Q : Option Value → qMem → Prop} {b : Nat → Int32} {n : Nat} {t : Nat}
theorem rr12016 {s0 : Option qPr} {gS : qPr} {dp : Nat} (hK : qLay K sz) (hR : qRef R) (hS : dp < 6 → RSp (d + 3) 12018 K L R sz b n t (dp + 1) gS) (hs : (dp < 6 ∧ s0 = some gS) ∨ (dp = 6 ∧ s0 = none)) (wS : gL 1 n gS) : RSp (d + 4) 12016 K L R sz b n t dp (gAt1 b n s0) := by
  intro I Q ⟨k, c, S, sk⟩ ht hf
  have hb := S.tb
  have hv := rV_at S
  have n0 := S.n160
  have n1 := @nx_ge b n k
  have n2 := nx_le hb S.kn
  have hok : ∀ J k' cs, gAt1 b n s0 k = (k', some cs) → rO b n t I c dp k' cs J → Q none (K, J, L, R, sz) := fun J k' cs e o => ht J ⟨k, c, dp, k', cs, S, e, o⟩ o.st.w
  have hno : ∀ J k', gAt1 b n s0 k = (k', none) → rF t I k c k' J → Q none (K, J, L, R, sz) := fun J k' e o => hf J ⟨k, c, dp, k', S, e, o⟩ (rF_w o)
  have S1 : ∀ I1, rOk b n t (gNx b n) I I1 → rO b n t I c dp (nx b n k) [] I1 := fun I1 h => rNx S h
  have hd1 : qDig (rV b n I) → gAt1 b n s0 k = gNmb b n k := fun h => by unfold gAt1; rw [if_pos (by rw [← hv]; exact h)]
  have hnum : gNum b n 4 0 9999 (nx b n k) = gNum b n 4 0 9999 k := by unfold gNum; rw [nx_nx hb S.kn]
  have hlt : rV b n I = 91 → nx b n k < n := fun q => hb.lt (by rw [← hv, q]; decide)
  have hll : qltr (rV b n I) → nx b n k < n := fun q => hb.lt (by rw [← hv]; exact qltr_n q)
  have hg91 : ¬ qDig (rV b n I) → ¬ qltr (rV b n I) → rV b n I = 91 → dp < 6 → gAt1 b n s0 k = gTail b n 93 (gS (nx b n k + 1)) := fun h1 h2 h3 h4 => by
    rw [hv] at h1 h2 h3
    rcases hs with ⟨-, e⟩ | ⟨h, -⟩
    · unfold gAt1; rw [if_neg h1, if_neg h2, if_pos h3, e]
    · omega
  -- behind the bracket
  have s42 : ∀ I1 I39, rOk b n t (gNx b n) I I1 → rOp b n t I1 I39 → dp < 6 ∧ qFr (rFr t c) I I39 ∧ rS b n t I39 (nx b n k + 1) c (dp + 1) := fun I1 I39 h1 h2 => by
    obtain ⟨a1, a2, a3⟩ := h2.at (S1 I1 h1).st0
    exact ⟨a1, (S1 I1 h1).1.trans a2, a3⟩
  refine e12016 (gS := gS) (hS := hS) (hK := hK) (hR := hR) (b1 := S.p) (b2 := fun I1 h1 _ hd => ⟨_, c, dp, (S1 I1 h1).st0, by rw [← hv]; exact hd⟩)
    (b3 := fun I1 h1 _ hd I5 x h5 _ => ?_) (b4 := fun I1 h1 _ hd I12 x h12 _ => ?_) (b5 := fun I1 h1 _ hd x hl hx _ A hA y hy _ => ?_) (b6 := fun I1 h1 _ _ _ _ => (S1 I1 h1).st0.p) (b7 := fun I1 h1 _ hd hl hx => ⟨_, _, _, (S1 I1 h1).st0, hlt hx⟩) (b8 := fun I1 h1 _ hd hl hx I39 h39 _ => (s42 I1 I39 h1 h39).1) (b9 := fun I1 h1 _ hd hl hx I39 h39 _ => ⟨_, c, (s42 I1 I39 h1 h39).2.2, by omega⟩) (b10 := fun I1 h1 _ hd hl hx I39 h39 _ I42 h42 _ => ?_)
    (q1 := fun I1 h1 _ hd I5 x h5 _ I9 h9 _ => ?_) (q2 := fun I1 h1 _ hd I12 x h12 _ I16 h16 _ => ?_) (q3 := fun I1 h1 _ hd x hl hx _ A hA y hy _ I30 h30 _ => ?_) (q4 := fun I1 h1 _ hd hl hx I36 h36 _ => ?_)
    (q5 := fun I1 h1 _ hd hl hx I39 h39 _ I42 h42 _ I45 h45 _ => ?_) (q6 := fun I1 h1 _ hd hl hx I39 h39 _ I42 h42 _ I48 h48 _ => ?_) (q7 := fun I1 h1 _ hd hl hx I39 h39 _ I54 h54 _ I63 h63 _ => ?_) (q8 := fun I1 h1 _ hd hl hx I66 h66 _ => ?_)
  · obtain ⟨k', e, o⟩ := h5.at (S1 I1 h1).st0
    exact ⟨k', c, dp, o.st0, by omega⟩
  · obtain ⟨k', e, o⟩ := h12.at (S1 I1 h1).st0
    have hk' := (gNum_W hb 4 0 9999 _ n2).2 _ e
    exact rF_pf (S1 I1 h1).st0 (o.fr (k := nx b n k) qFr.refl (Nat.le_refl _) (by omega)) (by omega)
  · have o3 := (S1 I1 h1).st0.inc (hll hl) hA
    exact ⟨_, c, dp, o3.st0, by omega⟩
  · obtain ⟨a1, a2, a3⟩ := s42 I1 I39 h1 h39
    obtain ⟨k5, c5, e5, o5⟩ := h42.at a3
    exact ⟨⟨k5, _, dp, o5.st⟩, by decide⟩
  · obtain ⟨k', e, o⟩ := h5.at (S1 I1 h1).st0
    obtain ⟨u, rfl, hu⟩ : ∃ u, x = nI u ∧ u < 10000 := by
      have hsf : nx b n (nx b n k) = nx b n k := nx_nx hb S.kn
      rw [gNum4 hsf (by rw [← hv]; exact hd)] at e
      exact gDg_val 4 0 _ _ _ (by decide) e
    have hx0 : (0 : Int32) ≤ nI u := Int32.not_lt.mp (nI_pos (by omega))
    have o9 := rPu_ok (x := nI u) o.st0 (by omega) (by unfold rc rv; rw [if_pos hx0, if_pos hx0]; exact h9)
    refine hok I9 k' [nI u] ?_ ((S1 I1 h1).tr0 (o.tr0 o9))
    rw [hnum] at e
    rw [hd1 hd]; unfold gNmb
    rw [qBd_S e]
  · obtain ⟨k', e, o⟩ := h12.at (S1 I1 h1).st0
    refine hno I16 k' ?_ ?_
    · rw [hnum] at e
      rw [hd1 hd]; unfold gNmb
      rw [qBd_N e]
    · have hk' : nx b n k < k' := by
        rw [gNum4 (nx_nx hb S.kn) (by rw [← hv]; exact hd)] at e
        rw [gDg, if_pos (by rw [← hv]; exact hd)] at e
        have := (gDg_W hb 3 _ _ (by have := hb.lt (qDig_n (by rw [← hv]; exact hd : qDig (b (nx b n k)))); omega)).2 _ e
        omega
      exact rF_put o h16 (S1 I1 h1).1 (Nat.le_refl _) (by omega) sk
  · have o3 := (S1 I1 h1).st0.inc (hll hl) hA
    have e1 : rc (-(rV b n I)) = 1 := by
      rcases hl with h | h | h | h | h <;> rw [h] <;> decide
    have o5 := rPu_ok (x := -(rV b n I)) o3.st0 (by omega) (by rw [e1, ← hy]; exact h30)
    refine hok I30 _ _ ?_ ((S1 I1 h1).tr0 (o3.tr0 o5))
    unfold gAt1
    rw [if_neg (by rw [← hv]; exact hd), if_pos (by rw [← hv]; exact hl), hv]
  · refine hno I36 _ ?_ ((S1 I1 h1).trF (h36.at (S1 I1 h1).st0) (by simp only [List.length_nil]; omega))
    unfold gAt1
    rw [if_neg (by rw [← hv]; exact hd), if_neg (by rw [← hv]; exact hl), if_neg (by rw [← hv]; exact hx)]
  · obtain ⟨a1, a2, a3⟩ := s42 I1 I39 h1 h39
    obtain ⟨k5, c5, e5, o5⟩ := h42.at a3
    obtain ⟨x1, x2, x3⟩ := h45.at o5.st
    refine hok I45 (nx b n k5 + 1) c5 ?_ ⟨(a2.trans (o5.1)).trans (x2.mono (rFr_mono (by omega))), x3, fun j y e => ?_⟩
    · rw [hg91 hd hl hx a1, gTail, qBd_S e5, if_pos x1]
    · have := (List.getElem?_eq_some_iff.mp e).1
      rw [x2 75 _ (by unfold rFr; omega), x2 76 _ (by unfold rFr; omega)]
      exact o5.2.2 j y e
  · obtain ⟨a1, a2, a3⟩ := s42 I1 I39 h1 h39
    obtain ⟨k5, c5, e5, o5⟩ := h42.at a3
    obtain ⟨x1, x2⟩ := h48.at o5.st
    have w := (wS _ (by have := hlt hx; omega)).1 _ _ e5
    refine hno I48 (nx b n k5) ?_ (x2.fr (a2.trans o5.1) (by omega) (by omega))
    rw [hg91 hd hl hx a1, gTail, qBd_S e5, if_neg x1]
  · obtain ⟨a1, a2, a3⟩ := s42 I1 I39 h1 h39
    obtain ⟨k5, e5, o5⟩ := h54.at a3
    refine hno I63 k5 ?_ (rF_c3 (o5.fr a2 (Nat.le_refl _) (by omega)) h63)
    rw [hg91 hd hl hx a1, gTail, qBd_N e5]
  · obtain ⟨a1, a2⟩ := h66.at (S1 I1 h1).st0
    refine hno I66 _ ?_ (a2.fr (S1 I1 h1).1 (Nat.le_refl _) (by omega))
    rcases hs with ⟨h, -⟩ | ⟨-, e⟩
    · omega
    · unfold gAt1; rw [if_neg (by rw [← hv]; exact hd), if_neg (by rw [← hv]; exact hl), if_pos (by rw [← hv]; exact hx), e]

theorem rr12017 {gA : qPr} {dp : Nat} (hK : qLay K sz) (hR : qRef R) (hA : RSp (d + 3) 12016 K L R sz b n t dp gA) (wA : gL 1 n gA) : RSp (d + 4) 12017 K L R sz b n t dp (gSq gA (gLp b n cMul gA 160)) := by
  intro I Q ⟨k, c, S, sk⟩ ht hf
  have hb := S.tb
  have n0 := S.n160
  obtain ⟨w1, w2⟩ := wA k S.kn
  have out : ∀ (x : Int32) (J : Nat → Nat → Int32), ¬ cMul x = true → Q none (K, J, L, R, sz) → X (d + 4) 0 0 12017 0 0 21 [some (.ref 73), some (.int x)] [] (K, J, L, R, sz) Q := fun x J hx ho => by
    have hx' : ¬ (x = 42 ∨ x = 47) := fun q => hx (decide_eq_true q)
    exact g12017_21 (gA := gA) (hA := hA) (hK := hK) (hR := hR) (b1 := fun q => absurd (Or.inl q) hx') (b2 := fun q => absurd (Or.inl q) hx') (b3 := fun q => absurd (Or.inl q) hx') (b4 := fun q => absurd (Or.inl q) hx') (b5 := fun _ q => absurd (Or.inr q) hx') (b6 := fun _ q => absurd (Or.inr q) hx') (b7 := fun _ q => absurd (Or.inr q) hx') (b8 := fun _ q => absurd (Or.inr q) hx') (q1 := fun q => absurd (Or.inl q) hx') (q2 := fun q => absurd (Or.inl q) hx') (q3 := fun _ _ => ho) (q4 := fun _ q => absurd (Or.inr q) hx') (q5 := fun _ q => absurd (Or.inr q) hx')
  refine e12017 (gA := gA) (hA := hA) (hK := hK) (hR := hR) (b1 := ⟨k, c, S, sk⟩) (b2 := fun I1 h1 _ => ?_) (q1 := fun I1 h1 _ I4 h4 _ => ?_) (q2 := fun I1 h1 hw => ?_)
  · obtain ⟨k1, c1, e1, o1⟩ := h1.at S
    exact o1.st.p
  · obtain ⟨k1, c1, e1, o1⟩ := h1.at S
    obtain ⟨a1, a2, a3⟩ := w1 _ _ e1
    have n1 := @nx_ge b n k1
    have o3 := o1.t0 (rNx o1.st h4)
    have S3 := o3.st
    rw [rV_at o1.st]
    refine rLoop (dp := dp) (c0 := cMul) (el := gA) (G := fun x I => X (d + 4) 0 0 12017 0 0 21 [some (.ref 73), some (.int x)] [] (K, I, L, R, sz) Q) (ok := fun J => Q none (K, J, L, R, sz)) hb cMul_n wA out (fun x I hx H => ?_) 160 I4 (nx b n k1) (c + c1.length) (by omega) S3 (nx_nx hb a2) (by omega) (fun J k' cs g o => ?_) (fun J k' g o => ?_)
    · have hx' : x = 42 ∨ x = 47 := of_decide_eq_true hx
      have r1 : x = 42 → rc (-x) = 4 ∧ rv (-x) = 0 := fun q => by rw [q]; decide
      have r2 : x = 47 → rc (-x) = 5 ∧ rv (-x) = 0 := fun q => by rw [q]; decide
      refine g12017_21 (gA := gA) (hA := hA) (hK := hK) (hR := hR) (b1 := fun _ I3 e3 => (H I3 e3).1) (b2 := fun _ I3 e3 I5 h5 _ => ((H I3 e3).2.1 I5 h5).1) (b3 := fun q I3 e3 I5 h5 _ I7 h7 _ => (((H I3 e3).2.1 I5 h5).2 I7 (by rw [(r1 q).1, (r1 q).2]; exact h7)).1) (b4 := fun _ I3 e3 I5 h5 _ => ((H I3 e3).2.2 I5 h5).1) (b5 := fun _ _ I3 e3 => (H I3 e3).1) (b6 := fun _ _ I3 e3 I5 h5 _ => ((H I3 e3).2.1 I5 h5).1) (b7 := fun _ q I3 e3 I5 h5 _ I7 h7 _ => (((H I3 e3).2.1 I5 h5).2 I7 (by rw [(r2 q).1, (r2 q).2]; exact h7)).1) (b8 := fun _ _ I3 e3 I5 h5 _ => ((H I3 e3).2.2 I5 h5).1) (q1 := fun q I3 e3 I5 h5 _ I7 h7 _ I9 h9 _ => (((H I3 e3).2.1 I5 h5).2 I7 (by rw [(r1 q).1, (r1 q).2]; exact h7)).2 I9 h9) (q2 := fun q I3 e3 I5 h5 _ I7 h7 _ => ((H I3 e3).2.2 I5 h5).2 I7 (by rw [(r1 q).1, (r1 q).2]; exact h7)) (q3 := fun q1 q2 => ?_) (q4 := fun _ q I3 e3 I5 h5 _ I7 h7 _ I9 h9 _ => (((H I3 e3).2.1 I5 h5).2 I7 (by rw [(r2 q).1, (r2 q).2]; exact h7)).2 I9 h9) (q5 := fun _ q I3 e3 I5 h5 _ I7 h7 _ => ((H I3 e3).2.2 I5 h5).2 I7 (by rw [(r2 q).1, (r2 q).2]; exact h7))
      rcases hx' with q | q
      · exact absurd q q1
      · exact absurd q q2
    · rw [gLp_nx hb a2] at g
      have o' := o3.tr o
      refine ht J ⟨k, c, dp, k', c1 ++ cs, S, ?_, o'⟩ o'.st.w
      show gSq gA (gLp b n cMul gA 160) k = _
      unfold gSq
      rw [qBd_S e1, qBd_S g]
    · rw [gLp_nx hb a2] at g
      have o' := o3.trF (k := k) o (by omega)
      refine hf J ⟨k, c, dp, k', S, ?_, o'⟩ (rF_w o')
      show gSq gA (gLp b n cMul gA 160) k = _
      unfold gSq
      rw [qBd_S e1, qBd_N g]
  · obtain ⟨k1, e1, o1⟩ := h1.at S
    refine out (-1) I1 (by decide) (hf I1 ⟨k, c, dp, k1, S, ?_, o1⟩ hw)
    show gSq gA (gLp b n cMul gA 160) k = _
    unfold gSq
    rw [qBd_N e1]

theorem rr12018 {gA : qPr} {dp : Nat} (hK : qLay K sz) (hR : qRef R) (hA : RSp (d + 3) 12017 K L R sz b n t dp gA) (wA : gL 1 n gA) : RSp (d + 4) 12018 K L R sz b n t dp (gSq gA (gLp b n cAdd gA 160)) := by
  intro I Q ⟨k, c, S, sk⟩ ht hf
  have hb := S.tb
  have n0 := S.n160
  obtain ⟨w1, w2⟩ := wA k S.kn
  have out : ∀ (x : Int32) (J : Nat → Nat → Int32), ¬ cAdd x = true → Q none (K, J, L, R, sz) → X (d + 4) 0 0 12018 0 0 21 [some (.ref 73), some (.int x)] [] (K, J, L, R, sz) Q := fun x J hx ho => by
    have hx' : ¬ (x = 43 ∨ x = 45) := fun q => hx (decide_eq_true q)
    exact g12018_21 (gA := gA) (hA := hA) (hK := hK) (hR := hR) (b1 := fun q => absurd (Or.inl q) hx') (b2 := fun q => absurd (Or.inl q) hx') (b3 := fun q => absurd (Or.inl q) hx') (b4 := fun q => absurd (Or.inl q) hx') (b5 := fun _ q => absurd (Or.inr q) hx') (b6 := fun _ q => absurd (Or.inr q) hx') (b7 := fun _ q => absurd (Or.inr q) hx') (b8 := fun _ q => absurd (Or.inr q) hx') (q1 := fun q => absurd (Or.inl q) hx') (q2 := fun q => absurd (Or.inl q) hx') (q3 := fun _ _ => ho) (q4 := fun _ q => absurd (Or.inr q) hx') (q5 := fun _ q => absurd (Or.inr q) hx')
  refine e12018 (gA := gA) (hA := hA) (hK := hK) (hR := hR) (b1 := ⟨k, c, S, sk⟩) (b2 := fun I1 h1 _ => ?_) (q1 := fun I1 h1 _ I4 h4 _ => ?_) (q2 := fun I1 h1 hw => ?_)
  · obtain ⟨k1, c1, e1, o1⟩ := h1.at S
    exact o1.st.p
  · obtain ⟨k1, c1, e1, o1⟩ := h1.at S
    obtain ⟨a1, a2, a3⟩ := w1 _ _ e1
    have n1 := @nx_ge b n k1
    have o3 := o1.t0 (rNx o1.st h4)
    have S3 := o3.st
    rw [rV_at o1.st]
    refine rLoop (dp := dp) (c0 := cAdd) (el := gA) (G := fun x I => X (d + 4) 0 0 12018 0 0 21 [some (.ref 73), some (.int x)] [] (K, I, L, R, sz) Q) (ok := fun J => Q none (K, J, L, R, sz)) hb cAdd_n wA out (fun x I hx H => ?_) 160 I4 (nx b n k1) (c + c1.length) (by omega) S3 (nx_nx hb a2) (by omega) (fun J k' cs g o => ?_) (fun J k' g o => ?_)
    · have hx' : x = 43 ∨ x = 45 := of_decide_eq_true hx
      have r1 : x = 43 → rc (-x) = 2 ∧ rv (-x) = 0 := fun q => by rw [q]; decide
      have r2 : x = 45 → rc (-x) = 3 ∧ rv (-x) = 0 := fun q => by rw [q]; decide
      refine g12018_21 (gA := gA) (hA := hA) (hK := hK) (hR := hR) (b1 := fun _ I3 e3 => (H I3 e3).1) (b2 := fun _ I3 e3 I5 h5 _ => ((H I3 e3).2.1 I5 h5).1) (b3 := fun q I3 e3 I5 h5 _ I7 h7 _ => (((H I3 e3).2.1 I5 h5).2 I7 (by rw [(r1 q).1, (r1 q).2]; exact h7)).1) (b4 := fun _ I3 e3 I5 h5 _ => ((H I3 e3).2.2 I5 h5).1) (b5 := fun _ _ I3 e3 => (H I3 e3).1) (b6 := fun _ _ I3 e3 I5 h5 _ => ((H I3 e3).2.1 I5 h5).1) (b7 := fun _ q I3 e3 I5 h5 _ I7 h7 _ => (((H I3 e3).2.1 I5 h5).2 I7 (by rw [(r2 q).1, (r2 q).2]; exact h7)).1) (b8 := fun _ _ I3 e3 I5 h5 _ => ((H I3 e3).2.2 I5 h5).1) (q1 := fun q I3 e3 I5 h5 _ I7 h7 _ I9 h9 _ => (((H I3 e3).2.1 I5 h5).2 I7 (by rw [(r1 q).1, (r1 q).2]; exact h7)).2 I9 h9) (q2 := fun q I3 e3 I5 h5 _ I7 h7 _ => ((H I3 e3).2.2 I5 h5).2 I7 (by rw [(r1 q).1, (r1 q).2]; exact h7)) (q3 := fun q1 q2 => ?_) (q4 := fun _ q I3 e3 I5 h5 _ I7 h7 _ I9 h9 _ => (((H I3 e3).2.1 I5 h5).2 I7 (by rw [(r2 q).1, (r2 q).2]; exact h7)).2 I9 h9) (q5 := fun _ q I3 e3 I5 h5 _ I7 h7 _ => ((H I3 e3).2.2 I5 h5).2 I7 (by rw [(r2 q).1, (r2 q).2]; exact h7))
      rcases hx' with q | q
      · exact absurd q q1
      · exact absurd q q2
    · rw [gLp_nx hb a2] at g
      have o' := o3.tr o
      refine ht J ⟨k, c, dp, k', c1 ++ cs, S, ?_, o'⟩ o'.st.w
      show gSq gA (gLp b n cAdd gA 160) k = _
      unfold gSq
      rw [qBd_S e1, qBd_S g]
    · rw [gLp_nx hb a2] at g
      have o' := o3.trF (k := k) o (by omega)
      refine hf J ⟨k, c, dp, k', S, ?_, o'⟩ (rF_w o')
      show gSq gA (gLp b n cAdd gA 160) k = _
      unfold gSq
      rw [qBd_S e1, qBd_N g]
  · obtain ⟨k1, e1, o1⟩ := h1.at S
    refine out (-1) I1 (by decide) (hf I1 ⟨k, c, dp, k1, S, ?_, o1⟩ hw)
    show gSq gA (gLp b n cAdd gA 160) k = _
    unfold gSq
    rw [qBd_N e1]

theorem rr12020 {dp e0 : Nat} (hK : qLay K sz) (hR : qRef R) (hA : RSp (d + 3) 12018 K L R sz b n t dp (gSum b n (gAtom b n e0))) : RSp (d + 4) 12020 K L R sz b n t dp (gCmp b n e0) := by
  intro I Q ⟨k, c, S, sk⟩ ht hf
  have hb := S.tb
  have n0 := S.n160
  have hv := rV_at S
  have n1 := @nx_ge b n k
  have n2 := nx_le hb S.kn
  have hl : cCmp (rV b n I) = true → nx b n k < n := fun q => hb.lt (by rw [← hv]; exact cCmp_n _ q)
  have hg : cCmp (rV b n I) = true → gCmp b n e0 k = qBd (gSum b n (gAtom b n e0) (nx b n k + 1)) (fun k2 c2 => (k2, some (c2 ++ [-(b (nx b n k))]))) := fun q => by unfold gCmp; rw [if_pos (by rw [← hv]; exact q)]
  have pk : cCmp (rV b n I) = true → ∀ I1, rOk b n t (gNx b n) I I1 → ∀ I3, I3 = va_up I1 73 (upd (I1 73) 3 ((I1 73 3) + 1)) → rO b n t I c dp (nx b n k + 1) [] I3 := fun hx I1 h1 I3 h3 => (rNx S h1).tr0 ((rNx S h1).st0.inc (hl hx) h3)
  have good : cCmp (rV b n I) = true → ∀ I1, rOk b n t (gNx b n) I I1 → ∀ I3, I3 = va_up I1 73 (upd (I1 73) 3 ((I1 73 3) + 1)) → ∀ I5, rOk b n t (gSum b n (gAtom b n e0)) I3 I5 → rPk b n t I5 ∧ ∀ I7, rPu t I5 (rc (-(rV b n I))) (rv (-(rV b n I))) I7 → Q none (K, I7, L, R, sz) := fun hx I1 h1 I3 h3 I5 h5 => by
    have hl' := hl hx
    have o3 := pk hx I1 h1 I3 h3
    obtain ⟨k5, c5, e5, o5⟩ := h5.at o3.st0
    have w := (gS_W hb e0 _ (by omega)).1 _ _ e5
    refine ⟨⟨k5, _, dp, o5.st, by omega⟩, fun I7 h7 => ?_⟩
    have o7 := rPu_ok o5.st (by omega) h7
    rw [hv] at o7
    have o := o3.tr0 (o5.tr o7)
    exact ht I7 ⟨k, c, dp, k5, _, S, by rw [hg hx, qBd_S e5], o⟩ o.st.w
  have bad : cCmp (rV b n I) = true → ∀ I1, rOk b n t (gNx b n) I I1 → ∀ I3, I3 = va_up I1 73 (upd (I1 73) 3 ((I1 73 3) + 1)) → ∀ I5, rNo b n t (gSum b n (gAtom b n e0)) I3 I5 → rPf b n t I5 ∧ ∀ a v I7, rPu t I5 a v I7 → Q none (K, I7, L, R, sz) := fun hx I1 h1 I3 h3 I5 h5 => by
    have o3 := pk hx I1 h1 I3 h3
    obtain ⟨k5, e5, o5⟩ := h5.at o3.st0
    refine ⟨rF_pf o3.st0 o5 (by omega), fun a v I7 h7 => ?_⟩
    have o := rF_put (k := k) (c := c) o5 h7 o3.1 (Nat.le_refl _) (by omega) sk
    exact hf I7 ⟨k, c, dp, k5, S, by rw [hg hx, qBd_N e5], o⟩ (rF_w o)
  have r8 : cCmp (rV b n I) = true → ¬ rV b n I = 61 → ¬ rV b n I = 60 → rc (-(rV b n I)) = 8 ∧ rv (-(rV b n I)) = 0 := fun h h1 h2 => by
    rcases (of_decide_eq_true h) with q | q | q
    · exact absurd q h1
    · exact absurd q h2
    · rw [q]; decide
  have r7 : rV b n I = 60 → rc (-(rV b n I)) = 7 ∧ rv (-(rV b n I)) = 0 := fun q => by rw [q]; decide
  have r6 : rV b n I = 61 → rc (-(rV b n I)) = 6 ∧ rv (-(rV b n I)) = 0 := fun q => by rw [q]; decide
  refine e12020 (hA := hA) (hw := S.w) (hK := hK) (hR := hR) (b1 := fun _ => S.p) (b2 := fun _ I1 h1 _ hx I3 h3 => ⟨_, c, (pk hx I1 h1 I3 h3).st0, by omega⟩)
    (b3 := fun _ I1 h1 _ hx I3 h3 I5 h5 _ _ _ => (good hx I1 h1 I3 h3 I5 h5).1) (b4 := fun _ I1 h1 _ hx I3 h3 I5 h5 _ _ _ => (good hx I1 h1 I3 h3 I5 h5).1) (b5 := fun _ I1 h1 _ hx I3 h3 I5 h5 _ _ => (good hx I1 h1 I3 h3 I5 h5).1)
    (b6 := fun _ I1 h1 _ hx I3 h3 I5 h5 _ _ _ => (bad hx I1 h1 I3 h3 I5 h5).1) (b7 := fun _ I1 h1 _ hx I3 h3 I5 h5 _ _ _ => (bad hx I1 h1 I3 h3 I5 h5).1) (b8 := fun _ I1 h1 _ hx I3 h3 I5 h5 _ _ => (bad hx I1 h1 I3 h3 I5 h5).1)
    (b9 := fun _ I1 h1 _ _ => (rNx S h1).st0.p)
    (q1 := fun _ I1 h1 _ hx I3 h3 I5 h5 _ y1 y2 I7 h7 _ => (good hx I1 h1 I3 h3 I5 h5).2 I7 (by rw [(r8 hx y1 y2).1, (r8 hx y1 y2).2]; exact h7)) (q2 := fun _ I1 h1 _ hx I3 h3 I5 h5 _ y1 y2 I7 h7 _ => (good hx I1 h1 I3 h3 I5 h5).2 I7 (by rw [(r7 y2).1, (r7 y2).2]; exact h7)) (q3 := fun _ I1 h1 _ hx I3 h3 I5 h5 _ y1 I7 h7 _ => (good hx I1 h1 I3 h3 I5 h5).2 I7 (by rw [(r6 y1).1, (r6 y1).2]; exact h7))
    (q4 := fun _ I1 h1 _ hx I3 h3 I5 h5 _ _ _ I7 h7 _ => (bad hx I1 h1 I3 h3 I5 h5).2 _ _ I7 h7) (q5 := fun _ I1 h1 _ hx I3 h3 I5 h5 _ _ _ I7 h7 _ => (bad hx I1 h1 I3 h3 I5 h5).2 _ _ I7 h7) (q6 := fun _ I1 h1 _ hx I3 h3 I5 h5 _ _ I7 h7 _ => (bad hx I1 h1 I3 h3 I5 h5).2 _ _ I7 h7)
    (q7 := fun _ I1 h1 _ hx I36 h36 _ => ?_)
  have g := (rNx S h1).trF (h36.at (rNx S h1).st0) (by simp only [List.length_nil]; omega)
  exact hf I36 ⟨k, c, dp, _, S, by unfold gCmp; rw [if_neg (by rw [← hv]; exact hx)], g⟩ (rF_w g)

theorem rr12022 {gA : qPr} {dp : Nat} (hK : qLay K sz) (hR : qRef R) (hA : RSp (d + 3) 12021 K L R sz b n t dp gA) (wA : gL 1 n gA) : RSp (d + 4) 12022 K L R sz b n t dp (gLp b n cAnd gA 160) := by
  intro I Q ⟨k, c, S, sk⟩ ht hf
  have hb := S.tb
  have n0 := S.n160
  refine rLoop2 (dp := dp) (c0 := cAnd) (x := 38) (el := gA) (G := fun I => X (d + 4) 0 0 12022 0 0 0 (qent (qml 12022) [.ref 73]) [] (K, I, L, R, sz) Q) (ok := fun J => Q none (K, J, L, R, sz)) hb (fun y => decide_eq_true_iff) (by decide) wA (fun J hw hq => r12022n (d := d + 4) hK hw hq) (fun J hw hp H => ?_) 160 I k c (by omega) S sk (fun J k' cs g o => ht J ⟨k, c, dp, k', cs, S, g, o⟩ o.st.w) (fun J k' g o => hf J ⟨k, c, dp, k', S, g, o⟩ (rF_w o))
  exact e12022 (gA := gA) (hA := hA) (hw := hw) (hK := hK) (hR := hR) (b1 := fun _ => hp) (b2 := fun _ I2 h2 _ hx I3 e3 => ((H I2 h2).2 hx I3 e3).1) (b3 := fun _ I2 h2 _ hx I3 e3 I5 h5 _ => (((H I2 h2).2 hx I3 e3).2.1 I5 h5).1) (b4 := fun _ I2 h2 _ hx I3 e3 I5 h5 _ => (((H I2 h2).2 hx I3 e3).2.2 I5 h5).1) (q1 := fun _ I2 h2 _ hx => (H I2 h2).1 hx) (q2 := fun _ I2 h2 _ hx I3 e3 I5 h5 _ I7 h7 _ => (((H I2 h2).2 hx I3 e3).2.1 I5 h5).2 I7 h7) (q3 := fun _ I2 h2 _ hx I3 e3 I5 h5 _ I7 h7 w => (((H I2 h2).2 hx I3 e3).2.2 I5 h5).2 I7 h7 w)
theorem rr12023 {gA gB : qPr} {dp : Nat} (hK : qLay K sz) (hR : qRef R) (hA : RSp (d + 3) 12021 K L R sz b n t dp gA) (hB : RSp (d + 3) 12022 K L R sz b n t dp gB) (wA : gL 1 n gA) (wB : gL 0 n gB) : RSp (d + 4) 12023 K L R sz b n t dp (gLp b n cOr (gSq gA gB) 160) := by
  intro I Q ⟨k, c, S, sk⟩ ht hf
  have hb := S.tb
  have n0 := S.n160
  have wS : gL 1 n (gSq gA gB) := gSq_W wA wB
  refine rLoop2 (dp := dp) (c0 := cOr) (x := 124) (el := gSq gA gB) (G := fun I => X (d + 4) 0 0 12023 0 0 0 (qent (qml 12023) [.ref 73]) [] (K, I, L, R, sz) Q) (ok := fun J => Q none (K, J, L, R, sz)) hb (fun y => decide_eq_true_iff) (by decide) wS (fun J hw hq => r12023n (d := d + 4) hK hw hq) (fun J hw hp H => ?_) 160 I k c (by omega) S sk (fun J k' cs g o => ht J ⟨k, c, dp, k', cs, S, g, o⟩ o.st.w) (fun J k' g o => hf J ⟨k, c, dp, k', S, g, o⟩ (rF_w o))
  refine e12023 (gA := gA) (gB := gB) (hA := hA) (hB := hB) (hw := hw) (hK := hK) (hR := hR) (b1 := fun _ => hp) (b2 := fun _ I2 h2 _ hx I3 e3 => ((H I2 h2).2 hx I3 e3).1) (b3 := fun _ I2 h2 _ hx I3 e3 I5 h5 _ => ?_) (b4 := fun _ I2 h2 _ hx I3 e3 I5 h5 _ I6 h6 _ => (((H I2 h2).2 hx I3 e3).2.1 I6 (rOk_sq h5 h6)).1) (b5 := fun _ I2 h2 _ hx I3 e3 I5 h5 _ I6 h6 _ => (((H I2 h2).2 hx I3 e3).2.2 I6 (rNo_sq2 (gL_0 wA) h5 h6)).1) (b6 := fun _ I2 h2 _ hx I3 e3 I5 h5 _ => (((H I2 h2).2 hx I3 e3).2.2 I5 (rNo_sq1 h5)).1) (q1 := fun _ I2 h2 _ hx => (H I2 h2).1 hx) (q2 := fun _ I2 h2 _ hx I3 e3 I5 h5 _ I6 h6 _ I7 h7 _ => (((H I2 h2).2 hx I3 e3).2.1 I6 (rOk_sq h5 h6)).2 I7 h7) (q3 := fun _ I2 h2 _ hx I3 e3 I5 h5 _ I6 h6 _ I7 h7 w => (((H I2 h2).2 hx I3 e3).2.2 I6 (rNo_sq2 (gL_0 wA) h5 h6)).2 I7 h7 w) (q4 := fun _ I2 h2 _ hx I3 e3 I5 h5 _ I7 h7 w => (((H I2 h2).2 hx I3 e3).2.2 I5 (rNo_sq1 h5)).2 I7 h7 w)
  obtain ⟨k3, c3, S3, l3⟩ := ((H I2 h2).2 hx I3 e3).1
  obtain ⟨k5, c5, e5, o5⟩ := h5.at S3
  have := (wA _ S3.kn).1 _ _ e5
  exact ⟨k5, _, o5.st, by omega⟩
theorem rr12024 {gA gB gC : qPr} {dp : Nat} (hK : qLay K sz) (hA : RSp (d + 3) 12021 K L R sz b n t dp gA) (hB : RSp (d + 3) 12022 K L R sz b n t dp gB) (hC : RSp (d + 3) 12023 K L R sz b n t dp gC) (wA : gL 1 n gA) (wB : gL 0 n gB) : RSp (d + 4) 12024 K L R sz b n t dp (gSq (gSq gA gB) gC) := by
  intro I Q hi ht hf
  have w0 := gL_0 wA
  have ii : ∀ {g : qPr} {I1 : Nat → Nat → Int32}, gL 0 n g → rOk b n t g I I1 → rIn b n t dp I1 := fun {g I1} wg h1 => by
    obtain ⟨k, c, S, sk⟩ := hi
    obtain ⟨k1, c1, e1, o1⟩ := h1.at S
    have := (wg _ S.kn).1 _ _ e1
    exact ⟨k1, _, o1.st, by omega⟩
  refine e12024 (hA := hA) (hB := hB) (hC := hC) (hK := hK) (b1 := hi) (b2 := fun I1 h1 _ => ii w0 h1) (b3 := fun I1 h1 _ I4 h4 _ => ii (gL_0 (gSq_W wA wB)) (rOk_sq h1 h4)) (q1 := fun I1 h1 _ I4 h4 _ I7 h7 w => ht I7 (rOk_sq (rOk_sq h1 h4) h7) w) (q2 := fun I1 h1 _ I4 h4 _ I7 h7 w => hf I7 (rNo_sq2 (gL_0 (gSq_W wA wB)) (rOk_sq h1 h4) h7) w) (q3 := fun I1 h1 _ I4 h4 w => hf I4 (rNo_sq1 (rNo_sq2 w0 h1 h4)) w) (q4 := fun I1 h1 w => hf I1 (rNo_sq1 (rNo_sq1 h1)) w)
theorem rr12021 {u0 : Option (qPr × qPr)} {gC gD : qPr} {dp e0 : Nat} (hK : qLay K sz) (hR : qRef R) (hA : RSp (d + 3) 12018 K L R sz b n t dp (gSum b n (gAtom b n e0))) (hB : RSp (d + 3) 12020 K L R sz b n t dp (gCmp b n e0)) (hC : dp < 6 → RSp (d + 3) 12021 K L R sz b n t (dp + 1) gC) (hD : dp < 6 → RSp (d + 3) 12024 K L R sz b n t (dp + 1) gD) (hs : (dp < 6 ∧ u0 = some (gC, gD)) ∨ (dp = 6 ∧ u0 = none)) (wC : gL 1 n gC) (wD : gL 1 n gD) : RSp (d + 4) 12021 K L R sz b n t dp (gUn1 b n (gSC b n e0) u0) := by
  intro I Q ⟨k, c, S, sk⟩ ht hf
  have hb := S.tb
  have hv := rV_at S
  have n0 := S.n160
  have n1 := @nx_ge b n k
  have n2 := nx_le hb S.kn
  have hok : ∀ J k' cs, gUn1 b n (gSC b n e0) u0 k = (k', some cs) → rO b n t I c dp k' cs J → Q none (K, J, L, R, sz) := fun J k' cs e o => ht J ⟨k, c, dp, k', cs, S, e, o⟩ o.st.w
  have hno : ∀ J k', gUn1 b n (gSC b n e0) u0 k = (k', none) → rF t I k c k' J → Q none (K, J, L, R, sz) := fun J k' e o => hf J ⟨k, c, dp, k', S, e, o⟩ (rF_w o)
  have S1 : ∀ I1, rOk b n t (gNx b n) I I1 → rO b n t I c dp (nx b n k) [] I1 := fun I1 h => rNx S h
  have hl3 : rV b n I = 33 → nx b n k < n := fun q => hb.lt (by rw [← hv, q]; decide)
  have hl4 : rV b n I = 40 → nx b n k < n := fun q => hb.lt (by rw [← hv, q]; decide)
  have s48 : ∀ I1 I39, rOk b n t (gNx b n) I I1 → rOp b n t I1 I39 → dp < 6 ∧ qFr (rFr t c) I I39 ∧ rS b n t I39 (nx b n k + 1) c (dp + 1) := fun I1 I39 h1 h2 => by
    obtain ⟨a1, a2, a3⟩ := h2.at (S1 I1 h1).st0
    exact ⟨a1, (S1 I1 h1).1.trans a2, a3⟩
  have g3 : rV b n I = 33 → dp < 6 → gUn1 b n (gSC b n e0) u0 k = qBd (gC (nx b n k + 1)) (fun k2 c => (k2, some (c ++ [-33]))) := fun h1 h2 => by
    rw [hv] at h1
    rcases hs with ⟨-, e⟩ | ⟨h, -⟩
    · unfold gUn1; rw [if_pos h1, e]
    · omega
  have g4 : ¬ rV b n I = 33 → rV b n I = 40 → dp < 6 → gUn1 b n (gSC b n e0) u0 k = gTail b n 41 (gD (nx b n k + 1)) := fun h0 h1 h2 => by
    rw [hv] at h0 h1
    rcases hs with ⟨-, e⟩ | ⟨h, -⟩
    · unfold gUn1; rw [if_neg h0, if_pos h1, e]
    · omega
  have g5 : ¬ rV b n I = 33 → ¬ rV b n I = 40 → gUn1 b n (gSC b n e0) u0 k = gSC b n e0 (nx b n k) := fun h0 h1 => by
    rw [hv] at h0 h1
    unfold gUn1; rw [if_neg h0, if_neg h1]
  refine e12021 (hA := hA) (hB := hB) (hC := hC) (hD := hD) (hK := hK) (hR := hR) (b1 := S.p) (b2 := fun I1 h1 _ _ _ => ⟨_, c, (S1 I1 h1).st0, by omega⟩) (b3 := fun I1 h1 _ _ _ I6 h6 _ => ?_) (b4 := fun I1 h1 _ _ hx => ⟨_, _, _, (S1 I1 h1).st0, hl4 hx⟩) (b5 := fun I1 h1 _ _ hx I18 h18 _ => (s48 I1 I18 h1 h18).1) (b6 := fun I1 h1 _ _ hx I18 h18 _ => ⟨_, c, (s48 I1 I18 h1 h18).2.2, by omega⟩) (b7 := fun I1 h1 _ _ hx I18 h18 _ I21 h21 _ => ?_) (b8 := fun I1 h1 _ hx => ⟨_, _, _, (S1 I1 h1).st0, hl3 hx⟩) (b9 := fun I1 h1 _ hx I18 h18 _ => (s48 I1 I18 h1 h18).1) (b10 := fun I1 h1 _ hx I18 h18 _ => ⟨_, c, (s48 I1 I18 h1 h18).2.2, by omega⟩) (b11 := fun I1 h1 _ hx I18 h18 _ I21 h21 _ => ?_) (b12 := fun I1 h1 _ hx I18 h18 _ I21 h21 _ => ?_)
    (q1 := fun I1 h1 _ hy hx I6 h6 _ I9 h9 _ => ?_) (q2 := fun I1 h1 _ hy hx I6 h6 _ I9 h9 _ => ?_) (q3 := fun I1 h1 _ hy hx I6 h6 _ => ?_) (q4 := fun I1 h1 _ hy hx I18 h18 _ I21 h21 _ I24 h24 _ => ?_) (q5 := fun I1 h1 _ hy hx I18 h18 _ I21 h21 _ I24 h24 _ => ?_) (q6 := fun I1 h1 _ hy hx I18 h18 _ I21 h21 _ I24 h24 _ => ?_) (q7 := fun I1 h1 _ hy hx I45 h45 _ => ?_) (q8 := fun I1 h1 _ hx I18 h18 _ I21 h21 _ I54 h54 _ I57 h57 => ?_) (q9 := fun I1 h1 _ hx I18 h18 _ I21 h21 _ I54 h54 _ I57 h57 => ?_) (q10 := fun I1 h1 _ hx I45 h45 _ => ?_)
  · obtain ⟨k6, c6, e6, o6⟩ := h6.at (S1 I1 h1).st0
    have := (gS_W hb e0 _ n2).1 _ _ e6
    exact ⟨k6, _, o6.st, by omega⟩
  · obtain ⟨a1, a2, a3⟩ := s48 I1 I18 h1 h18
    obtain ⟨k6, c6, e6, o6⟩ := h21.at a3
    exact ⟨⟨k6, _, dp, o6.st⟩, by decide⟩
  · obtain ⟨a1, a2, a3⟩ := s48 I1 I18 h1 h18
    obtain ⟨k6, c6, e6, o6⟩ := h21.at a3
    have w := (wC _ (by have := hl3 hx; omega)).1 _ _ e6
    exact ⟨k6, _, _, o6.st, by omega⟩
  · obtain ⟨a1, a2, a3⟩ := s48 I1 I18 h1 h18
    obtain ⟨k6, e6, o6⟩ := h21.at a3
    exact rF_pf a3 o6 (by omega)
  · obtain ⟨k6, c6, e6, o6⟩ := h6.at (S1 I1 h1).st0
    obtain ⟨k9, c9, e9, o9⟩ := h9.at o6.st
    refine hok I9 k9 (c6 ++ c9) ?_ ((S1 I1 h1).tr0 (o6.tr o9))
    rw [g5 hy hx]
    unfold gSC gSq
    rw [qBd_S e6, qBd_S e9]
  · obtain ⟨k6, c6, e6, o6⟩ := h6.at (S1 I1 h1).st0
    obtain ⟨k9, e9, o9⟩ := h9.at o6.st
    have w := (gS_W hb e0 _ n2).1 _ _ e6
    refine hno I9 k9 ?_ (((S1 I1 h1).tr0 o6).trF o9 (by omega))
    rw [g5 hy hx]
    unfold gSC gSq
    rw [qBd_S e6, qBd_N e9]
  · obtain ⟨k6, e6, o6⟩ := h6.at (S1 I1 h1).st0
    refine hno I6 k6 ?_ (o6.fr (S1 I1 h1).1 (Nat.le_refl _) (by omega))
    rw [g5 hy hx]
    unfold gSC gSq
    rw [qBd_N e6]
  · obtain ⟨a1, a2, a3⟩ := s48 I1 I18 h1 h18
    obtain ⟨k5, c5, e5, o5⟩ := h21.at a3
    obtain ⟨x1, x2, x3⟩ := h24.at o5.st
    refine hok I24 (nx b n k5 + 1) c5 ?_ ⟨(a2.trans (o5.1)).trans (x2.mono (rFr_mono (by omega))), x3, fun j y e => ?_⟩
    · rw [g4 hy hx a1, gTail, qBd_S e5, if_pos x1]
    · have := (List.getElem?_eq_some_iff.mp e).1
      rw [x2 75 _ (by unfold rFr; omega), x2 76 _ (by unfold rFr; omega)]
      exact o5.2.2 j y e
  · obtain ⟨a1, a2, a3⟩ := s48 I1 I18 h1 h18
    obtain ⟨k5, c5, e5, o5⟩ := h21.at a3
    obtain ⟨x1, x2⟩ := h24.at o5.st
    have w := (wD _ (by have := hl4 hx; omega)).1 _ _ e5
    refine hno I24 (nx b n k5) ?_ (x2.fr (a2.trans o5.1) (by omega) (by omega))
    rw [g4 hy hx a1, gTail, qBd_S e5, if_neg x1]
  · obtain ⟨a1, a2, a3⟩ := s48 I1 I18 h1 h18
    obtain ⟨k5, e5, o5⟩ := h21.at a3
    refine hno I24 k5 ?_ (rF_c3 (o5.fr a2 (Nat.le_refl _) (by omega)) h24)
    rw [g4 hy hx a1, gTail, qBd_N e5]
  · obtain ⟨a1, a2⟩ := h45.at (S1 I1 h1).st0
    refine hno I45 _ ?_ (a2.fr (S1 I1 h1).1 (Nat.le_refl _) (by omega))
    rcases hs with ⟨h, -⟩ | ⟨-, e⟩
    · omega
    · unfold gUn1; rw [if_neg (by rw [← hv]; exact hy), if_pos (by rw [← hv]; exact hx), e]
  · obtain ⟨a1, a2, a3⟩ := s48 I1 I18 h1 h18
    obtain ⟨k5, c5, e5, o5⟩ := h21.at a3
    have w := (wC _ (by have := hl3 hx; omega)).1 _ _ e5
    have o7 := o5.tr (rPu_ok (x := -33) o5.st (by omega) h54)
    have S7 := o7.st
    rw [S7.2.2.2.2.1, show (1 : Int32) = nI 1 from rfl, pk_sub (by omega), Nat.add_sub_cancel] at h57
    obtain ⟨f8, S8⟩ := S7.up5 (e' := dp) (by omega)
    rw [← h57] at f8 S8
    refine hok I57 k5 (c5 ++ [-33]) (by rw [g3 hx a1, qBd_S e5]) ⟨(a2.trans o7.1).trans (f8.mono (rFr_mono (by omega))), S8, fun j y e => ?_⟩
    have := (List.getElem?_eq_some_iff.mp e).1
    rw [f8 75 _ (by unfold rFr; omega), f8 76 _ (by unfold rFr; omega)]
    exact o7.2.2 j y e
  · obtain ⟨a1, a2, a3⟩ := s48 I1 I18 h1 h18
    obtain ⟨k5, e5, o5⟩ := h21.at a3
    have g := rF_put (k := k) (c := c) o5 h54 a2 (Nat.le_refl _) (by omega) sk
    refine hno I57 k5 (by rw [g3 hx a1, qBd_N e5]) (rF_c3 g (fun j i hn => ?_))
    rw [h57]
    by_cases c1 : j = 73
    · subst c1
      rw [vu_s]; unfold upd
      rw [if_neg (fun q => hn ⟨rfl, Or.inr q⟩)]
    · rw [vu_n c1]
  · obtain ⟨a1, a2⟩ := h45.at (S1 I1 h1).st0
    refine hno I45 _ ?_ (a2.fr (S1 I1 h1).1 (Nat.le_refl _) (by omega))
    rcases hs with ⟨h, -⟩ | ⟨-, e⟩
    · omega
    · unfold gUn1; rw [if_pos (by rw [← hv]; exact hx), e]
theorem rAtom (hK : qLay K sz) (hR : qRef R) (hb : qTb b n) : ∀ e, e ≤ 6 → ∀ d, RSp (d + 3 * e + 4) 12016 K L R sz b n t (6 - e) (gAtom b n e) := by
  intro e
  induction e with
  | zero =>
    intro _ d
    rw [gAtom_z]
    exact rr12016 (s0 := none) (gS := gAtom b n 0) hK hR (fun h => absurd h (by decide)) (Or.inr ⟨rfl, rfl⟩) (gAtom_W hb 0)
  | succ e ih =>
    intro he d
    rw [gAtom_s, show d + 3 * (e + 1) + 4 = (d + 3 * e + 3) + 4 by omega]
    have hA := ih (by omega) d
    have hT := rr12017 (d := d + 3 * e + 1) hK hR hA (gAtom_W hb e)
    have hS := rr12018 (d := d + 3 * e + 2) hK hR hT (gTerm_W hb (gAtom_W hb e))
    have e6 : 6 - (e + 1) + 1 = 6 - e := by omega
    exact rr12016 (d := d + 3 * e + 3) (gS := gSum b n (gAtom b n e)) hK hR (fun _ => by rw [e6]; exact hS) (Or.inl ⟨by omega, rfl⟩) (gS_W hb e)
theorem rSum (hK : qLay K sz) (hR : qRef R) (hb : qTb b n) (e : Nat) (he : e ≤ 6) (d : Nat) : RSp (d + 3 * e + 6) 12018 K L R sz b n t (6 - e) (gSum b n (gAtom b n e)) :=
  rr12018 (d := d + 3 * e + 2) hK hR (rr12017 (d := d + 3 * e + 1) hK hR (rAtom hK hR hb e he d) (gAtom_W hb e)) (gTerm_W hb (gAtom_W hb e))
theorem rCmpr (hK : qLay K sz) (hR : qRef R) (hb : qTb b n) (e : Nat) (he : e ≤ 6) (d : Nat) : RSp (d + 3 * e + 7) 12020 K L R sz b n t (6 - e) (gCmp b n e) := rr12020 (d := d + 3 * e + 3) hK hR (rSum hK hR hb e he d)
theorem rCond {m dp : Nat} (hK : qLay K sz) (hR : qRef R) (hb : qTb b n) {e : Nat} (hU : ∀ d, RSp (d + m) 12021 K L R sz b n t dp (gUnit b n e)) (d' : Nat) (hd : m ≤ d' + 3) : RSp (d' + 6) 12024 K L R sz b n t dp (gCond b n (gUnit b n e)) := by
  have u : ∀ z, RSp (d' + z + 3) 12021 K L R sz b n t dp (gUnit b n e) := fun z => RSp_c (by omega) (hU (d' + z + 3 - m))
  have hM : ∀ z, RSp (d' + z + 4) 12022 K L R sz b n t dp (gLp b n cAnd (gUnit b n e) 160) := fun z => rr12022 (d := d' + z) hK hR (u z) (gUnit_W hb e)
  exact rr12024 (d := d' + 2) hK (u 2) (hM 1) (rr12023 (d := d' + 1) hK hR (u 1) (hM 0) (gUnit_W hb e) (gLp_W hb cAnd_n (gUnit_W hb e) 160)) (gUnit_W hb e) (gLp_W hb cAnd_n (gUnit_W hb e) 160)
theorem rUnit (hK : qLay K sz) (hR : qRef R) (hb : qTb b n) : ∀ e, e ≤ 6 → ∀ d, RSp (d + 5 * e + 8) 12021 K L R sz b n t (6 - e) (gUnit b n e) := by
  intro e
  induction e with
  | zero =>
    intro _ d
    rw [gUnit_z]
    exact rr12021 (d := d + 4) (u0 := none) (gC := gUnit b n 0) (gD := gUnit b n 0) (e0 := 0) hK hR (rSum hK hR hb 0 (by omega) (d + 1)) (rCmpr hK hR hb 0 (by omega) d) (fun h => absurd h (by decide)) (fun h => absurd h (by decide)) (Or.inr ⟨rfl, rfl⟩) (gUnit_W hb 0) (gUnit_W hb 0)
  | succ e ih =>
    intro he d
    have e6 : 6 - (e + 1) + 1 = 6 - e := by omega
    rw [gUnit_s, show d + 5 * (e + 1) + 8 = (d + 5 * e + 9) + 4 by omega]
    have hA := rSum (K := K) (L := L) (R := R) (sz := sz) (t := t) hK hR hb (e + 1) he (d + 2 * e + 3)
    have hB := rCmpr (K := K) (L := L) (R := R) (sz := sz) (t := t) hK hR hb (e + 1) he (d + 2 * e + 2)
    have hC := ih (by omega) (d + 4)
    have hD := rCond (m := 5 * e + 8) (dp := 6 - e) (e := e) hK hR hb (fun d' => RSp_c (by omega) (ih (by omega) d')) (d + 5 * e + 6) (by omega)
    exact rr12021 (d := d + 5 * e + 9) (e0 := e + 1) (gC := gUnit b n e) (gD := gCond b n (gUnit b n e)) hK hR (RSp_c (by omega) hA) (RSp_c (by omega) hB) (fun _ => by rw [e6]; exact RSp_c (by omega) hC) (fun _ => by rw [e6]; exact RSp_c (by omega) hD) (Or.inl ⟨by omega, rfl⟩) (gUnit_W hb e) (gCond_W hb (gUnit_W hb e))

end L36z
