/-! the class reads laws: sums, conditions, put together -/
section L36t
variable {d : Nat} {K : qK} {I : Nat → Nat → Int32} {L : Nat → Nat → Int64} {R : Nat → Nat → Option Nat} {sz : Nat} {Q : Option Value → qMem → Prop} {b : Nat → Int32} {n : Nat}
theorem w4013 {s0 : Option qPr} {gS : qPr} {a : Int32} (hK : qLay K sz) (hR : qRef R) (hS : a < 6 → CSp (d + 3) 4011 [.ref 20, .int (a + 1)] K L R sz b n gS) (hs : (a < 6 ∧ s0 = some gS) ∨ (¬ a < 6 ∧ s0 = none)) (wS : gL 1 n gS) : CSp (d + 4) 4013 [.ref 20, .int a] K L R sz b n (gAt1 b n s0) := by
  intro I Q ⟨k, s, S, sk⟩ ht hf
  have hb := S.tb
  have hv := cV_at S
  have n0 := S.n160
  have n1 := @nx_ge b n k
  have n2 := nx_le hb S.kn
  have hok : ∀ J k' cs, gAt1 b n s0 k = (k', some cs) → cO b n I s k' cs J → Q (some (.int 1)) (K, J, L, R, sz) := fun J k' cs e o => ht J ⟨k, s, k', cs, S, e, o⟩
  have hno : ∀ J k', gAt1 b n s0 k = (k', none) → cF I k' J → Q (some (.int 0)) (K, J, L, R, sz) := fun J k' e o => hf J ⟨k, s, k', S, e, o⟩
  have S1 : ∀ I1, cOk b n (gNx b n) I I1 → cO b n I s (nx b n k) [] I1 := fun I1 h => cNx S h
  -- a number
  have hnum : gNum b n 4 0 9999 (nx b n k) = gNum b n 4 0 9999 k := by unfold gNum; rw [nx_nx hb S.kn]
  have hlt : cV b n I = 91 → nx b n k < n := fun q => hb.lt (by rw [← hv, q]; decide)
  have hll : qltr (cV b n I) → nx b n k < n := fun q => hb.lt (by rw [← hv]; exact qltr_n q)
  have hg91 : ¬ qDig (cV b n I) → ¬ qltr (cV b n I) → cV b n I = 91 → a < 6 → gAt1 b n s0 k = gTail b n 93 (gS (nx b n k + 1)) := fun h1 h2 h3 h4 => by
    rw [hv] at h1 h2 h3
    rcases hs with ⟨-, e⟩ | ⟨h, -⟩
    · unfold gAt1; rw [if_neg h1, if_neg h2, if_pos h3, e]
    · exact absurd h4 h
  refine e4013 (gS := gS) (hS := hS) (hK := hK) (hR := hR) (b1 := S.p1) (b2 := fun I1 h1 _ => (S1 I1 h1).st0.p1)
    (b3 := fun I1 h1 hd I4 x h4 _ => ?_) (b4 := fun I1 h1 hd hl I3 h3 => ?_) (b5 := fun _ _ _ _ _ h _ _ => h) (b6 := fun I1 h1 hd hl hx _ I3 h3 => ?_) (b7 := fun I1 h1 hd hl hx h6 I3 h3 I5 h5 => ?_)
    (q1 := fun I1 h1 hd I4 x h4 hx => ?_) (q2 := fun I1 h1 hd I4 x h4 hx I8 h8 => ?_) (q3 := fun I1 h1 hd I4 h4 => ?_) (q4 := fun I1 h1 hd hl I3 h3 I5 h5 => ?_) (q5 := fun I1 h1 hd hl hx => ?_)
    (q6 := fun I1 h1 hd hl hx h6 I3 h3 I5 h5 I7 h7 => ?_) (q7 := fun I1 h1 hd hl hx h6 I3 h3 I5 h5 I7 h7 => ?_) (q8 := fun I1 h1 hd hl hx h6 I3 h3 I5 h5 => ?_) (q9 := fun I1 h1 hd hl hx h6 => ?_)
  · obtain ⟨k', e, o⟩ := h4.at (S1 I1 h1).st0
    have := (gNum_W hb 4 0 9999 _ n2).1 _ _ e
    exact ⟨k', s, o.st0, by omega⟩
  · have hl' := hll hl
    exact ⟨_, s, ((S1 I1 h1).st0.inc hl' h3).st0, by omega⟩
  · have hl' := hlt hx
    exact ⟨_, s, ((S1 I1 h1).st0.inc hl' h3).st0, by omega⟩
  · have o3 := (S1 I1 h1).st0.inc (hlt hx) h3
    obtain ⟨k', cs, e, o⟩ := h5.at o3.st0
    exact ⟨o.st.p1, by decide⟩
  · obtain ⟨k', e, o⟩ := h4.at (S1 I1 h1).st0
    have := (gNum_lo e).1
    rw [hx] at this; exact absurd (by decide) this
  · obtain ⟨k', e, o⟩ := h4.at (S1 I1 h1).st0
    have o8 := h8.at o.st0
    refine hok I8 k' [x] ?_ ((S1 I1 h1).tr0 (o.tr0 o8))
    rw [hnum] at e
    unfold gAt1 gNmb
    rw [if_pos (by rw [← hv]; exact hd), qBd_S e]
  · obtain ⟨k', e, o⟩ := h4.at (S1 I1 h1).st0
    refine hno I4 k' ?_ ((S1 I1 h1).trF o)
    rw [hnum] at e
    unfold gAt1 gNmb
    rw [if_pos (by rw [← hv]; exact hd), qBd_N e]
  · have o3 := (S1 I1 h1).st0.inc (hll hl) h3
    have o5 := h5.at o3.st0
    refine hok I5 _ _ ?_ ((S1 I1 h1).tr0 (o3.tr0 o5))
    unfold gAt1
    rw [if_neg (by rw [← hv]; exact hd), if_pos (by rw [← hv]; exact hl), hv]
  · refine hno I1 _ ?_ (S1 I1 h1).toF
    unfold gAt1
    rw [if_neg (by rw [← hv]; exact hd), if_neg (by rw [← hv]; exact hl), if_neg (by rw [← hv]; exact hx)]
  · have o3 := (S1 I1 h1).st0.inc (hlt hx) h3
    obtain ⟨k5, c5, e5, o5⟩ := h5.at o3.st0
    obtain ⟨k7, c7, e7, o7⟩ := h7.at o5.st
    obtain ⟨g1, rfl, rfl⟩ := gPs_ok e7
    refine hok I7 _ c5 ?_ ((S1 I1 h1).tr0 (o3.tr0 (o5.t0 o7)))
    rw [hg91 hd hl hx h6, gTail, qBd_S e5, if_pos g1]
  · have o3 := (S1 I1 h1).st0.inc (hlt hx) h3
    obtain ⟨k5, c5, e5, o5⟩ := h5.at o3.st0
    obtain ⟨k7, e7, o7⟩ := h7.at o5.st
    obtain ⟨g1, rfl⟩ := gPs_no e7
    refine hno I7 _ ?_ ((S1 I1 h1).trF (o3.trF (o5.trF o7)))
    rw [hg91 hd hl hx h6, gTail, qBd_S e5, if_neg g1]
  · have o3 := (S1 I1 h1).st0.inc (hlt hx) h3
    obtain ⟨k5, e5, o5⟩ := h5.at o3.st0
    refine hno I5 _ ?_ ((S1 I1 h1).trF (o3.trF o5))
    rw [hg91 hd hl hx h6, gTail, qBd_N e5]
  · refine hno I1 _ ?_ (S1 I1 h1).toF
    rw [hv] at hx
    rcases hs with ⟨h, -⟩ | ⟨-, e⟩
    · exact absurd h h6
    · unfold gAt1; rw [if_neg (by rw [← hv]; exact hd), if_neg (by rw [← hv]; exact hl), if_pos hx, e]

theorem w4012 {a : Int32} {gA : qPr} (hK : qLay K sz) (hR : qRef R) (hA : CSp (d + 3) 4013 [.ref 20, .int a] K L R sz b n gA) (wA : gL 1 n gA) : CSp (d + 4) 4012 [.ref 20, .int a] K L R sz b n (gSq gA (gLp b n cMul gA 160)) := by
  intro I Q ⟨k, s, S, sk⟩ ht hf
  have hb := S.tb
  have n0 := S.n160
  obtain ⟨w1, w2⟩ := wA k S.kn
  refine e4012 (gA := gA) (hA := hA) (hK := hK) (hR := hR) (b1 := ⟨k, s, S, sk⟩) (b2 := fun I1 h1 => ?_) (q1 := fun I1 h1 I3 h3 => ?_) (q2 := fun I1 h1 => ?_)
  · obtain ⟨k1, c1, e1, o1⟩ := h1.at S
    exact o1.st.p1
  · obtain ⟨k1, c1, e1, o1⟩ := h1.at S
    obtain ⟨a1, a2, a3⟩ := w1 _ _ e1
    have n1 := @nx_ge b n k1
    have o3 := o1.t0 (cNx o1.st h3)
    have S3 := o3.st
    rw [cV_at o1.st]
    refine cLoop (c := cMul) (el := gA) (G := fun x i I => X (d + 4) 0 0 4012 0 0 17 [some (.ref 20), some (.int a), some (.int x), some (.int (nI i))] [] (K, I, L, R, sz) Q) (ok := fun J => Q (some (.int 1)) (K, J, L, R, sz)) (bad := fun J => Q (some (.int 0)) (K, J, L, R, sz)) hb cMul_n wA (fun x i I hi hx ho => ?_) (fun x i I hi hx H => ?_) 160 I3 (nx b n k1) (s + c1.length) 0 (by omega) (by omega) S3 (nx_nx hb a2) (by omega) (fun J k' cs g o => ?_) (fun J k' g o => ?_)
    · have hi' : ¬ (160 : Int32) ≤ nI i := nI_ge (b := 160) (by omega) (by omega)
      have hx' : ¬ (x = 42 ∨ x = 47) := fun q => hx (decide_eq_true q)
      refine g4012_17 (gA := gA) (hA := hA) (hK := hK) (hR := hR) (b1 := fun _ q => absurd (Or.inl q) hx') (b2 := fun _ q => absurd (Or.inl q) hx') (b3 := fun _ q => absurd (Or.inl q) hx') (b4 := fun _ _ q => absurd (Or.inr q) hx') (b5 := fun _ _ q => absurd (Or.inr q) hx') (b6 := fun _ _ q => absurd (Or.inr q) hx') (q1 := fun q => absurd q hi') (q2 := fun _ q => absurd (Or.inl q) hx') (q3 := fun _ q => absurd (Or.inl q) hx') (q4 := fun _ _ _ => ho) (q5 := fun _ _ q => absurd (Or.inr q) hx') (q6 := fun _ _ q => absurd (Or.inr q) hx')
    · have hi' : ¬ (160 : Int32) ≤ nI i := nI_ge (b := 160) (by omega) (by omega)
      have hx' : x = 42 ∨ x = 47 := of_decide_eq_true hx
      refine g4012_17 (gA := gA) (hA := hA) (hK := hK) (hR := hR) (b1 := fun _ _ I3 e3 => (H I3 e3).1) (b2 := fun _ _ I3 e3 I5 h5 => ((H I3 e3).2.1 I5 h5).1) (b3 := fun _ _ I3 e3 I5 h5 I7 h7 => (((H I3 e3).2.1 I5 h5).2 I7 h7).1) (b4 := fun _ _ _ I3 e3 => (H I3 e3).1) (b5 := fun _ _ _ I3 e3 I5 h5 => ((H I3 e3).2.1 I5 h5).1) (b6 := fun _ _ _ I3 e3 I5 h5 I7 h7 => (((H I3 e3).2.1 I5 h5).2 I7 h7).1) (q1 := fun q => absurd q hi') (q2 := fun _ _ I3 e3 I5 h5 I7 h7 I9 h9 => ?_) (q3 := fun _ _ I3 e3 I5 h5 => (H I3 e3).2.2 I5 h5) (q4 := fun _ q1 q2 => ?_) (q5 := fun _ _ _ I3 e3 I5 h5 I7 h7 I9 h9 => ?_) (q6 := fun _ _ _ I3 e3 I5 h5 => (H I3 e3).2.2 I5 h5)
      · rw [nI_1]; exact (((H I3 e3).2.1 I5 h5).2 I7 h7).2 I9 h9
      · rcases hx' with q | q
        · exact absurd q q1
        · exact absurd q q2
      · rw [nI_1]; exact (((H I3 e3).2.1 I5 h5).2 I7 h7).2 I9 h9
    · rw [gLp_nx hb a2] at g
      refine ht J ⟨k, s, k', c1 ++ cs, S, ?_, o3.tr o⟩
      show gSq gA (gLp b n cMul gA 160) k = _
      unfold gSq
      rw [qBd_S e1, qBd_S g]
    · rw [gLp_nx hb a2] at g
      refine hf J ⟨k, s, k', S, ?_, o3.trF o⟩
      show gSq gA (gLp b n cMul gA 160) k = _
      unfold gSq
      rw [qBd_S e1, qBd_N g]
  · obtain ⟨k1, e1, o1⟩ := h1.at S
    refine hf I1 ⟨k, s, k1, S, ?_, o1⟩
    show gSq gA (gLp b n cMul gA 160) k = _
    unfold gSq
    rw [qBd_N e1]

theorem w4011 {a : Int32} {gA : qPr} (hK : qLay K sz) (hR : qRef R) (hA : CSp (d + 3) 4012 [.ref 20, .int a] K L R sz b n gA) (wA : gL 1 n gA) : CSp (d + 4) 4011 [.ref 20, .int a] K L R sz b n (gSq gA (gLp b n cAdd gA 160)) := by
  intro I Q ⟨k, s, S, sk⟩ ht hf
  have hb := S.tb
  have n0 := S.n160
  obtain ⟨w1, w2⟩ := wA k S.kn
  refine e4011 (gA := gA) (hA := hA) (hK := hK) (hR := hR) (b1 := ⟨k, s, S, sk⟩) (b2 := fun I1 h1 => ?_) (q1 := fun I1 h1 I3 h3 => ?_) (q2 := fun I1 h1 => ?_)
  · obtain ⟨k1, c1, e1, o1⟩ := h1.at S
    exact o1.st.p1
  · obtain ⟨k1, c1, e1, o1⟩ := h1.at S
    obtain ⟨a1, a2, a3⟩ := w1 _ _ e1
    have n1 := @nx_ge b n k1
    have o3 := o1.t0 (cNx o1.st h3)
    have S3 := o3.st
    rw [cV_at o1.st]
    refine cLoop (c := cAdd) (el := gA) (G := fun x i I => X (d + 4) 0 0 4011 0 0 17 [some (.ref 20), some (.int a), some (.int x), some (.int (nI i))] [] (K, I, L, R, sz) Q) (ok := fun J => Q (some (.int 1)) (K, J, L, R, sz)) (bad := fun J => Q (some (.int 0)) (K, J, L, R, sz)) hb cAdd_n wA (fun x i I hi hx ho => ?_) (fun x i I hi hx H => ?_) 160 I3 (nx b n k1) (s + c1.length) 0 (by omega) (by omega) S3 (nx_nx hb a2) (by omega) (fun J k' cs g o => ?_) (fun J k' g o => ?_)
    · have hi' : ¬ (160 : Int32) ≤ nI i := nI_ge (b := 160) (by omega) (by omega)
      have hx' : ¬ (x = 43 ∨ x = 45) := fun q => hx (decide_eq_true q)
      refine g4011_17 (gA := gA) (hA := hA) (hK := hK) (hR := hR) (b1 := fun _ q => absurd (Or.inl q) hx') (b2 := fun _ q => absurd (Or.inl q) hx') (b3 := fun _ q => absurd (Or.inl q) hx') (b4 := fun _ _ q => absurd (Or.inr q) hx') (b5 := fun _ _ q => absurd (Or.inr q) hx') (b6 := fun _ _ q => absurd (Or.inr q) hx') (q1 := fun q => absurd q hi') (q2 := fun _ q => absurd (Or.inl q) hx') (q3 := fun _ q => absurd (Or.inl q) hx') (q4 := fun _ _ _ => ho) (q5 := fun _ _ q => absurd (Or.inr q) hx') (q6 := fun _ _ q => absurd (Or.inr q) hx')
    · have hi' : ¬ (160 : Int32) ≤ nI i := nI_ge (b := 160) (by omega) (by omega)
      have hx' : x = 43 ∨ x = 45 := of_decide_eq_true hx
      refine g4011_17 (gA := gA) (hA := hA) (hK := hK) (hR := hR) (b1 := fun _ _ I3 e3 => (H I3 e3).1) (b2 := fun _ _ I3 e3 I5 h5 => ((H I3 e3).2.1 I5 h5).1) (b3 := fun _ _ I3 e3 I5 h5 I7 h7 => (((H I3 e3).2.1 I5 h5).2 I7 h7).1) (b4 := fun _ _ _ I3 e3 => (H I3 e3).1) (b5 := fun _ _ _ I3 e3 I5 h5 => ((H I3 e3).2.1 I5 h5).1) (b6 := fun _ _ _ I3 e3 I5 h5 I7 h7 => (((H I3 e3).2.1 I5 h5).2 I7 h7).1) (q1 := fun q => absurd q hi') (q2 := fun _ _ I3 e3 I5 h5 I7 h7 I9 h9 => ?_) (q3 := fun _ _ I3 e3 I5 h5 => (H I3 e3).2.2 I5 h5) (q4 := fun _ q1 q2 => ?_) (q5 := fun _ _ _ I3 e3 I5 h5 I7 h7 I9 h9 => ?_) (q6 := fun _ _ _ I3 e3 I5 h5 => (H I3 e3).2.2 I5 h5)
      · rw [nI_1]; exact (((H I3 e3).2.1 I5 h5).2 I7 h7).2 I9 h9
      · rcases hx' with q | q
        · exact absurd q q1
        · exact absurd q q2
      · rw [nI_1]; exact (((H I3 e3).2.1 I5 h5).2 I7 h7).2 I9 h9
    · rw [gLp_nx hb a2] at g
      refine ht J ⟨k, s, k', c1 ++ cs, S, ?_, o3.tr o⟩
      show gSq gA (gLp b n cAdd gA 160) k = _
      unfold gSq
      rw [qBd_S e1, qBd_S g]
    · rw [gLp_nx hb a2] at g
      refine hf J ⟨k, s, k', S, ?_, o3.trF o⟩
      show gSq gA (gLp b n cAdd gA 160) k = _
      unfold gSq
      rw [qBd_S e1, qBd_N g]
  · obtain ⟨k1, e1, o1⟩ := h1.at S
    refine hf I1 ⟨k, s, k1, S, ?_, o1⟩
    show gSq gA (gLp b n cAdd gA 160) k = _
    unfold gSq
    rw [qBd_N e1]

theorem w4010 {a : Int32} {e : Nat} (hK : qLay K sz) (hR : qRef R) (hA : CSp (d + 3) 4011 [.ref 20, .int a] K L R sz b n (gSum b n (gAtom b n e))) : CSp (d + 4) 4010 [.ref 20, .int a] K L R sz b n (gCmp b n e) := by
  intro I Q ⟨k, s, S, sk⟩ ht hf
  have hb := S.tb
  have n0 := S.n160
  have hv := cV_at S
  have n1 := @nx_ge b n k
  have n2 := nx_le hb S.kn
  have hl : cCmp (cV b n I) = true → nx b n k < n := fun q => hb.lt (by rw [← hv]; exact cCmp_n _ q)
  have hg : cCmp (cV b n I) = true → gCmp b n e k = qBd (gSum b n (gAtom b n e) (nx b n k + 1)) (fun k2 c2 => (k2, some (c2 ++ [-(b (nx b n k))]))) := fun q => by unfold gCmp; rw [if_pos (by rw [← hv]; exact q)]
  refine e4010 (hA := hA) (hK := hK) (hR := hR) (b1 := S.p1) (b2 := fun I1 h1 hx I3 h3 => ?_) (b3 := fun I1 h1 hx I3 h3 I5 h5 => ?_) (q1 := fun I1 h1 hx I3 h3 I5 h5 I7 h7 => ?_) (q2 := fun I1 h1 hx I3 h3 I5 h5 => ?_) (q3 := fun I1 h1 hx => ?_)
  · have hl' := hl hx
    exact ⟨_, s, ((cNx S h1).st0.inc hl' h3).st0, by omega⟩
  · have hl' := hl hx
    have o3 := (cNx S h1).st0.inc hl' h3
    obtain ⟨k5, c5, e5, o5⟩ := h5.at o3.st0
    have := (gS_W hb e _ (by omega)).1 _ _ e5
    exact ⟨k5, _, o5.st, by omega⟩
  · have hl' := hl hx
    have o3 := (cNx S h1).st0.inc hl' h3
    obtain ⟨k5, c5, e5, o5⟩ := h5.at o3.st0
    have o7 := h7.at o5.st
    rw [hv] at o7
    refine ht I7 ⟨k, s, k5, _, S, ?_, (cNx S h1).tr0 (o3.tr0 (o5.tr o7))⟩
    rw [hg hx, qBd_S e5]
  · have hl' := hl hx
    have o3 := (cNx S h1).st0.inc hl' h3
    obtain ⟨k5, e5, o5⟩ := h5.at o3.st0
    refine hf I5 ⟨k, s, k5, S, ?_, (cNx S h1).trF (o3.trF o5)⟩
    rw [hg hx, qBd_N e5]
  · refine hf I1 ⟨k, s, _, S, ?_, (cNx S h1).toF⟩
    unfold gCmp
    rw [if_neg (by rw [← hv]; exact hx)]

theorem w4008 {a : Int32} {gA : qPr} (hK : qLay K sz) (hR : qRef R) (hA : CSp (d + 3) 4009 [.ref 20, .int a] K L R sz b n gA) (wA : gL 1 n gA) : CSp (d + 4) 4008 [.ref 20, .int a] K L R sz b n (gLp b n cAnd gA 160) := by
  intro I Q ⟨k, s, S, sk⟩ ht hf
  have hb := S.tb
  have n0 := S.n160
  refine e4008 ?_
  refine cLoop2 (c := cAnd) (x := 38) (el := gA) (G := fun i I => X (d + 4) 0 0 4008 0 0 2 [some (.ref 20), some (.int a), some (.int (nI i))] [] (K, I, L, R, sz) Q) (ok := fun J => Q (some (.int 1)) (K, J, L, R, sz)) (bad := fun J => Q (some (.int 0)) (K, J, L, R, sz)) hb (fun y => decide_eq_true_iff) (by decide) wA (fun i I hi hp H => ?_) 160 I k s 0 (by omega) (by omega) S sk (fun J k' cs g o => ht J ⟨k, s, k', cs, S, g, o⟩) (fun J k' g o => hf J ⟨k, s, k', S, g, o⟩)
  have hi' : ¬ (160 : Int32) ≤ nI i := nI_ge (b := 160) (by omega) (by omega)
  refine g4008_2 (gA := gA) (hA := hA) (hK := hK) (hR := hR) (b1 := fun _ => hp) (b2 := fun _ I2 h2 hx I3 e3 => ((H I2 h2).2 hx I3 e3).1) (b3 := fun _ I2 h2 hx I3 e3 I5 h5 => (((H I2 h2).2 hx I3 e3).2.1 I5 h5).1) (q1 := fun q => absurd q hi') (q2 := fun _ I2 h2 hx => (H I2 h2).1 hx) (q3 := fun _ I2 h2 hx I3 e3 I5 h5 I7 h7 => ?_) (q4 := fun _ I2 h2 hx I3 e3 I5 h5 => ((H I2 h2).2 hx I3 e3).2.2 I5 h5)
  rw [nI_1]; exact (((H I2 h2).2 hx I3 e3).2.1 I5 h5).2 I7 h7

theorem w4006 {a : Int32} {gA : qPr} (hK : qLay K sz) (hR : qRef R) (hA : CSp (d + 3) 4007 [.ref 20, .int a] K L R sz b n gA) (wA : gL 1 n gA) : CSp (d + 4) 4006 [.ref 20, .int a] K L R sz b n (gLp b n cOr gA 160) := by
  intro I Q ⟨k, s, S, sk⟩ ht hf
  have hb := S.tb
  have n0 := S.n160
  refine e4006 ?_
  refine cLoop2 (c := cOr) (x := 124) (el := gA) (G := fun i I => X (d + 4) 0 0 4006 0 0 2 [some (.ref 20), some (.int a), some (.int (nI i))] [] (K, I, L, R, sz) Q) (ok := fun J => Q (some (.int 1)) (K, J, L, R, sz)) (bad := fun J => Q (some (.int 0)) (K, J, L, R, sz)) hb (fun y => decide_eq_true_iff) (by decide) wA (fun i I hi hp H => ?_) 160 I k s 0 (by omega) (by omega) S sk (fun J k' cs g o => ht J ⟨k, s, k', cs, S, g, o⟩) (fun J k' g o => hf J ⟨k, s, k', S, g, o⟩)
  have hi' : ¬ (160 : Int32) ≤ nI i := nI_ge (b := 160) (by omega) (by omega)
  refine g4006_2 (gA := gA) (hA := hA) (hK := hK) (hR := hR) (b1 := fun _ => hp) (b2 := fun _ I2 h2 hx I3 e3 => ((H I2 h2).2 hx I3 e3).1) (b3 := fun _ I2 h2 hx I3 e3 I5 h5 => (((H I2 h2).2 hx I3 e3).2.1 I5 h5).1) (q1 := fun q => absurd q hi') (q2 := fun _ I2 h2 hx => (H I2 h2).1 hx) (q3 := fun _ I2 h2 hx I3 e3 I5 h5 I7 h7 => ?_) (q4 := fun _ I2 h2 hx I3 e3 I5 h5 => ((H I2 h2).2 hx I3 e3).2.2 I5 h5)
  rw [nI_1]; exact (((H I2 h2).2 hx I3 e3).2.1 I5 h5).2 I7 h7

theorem w4007 {a : Int32} {gA : qPr} (hK : qLay K sz) (hR : qRef R) (hA : CSp (d + 3) 4009 [.ref 20, .int a] K L R sz b n gA) (hB : CSp (d + 3) 4008 [.ref 20, .int a] K L R sz b n (gLp b n cAnd gA 160)) (wA : gL 1 n gA) : CSp (d + 4) 4007 [.ref 20, .int a] K L R sz b n (gSq gA (gLp b n cAnd gA 160)) := by
  intro I Q ⟨k, s, S, sk⟩ ht hf
  have hb := S.tb
  obtain ⟨w1, w2⟩ := wA k S.kn
  refine e4007 (hA := hA) (hB := hB) (hK := hK) (b1 := ⟨k, s, S, sk⟩) (b2 := fun I1 h1 => ?_) (q1 := fun I1 h1 I3 h3 => ?_) (q2 := fun I1 h1 I3 h3 => ?_) (q3 := fun I1 h1 => ?_)
  · obtain ⟨k1, c1, e1, o1⟩ := h1.at S
    obtain ⟨a1, a2, a3⟩ := w1 _ _ e1
    exact ⟨k1, _, o1.st, by omega⟩
  · obtain ⟨k1, c1, e1, o1⟩ := h1.at S
    obtain ⟨k3, c3, e3, o3⟩ := h3.at o1.st
    refine ht I3 ⟨k, s, k3, c1 ++ c3, S, ?_, o1.tr o3⟩
    show gSq gA (gLp b n cAnd gA 160) k = _
    unfold gSq
    rw [qBd_S e1, qBd_S e3]
  · obtain ⟨k1, c1, e1, o1⟩ := h1.at S
    obtain ⟨k3, e3, o3⟩ := h3.at o1.st
    refine hf I3 ⟨k, s, k3, S, ?_, o1.trF o3⟩
    show gSq gA (gLp b n cAnd gA 160) k = _
    unfold gSq
    rw [qBd_S e1, qBd_N e3]
  · obtain ⟨k1, e1, o1⟩ := h1.at S
    refine hf I1 ⟨k, s, k1, S, ?_, o1⟩
    show gSq gA (gLp b n cAnd gA 160) k = _
    unfold gSq
    rw [qBd_N e1]

theorem w4005 {a : Int32} {gA : qPr} (hK : qLay K sz) (hR : qRef R) (hA : CSp (d + 3) 4007 [.ref 20, .int a] K L R sz b n gA) (hB : CSp (d + 3) 4006 [.ref 20, .int a] K L R sz b n (gLp b n cOr gA 160)) (wA : gL 1 n gA) : CSp (d + 4) 4005 [.ref 20, .int a] K L R sz b n (gSq gA (gLp b n cOr gA 160)) := by
  intro I Q ⟨k, s, S, sk⟩ ht hf
  have hb := S.tb
  obtain ⟨w1, w2⟩ := wA k S.kn
  refine e4005 (hA := hA) (hB := hB) (hK := hK) (b1 := ⟨k, s, S, sk⟩) (b2 := fun I1 h1 => ?_) (q1 := fun I1 h1 I3 h3 => ?_) (q2 := fun I1 h1 I3 h3 => ?_) (q3 := fun I1 h1 => ?_)
  · obtain ⟨k1, c1, e1, o1⟩ := h1.at S
    obtain ⟨a1, a2, a3⟩ := w1 _ _ e1
    exact ⟨k1, _, o1.st, by omega⟩
  · obtain ⟨k1, c1, e1, o1⟩ := h1.at S
    obtain ⟨k3, c3, e3, o3⟩ := h3.at o1.st
    refine ht I3 ⟨k, s, k3, c1 ++ c3, S, ?_, o1.tr o3⟩
    show gSq gA (gLp b n cOr gA 160) k = _
    unfold gSq
    rw [qBd_S e1, qBd_S e3]
  · obtain ⟨k1, c1, e1, o1⟩ := h1.at S
    obtain ⟨k3, e3, o3⟩ := h3.at o1.st
    refine hf I3 ⟨k, s, k3, S, ?_, o1.trF o3⟩
    show gSq gA (gLp b n cOr gA 160) k = _
    unfold gSq
    rw [qBd_S e1, qBd_N e3]
  · obtain ⟨k1, e1, o1⟩ := h1.at S
    refine hf I1 ⟨k, s, k1, S, ?_, o1⟩
    show gSq gA (gLp b n cOr gA 160) k = _
    unfold gSq
    rw [qBd_N e1]

theorem w4009 {u0 : Option (qPr × qPr)} {gC gD : qPr} {a : Int32} {e : Nat} (hK : qLay K sz) (hR : qRef R) (hA : CSp (d + 3) 4011 [.ref 20, .int a] K L R sz b n (gSum b n (gAtom b n e))) (hB : CSp (d + 3) 4010 [.ref 20, .int a] K L R sz b n (gCmp b n e)) (hC : a < 6 → CSp (d + 3) 4009 [.ref 20, .int (a + 1)] K L R sz b n gC) (hD : a < 6 → CSp (d + 3) 4005 [.ref 20, .int (a + 1)] K L R sz b n gD) (hs : (a < 6 ∧ u0 = some (gC, gD)) ∨ (¬ a < 6 ∧ u0 = none)) (wC : gL 1 n gC) (wD : gL 1 n gD) : CSp (d + 4) 4009 [.ref 20, .int a] K L R sz b n (gUn1 b n (gSC b n e) u0) := by
  intro I Q ⟨k, s, S, sk⟩ ht hf
  have hb := S.tb
  have hv := cV_at S
  have n0 := S.n160
  have n1 := @nx_ge b n k
  have n2 := nx_le hb S.kn
  have hok : ∀ J k' cs, gUn1 b n (gSC b n e) u0 k = (k', some cs) → cO b n I s k' cs J → Q (some (.int 1)) (K, J, L, R, sz) := fun J k' cs e o => ht J ⟨k, s, k', cs, S, e, o⟩
  have hno : ∀ J k', gUn1 b n (gSC b n e) u0 k = (k', none) → cF I k' J → Q (some (.int 0)) (K, J, L, R, sz) := fun J k' e o => hf J ⟨k, s, k', S, e, o⟩
  have S1 : ∀ I1, cOk b n (gNx b n) I I1 → cO b n I s (nx b n k) [] I1 := fun I1 h => cNx S h
  have hl3 : cV b n I = 33 → nx b n k < n := fun q => hb.lt (by rw [← hv, q]; decide)
  have hl4 : cV b n I = 40 → nx b n k < n := fun q => hb.lt (by rw [← hv, q]; decide)
  have g3 : cV b n I = 33 → a < 6 → gUn1 b n (gSC b n e) u0 k = qBd (gC (nx b n k + 1)) (fun k2 c => (k2, some (c ++ [-33]))) := fun h1 h2 => by
    rw [hv] at h1
    rcases hs with ⟨-, e⟩ | ⟨h, -⟩
    · unfold gUn1; rw [if_pos h1, e]
    · exact absurd h2 h
  have g4 : ¬ cV b n I = 33 → cV b n I = 40 → a < 6 → gUn1 b n (gSC b n e) u0 k = gTail b n 41 (gD (nx b n k + 1)) := fun h0 h1 h2 => by
    rw [hv] at h0 h1
    rcases hs with ⟨-, e⟩ | ⟨h, -⟩
    · unfold gUn1; rw [if_neg h0, if_pos h1, e]
    · exact absurd h2 h
  have g5 : ¬ cV b n I = 33 → ¬ cV b n I = 40 → gUn1 b n (gSC b n e) u0 k = gSC b n e (nx b n k) := fun h0 h1 => by
    rw [hv] at h0 h1
    unfold gUn1; rw [if_neg h0, if_neg h1]
  refine e4009 (hA := hA) (hB := hB) (hC := hC) (hD := hD) (hK := hK) (hR := hR) (b1 := S.p1) (b2 := fun _ _ _ h _ _ => h) (b3 := fun I1 h1 hx h6 I3 h3 => ?_) (b4 := fun I1 h1 hx h6 I3 h3 I5 h5 => ?_) (b5 := fun _ _ _ _ h _ _ => h) (b6 := fun I1 h1 hy hx h6 I3 h3 => ?_) (b7 := fun I1 h1 hy hx h6 I3 h3 I5 h5 => ?_) (b8 := fun I1 h1 hy hx => ?_) (b9 := fun I1 h1 hy hx I5 h5 => ?_)
    (q1 := fun I1 h1 hx h6 I3 h3 I5 h5 I7 h7 => ?_) (q2 := fun I1 h1 hx h6 I3 h3 I5 h5 => ?_) (q3 := fun I1 h1 hx h6 => ?_) (q4 := fun I1 h1 hy hx h6 I3 h3 I5 h5 I7 h7 => ?_) (q5 := fun I1 h1 hy hx h6 I3 h3 I5 h5 I7 h7 => ?_) (q6 := fun I1 h1 hy hx h6 I3 h3 I5 h5 => ?_) (q7 := fun I1 h1 hy hx h6 => ?_) (q8 := fun I1 h1 hy hx I5 h5 I7 h7 => ?_) (q9 := fun I1 h1 hy hx I5 h5 I7 h7 => ?_) (q10 := fun I1 h1 hy hx I5 h5 => ?_)
  · have hl' := hl3 hx
    exact ⟨_, s, ((S1 I1 h1).st0.inc hl' h3).st0, by omega⟩
  · have hl' := hl3 hx
    have o3 := (S1 I1 h1).st0.inc hl' h3
    obtain ⟨k5, c5, e5, o5⟩ := h5.at o3.st0
    have := (wC _ (by omega)).1 _ _ e5
    exact ⟨k5, _, o5.st, by omega⟩
  · have hl' := hl4 hx
    exact ⟨_, s, ((S1 I1 h1).st0.inc hl' h3).st0, by omega⟩
  · have o3 := (S1 I1 h1).st0.inc (hl4 hx) h3
    obtain ⟨k5, c5, e5, o5⟩ := h5.at o3.st0
    exact ⟨o5.st.p1, by decide⟩
  · exact ⟨_, s, (S1 I1 h1).st0, by omega⟩
  · obtain ⟨k5, c5, e5, o5⟩ := h5.at (S1 I1 h1).st0
    have := (gS_W hb e _ n2).1 _ _ e5
    exact ⟨k5, _, o5.st, by omega⟩
  · have o3 := (S1 I1 h1).st0.inc (hl3 hx) h3
    obtain ⟨k5, c5, e5, o5⟩ := h5.at o3.st0
    have o7 := h7.at o5.st
    refine hok I7 k5 _ ?_ ((S1 I1 h1).tr0 (o3.tr0 (o5.tr o7)))
    rw [g3 hx h6, qBd_S e5]
  · have o3 := (S1 I1 h1).st0.inc (hl3 hx) h3
    obtain ⟨k5, e5, o5⟩ := h5.at o3.st0
    refine hno I5 k5 ?_ ((S1 I1 h1).trF (o3.trF o5))
    rw [g3 hx h6, qBd_N e5]
  · refine hno I1 _ ?_ (S1 I1 h1).toF
    rw [hv] at hx
    rcases hs with ⟨h, -⟩ | ⟨-, e⟩
    · exact absurd h h6
    · unfold gUn1; rw [if_pos hx, e]
  · have o3 := (S1 I1 h1).st0.inc (hl4 hx) h3
    obtain ⟨k5, c5, e5, o5⟩ := h5.at o3.st0
    obtain ⟨k7, c7, e7, o7⟩ := h7.at o5.st
    obtain ⟨p1, rfl, rfl⟩ := gPs_ok e7
    refine hok I7 _ c5 ?_ ((S1 I1 h1).tr0 (o3.tr0 (o5.t0 o7)))
    rw [g4 hy hx h6, gTail, qBd_S e5, if_pos p1]
  · have o3 := (S1 I1 h1).st0.inc (hl4 hx) h3
    obtain ⟨k5, c5, e5, o5⟩ := h5.at o3.st0
    obtain ⟨k7, e7, o7⟩ := h7.at o5.st
    obtain ⟨p1, rfl⟩ := gPs_no e7
    refine hno I7 _ ?_ ((S1 I1 h1).trF (o3.trF (o5.trF o7)))
    rw [g4 hy hx h6, gTail, qBd_S e5, if_neg p1]
  · have o3 := (S1 I1 h1).st0.inc (hl4 hx) h3
    obtain ⟨k5, e5, o5⟩ := h5.at o3.st0
    refine hno I5 _ ?_ ((S1 I1 h1).trF (o3.trF o5))
    rw [g4 hy hx h6, gTail, qBd_N e5]
  · refine hno I1 _ ?_ (S1 I1 h1).toF
    rw [hv] at hx hy
    rcases hs with ⟨h, -⟩ | ⟨-, e⟩
    · exact absurd h h6
    · unfold gUn1; rw [if_neg hy, if_pos hx, e]
  · obtain ⟨k5, c5, e5, o5⟩ := h5.at (S1 I1 h1).st0
    obtain ⟨k7, c7, e7, o7⟩ := h7.at o5.st
    refine hok I7 k7 (c5 ++ c7) ?_ ((S1 I1 h1).tr0 (o5.tr o7))
    rw [g5 hy hx]
    unfold gSC gSq
    rw [qBd_S e5, qBd_S e7]
  · obtain ⟨k5, c5, e5, o5⟩ := h5.at (S1 I1 h1).st0
    obtain ⟨k7, e7, o7⟩ := h7.at o5.st
    refine hno I7 k7 ?_ ((S1 I1 h1).trF (o5.trF o7))
    rw [g5 hy hx]
    unfold gSC gSq
    rw [qBd_S e5, qBd_N e7]
  · obtain ⟨k5, e5, o5⟩ := h5.at (S1 I1 h1).st0
    refine hno I5 k5 ?_ ((S1 I1 h1).trF o5)
    rw [g5 hy hx]
    unfold gSC gSq
    rw [qBd_N e5]

theorem a6 {e : Nat} (he : e + 1 ≤ 6) : nI (6 - (e + 1)) < 6 ∧ nI (6 - (e + 1)) + 1 = nI (6 - e) := by
  refine ⟨?_, ?_⟩
  · rw [show (6 : Int32) = nI 6 from rfl, nI_ltI (by omega) (by omega)]; omega
  · rw [nI_1]; congr 1; omega
theorem cAtom (hK : qLay K sz) (hR : qRef R) (hb : qTb b n) : ∀ e, e ≤ 6 → ∀ d, CSp (d + 3 * e + 4) 4013 [.ref 20, .int (nI (6 - e))] K L R sz b n (gAtom b n e) := by
  intro e
  induction e with
  | zero =>
    intro _ d
    rw [gAtom_z]
    exact w4013 (s0 := none) (gS := gAtom b n 0) hK hR (fun h => absurd h (by decide)) (Or.inr ⟨by decide, rfl⟩) (gAtom_W hb 0)
  | succ e ih =>
    intro he d
    obtain ⟨h1, h2⟩ := a6 he
    rw [gAtom_s, show d + 3 * (e + 1) + 4 = (d + 3 * e + 3) + 4 by omega]
    have hA := ih (by omega) d
    have hT := w4012 (d := d + 3 * e + 1) hK hR hA (gAtom_W hb e)
    have hS := w4011 (d := d + 3 * e + 2) hK hR hT (gTerm_W hb (gAtom_W hb e))
    exact w4013 (d := d + 3 * e + 3) (gS := gSum b n (gAtom b n e)) hK hR (fun _ => by rw [h2]; exact hS) (Or.inl ⟨h1, rfl⟩) (gS_W hb e)
theorem cSum (hK : qLay K sz) (hR : qRef R) (hb : qTb b n) (e : Nat) (he : e ≤ 6) (d : Nat) : CSp (d + 3 * e + 6) 4011 [.ref 20, .int (nI (6 - e))] K L R sz b n (gSum b n (gAtom b n e)) :=
  w4011 (d := d + 3 * e + 2) hK hR (w4012 (d := d + 3 * e + 1) hK hR (cAtom hK hR hb e he d) (gAtom_W hb e)) (gTerm_W hb (gAtom_W hb e))
theorem cCmpr (hK : qLay K sz) (hR : qRef R) (hb : qTb b n) (e : Nat) (he : e ≤ 6) (d : Nat) : CSp (d + 3 * e + 7) 4010 [.ref 20, .int (nI (6 - e))] K L R sz b n (gCmp b n e) := w4010 (d := d + 3 * e + 3) hK hR (cSum hK hR hb e he d)
theorem cTruth (hK : qLay K sz) (hR : qRef R) (hb : qTb b n) {a : Int32} {e : Nat} (hU : CSp (d + 3) 4009 [.ref 20, .int a] K L R sz b n (gUnit b n e)) (hU2 : CSp (d + 4) 4009 [.ref 20, .int a] K L R sz b n (gUnit b n e)) : CSp (d + 5) 4007 [.ref 20, .int a] K L R sz b n (gTruth b n (gUnit b n e)) := w4007 (d := d + 1) hK hR hU2 (w4008 (d := d) hK hR hU (gUnit_W hb e)) (gUnit_W hb e)
theorem cCond {m : Nat} (hK : qLay K sz) (hR : qRef R) (hb : qTb b n) {a : Int32} {e : Nat} (hU : ∀ d, CSp (d + m) 4009 [.ref 20, .int a] K L R sz b n (gUnit b n e)) (d' : Nat) (hd : m ≤ d' + 3) : CSp (d' + 7) 4005 [.ref 20, .int a] K L R sz b n (gCond b n (gUnit b n e)) := by
  have u : ∀ z, CSp (d' + z + 3) 4009 [.ref 20, .int a] K L R sz b n (gUnit b n e) := fun z => CSp_c (by omega) (hU (d' + z + 3 - m))
  exact w4005 (d := d' + 3) hK hR (cTruth (d := d' + 1) hK hR hb (u 1) (u 2)) (w4006 (d := d' + 2) hK hR (cTruth (d := d') hK hR hb (u 0) (u 1)) (gTruth_W hb (gUnit_W hb e))) (gTruth_W hb (gUnit_W hb e))
theorem cUnit (hK : qLay K sz) (hR : qRef R) (hb : qTb b n) : ∀ e, e ≤ 6 → ∀ d, CSp (d + 5 * e + 8) 4009 [.ref 20, .int (nI (6 - e))] K L R sz b n (gUnit b n e) := by
  intro e
  induction e with
  | zero =>
    intro _ d
    rw [gUnit_z]
    exact w4009 (d := d + 4) (u0 := none) (gC := gUnit b n 0) (gD := gUnit b n 0) (e := 0) hK hR (cSum hK hR hb 0 (by omega) (d + 1)) (cCmpr hK hR hb 0 (by omega) d) (fun h => absurd h (by decide)) (fun h => absurd h (by decide)) (Or.inr ⟨by decide, rfl⟩) (gUnit_W hb 0) (gUnit_W hb 0)
  | succ e ih =>
    intro he d
    obtain ⟨h1, h2⟩ := a6 he
    rw [gUnit_s, show d + 5 * (e + 1) + 8 = (d + 5 * e + 9) + 4 by omega]
    have hA := cSum (K := K) (L := L) (R := R) (sz := sz) hK hR hb (e + 1) he (d + 2 * e + 3)
    have hB := cCmpr (K := K) (L := L) (R := R) (sz := sz) hK hR hb (e + 1) he (d + 2 * e + 2)
    have hC := ih (by omega) (d + 4)
    have hD := cCond (m := 5 * e + 8) (a := nI (6 - e)) (e := e) hK hR hb (fun d' => CSp_c (by omega) (ih (by omega) d')) (d + 5 * e + 5) (by omega)
    exact w4009 (d := d + 5 * e + 9) (e := e + 1) (gC := gUnit b n e) (gD := gCond b n (gUnit b n e)) hK hR (CSp_c (by omega) hA) (CSp_c (by omega) hB) (fun _ => by rw [h2]; exact CSp_c (by omega) hC) (fun _ => by rw [h2]; exact CSp_c (by omega) hD) (Or.inl ⟨h1, rfl⟩) (gUnit_W hb e) (gCond_W hb (gUnit_W hb e))

end L36t
