/-! the reference reads a clause -/
section L37b
variable {d : Nat} {K : qK} {I : Nat → Nat → Int32} {L : Nat → Nat → Int64} {R : Nat → Nat → Option Nat} {sz : Nat} {Q : Option Value → qMem → Prop} {b : Nat → Int32} {n : Nat} {t : Nat}
theorem l250 {q : Nat} {x2 : Int32} (hK : qLay K sz) (hR : qRef R) (h14 : I 73 14 = nI t) (ht5 : t < 5) (hq9 : q < 90) (h78 : I 78 t = nI q) (hq : ∀ J, J = va_up (va_up I 81 (upd (I 81) (90 * t + q) (I 77 t))) 78 (upd (I 78) t (nI (q + 1))) → Q none (K, J, L, R, sz)) : X (d + 4) 0 0 12025 0 0 250 [some (.ref 73), some (.int (nI (90 * t + q))), some (.int x2)] [] (K, I, L, R, sz) Q := by
  have e5 : vp_in (I 73 14) 5 := by rw [h14]; exact vI ht5 (by omega)
  refine g12025_250 (hK := hK) (hR := hR) (b1 := e5) (b2 := vI (by omega) (by omega)) (b3 := fun A hA => by rw [hA, vu_n (by decide)]; exact e5) (q1 := fun A hA B hB => ?_)
  rw [h14, nI_c (by omega), nI_c (by omega)] at hA
  have a1 : A 73 = I 73 := by rw [hA, vu_n (by decide)]
  have a2 : A 78 = I 78 := by rw [hA, vu_n (by decide)]
  rw [a1, a2, h14, nI_c (by omega), h78, nI_1, hA] at hB
  exact hq B hB
theorem l183n {q k2 c kf : Nat} {x2 : Int32} {E : Nat → Nat → Int32} (hK : qLay K sz) (hR : qRef R) (h14 : E 73 14 = nI t) (ht5 : t < 5) (hq9 : q < 90) (h78 : E 78 t = nI q) (h : rF t E k2 c kf I) (hq : ∀ J, rCF t E kf J → Q none (K, J, L, R, sz)) : X (d + 4) 0 0 12025 0 0 183 [some (.ref 73), some (.int (nI (90 * t + q))), some (.int x2)] [] (K, I, L, R, sz) Q := by
  have i14 : I 73 14 = nI t := by rw [h.1 73 14 (by unfold rFr; omega)]; exact h14
  have i78 : I 78 t = nI q := by rw [h.1 78 t (by unfold rFr; omega)]; exact h78
  have fin : ∀ A, A = va_up I 80 (upd (I 80) (nI (90 * t + q)).toNatClampNeg (I 79 (nI (90 * t + q)).toNatClampNeg)) → X (d + 4) 0 0 12025 0 0 250 [some (.ref 73), some (.int (nI (90 * t + q))), some (.int x2)] [] (K, A, L, R, sz) Q := fun A hA => by
    rw [nI_c (by omega)] at hA
    refine l250 hK hR (by rw [hA, vu_n (by decide)]; exact i14) ht5 hq9 (by rw [hA, vu_n (by decide)]; exact i78) (fun J hJ => hq J ⟨?_, ?_, h.2.2.1⟩)
    · refine (h.1.mono (fun _ _ => rFr_C)).trans ?_
      have f1 : qFr (rFrC t) I A := by rw [hA]; exact qFr.up1 (by unfold rFrC; omega)
      rw [hJ]
      refine f1.trans (qFr.trans (J := va_up A 81 (upd (A 81) (90 * t + q) (A 77 t))) (qFr.up1 (by unfold rFrC; omega)) ?_)
      have : A 78 = (va_up A 81 (upd (A 81) (90 * t + q) (A 77 t))) 78 := (vu_n (by decide)).symm
      rw [this]
      exact qFr.up1 (by unfold rFrC; omega)
    · rw [hJ, vu_n (by decide), vu_n (by decide), hA, vu_n (by decide)]; exact h.2.1
  exact g12025_183n (hw := rF_w h) (hK := hK) (hR := hR) (b1 := fun _ => vI (by omega) (by omega)) (q1 := fun _ A hA _ _ => fin A hA) (q2 := fun _ A hA _ _ => fin A hA)
theorem l183 {q k3 c : Nat} {x2 : Int32} {cs : List Int32} {E : Nat → Nat → Int32} (hK : qLay K sz) (hR : qRef R) (hA : RSp (d + 3) 12018 K L R sz b n t 0 (gSum b n (gAtom b n 6))) (hq9 : q < 90) (h78 : E 78 t = nI q) (h79 : E 79 (90 * t + q) = nI c) (o : rO b n t E c 0 k3 cs I) (hl : c + cs.length ≤ k3) (h0 : x2 = 0 → ∀ J, rCO b n t E c q k3 (none, cs) J → Q none (K, J, L, R, sz)) (h1 : ¬ x2 = 0 → (∀ J k' x, gGuard b n k3 cs = (k', some x) → rCO b n t E c q k' x J → Q none (K, J, L, R, sz)) ∧ (∀ J k', gGuard b n k3 cs = (k', none) → rCF t E k' J → Q none (K, J, L, R, sz))) : X (d + 4) 0 0 12025 0 0 183 [some (.ref 73), some (.int (nI (90 * t + q))), some (.int x2)] [] (K, I, L, R, sz) Q := by
  have S := o.st
  have hb := S.tb
  have n0 := S.n160
  have hk3 := S.kn
  have t5 := S.t5
  have ei : (nI (90 * t + q)).toNatClampNeg = 90 * t + q := nI_c (by omega)
  have i79 : I 79 (90 * t + q) = nI c := by rw [o.1 79 _ (by unfold rFr; omega)]; exact h79
  have i78 : I 78 t = nI q := by rw [o.1 78 t (by unfold rFr; omega)]; exact h78
  have vk : vp_in (nI (90 * t + q)) 450 := vI (by omega) (by omega)
  -- the sum begins where the condition begins
  have hA1 : ∀ A, A = va_up I 80 (upd (I 80) (nI (90 * t + q)).toNatClampNeg (I 79 (nI (90 * t + q)).toNatClampNeg)) → A = va_up I 80 (upd (I 80) (90 * t + q) (nI c)) := fun A hA => by rw [hA, ei, i79]
  have SA : ∀ A, A = va_up I 80 (upd (I 80) (90 * t + q) (nI c)) → rS b n t A k3 (c + cs.length) 0 := fun A hA => S.row (by rw [hA, vu_n (by decide)]) (by rw [hA, vu_n (by decide)]) (by rw [hA, vu_n (by decide)])
  have fA : ∀ A, A = va_up I 80 (upd (I 80) (90 * t + q) (nI c)) → qFr (rFrQ t c q) E A := fun A hA => (o.1.mono (fun _ _ => rFr_Q)).trans (by rw [hA]; exact qFr.up1 (by unfold rFrQ; omega))
  have n1 := @nx_ge b n k3
  refine g12025_183 (hA := hA) (hw := S.w) (hK := hK) (hR := hR) (b1 := fun _ => vk) (b2 := fun _ A hA _ _ => (SA A (hA1 A hA)).p) (b3 := fun _ A hA _ _ I5 h5 _ hx B hB _ => ?_) (b4 := fun _ A hA _ _ I5 h5 _ hx B hB _ C hC _ => ?_) (b5 := fun _ A hA _ _ I5 h5 _ _ => (rNx (SA A (hA1 A hA)) h5).st0.p)
    (q1 := fun _ A hA _ hx => ?_) (q2 := fun _ A hA _ hx I5 h5 _ hy B hB _ C hC _ I15 h15 _ => ?_) (q3 := fun _ A hA _ hx I5 h5 _ hy B hB _ C hC _ I18 h18 _ => ?_) (q4 := fun _ A hA _ hx I5 h5 _ hy I21 h21 _ => ?_)
  · have S1 := SA A (hA1 A hA)
    rw [rV_at S1] at hx
    have hl' := hb.lt (k := nx b n k3) (by rw [hx]; decide)
    have o9 := (rNx S1 h5).tr0 ((rNx S1 h5).st0.inc hl' hB)
    rw [o9.st0.2.2.2.2.2.2.1]; exact vI t5 (by omega)
  · have S1 := SA A (hA1 A hA)
    rw [rV_at S1] at hx
    have hl' := hb.lt (k := nx b n k3) (by rw [hx]; decide)
    have o9 := (rNx S1 h5).tr0 ((rNx S1 h5).st0.inc hl' hB)
    exact ⟨_, _, o9.st0.row (by rw [hC, vu_n (by decide)]) (by rw [hC, vu_n (by decide)]) (by rw [hC, vu_n (by decide)]), by omega⟩
  · have S1 := SA A (hA1 A hA)
    have hA' := hA1 A hA
    refine l250 hK hR S1.2.2.2.2.2.2.1 t5 hq9 (by rw [hA', vu_n (by decide)]; exact i78) (fun J hJ => h0 hx J ?_)
    rw [S1.2.2.2.2.2.2.2.2.1] at hJ
    have r : ∀ j, j ≠ 80 → j ≠ 81 → j ≠ 78 → J j = I j := fun j a1 a2 a3 => by rw [hJ, vu_n a3, vu_n a2, hA', vu_n a1]
    refine ⟨(fA A hA').trans ?_, ?_, ?_, ⟨c, c, ?_, ?_, ?_, ?_, ?_, rfl⟩, ?_⟩
    · rw [hJ]
      refine qFr.trans (J := va_up A 81 (upd (A 81) (90 * t + q) (nI (c + cs.length)))) (qFr.up1 (by unfold rFrQ; omega)) ?_
      have : A 78 = (va_up A 81 (upd (A 81) (90 * t + q) (nI (c + cs.length)))) 78 := (vu_n (by decide)).symm
      rw [this]
      exact qFr.up1 (by unfold rFrQ; omega)
    · show rS b n t J k3 (c + (0 + cs.length)) 0
      rw [Nat.zero_add]
      exact S.row (r 73 (by decide) (by decide) (by decide)) (r 74 (by decide) (by decide) (by decide)) (r 77 (by decide) (by decide) (by decide))
    · rw [hJ, vu_s]; unfold upd; rw [if_pos rfl]
    · rw [r 79 (by decide) (by decide) (by decide)]; exact i79
    · rw [hJ, vu_n (by decide), vu_n (by decide), hA', vu_s]; unfold upd; rw [if_pos rfl]
    · rw [hJ, vu_n (by decide), vu_s]; unfold upd; rw [if_pos rfl]
    · show c + cs.length ≤ c + (0 + cs.length); omega
    · rw [r 75 (by decide) (by decide) (by decide), r 76 (by decide) (by decide) (by decide)]; exact o.2.2
    · show c + (0 + cs.length) ≤ k3; omega
  · have hA' := hA1 A hA
    have S1 := SA A hA'
    rw [rV_at S1] at hy
    have hl' := hb.lt (k := nx b n k3) (by rw [hy]; decide)
    have o9 := (rNx S1 h5).tr0 ((rNx S1 h5).st0.inc hl' hB)
    rw [ei, o9.st0.2.2.2.2.2.2.1, nI_c (by omega), o9.st0.2.2.2.2.2.2.2.2.1] at hC
    have S12 : rS b n t C (nx b n k3 + 1) (c + cs.length) 0 := o9.st0.row (by rw [hC, vu_n (by decide)]) (by rw [hC, vu_n (by decide)]) (by rw [hC, vu_n (by decide)])
    obtain ⟨k4, s4, e4, o4⟩ := h15.at S12
    have w := (gS_W hb 6 _ (by omega)).1 _ _ e4
    have S15 := o4.st
    have f15 : qFr (rFrQ t c q) E I15 := (((fA A hA').trans (o9.1.mono (fun _ _ z => rFr_Q (rFr_mono (by omega) _ _ z)))).trans (by rw [hC]; exact qFr.up1 (by unfold rFrQ; omega))).trans (o4.1.mono (fun _ _ z => rFr_Q (rFr_mono (by omega) _ _ z)))
    have c78 : I15 78 t = nI q := by
      rw [o4.1 78 t (by unfold rFr; omega), hC, vu_n (by decide), o9.1 78 t (by unfold rFr; omega), hA', vu_n (by decide)]; exact i78
    refine l250 hK hR S15.2.2.2.2.2.2.1 t5 hq9 c78 (fun J hJ => (h1 hx).1 J k4 (some cs, s4) ?_ ?_)
    · unfold gGuard
      rw [if_pos hy, qBd_S e4]
    · rw [S15.2.2.2.2.2.2.2.2.1] at hJ
      have r : ∀ j, j ≠ 81 → j ≠ 78 → J j = I15 j := fun j a1 a2 => by rw [hJ, vu_n a2, vu_n a1]
      have x79 : I15 79 (90 * t + q) = nI c := by
        rw [o4.1 79 _ (by unfold rFr; omega), hC, vu_n (by decide), o9.1 79 _ (by unfold rFr; omega), hA', vu_n (by decide)]; exact i79
      have x80 : I15 80 (90 * t + q) = nI (c + cs.length) := by
        rw [o4.1 80 _ (by unfold rFr; omega), hC, vu_s]; unfold upd; rw [if_pos rfl]
      have hz : qHaz (I15 75) (I15 76) (340 * t + c) cs := fun j y ej => by
        have hj := (List.getElem?_eq_some_iff.mp ej).1
        rw [o4.1 75 _ (by unfold rFr; omega), o4.1 76 _ (by unfold rFr; omega), hC, vu_n (by decide), vu_n (by decide), o9.1 75 _ (by unfold rFr; omega), o9.1 76 _ (by unfold rFr; omega), hA', vu_n (by decide), vu_n (by decide)]
        exact o.2.2 j y ej
      have hcl : cuL (some cs, s4) = cs.length + s4.length := rfl
      refine ⟨f15.trans ?_, ?_, ?_, ⟨c, c + cs.length, ?_, ?_, ?_, ?_, ?_, rfl, ?_⟩, ?_⟩
      · rw [hJ]
        refine qFr.trans (J := va_up I15 81 (upd (I15 81) (90 * t + q) (nI (c + cs.length + s4.length)))) (qFr.up1 (by unfold rFrQ; omega)) ?_
        have : I15 78 = (va_up I15 81 (upd (I15 81) (90 * t + q) (nI (c + cs.length + s4.length)))) 78 := (vu_n (by decide)).symm
        rw [this]
        exact qFr.up1 (by unfold rFrQ; omega)
      · rw [hcl, ← Nat.add_assoc]
        exact S15.row (r 73 (by decide) (by decide)) (r 74 (by decide) (by decide)) (r 77 (by decide) (by decide))
      · rw [hJ, vu_s]; unfold upd; rw [if_pos rfl]
      · rw [r 79 (by decide) (by decide)]; exact x79
      · rw [r 80 (by decide) (by decide)]; exact x80
      · rw [hJ, vu_n (by decide), vu_s]; unfold upd; rw [if_pos rfl]
      · rw [hcl]; show c + cs.length + s4.length ≤ c + (cs.length + s4.length); omega
      · rw [r 75 (by decide) (by decide), r 76 (by decide) (by decide)]
        exact o4.2.2
      · rw [r 75 (by decide) (by decide), r 76 (by decide) (by decide)]; exact hz
      · rw [hcl]; omega
  · have hA' := hA1 A hA
    have S1 := SA A hA'
    rw [rV_at S1] at hy
    have hl' := hb.lt (k := nx b n k3) (by rw [hy]; decide)
    have o9 := (rNx S1 h5).tr0 ((rNx S1 h5).st0.inc hl' hB)
    rw [ei, o9.st0.2.2.2.2.2.2.1, nI_c (by omega), o9.st0.2.2.2.2.2.2.2.2.1] at hC
    have S12 : rS b n t C (nx b n k3 + 1) (c + cs.length) 0 := o9.st0.row (by rw [hC, vu_n (by decide)]) (by rw [hC, vu_n (by decide)]) (by rw [hC, vu_n (by decide)])
    obtain ⟨k4, e4, o4⟩ := h18.at S12
    have f18 : qFr (rFrC t) E I18 := ((((fA A hA').trans (o9.1.mono (fun _ _ z => rFr_Q (rFr_mono (by omega) _ _ z)))).trans (by rw [hC]; exact qFr.up1 (by unfold rFrQ; omega))).mono (fun _ _ => rFrQ_C hq9)).trans (o4.1.mono (fun _ _ => rFr_C))
    have c78 : I18 78 t = nI q := by
      rw [o4.1 78 t (by unfold rFr; omega), hC, vu_n (by decide), o9.1 78 t (by unfold rFr; omega), hA', vu_n (by decide)]; exact i78
    have c14 : I18 73 14 = nI t := by rw [o4.1 73 14 (by unfold rFr; omega)]; exact S12.2.2.2.2.2.2.1
    refine l250 hK hR c14 t5 hq9 c78 (fun J hJ => (h1 hx).2 J k4 ?_ ⟨f18.trans ?_, ?_, o4.2.2.1⟩)
    · unfold gGuard
      rw [if_pos hy, qBd_N e4]
    · rw [hJ]
      refine qFr.trans (J := va_up I18 81 (upd (I18 81) (90 * t + q) (I18 77 t))) (qFr.up1 (by unfold rFrC; omega)) ?_
      have : I18 78 = (va_up I18 81 (upd (I18 81) (90 * t + q) (I18 77 t))) 78 := (vu_n (by decide)).symm
      rw [this]
      exact qFr.up1 (by unfold rFrC; omega)
    · rw [hJ, vu_n (by decide), vu_n (by decide)]; exact o4.2.1
  · have hA' := hA1 A hA
    have S1 := SA A hA'
    rw [rV_at S1] at hy
    have g := h21.at (rNx S1 h5).st0
    refine (h1 hx).2 I21 (nx b n k3) ?_ (rCF.fr (((fA A hA').mono (fun _ _ => rFrQ_C hq9)).trans ((rNx S1 h5).1.mono (fun _ _ => rFr_C))) (rF_CF g))
    unfold gGuard
    rw [if_neg hy]
theorem rr12025 {q k c : Nat} (hK : qLay K sz) (hR : qRef R) (pD : RSp (d + 3) 12024 K L R sz b n t 0 (gCond b n (gUnit b n 6))) (pA : RSp (d + 3) 12018 K L R sz b n t 0 (gSum b n (gAtom b n 6))) (pB : RSp (d + 3) 12020 K L R sz b n t 0 (gCmp b n 6)) (pM : RSp (d + 3) 12022 K L R sz b n t 0 (gLp b n cAnd (gUnit b n 6) 160)) (pN : RSp (d + 3) 12023 K L R sz b n t 0 (gLp b n cOr (gTruth b n (gUnit b n 6)) 160)) (S : rS b n t I k c 0) (hc : c ≤ k) (hq9 : q < 90) (h78 : I 78 t = nI q) (hok : ∀ J k' x, gCl b n k = (k', some x) → rCO b n t I c q k' x J → Q none (K, J, L, R, sz)) (hno : ∀ J k', gCl b n k = (k', none) → rCF t I k' J → Q none (K, J, L, R, sz)) : X (d + 4) 0 0 12025 0 0 0 (qent (qml 12025) [.ref 73]) [] (K, I, L, R, sz) Q := by
  have hb := S.tb
  have hv := rV_at S
  have n0 := S.n160
  have t5 := S.t5
  have n1 := @nx_ge b n k
  have n2 := nx_le hb S.kn
  have hx1 : 90 * (I 73 14) + I 78 ((I 73 14).toNatClampNeg) = nI (90 * t + q) := by
    rw [S.2.2.2.2.2.2.1, nI_c (by omega), h78, show (90 : Int32) = nI 90 from rfl, pk_mul, nI_add]
  have oy : ∀ I1 A, rOk b n t (gNx b n) I I1 → rV b n I = 121 → A = va_up I1 73 (upd (I1 73) 3 ((I1 73 3) + 1)) → nx b n k < n ∧ rO b n t I c 0 (nx b n k + 1) [] A := fun I1 A h1 hx hA => by
    have hl := hb.lt (k := nx b n k) (by rw [← hv, hx]; decide)
    exact ⟨hl, (rNx S h1).tr0 ((rNx S h1).st0.inc hl hA)⟩
  refine e12025 (hw := S.w) (hK := hK) (hR := hR) (b1 := fun _ => by rw [S.2.2.2.2.2.2.1]; exact vI t5 (by omega)) (b2 := fun _ => S.p) (b3 := fun _ I1 h1 _ hx A hA _ => (oy I1 A h1 hx hA).2.st0.p) (b4 := fun _ I1 h1 _ hx A hA _ I8 h8 _ _ => (rNx (oy I1 A h1 hx hA).2.st0 h8).st0.p) (b5 := fun _ I1 h1 _ _ => (rNx S h1).st0.p)
    (q1 := fun _ I1 h1 _ hx A hA _ I8 h8 _ hy B hB _ => ?_) (q2 := fun _ I1 h1 _ hx A hA _ I8 h8 _ hy C hC _ D hD _ => ?_) (q3 := fun _ I1 h1 _ hx C hC _ D hD _ E hE _ => ?_)
  · obtain ⟨hl, oA⟩ := oy I1 A h1 hx hA
    rw [rV_at oA.st0] at hy
    have g3 := @nx_ge b n (nx b n k + 1)
    have hl2 := hb.lt (k := nx b n (nx b n k + 1)) (by rw [hy]; decide)
    have oB := (oA.tr0 (rNx oA.st0 h8)).tr0 ((rNx oA.st0 h8).st0.inc hl2 hB)
    have SB := oB.st0
    rw [hv] at hx
    have hcl : gCl b n k = gBody b n (nx b n (nx b n k + 1) + 1) := by unfold gCl; rw [if_pos hx, if_pos hy]
    rw [hcl] at hok hno
    rw [hx1]
    generalize hk2 : nx b n (nx b n k + 1) + 1 = k2 at *
    have hk2n : k2 ≤ n := by omega
    have b78 : B 78 t = nI q := by rw [oB.1 78 t (by unfold rFr; omega)]; exact h78
    have ei : (nI (90 * t + q)).toNatClampNeg = 90 * t + q := nI_c (by omega)
    have hE : ∀ E, E = va_up B 79 (upd (B 79) (nI (90 * t + q)).toNatClampNeg (B 77 ((B 73 14).toNatClampNeg))) → E = va_up B 79 (upd (B 79) (90 * t + q) (nI c)) ∧ rS b n t E k2 c 0 ∧ E 78 t = nI q ∧ E 79 (90 * t + q) = nI c ∧ qFr (rFrQ t c q) I E := fun E hE => by
      rw [ei, SB.2.2.2.2.2.2.1, nI_c (by omega), SB.2.2.2.2.2.2.2.2.1] at hE
      refine ⟨hE, SB.row (by rw [hE, vu_n (by decide)]) (by rw [hE, vu_n (by decide)]) (by rw [hE, vu_n (by decide)]), by rw [hE, vu_n (by decide)]; exact b78, by rw [hE, vu_s]; unfold upd; rw [if_pos rfl], (oB.1.mono (fun _ _ => rFr_Q)).trans (by rw [hE]; exact qFr.up1 (by unfold rFrQ; omega))⟩
    have hCO : ∀ E, qFr (rFrQ t c q) I E → ∀ k' x J, rCO b n t E c q k' x J → rCO b n t I c q k' x J := fun E f k' x J h => ⟨f.trans h.1, h.2⟩
    have hCF : ∀ E, qFr (rFrQ t c q) I E → ∀ k' J, rCF t E k' J → rCF t I k' J := fun E f k' J h => rCF.fr (f.mono (fun _ _ => rFrQ_C hq9)) h
    have m2 := nx_le hb hk2n
    have m1 := @nx_ge b n k2
    -- behind the condition, behind a fault
    have bad : ∀ E, E = va_up B 79 (upd (B 79) (nI (90 * t + q)).toNatClampNeg (B 77 ((B 73 14).toNatClampNeg))) → ∀ G kf x2, rF t E k2 c kf G → gBody b n k2 = (kf, none) → X (d + 4) 0 0 12025 0 0 183 [some (.ref 73), some (.int (nI (90 * t + q))), some (.int x2)] [] (K, G, L, R, sz) Q := fun E hE' G kf x2 h hg => by
      obtain ⟨e1, e2, e3, e4, e5⟩ := hE E hE'
      exact l183n hK hR e2.2.2.2.2.2.2.1 t5 hq9 e3 h (fun J hJ => hno J kf hg (hCF E e5 kf J hJ))
    have good1 : ∀ E, E = va_up B 79 (upd (B 79) (nI (90 * t + q)).toNatClampNeg (B 77 ((B 73 14).toNatClampNeg))) → ∀ G k3 cs, rO b n t E c 0 k3 cs G → c + cs.length ≤ k3 → gBody b n k2 = gGuard b n k3 cs → X (d + 4) 0 0 12025 0 0 183 [some (.ref 73), some (.int (nI (90 * t + q))), some (.int 1)] [] (K, G, L, R, sz) Q := fun E hE' G k3 cs o hl hg => by
      obtain ⟨e1, e2, e3, e4, e5⟩ := hE E hE'
      exact l183 hK hR pA hq9 e3 e4 o hl (fun q => absurd q (by decide)) (fun _ => ⟨fun J k' x g h => hok J k' x (by rw [hg]; exact g) (hCO E e5 k' x J h), fun J k' g h => hno J k' (by rw [hg]; exact g) (hCF E e5 k' J h)⟩)
    have good0 : ∀ E, E = va_up B 79 (upd (B 79) (nI (90 * t + q)).toNatClampNeg (B 77 ((B 73 14).toNatClampNeg))) → ∀ G k3 cs, rO b n t E c 0 k3 cs G → c + cs.length ≤ k3 → gBody b n k2 = (k3, some (none, cs)) → X (d + 4) 0 0 12025 0 0 183 [some (.ref 73), some (.int (nI (90 * t + q))), some (.int 0)] [] (K, G, L, R, sz) Q := fun E hE' G k3 cs o hl hg => by
      obtain ⟨e1, e2, e3, e4, e5⟩ := hE E hE'
      exact l183 hK hR pA hq9 e3 e4 o hl (fun _ J h => hok J k3 (none, cs) hg (hCO E e5 k3 _ J h)) (fun q => absurd rfl q)
    have hcond : (b (nx b n k2) = 33 ∨ b (nx b n k2) = 40) → gBody b n k2 = qBd (gCond b n (gUnit b n 6) (nx b n k2)) (gGuard b n) := fun h => by unfold gBody; rw [if_pos h]
    have hsum : ¬ b (nx b n k2) = 33 → ¬ b (nx b n k2) = 40 → gBody b n k2 = qBd (gSum b n (gAtom b n 6) (nx b n k2)) (fun k1 s => if cCmp (b (nx b n k1)) = true then qBd (gMore b n (nx b n k1)) (fun k2 c => gGuard b n k2 (s ++ c)) else (nx b n k1, some (none, s))) := fun h1 h2 => by
      unfold gBody; rw [if_neg (fun q => by rcases q with q | q; exact h1 q; exact h2 q)]
    have cyes : ∀ E, E = va_up B 79 (upd (B 79) (nI (90 * t + q)).toNatClampNeg (B 77 ((B 73 14).toNatClampNeg))) → (b (nx b n k2) = 33 ∨ b (nx b n k2) = 40) → ∀ I4, rO b n t E c 0 (nx b n k2) [] I4 → (∀ G, rOk b n t (gCond b n (gUnit b n 6)) I4 G → X (d + 4) 0 0 12025 0 0 183 [some (.ref 73), some (.int (nI (90 * t + q))), some (.int 1)] [] (K, G, L, R, sz) Q) ∧ (∀ G, rNo b n t (gCond b n (gUnit b n 6)) I4 G → X (d + 4) 0 0 12025 0 0 183 [some (.ref 73), some (.int (nI (90 * t + q))), some (.int 1)] [] (K, G, L, R, sz) Q) := fun E hE' hz I4 o4 => by
      refine ⟨fun G h => ?_, fun G h => ?_⟩
      · obtain ⟨k3, cs, e3, o3⟩ := h.at o4.st0
        have w := (gCond_W hb (gUnit_W hb 6) _ m2).1 _ _ e3
        exact good1 E hE' G k3 cs (o4.tr0 o3) (by omega) (by rw [hcond hz, qBd_S e3])
      · obtain ⟨k3, e3, o3⟩ := h.at o4.st0
        exact bad E hE' G k3 1 (o3.fr o4.1 (Nat.le_refl _) (by omega)) (by rw [hcond hz, qBd_N e3])
    have o14 : ∀ E, E = va_up B 79 (upd (B 79) (nI (90 * t + q)).toNatClampNeg (B 77 ((B 73 14).toNatClampNeg))) → ∀ I4 I14, rOk b n t (gNx b n) E I4 → rOk b n t (gNx b n) I4 I14 → ∃ o : rO b n t E c 0 (nx b n k2) [] I14, rV b n I4 = b (nx b n k2) := fun E hE' I4 I14 h4 h14 => by
      have o4 := rNx (hE E hE').2.1 h4
      have o := o4.tr0 (rNx o4.st0 h14)
      rw [nx_nx hb hk2n] at o
      exact ⟨o, by rw [rV_at o4.st0, nx_nx hb hk2n]⟩
    have hs2 : ∀ E, E = va_up B 79 (upd (B 79) (nI (90 * t + q)).toNatClampNeg (B 77 ((B 73 14).toNatClampNeg))) → ∀ I4, rOk b n t (gNx b n) E I4 → ¬ rV b n E = 33 → ¬ rV b n I4 = 40 → gBody b n k2 = qBd (gSum b n (gAtom b n 6) (nx b n k2)) (fun k1 s => if cCmp (b (nx b n k1)) = true then qBd (gMore b n (nx b n k1)) (fun k2 c => gGuard b n k2 (s ++ c)) else (nx b n k1, some (none, s))) := fun E hE' I4 h4 h1 h2 => by
      have o4 := rNx (hE E hE').2.1 h4
      rw [rV_at (hE E hE').2.1] at h1
      rw [rV_at o4.st0, nx_nx hb hk2n] at h2
      exact hsum h1 h2
    have o21 : ∀ E, E = va_up B 79 (upd (B 79) (nI (90 * t + q)).toNatClampNeg (B 77 ((B 73 14).toNatClampNeg))) → ∀ I4 I14 I18 I21, rOk b n t (gNx b n) E I4 → rOk b n t (gNx b n) I4 I14 → rOk b n t (gSum b n (gAtom b n 6)) I14 I18 → rOk b n t (gNx b n) I18 I21 → ∃ k1 c1, gSum b n (gAtom b n 6) (nx b n k2) = (k1, some c1) ∧ c + c1.length ≤ k1 ∧ k1 ≤ n ∧ rV b n I18 = b (nx b n k1) ∧ rO b n t E c 0 (nx b n k1) c1 I21 := fun E hE' I4 I14 I18 I21 h4 h14 h18 h21 => by
      obtain ⟨o, -⟩ := o14 E hE' I4 I14 h4 h14
      obtain ⟨k1, c1, e1, o1⟩ := h18.at o.st0
      have w := (gS_W hb 6 _ m2).1 _ _ e1
      exact ⟨k1, c1, e1, by omega, w.2.1, rV_at o1.st, o.tr0 (o1.t0 (rNx o1.st h21))⟩
    have o25l : ∀ {k1 k2' : Nat} {c1 c2 : List Int32}, gSum b n (gAtom b n 6) (nx b n k2) = (k1, some c1) → gCmp b n 6 (nx b n k1) = (k2', some c2) → k2 + (c1 ++ c2).length ≤ k2' := fun {k1 k2' c1 c2} e1 e2 => by
      have w := (gS_W hb 6 _ m2).1 _ _ e1
      have w2 := (gCmp_W hb 6 _ (nx_le hb w.2.1)).1 _ _ e2
      have n3 := @nx_ge b n k1
      rw [List.length_append]; omega
    have o25 : ∀ E, E = va_up B 79 (upd (B 79) (nI (90 * t + q)).toNatClampNeg (B 77 ((B 73 14).toNatClampNeg))) → ∀ I4 I14 I18 I21 I25, rOk b n t (gNx b n) E I4 → rOk b n t (gNx b n) I4 I14 → rOk b n t (gSum b n (gAtom b n 6)) I14 I18 → rOk b n t (gNx b n) I18 I21 → cCmp (rV b n I18) = true → rOk b n t (gCmp b n 6) I21 I25 → ∃ k1 c1 k2' c2, gSum b n (gAtom b n 6) (nx b n k2) = (k1, some c1) ∧ cCmp (b (nx b n k1)) = true ∧ gCmp b n 6 (nx b n k1) = (k2', some c2) ∧ c + (c1 ++ c2).length ≤ k2' ∧ k2' ≤ n ∧ rO b n t E c 0 k2' (c1 ++ c2) I25 := fun E hE' I4 I14 I18 I21 I25 h4 h14 h18 h21 hx h25 => by
      obtain ⟨k1, c1, e1, a1, a2, ev, o1⟩ := o21 E hE' I4 I14 I18 I21 h4 h14 h18 h21
      obtain ⟨k2', c2, e2, o2⟩ := h25.at o1.st
      have n3 := @nx_ge b n k1
      have w := (gCmp_W hb 6 _ (nx_le hb a2)).1 _ _ e2
      exact ⟨k1, c1, k2', c2, e1, by rw [← ev]; exact hx, e2, by rw [List.length_append]; omega, w.2.1, o1.tr o2⟩
    refine g12025_89 (hD := pD) (hA := pA) (hB := pB) (hM := pM) (hN := pN) (hw := SB.w) (hK := hK) (hR := hR) (b1 := fun _ => by rw [SB.2.2.2.2.2.2.1]; exact vI t5 (by omega)) (b2 := fun _ => vI (by omega) (by omega)) (b3 := fun _ E hE' _ => (hE E hE').2.1.p)
      (b4 := fun _ E hE' _ I4 h4 _ _ => ⟨_, c, (rNx (hE E hE').2.1 h4).st0, by omega⟩) (b5 := fun _ E hE' _ I4 h4 _ _ => (rNx (hE E hE').2.1 h4).st0.p) (b6 := fun _ E hE' _ I4 h4 _ _ I14 h14 _ _ => ⟨_, c, (rNx (rNx (hE E hE').2.1 h4).st0 h14).st0, by have := @nx_ge b n (nx b n k2); omega⟩) (b7 := fun _ E hE' _ I4 h4 _ _ I14 h14 _ _ I18 h18 _ => ?_) (b8 := fun _ E hE' _ I4 h4 _ _ I14 h14 _ _ I18 h18 _ I21 h21 _ _ => ?_) (b9 := fun _ E hE' _ I4 h4 _ hy1 I14 h14 _ hy2 I18 h18 _ I21 h21 _ hz I25 h25 _ => ?_) (b10 := fun _ E hE' _ I4 h4 _ hy1 I14 h14 _ hy2 I18 h18 _ I21 h21 _ hz I25 h25 _ I28 h28 _ => ?_) (b11 := fun _ E hE' _ I4 h4 _ _ I14 h14 _ _ => ⟨_, c, (rNx (rNx (hE E hE').2.1 h4).st0 h14).st0, by have := @nx_ge b n (nx b n k2); omega⟩)
      (q1 := fun _ E hE' _ I4 h4 _ hz I8 h8 _ => (cyes E hE' (Or.inl (by rw [← rV_at (hE E hE').2.1]; exact hz)) I4 (rNx (hE E hE').2.1 h4)).1 I8 h8) (q2 := fun _ E hE' _ I4 h4 _ hz I8 h8 _ => (cyes E hE' (Or.inl (by rw [← rV_at (hE E hE').2.1]; exact hz)) I4 (rNx (hE E hE').2.1 h4)).2 I8 h8)
      (q3 := fun _ E hE' _ I4 h4 _ hy1 I14 h14 _ hy2 I18 h18 _ I21 h21 _ hz I25 h25 _ I28 h28 _ I34 h34 _ => ?_) (q4 := fun _ E hE' _ I4 h4 _ hy1 I14 h14 _ hy2 I18 h18 _ I21 h21 _ hz I25 h25 _ I28 h28 _ I37 h37 _ => ?_) (q5 := fun _ E hE' _ I4 h4 _ hy1 I14 h14 _ hy2 I18 h18 _ I21 h21 _ hz I25 h25 _ I31 h31 _ => ?_) (q6 := fun _ E hE' _ I4 h4 _ hy1 I14 h14 _ hy2 I18 h18 _ I21 h21 _ hz I40 h40 _ => ?_) (q7 := fun _ E hE' _ I4 h4 _ hy1 I14 h14 _ hy2 I18 h18 _ I21 h21 _ hz => ?_) (q8 := fun _ E hE' _ I4 h4 _ hy1 I14 h14 _ hy2 I44 h44 _ => ?_)
      (q9 := fun _ E hE' _ I4 h4 _ hy1 I14 h14 _ hy2 I47 h47 _ => ?_) (q10 := fun _ E hE' _ I4 h4 _ hy1 I14 h14 _ hy2 I47 h47 _ => ?_)
    · exact ((h18.at (o14 E hE' I4 I14 h4 h14).1.st0)).elim (fun k1 ⟨c1, e1, o1⟩ => o1.st.p)
    · obtain ⟨k1, c1, e1, a1, a2, ev, o1⟩ := o21 E hE' I4 I14 I18 I21 h4 h14 h18 h21
      exact ⟨_, _, o1.st, by have := @nx_ge b n k1; omega⟩
    · obtain ⟨k1, c1, k2', c2, e1, ex, e2, l1, l2, o⟩ := o25 E hE' I4 I14 I18 I21 I25 h4 h14 h18 h21 hz h25
      exact ⟨_, _, o.st, l1⟩
    · obtain ⟨k1, c1, k2', c2, e1, ex, e2, l1, l2, o⟩ := o25 E hE' I4 I14 I18 I21 I25 h4 h14 h18 h21 hz h25
      obtain ⟨k3, c3, e3, o3⟩ := h28.at o.st
      have := (gLp_W hb cAnd_n (gUnit_W hb 6) 160 _ l2).1 _ _ e3
      exact ⟨_, _, (o.tr o3).st, by rw [List.length_append]; omega⟩
    · obtain ⟨k1, c1, k2', c2, e1, ex, e2, l1, l2, o⟩ := o25 E hE' I4 I14 I18 I21 I25 h4 h14 h18 h21 hz h25
      obtain ⟨k3, c3, e3, o3⟩ := h28.at o.st
      have w3 := (gLp_W hb cAnd_n (gUnit_W hb 6) 160 _ l2).1 _ _ e3
      obtain ⟨k4, c4, e4, o4⟩ := h34.at (o.tr o3).st
      have w4 := (gLp_W hb cOr_n (gTruth_W hb (gUnit_W hb 6)) 160 _ w3.2.1).1 _ _ e4
      have ea : c1 ++ (c2 ++ (c3 ++ c4)) = c1 ++ c2 ++ c3 ++ c4 := by simp only [List.append_assoc]
      refine good1 E hE' I34 k4 (c1 ++ (c2 ++ (c3 ++ c4))) (by rw [ea]; exact (o.tr o3).tr o4) (by rw [ea, List.length_append, List.length_append]; omega) ?_
      rw [hs2 E hE' I4 h4 hy1 hy2, qBd_S e1, if_pos ex, qBd_S (k := k4) (a := c2 ++ (c3 ++ c4))]
      show gSq (gCmp b n 6) (gSq (gLp b n cAnd (gUnit b n 6) 160) (gLp b n cOr (gTruth b n (gUnit b n 6)) 160)) (nx b n k1) = _
      unfold gSq
      rw [qBd_S e2, qBd_S e3, qBd_S e4]; rfl
    · obtain ⟨k1, c1, k2', c2, e1, ex, e2, l1, l2, o⟩ := o25 E hE' I4 I14 I18 I21 I25 h4 h14 h18 h21 hz h25
      obtain ⟨k3, c3, e3, o3⟩ := h28.at o.st
      have w3 := (gLp_W hb cAnd_n (gUnit_W hb 6) 160 _ l2).1 _ _ e3
      obtain ⟨k4, e4, o4⟩ := h37.at (o.tr o3).st
      refine bad E hE' I37 k4 1 ((o.tr o3).trF (k := k2) o4 (by rw [List.length_append]; have := l1; have := o25l e1 e2; omega)) ?_
      rw [hs2 E hE' I4 h4 hy1 hy2, qBd_S e1, if_pos ex, qBd_N]
      show gSq (gCmp b n 6) (gSq (gLp b n cAnd (gUnit b n 6) 160) (gLp b n cOr (gTruth b n (gUnit b n 6)) 160)) (nx b n k1) = _
      unfold gSq
      rw [qBd_S e2, qBd_S e3, qBd_N e4]; rfl
    · obtain ⟨k1, c1, k2', c2, e1, ex, e2, l1, l2, o⟩ := o25 E hE' I4 I14 I18 I21 I25 h4 h14 h18 h21 hz h25
      obtain ⟨k3, e3, o3⟩ := h31.at o.st
      refine bad E hE' I31 k3 1 (o.trF (k := k2) o3 (by have := o25l e1 e2; omega)) ?_
      rw [hs2 E hE' I4 h4 hy1 hy2, qBd_S e1, if_pos ex, qBd_N]
      show gSq (gCmp b n 6) (gSq (gLp b n cAnd (gUnit b n 6) 160) (gLp b n cOr (gTruth b n (gUnit b n 6)) 160)) (nx b n k1) = _
      unfold gSq
      rw [qBd_S e2, qBd_N e3]; rfl
    · obtain ⟨k1, c1, e1, a1, a2, ev, o1⟩ := o21 E hE' I4 I14 I18 I21 h4 h14 h18 h21
      obtain ⟨k3, e3, o3⟩ := h40.at o1.st
      have n3 := @nx_ge b n k1
      have w := (gS_W hb 6 _ m2).1 _ _ e1
      refine bad E hE' I40 k3 1 (o1.trF (k := k2) o3 (by omega)) ?_
      rw [hs2 E hE' I4 h4 hy1 hy2, qBd_S e1, if_pos (by rw [← ev]; exact hz), qBd_N]
      show gSq (gCmp b n 6) (gSq (gLp b n cAnd (gUnit b n 6) 160) (gLp b n cOr (gTruth b n (gUnit b n 6)) 160)) (nx b n k1) = _
      unfold gSq
      rw [qBd_N e3]
    · obtain ⟨k1, c1, e1, a1, a2, ev, o1⟩ := o21 E hE' I4 I14 I18 I21 h4 h14 h18 h21
      have n3 := @nx_ge b n k1
      refine good0 E hE' I21 (nx b n k1) c1 o1 (by omega) ?_
      rw [hs2 E hE' I4 h4 hy1 hy2, qBd_S e1, if_neg (by rw [← ev]; exact hz)]
    · have o := (o14 E hE' I4 I14 h4 h14).1
      obtain ⟨k3, e3, o3⟩ := h44.at o.st0
      refine bad E hE' I44 k3 0 (o3.fr o.1 (Nat.le_refl _) (by omega)) ?_
      rw [hs2 E hE' I4 h4 hy1 hy2, qBd_N e3]
    · have o := (o14 E hE' I4 I14 h4 h14).1
      exact (cyes E hE' (Or.inr (by rw [← (o14 E hE' I4 I14 h4 h14).2]; exact hy2)) I14 o).1 I47 h47
    · have o := (o14 E hE' I4 I14 h4 h14).1
      exact (cyes E hE' (Or.inr (by rw [← (o14 E hE' I4 I14 h4 h14).2]; exact hy2)) I14 o).2 I47 h47
  · obtain ⟨hl, oA⟩ := oy I1 A h1 hx hA
    rw [rV_at oA.st0] at hy
    rw [hv] at hx
    have g3 := @nx_ge b n (nx b n k + 1)
    have g := ((hC.at (rNx oA.st0 h8).st0)).fr (k := k) (oA.1.trans (rNx oA.st0 h8).1) (Nat.le_refl _) (by omega)
    refine hno D _ (by unfold gCl; rw [if_pos hx, if_neg hy]) (rF_CF (rF_c3 g (fun j i hn => ?_)))
    rw [hD]
    by_cases c1 : j = 73
    · subst c1
      rw [vu_s]; unfold upd
      rw [if_neg (fun q => hn ⟨rfl, Or.inl q⟩)]
    · rw [vu_n c1]
  · rw [hv] at hx
    have g := (hC.at (rNx S h1).st0).fr (k := k) (rNx S h1).1 (Nat.le_refl _) (by omega)
    refine hno E _ (by unfold gCl; rw [if_neg hx]) (rF_CF (rF_c3 g (fun j i hn => ?_)))
    rw [hE, hD]
    by_cases c1 : j = 73
    · subst c1
      rw [vu_s]; unfold upd
      rw [if_neg (fun q => hn ⟨rfl, Or.inl q⟩), vu_s, if_neg (fun q => hn ⟨rfl, Or.inl q⟩)]
    · rw [vu_n c1, vu_n c1]

end L37b
