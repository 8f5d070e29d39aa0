/-! what holds between two calls: its pieces, moved apart -/
def kpC (j k : Nat) : Prop := (j = 0 ∧ k ≤ 8) ∨ (22 ≤ j ∧ j ≤ 55) ∨ (j = 73 ∧ (k = 13 ∨ (23 ≤ k ∧ k ≤ 34))) ∨ (75 ≤ j ∧ j ≤ 76 ∧ k < 1360) ∨ (77 ≤ j ∧ j ≤ 78 ∧ k < 4) ∨ (79 ≤ j ∧ j ≤ 81 ∧ k < 360) ∨ (85 ≤ j ∧ j ≤ 88) ∨ j = 99
/-- of the laws alone -/
def kpL (j k : Nat) : Prop := (39 ≤ j ∧ j ≤ 50 ∧ ((j - 39) % 3 = 1 ∨ ((j - 39) % 3 = 0 ∧ k ≠ 3))) ∨ (75 ≤ j ∧ j ≤ 76 ∧ k < 1360) ∨ (77 ≤ j ∧ j ≤ 78 ∧ k < 4) ∨ (79 ≤ j ∧ j ≤ 81 ∧ k < 360)
section L70
variable {I J : Nat → Nat → Int32} {p : qPa}
theorem qClR_tr {n c : Nat} {x : qCls} (hf : ∀ j k, kpL j k → J j k = I j k) (hn : n < 4) (hc : c < 90) (h : qClR I n c x) : qClR J n c x := by
  obtain ⟨a, b, e1, e2, e3, e4, e5, e6⟩ := h
  obtain ⟨ts, sc, sv⟩ := x
  have hh : ∀ (q : Nat) (l : List Int32), q + l.length ≤ 340 → qHaz (I 75) (I 76) (340 * n + q) l → qHaz (J 75) (J 76) (340 * n + q) l := by
    intro q l hl hz j y hj
    have hlt := (List.getElem?_eq_some_iff.mp hj).1
    rw [hf 75 _ (by unfold kpL; omega), hf 76 _ (by unfold kpL; omega)]
    exact hz j y hj
  replace e4 : b + sc.length ≤ 340 := e4
  refine ⟨a, b, ?_, ?_, ?_, e4, hh _ _ e4 e5, ?_⟩
  · rw [hf 79 _ (by unfold kpL; omega)]; exact e1
  · rw [hf 80 _ (by unfold kpL; omega)]; exact e2
  · rw [hf 81 _ (by unfold kpL; omega)]; exact e3
  · cases ts with
    | none => exact e6
    | some t =>
      obtain ⟨tc, tv⟩ := t
      obtain ⟨e7, e8⟩ := (show b = a + tc.length ∧ qHaz (I 75) (I 76) (340 * n + a) tc from e6)
      exact ⟨e7, hh _ _ (by omega) e8⟩
theorem qLawR_tr {n : Nat} {cs : List qCls} (hf : ∀ j k, kpL j k → J j k = I j k) (hn : n < 4) (h : qLawR I n cs) : qLawR J n cs := by
  obtain ⟨g1, g2, g3, g4⟩ := h
  refine ⟨?_, g2, ?_, g4⟩
  · rw [hf 78 _ (by unfold kpL; omega)]; exact g1
  · intro c x hx
    have := (List.getElem?_eq_some_iff.mp hx).1
    exact qClR_tr hf hn (by omega) (g3 c x hx)
theorem qLawC_tr {n : Nat} {cs : List qCls} (hf : ∀ j k, kpL j k → J j k = I j k) (hn : n < 4) (h : qLawC I (39 + 3 * n) cs) : qLawC J (39 + 3 * n) cs := by
  obtain ⟨g1, g2, g3, g4⟩ := h
  have e : J (39 + 3 * n + 1) = I (39 + 3 * n + 1) := funext fun k => hf _ _ (by unfold kpL; omega)
  refine ⟨?_, g2, by rw [e]; exact g3, g4⟩
  rw [hf _ _ (by unfold kpL; omega)]; exact g1
theorem kpL_C (hf : ∀ j k, kpC j k → J j k = I j k) : ∀ j k, kpL j k → J j k = I j k := fun j k h => hf j k (by unfold kpL at h; unfold kpC; omega)
theorem CI_cr (hf : ∀ j k, kpC j k → J j k = I j k) (c : CI I p) : CI J p := by
  have hrow : ∀ j, 22 ≤ j → j ≤ 55 → J j = I j := fun j h1 h2 => funext fun k => hf j k (by unfold kpC; omega)
  have h0 : ∀ k, k ≤ 8 → J 0 k = I 0 k := fun k hk => hf 0 k (by unfold kpC; omega)
  let I' : Nat → Nat → Int32 := va_up I 0 (J 0)
  have cI' : CI I' p := by
    obtain ⟨c1, c2, c3, c4, c5, c6⟩ := c
    refine ⟨?_, ?_, ?_, ?_, ?_, ?_⟩
    · unfold vHs at c1 ⊢
      obtain ⟨q1, ⟨b1, b2, b3, b4⟩, q3, q4, q5⟩ := c1
      exact ⟨q1, ⟨b1, b2, b3, b4⟩, fun s hs => by rw [show I' (24 + s) = I (24 + s) from vu_n (by omega)]; exact q3 s hs, fun m hm => by rw [show I' (30 + m) = I (30 + m) from vu_n (by omega)]; exact q4 m hm, fun t ht => by rw [show I' (34 + t) = I (34 + t) from vu_n (by omega)]; exact q5 t ht⟩
    · exact c2
    · obtain ⟨j, j1, j2, j3⟩ := c3
      refine ⟨j, j1, j2, fun i hi => ?_⟩
      have hb : qBr I' (I 53 i).toNatClampNeg = qBr I (I 53 i).toNatClampNeg := by unfold qBr; rw [show I' (24 + (I 53 i).toNatClampNeg) = I (24 + (I 53 i).toNatClampNeg) from vu_n (by omega)]
      show ((I 55 i = 0 ∨ I 55 i = 1) ∧ (¬ I 55 i = 0 ↔ qCnt (I 52) (I 53) (I 54) (qBr I') (pH p) (-1) i))
      rw [qCnt_br hb]
      exact j3 i hi
    · unfold qHw at c4 ⊢
      cases hw : pW p with
      | none =>
        rw [hw] at c4
        show J 0 6 = -1
        rw [h0 6 (by omega)]; exact c4
      | some j =>
        rw [hw] at c4
        show J 0 6 = nI j ∧ j < 4 ∧ ∃ k, j < k ∧ k ≤ 4 ∧ J 0 5 = nI k
        rw [h0 6 (by omega), h0 5 (by omega)]; exact c4
    · rcases c5 with q | ⟨j, cs, g1, g2, g3, g4⟩
      · exact Or.inl q
      · refine Or.inr ⟨j, cs, g1, g2, g3, ?_⟩
        unfold qLawC at g4 ⊢
        rw [show I' (39 + 3 * j) = I (39 + 3 * j) from vu_n (by omega), show I' (39 + 3 * j + 1) = I (39 + 3 * j + 1) from vu_n (by omega)]
        exact g4
    · show qIn 1000 (J 0 7)
      rw [h0 7 (by omega)]; exact c6
  exact CI_tr (I := I') rfl (fun j h1 h2 => by rw [hrow j h1 h2]; exact (vu_n (by omega)).symm) cI'
theorem RI_cr (hf : ∀ j k, kpC j k → J j k = I j k) (r : RI I p) : RI J p := by
  obtain ⟨⟨a1, a2, a3, a4⟩, ⟨b1, b2, b3⟩, ⟨c1, c2, c3, c4⟩, r4, ⟨e1, e2, e3, e4⟩, r6⟩ := r
  have hrow : ∀ j, ((22 ≤ j ∧ j ≤ 55) ∨ (85 ≤ j ∧ j ≤ 88)) → J j = I j := fun j h1 => funext fun k => hf j k (by unfold kpC; omega)
  have h0 : ∀ k, k ≤ 8 → J 0 k = I 0 k := fun k hk => hf 0 k (by unfold kpC; omega)
  have h73 : ∀ k, (k = 13 ∨ (23 ≤ k ∧ k ≤ 34)) → J 73 k = I 73 k := fun k hk => hf 73 k (by unfold kpC; omega)
  refine ⟨⟨by rw [h73 23 (by omega), hrow 22 (by omega)]; exact a1, by rw [h73 24 (by omega), hrow 22 (by omega)]; exact a2, by rw [h73 25 (by omega), hrow 22 (by omega)]; exact a3, by rw [h73 26 (by omega), hrow 22 (by omega)]; exact a4⟩, ⟨?_, ?_, ?_⟩, ⟨by rw [h73 33 (by omega), hrow 51 (by omega)]; exact c1, by rw [hrow 86 (by omega), hrow 52 (by omega)]; exact c2, by rw [hrow 87 (by omega), hrow 53 (by omega)]; exact c3, by rw [hrow 88 (by omega), hrow 54 (by omega)]; exact c4⟩, ?_, ⟨by rw [h73 28 (by omega), h0 7 (by omega)]; exact e1, by rw [h73 27 (by omega), h0 6 (by omega)]; exact e2, by rw [h73 29 (by omega), h0 8 (by omega)]; exact e3, by rw [h73 13 (by omega), h0 5 (by omega)]; exact e4⟩, by rw [h73 34 (by omega)]; exact r6⟩
  · intro s k hs hs2 hk; rw [hrow 85 (by omega), hrow (24 + s) (by omega)]; exact b1 s k hs hs2 hk
  · intro m hm hm2; rw [hrow 85 (by omega), hrow (30 + m) (by omega)]; exact b2 m hm hm2
  · intro t k ht ht2 hk; rw [hrow 85 (by omega), hrow (34 + t) (by omega)]; exact b3 t k ht ht2 hk
  · rcases r4 with ⟨q1, q2⟩ | ⟨n, cs, q1, q2, q3, q4⟩
    · exact Or.inl ⟨by rw [h73 27 (by omega)]; exact q1, q2⟩
    · exact Or.inr ⟨n, cs, by rw [h73 27 (by omega)]; exact q1, q2, q3, qLawR_tr (kpL_C hf) q3 q4⟩
theorem iLw_cr (h5 : J 0 5 = I 0 5) (hf : ∀ j k, kpL j k → J j k = I j k) (h : iLw I) : iLw J := by
  obtain ⟨n, h1, h2, h3⟩ := h
  refine ⟨n, h1, by rw [h5]; exact h2, fun j hj => ?_⟩
  obtain ⟨cs, g1, g2⟩ := h3 j hj
  exact ⟨cs, qLawC_tr hf (by omega) g1, qLawR_tr hf (by omega) g2⟩
def kpT (j k : Nat) : Prop := (j = 1 ∧ k = 1) ∨ j = 2 ∨ (j = 73 ∧ k = 2) ∨ j = 74
def kpS (j _k : Nat) : Prop := j = 58 ∨ j = 100
def kpI (j k : Nat) : Prop := (j = 0 ∧ k = 13) ∨ (j = 73 ∧ (k = 59 ∨ k = 60)) ∨ (60 ≤ j ∧ j ≤ 63) ∨ j = 67 ∨ j = 105
theorem iTp_cr (hf : ∀ j k, kpT j k → J j k = I j k) (h : iTp I) : iTp J := by
  obtain ⟨n, h1, h2, h3, h4⟩ := h
  refine ⟨n, h1, by rw [hf 1 1 (by unfold kpT; omega)]; exact h2, by rw [hf 73 2 (by unfold kpT; omega)]; exact h3, fun k hk => ?_⟩
  rw [hf 74 k (by unfold kpT; omega), hf 2 k (by unfold kpT; omega)]; exact h4 k hk
theorem iSn_cr (hf : ∀ j k, kpS j k → J j k = I j k) (h : iSn I p) : iSn J p := fun s hs => by
  rw [hf 100 s (by unfold kpS; omega), hf 58 s (by unfold kpS; omega)]; exact h s hs
theorem iIm_cr (hf : ∀ j k, kpI j k → J j k = I j k) (h : iIm I p) : iIm J p := by
  have hrow : ∀ j, ((60 ≤ j ∧ j ≤ 63) ∨ j = 67 ∨ j = 105) → J j = I j := fun j h1 => funext fun k => hf j k (by unfold kpI; omega)
  unfold iIm
  rw [hf 73 60 (by unfold kpI; omega), hf 73 59 (by unfold kpI; omega), hf 0 13 (by unfold kpI; omega), hrow 60 (by omega), hrow 61 (by omega), hrow 62 (by omega), hrow 63 (by omega), hrow 105 (by omega), hrow 67 (by omega)]
  exact h
theorem iOP_cr (hf : ∀ j k, kpC j k → J j k = I j k) (h : iOn I) (g : iPw I) : iOn J ∧ iPw J := by
  unfold iOn iPw
  rw [hf 0 8 (by unfold kpC; omega), hf 99 0 (by unfold kpC; omega), hf 99 1 (by unfold kpC; omega), hf 99 2 (by unfold kpC; omega), hf 99 3 (by unfold kpC; omega), hf 99 4 (by unfold kpC; omega)]
  exact ⟨h, g⟩
/-- the tape is another -/
theorem iNV_tp (h : iNV I p) (hf : qFr kpT I J) (ht : iTp J) : iNV J p := by
  obtain ⟨c, r, h1, h2, h3, h4, h5, h6, h7⟩ := h
  have hc : ∀ j k, kpC j k → J j k = I j k := fun j k q => hf j k (by unfold kpC at q; unfold kpT; omega)
  obtain ⟨w1, w2⟩ := iOP_cr hc h6 h7
  exact ⟨CI_cr hc c, RI_cr hc r, ht, iLw_cr (hc 0 5 (by unfold kpC; omega)) (kpL_C hc) h2, iSn_cr (fun j k q => hf j k (by unfold kpS at q; unfold kpT; omega)) h3, iIm_cr (fun j k q => hf j k (by unfold kpI at q; unfold kpT; omega)) h4, h5, w1, w2⟩
/-- what was seen is another -/
theorem iNV_sn (h : iNV I p) (hf : qFr kpS I J) (hs : iSn J p) : iNV J p := by
  obtain ⟨c, r, h1, h2, h3, h4, h5, h6, h7⟩ := h
  have hc : ∀ j k, kpC j k → J j k = I j k := fun j k q => hf j k (by unfold kpC at q; unfold kpS; omega)
  obtain ⟨w1, w2⟩ := iOP_cr hc h6 h7
  exact ⟨CI_cr hc c, RI_cr hc r, iTp_cr (fun j k q => hf j k (by unfold kpT at q; unfold kpS; omega)) h1, iLw_cr (hc 0 5 (by unfold kpC; omega)) (kpL_C hc) h2, hs, iIm_cr (fun j k q => hf j k (by unfold kpI at q; unfold kpS; omega)) h4, h5, w1, w2⟩
/-- the image is another -/
theorem iNV_im (h : iNV I p) (hf : qFr (fun j k => kpI j k ∨ (60 ≤ j ∧ j ≤ 68)) I J) (hi : iIm J p) : iNV J p := by
  obtain ⟨c, r, h1, h2, h3, h4, h5, h6, h7⟩ := h
  have hc : ∀ j k, kpC j k → J j k = I j k := fun j k q => hf j k (by unfold kpC at q; unfold kpI; omega)
  obtain ⟨w1, w2⟩ := iOP_cr hc h6 h7
  exact ⟨CI_cr hc c, RI_cr hc r, iTp_cr (fun j k q => hf j k (by unfold kpT at q; unfold kpI; omega)) h1, iLw_cr (hc 0 5 (by unfold kpC; omega)) (kpL_C hc) h2, iSn_cr (fun j k q => hf j k (by unfold kpS at q; unfold kpI; omega)) h3, hi, h5, w1, w2⟩
end L70
