/-! places that a question may change -/
def kpQ (j k : Nat) : Prop := j < 3 ∨ (22 ≤ j ∧ j ≤ 38) ∨ (39 ≤ j ∧ j ≤ 50 ∧ ((j - 39) % 3 = 1 ∨ ((j - 39) % 3 = 0 ∧ k ≠ 3))) ∨ (j = 51 ∧ k ≠ 6) ∨ (52 ≤ j ∧ j ≤ 54) ∨ (57 ≤ j ∧ j ≤ 68) ∨ (j = 73 ∧ (k = 2 ∨ k = 13 ∨ (23 ≤ k ∧ k ≤ 34) ∨ k = 59 ∨ k = 60)) ∨ j = 74 ∨ (75 ≤ j ∧ j ≤ 76 ∧ k < 1360) ∨ (77 ≤ j ∧ j ≤ 78 ∧ k < 4) ∨ (79 ≤ j ∧ j ≤ 81 ∧ k < 360) ∨ (85 ≤ j ∧ j ≤ 88) ∨ (99 ≤ j ∧ j ≤ 102) ∨ j = 105
def scQ (j k : Nat) : Prop := ¬ kpQ j k
theorem scV_Q {j k : Nat} (h : scV j k) : scQ j k := by
  intro q
  unfold scV scJ scL at h
  unfold kpQ at q
  omega
theorem scN_Q {j k : Nat} (h : scN j k) : scQ j k := by
  intro q
  unfold scN scC scR at h
  unfold kpQ at q
  omega
theorem kpN {j k : Nat} (h : kpQ j k) : ¬ scQ j k := fun q => q h
theorem scQ_no {j : Nat} (h : j < 3 ∨ (22 ≤ j ∧ j ≤ 38) ∨ (52 ≤ j ∧ j ≤ 54) ∨ (57 ≤ j ∧ j ≤ 68) ∨ j = 74 ∨ (85 ≤ j ∧ j ≤ 88) ∨ (99 ≤ j ∧ j ≤ 102) ∨ j = 105 ∨ (39 ≤ j ∧ j ≤ 50 ∧ (j - 39) % 3 = 1)) : ∀ k, ¬ scQ j k := by
  intro k
  refine kpN ?_
  unfold kpQ
  omega
section L38
variable {I J : Nat → Nat → Int32} {p : qPa}
theorem vHs_fr (hf : qFr scQ I J) (h : vHs I p) : vHs J p := by
  obtain ⟨⟨a1, a2, a3, a4⟩, hb, hc, hd, he⟩ := h
  have e22 : J 22 = I 22 := hf.row (scQ_no (by omega))
  obtain ⟨b1, b2, b3, b4⟩ := hb
  refine ⟨⟨by rw [e22]; exact a1, by rw [e22]; exact a2, by rw [e22]; exact a3, by rw [e22]; exact a4⟩, ⟨b1, b2, b3, b4⟩, ?_, ?_, ?_⟩
  · intro s hs
    rw [hf.row (j := 24 + s) (scQ_no (by omega))]
    exact hc s hs
  · intro m hm
    rw [hf.row (j := 30 + m) (scQ_no (by omega))]
    exact hd m hm
  · intro t ht
    rw [hf.row (j := 34 + t) (scQ_no (by omega))]
    exact he t ht
theorem vTk_fr (hf : qFr scQ I J) (h : vTk I p) : vTk J p := by
  unfold vTk
  rw [hf.row (j := 52) (scQ_no (by omega)), hf.row (j := 53) (scQ_no (by omega)), hf.row (j := 54) (scQ_no (by omega)), hf 51 5 (kpN (by unfold kpQ; omega))]
  exact h
theorem qHo_frQ {w : Option Nat} {h : Option (List qCls)} (hf : qFr scQ I J) (hh : qHo I w h) : qHo J w h := by
  rcases hh with h | ⟨j, cs, h1, h2, h3, g1, g2, g3, g4⟩
  · exact Or.inl h
  · refine Or.inr ⟨j, cs, h1, h2, h3, ?_, g2, ?_, g4⟩
    · rw [hf _ _ (kpN (by unfold kpQ; omega))]; exact g1
    · rw [hf.row (j := 39 + 3 * j + 1) (scQ_no (by omega))]; exact g3
theorem qHw_frQ {w : Option Nat} (hf : qFr scQ I J) (hh : qHw I w) : qHw J w := by
  unfold qHw
  rw [hf.row (j := 0) (scQ_no (by omega))]
  exact hh
theorem CI_fr (hf : qFr scQ I J) (hj : ∃ j, j ≤ pN p ∧ J 51 6 = nI j ∧ qJud J (pH p) j) (h : CI I p) : CI J p := by
  obtain ⟨c1, c2, -, c4, c5, c6⟩ := h
  exact ⟨vHs_fr hf c1, vTk_fr hf c2, hj, qHw_frQ hf c4, qHo_frQ hf c5, by rw [hf.row (j := 0) (scQ_no (by omega))]; exact c6⟩
theorem CI_jud (hf : qFr scQ I J) (h1 : J 51 6 = I 51 6) (h2 : J 55 = I 55) (h : CI I p) : ∃ j, j ≤ pN p ∧ J 51 6 = nI j ∧ qJud J (pH p) j := by
  obtain ⟨c1, c2, ⟨j, hj, hjd, hc⟩, c4, c5, c6⟩ := h
  refine ⟨j, hj, by rw [h1]; exact hjd, ?_⟩
  intro i hi
  have hw : qIn 5 (I 53 i) := (c2.2.2.1 i (by omega)).2.1.to5 c1.2.1.2.1
  rw [h2, hf.row (j := 52) (scQ_no (by omega)), hf.row (j := 53) (scQ_no (by omega)), hf.row (j := 54) (scQ_no (by omega))]
  have e : qBr J (I 53 i).toNatClampNeg = qBr I (I 53 i).toNatClampNeg := hf _ _ (scQ_no (by have := qIn_c hw (Nat.le_refl _); omega) _)
  rw [qCnt_br e]
  exact hc i hi
theorem qClR_fr {n c : Nat} {x : qCls} (hf : qFr scQ I J) (hn : n < 4) (hc : c < 90) (h : qClR I n c x) : qClR J n c x := by
  obtain ⟨a, b, e1, e2, e3, e4, e5, e6⟩ := h
  obtain ⟨ts, sc, sv⟩ := x
  have hh : ∀ (q : Nat) (l : List Int32), q + l.length ≤ 340 → qHaz (I 75) (I 76) (340 * n + q) l → qHaz (J 75) (J 76) (340 * n + q) l := by
    intro q l hl hz j y hj
    have hlt := (List.getElem?_eq_some_iff.mp hj).1
    rw [hf 75 _ (kpN (by unfold kpQ; omega)), hf 76 _ (kpN (by unfold kpQ; omega))]
    exact hz j y hj
  replace e4 : b + sc.length ≤ 340 := e4
  refine ⟨a, b, ?_, ?_, ?_, e4, hh _ _ e4 e5, ?_⟩
  · rw [hf 79 _ (kpN (by unfold kpQ; omega))]; exact e1
  · rw [hf 80 _ (kpN (by unfold kpQ; omega))]; exact e2
  · rw [hf 81 _ (kpN (by unfold kpQ; omega))]; exact e3
  · cases ts with
    | none => exact e6
    | some t =>
      obtain ⟨tc, tv⟩ := t
      obtain ⟨e7, e8⟩ := (show b = a + tc.length ∧ qHaz (I 75) (I 76) (340 * n + a) tc from e6)
      exact ⟨e7, hh _ _ (by omega) e8⟩
theorem qLawR_fr {n : Nat} {cs : List qCls} (hf : qFr scQ I J) (hn : n < 4) (h : qLawR I n cs) : qLawR J n cs := by
  obtain ⟨g1, g2, g3, g4⟩ := h
  refine ⟨?_, g2, ?_, g4⟩
  · rw [hf 78 _ (kpN (by unfold kpQ; omega))]; exact g1
  · intro c x hx
    have := (List.getElem?_eq_some_iff.mp hx).1
    exact qClR_fr hf hn (by omega) (g3 c x hx)
theorem RI_fr (hf : qFr scQ I J) (h : RI I p) : RI J p := by
  obtain ⟨⟨a1, a2, a3, a4⟩, ⟨b1, b2, b3⟩, ⟨c1, c2, c3, c4⟩, r4, ⟨e1, e2, e3, e4⟩, r6⟩ := h
  have hz : ∀ k, (k = 23 ∨ k = 24 ∨ k = 25 ∨ k = 26 ∨ k = 33 ∨ k = 28 ∨ k = 27 ∨ k = 29 ∨ k = 13 ∨ k = 34) → J 73 k = I 73 k := fun k hk => hf 73 k (kpN (by unfold kpQ; omega))
  have e22 : J 22 = I 22 := hf.row (scQ_no (by omega))
  have e0 : J 0 = I 0 := hf.row (scQ_no (by omega))
  refine ⟨⟨?_, ?_, ?_, ?_⟩, ⟨?_, ?_, ?_⟩, ⟨?_, ?_, ?_, ?_⟩, ?_, ⟨?_, ?_, ?_, ?_⟩, ?_⟩
  · rw [hz 23 (by omega), e22]; exact a1
  · rw [hz 24 (by omega), e22]; exact a2
  · rw [hz 25 (by omega), e22]; exact a3
  · rw [hz 26 (by omega), e22]; exact a4
  · intro s k hs hs2 hk
    rw [hf.row (j := 85) (scQ_no (by omega)), hf.row (j := 24 + s) (scQ_no (by omega))]
    exact b1 s k hs hs2 hk
  · intro m hm hm2
    rw [hf.row (j := 85) (scQ_no (by omega)), hf.row (j := 30 + m) (scQ_no (by omega))]
    exact b2 m hm hm2
  · intro t k ht ht2 hk
    rw [hf.row (j := 85) (scQ_no (by omega)), hf.row (j := 34 + t) (scQ_no (by omega))]
    exact b3 t k ht ht2 hk
  · rw [hz 33 (by omega), hf 51 5 (kpN (by unfold kpQ; omega))]; exact c1
  · rw [hf.row (j := 86) (scQ_no (by omega)), hf.row (j := 52) (scQ_no (by omega))]; exact c2
  · rw [hf.row (j := 87) (scQ_no (by omega)), hf.row (j := 53) (scQ_no (by omega))]; exact c3
  · rw [hf.row (j := 88) (scQ_no (by omega)), hf.row (j := 54) (scQ_no (by omega))]; exact c4
  · rcases r4 with ⟨q1, q2⟩ | ⟨n, cs, q1, q2, q3, q4⟩
    · exact Or.inl ⟨by rw [hz 27 (by omega)]; exact q1, q2⟩
    · exact Or.inr ⟨n, cs, by rw [hz 27 (by omega)]; exact q1, q2, q3, qLawR_fr hf q3 q4⟩
  · rw [hz 28 (by omega), e0]; exact e1
  · rw [hz 27 (by omega), e0]; exact e2
  · rw [hz 29 (by omega), e0]; exact e3
  · rw [hz 13 (by omega), e0]; exact e4
  · rw [hz 34 (by omega)]; exact r6
theorem LEn_fr (hf : qFr scQ I J) (h : CI I p) (t : Int32) : LEn J p t = LEn I p t := by
  unfold LEn
  rw [hf.row (j := 52) (scQ_no (by omega)), hf.row (j := 53) (scQ_no (by omega)), hf.row (j := 54) (scQ_no (by omega)), hf.row (j := 0) (scQ_no (by omega))]
  refine qLn_cong (pN p) (fun i hi => ?_)
  have hw : qIn 5 (I 53 i) := (h.2.1.2.2.1 i hi).2.1.to5 h.1.2.1.2.1
  exact qCnt_br (hf _ _ (scQ_no (by have := qIn_c hw (Nat.le_refl _); omega) _))
/-- after a question: only such places have changed, and the class's state is as it was -/
def qAf (I : Nat → Nat → Int32) (p : qPa) (J : Nat → Nat → Int32) : Prop := qFr scQ I J ∧ CI J p
theorem qAf.refl (h : CI I p) : qAf I p I := ⟨qFr.refl, h⟩
theorem qAf.trans {H : Nat → Nat → Int32} (h : qAf I p J) (g : qAf J p H) : qAf I p H := ⟨h.1.trans g.1, g.2⟩
theorem qLk.af {t : Int32} (h : CI I p) (g : qLk I p t J) : qAf I p J := by
  have hf : qFr scQ I J := g.1.mono (fun _ _ => scV_Q)
  exact ⟨hf, CI_fr hf ⟨pN p, Nat.le_refl _, g.2.2.2.1, g.2.2.2.2⟩ h⟩
theorem qLr.af {t : Int32} (h : CI I p) (g : qLr I p t J) : qAf I p J := by
  have hf : qFr scQ I J := g.1.mono (fun _ _ => scN_Q)
  exact ⟨hf, CI_fr hf (CI_jud hf (g.1 _ _ (scN_no (by omega) _)) (g.1.row (scN_no (by omega))) h) h⟩
theorem qAf.le (h : CI I p) (g : qAf I p J) (t : Int32) : LEn J p t = LEn I p t := LEn_fr g.1 h t
/-- heads and hands by the leanings of the minute -/
theorem qLk.hd {t : Int32} {s : Nat} (h : CI I p) (g : qLk I p t J) (hs : s < pS p) : hd (J 70) (pS p) (nI s) = hd (LEn I p t) (pS p) (nI s) := hd_cong (LEn_val h t) hs h.w5 (fun j hj => g.2.2.1 j (by have := h.w5; omega))
theorem qLk.hb {t m : Int32} (h : CI I p) (g : qLk I p t J) : hb (J 70) (pS p) m (pS p) = hb (LEn I p t) (pS p) m (pS p) := hb_cong (LEn_val h t) h.w5 (fun j hj => g.2.2.1 j (by have := h.w5; omega)) _ (Nat.le_refl _)
theorem qVal_cong {f g : Nat → Int32} {n : Nat} (h : ∀ j, j < n → g j = f j) (hv : qVal f n) : qVal g n := fun j hj => by rw [h j hj]; exact hv j hj
theorem qLk.val {t : Int32} (h : CI I p) (g : qLk I p t J) : qVal (J 70) (pS p) := qVal_cong (fun j hj => g.2.2.1 j (by have := h.w5; omega)) (LEn_val h t)
theorem qLr.val {t : Int32} (h : CI I p) (g : qLr I p t J) : qVal (J 89) (pS p) := qVal_cong (fun j hj => g.2.1 j hj) (LEn_val h t)
theorem qLr.hd {t : Int32} {s : Nat} (h : CI I p) (g : qLr I p t J) (hs : s < pS p) : hd (J 89) (pS p) (nI s) = hd (LEn I p t) (pS p) (nI s) := hd_cong (LEn_val h t) hs h.w5 (fun j hj => g.2.1 j hj)
theorem qLr.hb {t m : Int32} (h : CI I p) (g : qLr I p t J) : hb (J 89) (pS p) m (pS p) = hb (LEn I p t) (pS p) m (pS p) := hb_cong (LEn_val h t) h.w5 (fun j hj => g.2.1 j hj) _ (Nat.le_refl _)
end L38
