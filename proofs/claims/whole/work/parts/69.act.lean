/-! acts: thanks more, thanks less, what holds then -/
theorem a10_b {a b : Int32} : a - 10 = b ↔ a = 10 + b := by
  constructor
  · intro h; rw [← h, Int32.add_comm, Int32.sub_add_cancel]
  · intro h; rw [h, Int32.add_comm, Int32.add_sub_cancel]
/-- whether thanks are taken -/
def tkOk (p : qPa) (mi : Nat → Int32) (a b c : Int32) : Prop := (qIn (pM p) a ∨ (qIn (pS p) (a - 10) ∧ ¬ a = 10 + b)) ∧ qIn (pS p) b ∧ (if pN p = 0 then 0 else mi (pN p - 1)) ≤ c ∧ c ≤ 999 ∧ pN p < 40
def pNn (p : qPa) (n : Nat) : qPa := (pR p, pS p, pM p, pT p, n, pW p, pH p)
theorem qMa10 {p : qPa} {a b : Int32} (h3 : pM p ≤ 3) (h5 : pS p ≤ 5) (ha : qIn (pM p) a) (hb : qIn (pS p) b) : ¬ a = 10 + b := by
  obtain ⟨m, hm, rfl⟩ := ha
  obtain ⟨s, hs, rfl⟩ := hb
  rw [q_10p]
  intro h
  have := (nI_eq (by omega) (by omega)).mp h
  omega
section L69
variable {d : Nat} {K : qK} {I : Nat → Nat → Int32} {L : Nat → Nat → Int64} {R : Nat → Nat → Option Nat} {sz : Nat} {Q : Option Value → qMem → Prop} {p : qPa}
theorem tkL_mx (cI : CI I p) : (if 0 < tkL I p then tkL I p else 0) = if pN p = 0 then 0 else I 54 (pN p - 1) := by
  unfold tkL
  by_cases h : pN p = 0
  · rw [if_pos h, if_pos h]; rfl
  · rw [if_neg h, if_neg h]
    obtain ⟨m, hm, e⟩ := (cI.2.1.2.2.1 (pN p - 1) (by omega)).2.2
    rw [e]
    by_cases h0 : m = 0
    · subst h0; rfl
    · rw [if_pos (show (0 : Int32) < nI m from nI_lt (a := 0) (by omega) (by omega))]
theorem s11009 {a b c : Int32} (hK : qLay K sz) (hR : qRef R) (cI : CI I p) (ht : tkOk p (I 54) a b c → ∀ J, tkC I p a b c J → Q (some (.int (nI (pN p + 1)))) (K, J, L, R, sz)) (hf : ¬ tkOk p (I 54) a b c → Q (some (.int (-1))) (K, I, L, R, sz)) : X (d + 1) 0 0 11009 0 0 0 (qent (qml 11009) [.ref 0, .int a, .int b, .int c]) [] (K, I, L, R, sz) Q := by
  have e := cI.2.1.1
  have n40 := cI.2.1.2.1
  have hmx := tkL_mx cI
  have h39 : (qIn (pM p) a ∨ (qIn (pS p) (a - 10) ∧ ¬ a = 10 + b)) → qIn (pS p) b → X (d + 1) 0 0 11009 0 0 39 [some (.ref 0), some (.int a), some (.int b), some (.int c)] [] (K, I, L, R, sz) Q := by
    intro h1 h2
    refine g11009_39 (p := p) hK hR cI ?_ ?_ ?_ ?_ <;> rw [hmx] <;> intro h3
    · exact hf (fun q => by have := q.2.2.1; rw [i_le] at this; rw [i_lt] at h3; omega)
    · intro h4 h5
      have hlt : pN p < 40 := by rw [e] at h5; exact (nI_ltI (b := 40) (by omega) (by omega)).mp h5
      refine g11009_77 (p := p) hK hR cI hlt (fun J hJ => ?_)
      rw [hJ.2.1]
      exact ht ⟨h1, h2, by rw [i_le]; rw [i_lt] at h3; omega, h4, hlt⟩ J hJ
    · intro h4 h5
      exact hf (fun q => h5 (by rw [e]; exact nI_lt (b := 40) q.2.2.2.2 (by omega)))
    · intro h4
      exact hf (fun q => h4 q.2.2.2.1)
  have h21 : (qIn (pM p) a ∨ qIn (pS p) (a - 10)) → X (d + 1) 0 0 11009 0 0 21 [some (.ref 0), some (.int a), some (.int b), some (.int c)] [] (K, I, L, R, sz) Q := by
    intro h1
    refine g11009_21 (p := p) hK hR cI (fun h2 h3 => h39 (h1.elim Or.inl (fun q => Or.inr ⟨q, h3⟩)) h2) (fun h2 h3 => hf (fun q => ?_)) (fun h2 => hf (fun q => h2 q.2.1))
    rcases q.1 with q1 | q1
    · exact qMa10 cI.w3 cI.w5 q1 h2 h3
    · exact q1.2 h3
  exact e11009 (p := p) hK hR cI (fun h => h21 (Or.inl h)) (fun _ h => h21 (Or.inr h)) (fun h1 h2 => hf (fun q => q.1.elim h1 (fun w => h2 w.1)))
theorem s12053 {a b c : Int32} (hK : qLay K sz) (hR : qRef R) (sS : I 73 24 = nI (pS p)) (s5 : pS p ≤ 5) (sM : I 73 25 = nI (pM p)) (s3 : pM p ≤ 3) (h33 : I 73 33 = nI (pN p)) (n40 : pN p ≤ 40) (ht : tkOk p (I 88) a b c → ∀ J, apR I (pN p) 1 (fun _ => a) (fun _ => b) (fun _ => c) J → Q (some (.int (nI (pN p + 1)))) (K, J, L, R, sz)) (hf : ¬ tkOk p (I 88) a b c → Q (some (.int (-1))) (K, I, L, R, sz)) : X (d + 2) 0 0 12053 0 0 0 (qent (qml 12053) [.ref 73, .int a, .int b, .int c]) [] (K, I, L, R, sz) Q := by
  have hz : I 73 33 = 0 ↔ pN p = 0 := by rw [h33]; exact nI_eq (b := 0) (by omega) (by omega)
  have h4 : I 73 33 = 40 ↔ pN p = 40 := by rw [h33]; exact nI_eq (b := 40) (by omega) (by omega)
  have hm1 : ¬ pN p = 0 → I 73 33 - 1 = nI (pN p - 1) := fun h => by rw [h33, show pN p = (pN p - 1) + 1 from by omega, nI_pred]; rfl
  have h90 : ∀ x4, tkOk p (I 88) a b c → X (d + 2) 0 0 12053 0 0 90 [some (.ref 73), some (.int a), some (.int b), some (.int c), some (.int x4)] [] (K, I, L, R, sz) Q := by
    intro x4 h
    have hlt := h.2.2.2.2
    refine g12053_90 hK hR (by rw [h33]; exact vI (by omega) (by omega)) ?_
    have ec : (I 73 33).toNatClampNeg = pN p := by rw [h33]; exact nI_c (by omega)
    rw [ec, h33, nI_1]
    refine ht h _ ⟨?_, ?_, ?_, ?_, ?_⟩
    · exact (((qFr.up (P := fun j k => (j = 73 ∧ k = 33) ∨ j = 86 ∨ j = 87 ∨ j = 88) (fun _ => by simp)).trans (qFr.up (P := fun j k => (j = 73 ∧ k = 33) ∨ j = 86 ∨ j = 87 ∨ j = 88) (fun _ => by simp))).trans (qFr.up (P := fun j k => (j = 73 ∧ k = 33) ∨ j = 86 ∨ j = 87 ∨ j = 88) (fun _ => by simp))).trans (qFr.up1 (P := fun j k => (j = 73 ∧ k = 33) ∨ j = 86 ∨ j = 87 ∨ j = 88) (by simp))
    · rw [vu_s, upd, if_pos rfl]
    · rw [← dyW_1]; rfl
    · rw [← dyW_1]; rfl
    · rw [← dyW_1]; rfl
  have h34 : ∀ x4, (¬ x4 = 0 ↔ (qIn (pM p) a ∨ (qIn (pS p) (a - 10) ∧ ¬ a = 10 + b))) → X (d + 2) 0 0 12053 0 0 34 [some (.ref 73), some (.int a), some (.int b), some (.int c), some (.int x4)] [] (K, I, L, R, sz) Q := by
    intro x4 hx
    refine g12053_34 (p := p) hK hR sS s5 (fun _ _ h => by rw [hm1 (fun q => h (hz.mpr q))]; exact vI (by omega) (by omega)) (fun h => hf (fun q => hx.mpr q.1 h)) (fun h1 h2 h3 h4' h5 h6 => ?_) (fun h1 h2 h3 h4' h5 h6 => hf (fun q => by have := q.2.2.2.2; have := h4.mp h6; omega)) (fun h1 h2 h3 h4' => hf (fun q => h4' ?_)) (fun h1 h2 h3 h4' h5 h6 => ?_) (fun h1 h2 h3 h4' h5 h6 => hf (fun q => by have := q.2.2.2.2; have := h4.mp h6; omega)) (fun h1 h2 h3 h4' => hf (fun q => h4' ?_)) (fun h1 h2 => hf (fun q => h2 q.2.1))
    · have hn0 : ¬ pN p = 0 := fun q => h3 (hz.mpr q)
      rw [hm1 hn0, nI_c (by omega)] at h4'
      exact h90 x4 ⟨hx.mp h1, h2, by rw [if_neg hn0]; exact h4', h5, by have : ¬ pN p = 40 := fun q => h6 (h4.mpr q); omega⟩
    · have hn0 : ¬ pN p = 0 := fun w => h3 (hz.mpr w)
      rw [hm1 hn0, nI_c (by omega)]
      have := q.2.2.1
      rw [if_neg hn0] at this
      exact ⟨this, q.2.2.2.1⟩
    · have hn0 : pN p = 0 := hz.mp h3
      exact h90 x4 ⟨hx.mp h1, h2, by rw [if_pos hn0]; exact h4', h5, by omega⟩
    · have hn0 : pN p = 0 := hz.mp h3
      have := q.2.2.1
      rw [if_pos hn0] at this
      exact ⟨this, q.2.2.2.1⟩
  refine e12053 (p := p) hK sS s5 sM s3 (fun h => h34 1 ⟨fun _ => Or.inl h, fun _ => by decide⟩) (fun h1 h2 h3 => h34 0 ⟨fun q => absurd rfl q, fun q => ?_⟩) (fun h1 h2 h3 => h34 1 ⟨fun _ => Or.inr ⟨h2, fun q => h3 (a10_b.mpr q)⟩, fun _ => by decide⟩) (fun h1 h2 => h34 0 ⟨fun q => absurd rfl q, fun q => ?_⟩)
  · rcases q with q | q
    · exact absurd q h1
    · exact absurd (a10_b.mp h3) q.2
  · rcases q with q | q
    · exact absurd q h1
    · exact absurd q.1 h2
/-- places of the thanks told more change nobody's counting ahead of them -/
theorem qCnt_pre {wo wm mi wo' wm' mi' br : Nat → Int32} {h : Option (List qCls)} {lf : Int32} {i : Nat} (hw : ∀ j, j ≤ i → wo' j = wo j ∧ wm' j = wm j ∧ mi' j = mi j) : qCnt wo' wm' mi' br h lf i ↔ qCnt wo wm mi br h lf i := by
  have hO : ∀ k, k ≤ i → qOft wo' wm' lf i k = qOft wo wm lf i k := by
    intro k
    induction k with
    | zero => intro _; rfl
    | succ k ih =>
      intro hk
      rw [qOft, qOft, ih (by omega), (hw k (by omega)).1, (hw k (by omega)).2.1, (hw i (Nat.le_refl _)).1, (hw i (Nat.le_refl _)).2.1]
  have hS : ∀ k, k ≤ i → qSin wm' mi' lf i k = qSin wm mi lf i k := by
    intro k
    induction k with
    | zero => intro _; rfl
    | succ k ih =>
      intro hk
      rw [qSin, qSin, ih (by omega), (hw k (by omega)).2.2, (hw k (by omega)).2.1, (hw i (Nat.le_refl _)).2.2, (hw i (Nat.le_refl _)).2.1]
  unfold qCnt
  rw [hO i (Nat.le_refl _), hS i (Nat.le_refl _), (hw i (Nat.le_refl _)).1, (hw i (Nat.le_refl _)).2.1, (hw i (Nat.le_refl _)).2.2]
/-- thanks more or less: what holds of the new rows of thanks -/
def tkV (p : qPa) (n : Nat) (wo wm mi : Nat → Int32) : Prop := n ≤ 40 ∧ (∀ i, i < n → qWho (pS p) (pM p) (wo i) ∧ qIn (pS p) (wm i) ∧ qIn 1000 (mi i)) ∧ qSort mi n
/-- other thanks: n now, of them those below j judged alike -/
theorem iNV_tk {J : Nat → Nat → Int32} {n j0 j : Nat} {wo wm mi : Nat → Int32} (h : iNV I p) (hf : qFr (fun j k => (j = 51 ∧ (k = 5 ∨ k = 6)) ∨ j = 52 ∨ j = 53 ∨ j = 54 ∨ (j = 73 ∧ k = 33) ∨ j = 86 ∨ j = 87 ∨ j = 88) I J) (hv : tkV p n wo wm mi) (e51 : J 51 5 = nI n) (e6 : J 51 6 = nI j) (i6 : I 51 6 = nI j0) (hj0 : j0 ≤ pN p) (hj : j ≤ j0) (hjn : j ≤ n) (e52 : J 52 = wo) (e53 : J 53 = wm) (e54 : J 54 = mi) (e33 : J 73 33 = nI n) (e86 : J 86 = wo) (e87 : J 87 = wm) (e88 : J 88 = mi) (hsm : ∀ i, i < j → wo i = I 52 i ∧ wm i = I 53 i ∧ mi i = I 54 i) : iNV J (pNn p n) := by
  obtain ⟨c, r, h1, h2, h3, h4, h5, h6, h7⟩ := h
  obtain ⟨⟨⟨a1, a2, a3, a4⟩, ⟨b1, b2, b3, b4⟩, hc, hd, he⟩, c2, ⟨jj, j1, j2, j3⟩, c4, c5, c6⟩ := c
  have hrow : ∀ j, (j < 51 ∨ 54 < j) → j ≠ 73 → j ≠ 86 → j ≠ 87 → j ≠ 88 → J j = I j := fun j q1 q2 q3 q4 q5 => hf.row (fun k q => by omega)
  have e22 : J 22 = I 22 := hrow 22 (by omega) (by omega) (by omega) (by omega) (by omega)
  have e0 : J 0 = I 0 := hrow 0 (by omega) (by omega) (by omega) (by omega) (by omega)
  have h73 : ∀ k, k ≠ 33 → J 73 k = I 73 k := fun k hk => hf 73 k (by omega)
  have ejj : jj = j0 := by
    rw [i6] at j2
    exact ((nI_eq (by have := c2.2.1; omega) (by have := c2.2.1; omega)).mp j2).symm
  subst ejj
  have hlaw : ∀ i cs, i < 4 → qLawC I (39 + 3 * i) cs → qLawC J (39 + 3 * i) cs := by
    intro i cs hi hl
    unfold qLawC
    rw [hrow (39 + 3 * i) (by omega) (by omega) (by omega) (by omega) (by omega), hrow (39 + 3 * i + 1) (by omega) (by omega) (by omega) (by omega) (by omega)]
    exact hl
  have hlawR : ∀ i cs, qLawR I i cs → qLawR J i cs := by
    intro i cs hl
    have e : ∀ j, 74 ≤ j → j ≤ 81 → J j = I j := fun j q1 q2 => hrow j (by omega) (by omega) (by omega) (by omega) (by omega)
    unfold qLawR qClR at hl ⊢
    rw [e 78 (by omega) (by omega), e 79 (by omega) (by omega), e 80 (by omega) (by omega), e 81 (by omega) (by omega), e 75 (by omega) (by omega), e 76 (by omega) (by omega)]
    exact hl
  refine ⟨⟨⟨⟨by rw [e22]; exact a1, by rw [e22]; exact a2, by rw [e22]; exact a3, by rw [e22]; exact a4⟩, ⟨b1, b2, b3, b4⟩, ?_, ?_, ?_⟩, ?_, ⟨j, hjn, e6, ?_⟩, ?_, ?_, by rw [e0]; exact c6⟩, ?_, ?_, ?_, ?_, ?_, ?_, ?_, ?_⟩
  · intro s hs; rw [hrow (24 + s) (by have : pS p ≤ 5 := b2; have : s < pS p := hs; omega) (by have : pS p ≤ 5 := b2; have : s < pS p := hs; omega) (by have : pS p ≤ 5 := b2; have : s < pS p := hs; omega) (by have : pS p ≤ 5 := b2; have : s < pS p := hs; omega) (by have : pS p ≤ 5 := b2; have : s < pS p := hs; omega)]; exact hc s hs
  · intro m hm
    have hm' : m < pM p := hm
    rw [hrow (30 + m) (by omega) (by omega) (by omega) (by omega) (by omega)]; exact hd m hm
  · intro t ht
    have ht' : t < pT p := ht
    rw [hrow (34 + t) (by omega) (by omega) (by omega) (by omega) (by omega)]; exact he t ht
  · unfold vTk
    rw [e52, e53, e54]
    exact ⟨e51, hv.1, hv.2.1, hv.2.2⟩
  · intro i hi
    have hi' : i < jj := by omega
    rw [hrow 55 (by omega) (by omega) (by omega) (by omega) (by omega), e52, e53, e54]
    have hw : (I 53 i).toNatClampNeg < 5 := Nat.lt_of_lt_of_le (qIn_c (c2.2.2.1 i (by omega)).2.1 b2) b2
    have hb : qBr J (wm i).toNatClampNeg = qBr I (wm i).toNatClampNeg := by
      rw [(hsm i hi).2.1]
      unfold qBr; rw [hrow _ (by omega) (by omega) (by omega) (by omega) (by omega)]
    rw [qCnt_br hb, qCnt_pre (wo := I 52) (wm := I 53) (mi := I 54) (fun k hk => hsm k (by omega))]
    exact j3 i hi'
  · unfold qHw; rw [e0]; exact c4
  · rcases c5 with q | ⟨i, cs, g1, g2, g3, g4⟩
    · exact Or.inl q
    · exact Or.inr ⟨i, cs, g1, g2, g3, hlaw i cs g3 g4⟩
  · obtain ⟨⟨q1, q2, q3, q4⟩, ⟨q5, q6, q7⟩, ⟨q8, q9, q10, q11⟩, q12, ⟨q13, q14, q15, q16⟩, q17⟩ := r
    refine ⟨⟨by rw [h73 23 (by omega), e22]; exact q1, by rw [h73 24 (by omega), e22]; exact q2, by rw [h73 25 (by omega), e22]; exact q3, by rw [h73 26 (by omega), e22]; exact q4⟩, ⟨?_, ?_, ?_⟩, ⟨by rw [e33, e51], by rw [e86, e52], by rw [e87, e53], by rw [e88, e54]⟩, ?_, ⟨by rw [h73 28 (by omega), e0]; exact q13, by rw [h73 27 (by omega), e0]; exact q14, by rw [h73 29 (by omega), e0]; exact q15, by rw [h73 13 (by omega), e0]; exact q16⟩, by rw [h73 34 (by omega)]; exact q17⟩
    · intro s k hs hk
      rw [hrow 85 (by omega) (by omega) (by omega) (by omega) (by omega), hrow (24 + s) (by omega) (by omega) (by omega) (by omega) (by omega)]; exact q5 s k hs hk
    · intro m hm
      rw [hrow 85 (by omega) (by omega) (by omega) (by omega) (by omega), hrow (30 + m) (by omega) (by omega) (by omega) (by omega) (by omega)]; exact q6 m hm
    · intro t k ht hk
      rw [hrow 85 (by omega) (by omega) (by omega) (by omega) (by omega), hrow (34 + t) (by omega) (by omega) (by omega) (by omega) (by omega)]; exact q7 t k ht hk
    · rcases q12 with ⟨w1, w2⟩ | ⟨i, cs, w1, w2, w3, w4⟩
      · exact Or.inl ⟨by rw [h73 27 (by omega)]; exact w1, w2⟩
      · exact Or.inr ⟨i, cs, by rw [h73 27 (by omega)]; exact w1, w2, w3, hlawR i cs w4⟩
  · obtain ⟨n', g1, g2, g3, g4⟩ := h1
    refine ⟨n', g1, ?_, ?_, ?_⟩
    · rw [hrow 1 (by omega) (by omega) (by omega) (by omega) (by omega)]; exact g2
    · rw [h73 2 (by omega)]; exact g3
    · rw [hrow 74 (by omega) (by omega) (by omega) (by omega) (by omega), hrow 2 (by omega) (by omega) (by omega) (by omega) (by omega)]; exact g4
  · obtain ⟨n', g1, g2, g3⟩ := h2
    refine ⟨n', g1, by rw [e0]; exact g2, fun i hi => ?_⟩
    obtain ⟨cs, w1, w2⟩ := g3 i hi
    exact ⟨cs, hlaw i cs (by omega) w1, hlawR i cs w2⟩
  · unfold iSn
    rw [hrow 100 (by omega) (by omega) (by omega) (by omega) (by omega), hrow 58 (by omega) (by omega) (by omega) (by omega) (by omega)]
    exact h3
  · unfold iIm
    rw [h73 60 (by omega), h73 59 (by omega), e0, hrow 60 (by omega) (by omega) (by omega) (by omega) (by omega), hrow 61 (by omega) (by omega) (by omega) (by omega) (by omega), hrow 62 (by omega) (by omega) (by omega) (by omega) (by omega), hrow 63 (by omega) (by omega) (by omega) (by omega) (by omega), hrow 105 (by omega) (by omega) (by omega) (by omega) (by omega), hrow 67 (by omega) (by omega) (by omega) (by omega) (by omega)]
    exact h4
  · exact h5
  · unfold iOn; rw [e0]; exact h6
  · unfold iPw; rw [hrow 99 (by omega) (by omega) (by omega) (by omega) (by omega)]; exact h7
end L69
