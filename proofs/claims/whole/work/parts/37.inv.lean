/-! what holds of both between two calls -/
/-- rooms, servants, masters, tasks, thanks, the place of the law that holds, its clauses -/
abbrev qPa := Nat × Nat × Nat × Nat × Nat × Option Nat × Option (List qCls)
def pR (p : qPa) : Nat := p.1
def pS (p : qPa) : Nat := p.2.1
def pM (p : qPa) : Nat := p.2.2.1
def pT (p : qPa) : Nat := p.2.2.2.1
def pN (p : qPa) : Nat := p.2.2.2.2.1
def pW (p : qPa) : Option Nat := p.2.2.2.2.2.1
def pH (p : qPa) : Option (List qCls) := p.2.2.2.2.2.2
/-- the house of the class -/
def vHs (I : Nat → Nat → Int32) (p : qPa) : Prop := (I 22 0 = nI (pR p) ∧ I 22 1 = nI (pS p) ∧ I 22 2 = nI (pM p) ∧ I 22 3 = nI (pT p)) ∧ (pR p ≤ 6 ∧ pS p ≤ 5 ∧ pM p ≤ 3 ∧ pT p ≤ 4) ∧
  (∀ s, s < pS p → qIn (pR p) (I (24 + s) 0) ∧ (I (24 + s) 1 = -1 ∨ qIn (pM p) (I (24 + s) 1)) ∧ qIn 10 (I (24 + s) 2)) ∧
  (∀ m, m < pM p → qIn (pR p) (I (30 + m) 0)) ∧
  (∀ t, t < pT p → qIn (pR p) (I (34 + t) 0) ∧ (qIn 4 (I (34 + t) 1) ∧ ¬ I (34 + t) 1 = 0) ∧ (qIn 31 (I (34 + t) 2) ∧ ¬ I (34 + t) 2 = 0) ∧ (I (34 + t) 3 = -1 ∨ qIn t (I (34 + t) 3)))
/-- the thanks of the class -/
def vTk (I : Nat → Nat → Int32) (p : qPa) : Prop := I 51 5 = nI (pN p) ∧ pN p ≤ 40 ∧ (∀ i, i < pN p → qWho (pS p) (pM p) (I 52 i) ∧ qIn (pS p) (I 53 i) ∧ qIn 1000 (I 54 i)) ∧ qSort (I 54) (pN p)
/-- what its looks at a moment need -/
def CI (I : Nat → Nat → Int32) (p : qPa) : Prop := vHs I p ∧ vTk I p ∧ (∃ j, j ≤ pN p ∧ I 51 6 = nI j ∧ qJud I (pH p) j) ∧ qHw I (pW p) ∧ qHo I (pW p) (pH p) ∧ qIn 1000 (I 0 7)
theorem CI.lS {I : Nat → Nat → Int32} {p : qPa} (h : CI I p) : I 22 1 = nI (pS p) := h.1.1.2.1
theorem CI.lM {I : Nat → Nat → Int32} {p : qPa} (h : CI I p) : I 22 2 = nI (pM p) := h.1.1.2.2.1
theorem CI.w5 {I : Nat → Nat → Int32} {p : qPa} (h : CI I p) : pS p ≤ 5 := h.1.2.1.2.1
theorem CI.w3 {I : Nat → Nat → Int32} {p : qPa} (h : CI I p) : pM p ≤ 3 := h.1.2.1.2.2.1
/-- the reference's state beside the class's -/
def RI (I : Nat → Nat → Int32) (p : qPa) : Prop := (I 73 23 = I 22 0 ∧ I 73 24 = I 22 1 ∧ I 73 25 = I 22 2 ∧ I 73 26 = I 22 3) ∧
  ((∀ s k, s < 5 → s < pS p → k < 3 → I 85 (3 * s + k) = I (24 + s) k) ∧ (∀ m, m < 3 → m < pM p → I 85 (15 + m) = I (30 + m) 0) ∧ (∀ t k, t < 4 → t < pT p → k < 4 → I 85 (18 + 4 * t + k) = I (34 + t) k)) ∧
  (I 73 33 = I 51 5 ∧ I 86 = I 52 ∧ I 87 = I 53 ∧ I 88 = I 54) ∧ qHoR I (pH p) ∧ (I 73 28 = I 0 7 ∧ I 73 27 = I 0 6 ∧ I 73 29 = I 0 8 ∧ I 73 13 = I 0 5) ∧ I 73 34 = -1
theorem qIn.to5 {n m : Nat} {a : Int32} (h : qIn n a) (hn : n ≤ m) : qIn m a := by
  obtain ⟨s, h1, h2⟩ := h
  exact ⟨s, by omega, h2⟩
/-- the leanings of the minute t -/
noncomputable def LEn (I : Nat → Nat → Int32) (p : qPa) (t : Int32) : Nat → Int32 := qLn (fun i => qCnt (I 52) (I 53) (I 54) (qBr I) (pH p) (-1) i) (I 52) (I 53) (I 54) t (I 0 7) (pN p)
theorem LEn_val {I : Nat → Nat → Int32} {p : qPa} (h : CI I p) (t : Int32) : qVal (LEn I p t) (pS p) := qLn_val (nM := pM p) h.w3 (fun i hi => (h.2.1.2.2.1 i hi).1)
theorem LEn_who {I : Nat → Nat → Int32} {p : qPa} (h : CI I p) (t : Int32) (s : Nat) : LEn I p t s = -1 ∨ qWho (pS p) (pM p) (LEn I p t s) := qLn_in (P := fun a => a = -1 ∨ qWho (pS p) (pM p) a) (Or.inl rfl) _ (fun i hi => Or.inr (h.2.1.2.2.1 i hi).1)
/-- after the class's look -/
def qLk (I : Nat → Nat → Int32) (p : qPa) (t : Int32) (J : Nat → Nat → Int32) : Prop := qFr scV I J ∧ J 69 2 = nI (pS p) ∧ (∀ s, s < 5 → J 70 s = LEn I p t s) ∧ J 51 6 = nI (pN p) ∧ qJud J (pH p) (pN p)
/-- after the reference's -/
def qLr (I : Nat → Nat → Int32) (p : qPa) (t : Int32) (J : Nat → Nat → Int32) : Prop := qFr scN I J ∧ (∀ s, s < pS p → J 89 s = LEn I p t s) ∧ qJudR J (pH p) (pN p)
section L37
variable {d : Nat} {K : qK} {I : Nat → Nat → Int32} {L : Nat → Nat → Int64} {R : Nat → Nat → Option Nat} {sz : Nat} {Q : Option Value → qMem → Prop} {p : qPa}
theorem u11044 {t : Int32} (hK : qLay K sz) (hR : qRef R) (cI : CI I p) (hq : ∀ J, qLk I p t J → Q none (K, J, L, R, sz)) : X (d + 6) 0 0 11044 0 0 0 (qent (qml 11044) [.ref 0, .int t]) [] (K, I, L, R, sz) Q := by
  obtain ⟨c1, c2, ⟨j, hj, hjd, hc⟩, c4, c5, c6⟩ := cI
  exact s11044 hK hR c2.2.1 hj c1.2.1.2.1 c1.1.2.1 c2.1 hjd (fun i hi => (c2.2.2.1 i hi).2.1.to5 c1.2.1.2.1) c2.2.2.2 c4 c5 hc (fun J h1 h2 h3 h4 h5 => hq J ⟨h1, h2, h3, h4, h5⟩)
theorem qBrR_eq (h : RI I p) {s : Nat} (h5 : s < 5) (hs : s < pS p) : qBrR I s = qBr I s := h.2.1.1 s 1 h5 hs (by omega)
theorem u12059 {t : Int32} (hK : qLay K sz) (hR : qRef R) (cI : CI I p) (rI : RI I p) (hq : ∀ J, qLr I p t J → Q none (K, J, L, R, sz)) : X (d + 7) 0 0 12059 0 0 0 (qent (qml 12059) [.ref 73, .int t]) [] (K, I, L, R, sz) Q := by
  obtain ⟨c1, c2, ⟨j, hj, hjd, hc⟩, c4, c5, c6⟩ := cI
  have rI' := rI
  obtain ⟨r1, r2, r3, r4, r5, r6⟩ := rI'
  refine s12059 (n := pN p) (nS := pS p) hK hR c2.2.1 c1.2.1.2.1 (by rw [r1.2.1]; exact c1.1.2.1) (by rw [r3.1]; exact c2.1) (fun i hi => by rw [r3.2.2.1]; exact (c2.2.2.1 i hi).2.1) r4 (fun J h1 h2 h3 => hq J ⟨h1, ?_, h3⟩)
  intro s hs
  rw [h2 s hs, r6, r5.1, r3.2.1, r3.2.2.1, r3.2.2.2]
  unfold LEn
  refine congrFun (qLn_cong (pN p) (fun i hi => ?_)) s
  have hw : (I 53 i).toNatClampNeg < 5 := Nat.lt_of_lt_of_le (qIn_c (c2.2.2.1 i hi).2.1 c1.2.1.2.1) c1.2.1.2.1
  have hm : ¬ nI i = -1 := nI_m1 (by have := c2.2.1; omega)
  rw [qCnt_br (br' := qBrR I) (br := qBr I) (qBrR_eq rI hw (qIn_c (c2.2.2.1 i hi).2.1 c1.2.1.2.1))]
  exact ⟨fun q => q.2, fun q => ⟨hm, q⟩⟩
theorem u5002 {a : Int32} (hK : qLay K sz) (hR : qRef R) (hn : I 69 2 = nI (pS p)) (h5 : pS p ≤ 5) (h : Q (some (.int (hd (I 70) (pS p) a))) (K, I, L, R, sz)) : X (d + 1) 0 0 5002 0 0 0 (qent (qml 5002) [.ref 69, .int a]) [] (K, I, L, R, sz) Q := s5002 hK hR hn h5 h
theorem u5003 {a : Int32} (hK : qLay K sz) (hR : qRef R) (hn : I 69 2 = nI (pS p)) (h5 : pS p ≤ 5) (h : Q (some (.int (cst (I 70) (pS p) a))) (K, I, L, R, sz)) : X (d + 2) 0 0 5003 0 0 0 (qent (qml 5003) [.ref 69, .int a]) [] (K, I, L, R, sz) Q := s5003 hn h5 hK hR h
theorem u5006 {a : Int32} (hK : qLay K sz) (hR : qRef R) (hn : I 69 2 = nI (pS p)) (h5 : pS p ≤ 5) (h : Q (some (.int (hb (I 70) (pS p) a (pS p)))) (K, I, L, R, sz)) : X (d + 2) 0 0 5006 0 0 0 (qent (qml 5006) [.ref 69, .int a]) [] (K, I, L, R, sz) Q := s5006 hn h5 hK hR h
theorem v12060 {a : Int32} (hK : qLay K sz) (hR : qRef R) (mS : I 73 24 = nI (pS p)) (w5 : pS p ≤ 5) (hv : qVal (I 89) (pS p)) (hs : qIn (pS p) a) (hq : Q (some (.int (rst (I 89) (pS p) a))) (K, I, L, R, sz)) : X d 0 0 12060 0 0 0 (qent (qml 12060) [.ref 73, .int a]) [] (K, I, L, R, sz) Q := u12060 hK hR mS w5 hv hs hq
theorem v12062 {a : Int32} (hK : qLay K sz) (hR : qRef R) (mS : I 73 24 = nI (pS p)) (w5 : pS p ≤ 5) (hv : qVal (I 89) (pS p)) (hs : qIn (pS p) a) (hq : Q (some (.int (hd (I 89) (pS p) a))) (K, I, L, R, sz)) : X (d + 1) 0 0 12062 0 0 0 (qent (qml 12062) [.ref 73, .int a]) [] (K, I, L, R, sz) Q := s12062 hK hR mS w5 hv hs hq
theorem v12063 {m : Int32} (hK : qLay K sz) (hR : qRef R) (mS : I 73 24 = nI (pS p)) (w5 : pS p ≤ 5) (hv : qVal (I 89) (pS p)) (hq : Q (some (.int (hb (I 89) (pS p) m (pS p)))) (K, I, L, R, sz)) : X (d + 2) 0 0 12063 0 0 0 (qent (qml 12063) [.ref 73, .int m]) [] (K, I, L, R, sz) Q := s12063 hK hR mS w5 hv hq
end L37
