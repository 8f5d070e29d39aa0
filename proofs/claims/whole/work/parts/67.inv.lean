/-! what holds between two calls: all of it -/
/-- the tape -/
def iTp (I : Nat → Nat → Int32) : Prop := ∃ n, n ≤ 160 ∧ I 1 1 = nI n ∧ I 73 2 = nI n ∧ ∀ k, k < n → I 74 k = I 2 k ∧ ∃ b, 1 ≤ b ∧ b < 256 ∧ I 2 k = nI b
/-- the laws -/
def iLw (I : Nat → Nat → Int32) : Prop := ∃ n, n ≤ 4 ∧ I 0 5 = nI n ∧ ∀ j, j < n → ∃ cs, qLawC I (39 + 3 * j) cs ∧ qLawR I j cs
/-- what was seen -/
def qSee (nM : Nat) (a : Int32) : Prop := a = -1 ∨ a = 9 ∨ qIn nM a
def iSn (I : Nat → Nat → Int32) (p : qPa) : Prop := ∀ s, s < 5 → I 100 s = I 58 s ∧ qSee (pM p) (I 58 s)
/-- the image -/
def iIm (I : Nat → Nat → Int32) (p : qPa) : Prop := I 73 60 = I 0 13 ∧ (I 0 13 = 0 ∨ I 0 13 = 1) ∧ (I 0 13 = 1 →
  (∃ n, n ≤ 40 ∧ I 60 5 = nI n ∧ I 73 59 = nI n ∧ (∀ i, i < n → qWho (pS p) (pM p) (I 61 i) ∧ qIn (pS p) (I 62 i) ∧ qIn 1000 (I 63 i)) ∧ qSort (I 63) n) ∧
  (∀ i, i < 40 → I 105 (3 * i) = I 61 i ∧ I 105 (3 * i + 1) = I 62 i ∧ I 105 (3 * i + 2) = I 63 i) ∧ ∀ s, s < 5 → I 105 (120 + s) = I 67 s ∧ qSee (pM p) (I 67 s))
/-- a house or none -/
def iHv (p : qPa) : Prop := (pR p = 0 ∧ pS p = 0 ∧ pM p = 0 ∧ pT p = 0) ∨ (2 ≤ pR p ∧ 1 ≤ pS p ∧ 1 ≤ pM p)
def iOn (I : Nat → Nat → Int32) : Prop := I 0 8 = 0 ∨ I 0 8 = 1
def iPw (I : Nat → Nat → Int32) : Prop := I 99 0 = 1 ∧ I 99 1 = 3 ∧ I 99 2 = 9 ∧ I 99 3 = 27 ∧ I 99 4 = 81
def iNV (I : Nat → Nat → Int32) (p : qPa) : Prop := CI I p ∧ RI I p ∧ iTp I ∧ iLw I ∧ iSn I p ∧ iIm I p ∧ iHv p ∧ iOn I ∧ iPw I
/-- planner and duel, made or not -/
def qPl (K : qK) (R : Nat → Nat → Option Nat) (sz q : Nat) : Prop := 107 ≤ q ∧ q + 3 ≤ sz ∧ K q = .inl 6 ∧ K (q + 1) = .inr (0, 80000) ∧ K (q + 2) = .inr (0, 3) ∧ R q 0 = some (q + 1) ∧ R q 1 = some (q + 2)
def qDu (K : qK) (R : Nat → Nat → Option Nat) (sz q : Nat) : Prop := 107 ≤ q ∧ q + 4 ≤ sz ∧ K q = .inl 0 ∧ K (q + 1) = .inr (0, 8748) ∧ K (q + 2) = .inr (0, 8748) ∧ K (q + 3) = .inr (0, 5) ∧ ((R q 2 = some (q + 1) ∧ R q 3 = some (q + 2)) ∨ (R q 2 = some (q + 2) ∧ R q 3 = some (q + 1))) ∧ R q 4 = some (q + 3)
def qPD (K : qK) (R : Nat → Nat → Option Nat) (sz : Nat) : Prop := (R 0 16 = none ∨ ∃ q, R 0 16 = some q ∧ qPl K R sz q) ∧ (R 0 17 = none ∨ ∃ q, R 0 17 = some q ∧ qDu K R sz q)
section L67
variable {I J : Nat → Nat → Int32} {p : qPa}
theorem iTp_fr (hf : qFr scQ I J) (h : iTp I) : iTp J := by
  obtain ⟨n, h1, h2, h3, h4⟩ := h
  refine ⟨n, h1, ?_, ?_, ?_⟩
  · rw [hf.row (j := 1) (scQ_no (by omega))]; exact h2
  · rw [hf 73 2 (kpN (by unfold kpQ; omega))]; exact h3
  · rw [hf.row (j := 74) (scQ_no (by omega)), hf.row (j := 2) (scQ_no (by omega))]; exact h4
theorem qLawC_frQ {j : Nat} {cs : List qCls} (hf : qFr scQ I J) (hj : j < 4) (h : qLawC I (39 + 3 * j) cs) : qLawC J (39 + 3 * j) cs := by
  obtain ⟨g1, g2, g3, g4⟩ := h
  refine ⟨?_, g2, ?_, g4⟩
  · rw [hf _ _ (kpN (by unfold kpQ; omega))]; exact g1
  · rw [hf.row (j := 39 + 3 * j + 1) (scQ_no (by omega))]; exact g3
theorem iLw_fr (hf : qFr scQ I J) (h : iLw I) : iLw J := by
  obtain ⟨n, h1, h2, h3⟩ := h
  refine ⟨n, h1, ?_, fun j hj => ?_⟩
  · rw [hf.row (j := 0) (scQ_no (by omega))]; exact h2
  · obtain ⟨cs, g1, g2⟩ := h3 j hj
    exact ⟨cs, qLawC_frQ hf (by omega) g1, qLawR_fr hf (by omega) g2⟩
theorem iSn_fr (hf : qFr scQ I J) (h : iSn I p) : iSn J p := by
  unfold iSn
  rw [hf.row (j := 100) (scQ_no (by omega)), hf.row (j := 58) (scQ_no (by omega))]
  exact h
theorem iIm_fr (hf : qFr scQ I J) (h : iIm I p) : iIm J p := by
  unfold iIm
  rw [hf 73 60 (kpN (by unfold kpQ; omega)), hf 73 59 (kpN (by unfold kpQ; omega)), hf.row (j := 0) (scQ_no (by omega)), hf.row (j := 60) (scQ_no (by omega)), hf.row (j := 61) (scQ_no (by omega)), hf.row (j := 62) (scQ_no (by omega)), hf.row (j := 63) (scQ_no (by omega)), hf.row (j := 105) (scQ_no (by omega)), hf.row (j := 67) (scQ_no (by omega))]
  exact h
/-- a question leaves all as it was -/
theorem iNV_q (h : iNV I p) (g : qAf I p J) : iNV J p := by
  obtain ⟨c, r, h1, h2, h3, h4, h5, h6, h7⟩ := h
  obtain ⟨hf, cJ⟩ := g
  refine ⟨cJ, RI_fr hf r, iTp_fr hf h1, iLw_fr hf h2, iSn_fr hf h3, iIm_fr hf h4, h5, ?_, ?_⟩
  · unfold iOn; rw [hf.row (j := 0) (scQ_no (by omega))]; exact h6
  · unfold iPw; rw [hf.row (j := 99) (scQ_no (by omega))]; exact h7
end L67
