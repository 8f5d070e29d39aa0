/-! acts: set, image, back -/
def stOk (v a b : Int32) : Prop := (a = 0 ∧ ¬ b < -1 ∧ ¬ v ≤ b) ∨ (a = 1 ∧ ¬ b < 0 ∧ ¬ 999 < b) ∨ (a = 2 ∧ ¬ b < 0 ∧ ¬ 1 < b)
def pWH (p : qPa) (w : Option Nat) (hh : Option (List qCls)) : qPa := (pR p, pS p, pM p, pT p, pN p, w, hh)
/-- after set, of the class, of the reference -/
def stC (I : Nat → Nat → Int32) (a b : Int32) (J : Nat → Nat → Int32) : Prop := qFr (fun j k => (j = 0 ∧ 6 ≤ k ∧ k ≤ 8) ∨ (j = 51 ∧ k = 6)) I J ∧ J 0 6 = (if a = 0 then b else I 0 6) ∧ J 0 7 = (if a = 1 then b else I 0 7) ∧ J 0 8 = (if a = 2 then b else I 0 8) ∧ J 51 6 = (if a = 0 then 0 else I 51 6)
def stR (I : Nat → Nat → Int32) (a b : Int32) (J : Nat → Nat → Int32) : Prop := qFr (fun j k => j = 73 ∧ 27 ≤ k ∧ k ≤ 29) I J ∧ J 73 27 = (if a = 0 then b else I 73 27) ∧ J 73 28 = (if a = 1 then b else I 73 28) ∧ J 73 29 = (if a = 2 then b else I 73 29)
section L73
variable {d : Nat} {K : qK} {I J H : Nat → Nat → Int32} {L : Nat → Nat → Int64} {R : Nat → Nat → Option Nat} {sz : Nat} {Q : Option Value → qMem → Prop} {p : qPa}
theorem s11008 {a b : Int32} (hK : qLay K sz) (hR : qRef R) (ht : stOk (I 0 5) a b → ∀ J, stC I a b J → Q (some (.int 1)) (K, J, L, R, sz)) (hf : ¬ stOk (I 0 5) a b → Q (some (.int 0)) (K, I, L, R, sz)) : X d 0 0 11008 0 0 0 (qent (qml 11008) [.ref 0, .int a, .int b]) [] (K, I, L, R, sz) Q := by
  have h55 : ¬ (a = 0 ∧ ¬ b < -1 ∧ ¬ I 0 5 ≤ b) → ¬ (a = 1 ∧ ¬ b < 0 ∧ ¬ 999 < b) → X d 0 0 11008 0 0 55 [some (.ref 0), some (.int a), some (.int b)] [] (K, I, L, R, sz) Q := by
    intro n0 n1
    have hno : ¬ (a = 2 ∧ ¬ b < 0 ∧ ¬ 1 < b) → ¬ stOk (I 0 5) a b := fun n2 q => by rcases q with q | q | q; exact n0 q; exact n1 q; exact n2 q
    refine g11008_55 hK (fun h => hf (hno (fun q => h q.1))) (fun h h2 => hf (hno (fun q => q.2.1 h2))) (fun h h2 h3 => hf (hno (fun q => q.2.2 h3))) (fun h h2 h3 => ht (Or.inr (Or.inr ⟨h, h2, h3⟩)) _ ⟨?_, ?_, ?_, ?_, ?_⟩)
    · exact qFr.up1 (P := fun j k => (j = 0 ∧ 6 ≤ k ∧ k ≤ 8) ∨ (j = 51 ∧ k = 6)) (by simp)
    · rw [if_neg (by rw [h]; decide)]; rfl
    · rw [if_neg (by rw [h]; decide)]; rfl
    · rw [if_pos h]; rfl
    · rw [if_neg (by rw [h]; decide)]; rfl
  have h32 : ¬ (a = 0 ∧ ¬ b < -1 ∧ ¬ I 0 5 ≤ b) → X d 0 0 11008 0 0 32 [some (.ref 0), some (.int a), some (.int b)] [] (K, I, L, R, sz) Q := by
    intro n0
    refine g11008_32 hK (fun h => h55 n0 (fun q => h q.1)) (fun h h2 => h55 n0 (fun q => q.2.1 h2)) (fun h h2 h3 => h55 n0 (fun q => q.2.2 h3)) (fun h h2 h3 => ht (Or.inr (Or.inl ⟨h, h2, h3⟩)) _ ⟨?_, ?_, ?_, ?_, ?_⟩)
    · exact qFr.up1 (P := fun j k => (j = 0 ∧ 6 ≤ k ∧ k ≤ 8) ∨ (j = 51 ∧ k = 6)) (by simp)
    · rw [if_neg (by rw [h]; decide)]; rfl
    · rw [if_pos h]; rfl
    · rw [if_neg (by rw [h]; decide)]; rfl
    · rw [if_neg (by rw [h]; decide)]; rfl
  refine e11008 hK hR (fun h => h32 (fun q => h q.1)) (fun h h2 => h32 (fun q => q.2.1 h2)) (fun h h2 h3 => h32 (fun q => q.2.2 h3)) (fun h h2 h3 => ht (Or.inl ⟨h, h2, h3⟩) _ ⟨?_, ?_, ?_, ?_, ?_⟩)
  · exact (qFr.up1 (P := fun j k => (j = 0 ∧ 6 ≤ k ∧ k ≤ 8) ∨ (j = 51 ∧ k = 6)) (by simp)).trans (qFr.up1 (P := fun j k => (j = 0 ∧ 6 ≤ k ∧ k ≤ 8) ∨ (j = 51 ∧ k = 6)) (by simp))
  · rw [if_pos h]; rfl
  · rw [if_neg (by rw [h]; decide)]; rfl
  · rw [if_neg (by rw [h]; decide)]; rfl
  · rw [if_pos h]; rfl
theorem s12052 {a b v : Int32} {nl : Nat} (hK : qLay K sz) (hv : I 73 13 = v) (hl : v = nI nl) (h4 : nl ≤ 4) (ht : stOk v a b → ∀ J, stR I a b J → Q (some (.int 1)) (K, J, L, R, sz)) (hf : ¬ stOk v a b → Q (some (.int 0)) (K, I, L, R, sz)) : X (d + 1) 0 0 12052 0 0 0 (qent (qml 12052) [.ref 73, .int a, .int b]) [] (K, I, L, R, sz) Q := by
  have hle : b ≤ I 73 13 - 1 ↔ ¬ v ≤ b := by
    rw [hv, hl, i_le, i_le, nI_i (by omega)]
    have : (nI nl - 1).toInt = (nl : Int) - 1 := by
      have := pk_sub_toInt (a := nl) (b := 1) (by omega) (by omega)
      exact this
    rw [this]
    omega
  have h52 : stOk v a b → X (d + 1) 0 0 12052 0 0 52 [some (.ref 73), some (.int a), some (.int b)] [] (K, I, L, R, sz) Q := by
    intro ok
    have h85 : ∀ M, qFr (fun j k => j = 73 ∧ 27 ≤ k ∧ k ≤ 29) I M → M 73 27 = (if a = 0 then b else I 73 27) → M 73 28 = (if a = 1 then b else I 73 28) → M 73 29 = I 73 29 → X (d + 1) 0 0 12052 0 0 85 [some (.ref 73), some (.int a), some (.int b)] [] (K, M, L, R, sz) Q := by
      intro M m1 m2 m3 m4
      refine g12052_85 hK (fun h => ht ok _ ⟨m1.trans (qFr.up1 (by simp)), m2, m3, ?_⟩) (fun h => ht ok _ ⟨m1.trans (qFr.up1 (by simp)), m2, m3, ?_⟩)
      · rw [if_neg h, ← m4]; rfl
      · rw [if_pos h]; rfl
    have h68 : ∀ M, qFr (fun j k => j = 73 ∧ 27 ≤ k ∧ k ≤ 29) I M → M 73 27 = (if a = 0 then b else I 73 27) → M 73 28 = I 73 28 → M 73 29 = I 73 29 → X (d + 1) 0 0 12052 0 0 68 [some (.ref 73), some (.int a), some (.int b)] [] (K, M, L, R, sz) Q := by
      intro M m1 m2 m3 m4
      refine g12052_68 hK (fun h => h85 _ (m1.trans (qFr.up1 (by simp))) m2 ?_ m4) (fun h => h85 _ (m1.trans (qFr.up1 (by simp))) m2 ?_ m4)
      · rw [if_neg h, ← m3]; rfl
      · rw [if_pos h]; rfl
    refine g12052_52 hK (fun h => h68 _ (qFr.up1 (by simp)) ?_ rfl rfl) (fun h => h68 _ (qFr.up1 (by simp)) ?_ rfl rfl)
    · rw [if_neg h]; rfl
    · rw [if_pos h]; rfl
  have e0 : (0 : Int32).toInt = 0 := rfl
  have e1 : (1 : Int32).toInt = 1 := rfl
  have e2 : (2 : Int32).toInt = 2 := rfl
  have e9 : (999 : Int32).toInt = 999 := rfl
  have em : (-1 : Int32).toInt = -1 := rfl
  refine e12052 hK (fun h1 h2 h3 h4 h5 h6 => h52 (Or.inr (Or.inr ⟨?_, ?_, ?_⟩))) (fun h1 h2 h3 h4 h5 => hf (fun q => ?_)) (fun h1 h2 h3 h4 h5 h6 => h52 (Or.inr (Or.inl ⟨h4, ?_, ?_⟩))) (fun h1 h2 h3 h4 h5 => hf (fun q => ?_)) (fun h1 h2 h3 h4 h5 => h52 (Or.inl ⟨h3, ?_, hle.mp h5⟩)) (fun h1 h2 h3 h4 => hf (fun q => ?_)) (fun h => hf (fun q => h ?_))
  · rw [i_le] at h1 h2; rw [i_eq] at h3 h4 ⊢; omega
  · rw [i_le] at h5; rw [i_lt]; omega
  · rw [i_le] at h6; rw [i_lt]; omega
  · rcases q with q | q | q
    · exact h3 q.1
    · exact h4 q.1
    · refine h5 ⟨?_, ?_⟩
      · have := q.2.1; rw [i_lt] at this; rw [i_le]; omega
      · have := q.2.2; rw [i_lt] at this; rw [i_le]; omega
  · rw [i_le] at h5; rw [i_lt]; omega
  · rw [i_le] at h6; rw [i_lt]; omega
  · rcases q with q | q | q
    · exact h3 q.1
    · refine h5 ⟨?_, ?_⟩
      · have := q.2.1; rw [i_lt] at this; rw [i_le]; omega
      · have := q.2.2; rw [i_lt] at this; rw [i_le]; omega
    · rw [q.1] at h4; exact absurd h4 (by decide)
  · rw [i_le] at h4; rw [i_lt]; omega
  · rcases q with q | q | q
    · refine h4 ⟨?_, hle.mpr q.2.2⟩
      have := q.2.1; rw [i_lt] at this; rw [i_le]; omega
    · rw [q.1] at h3; exact absurd h3 (by decide)
    · rw [q.1] at h3; exact absurd h3 (by decide)
  · rcases q with q | q | q <;> rw [q.1] <;> decide
theorem iNV_st {w : Option Nat} {hh : Option (List qCls)} (h : iNV I p) (hf : qFr (fun j k => (j = 0 ∧ 6 ≤ k ∧ k ≤ 8) ∨ (j = 51 ∧ k = 6) ∨ (j = 73 ∧ 27 ≤ k ∧ k ≤ 29)) I H) (c4 : qHw H w) (c5 : qHo I w hh) (r4 : (H 73 27 = -1 ∧ hh = none) ∨ ∃ n cs, H 73 27 = nI n ∧ hh = some cs ∧ n < 4 ∧ qLawR I n cs) (cj : ∃ j, j ≤ pN p ∧ H 51 6 = nI j ∧ qJud I hh j) (c6 : qIn 1000 (H 0 7)) (on : H 0 8 = 0 ∨ H 0 8 = 1) (e27 : H 73 27 = H 0 6) (e28 : H 73 28 = H 0 7) (e29 : H 73 29 = H 0 8) : iNV H (pWH p w hh) := by
  obtain ⟨c, r, h1, h2, h3, h4, h5, h6, h7⟩ := h
  obtain ⟨⟨⟨a1, a2, a3, a4⟩, ⟨b1, b2, b3, b4⟩, hc, hd, he⟩, c2, -, -, -, -⟩ := c
  have hrow : ∀ j, j ≠ 0 → j ≠ 51 → j ≠ 73 → H j = I j := fun j q1 q2 q3 => hf.row (fun k q => by omega)
  have e22 : H 22 = I 22 := hrow 22 (by omega) (by omega) (by omega)
  have hlp : ∀ j k, kpL j k → H j k = I j k := fun j k q => hf j k (by unfold kpL at q; omega)
  have h05 : H 0 5 = I 0 5 := hf 0 5 (by omega)
  refine ⟨⟨⟨⟨by rw [e22]; exact a1, by rw [e22]; exact a2, by rw [e22]; exact a3, by rw [e22]; exact a4⟩, ⟨b1, b2, b3, b4⟩, ?_, ?_, ?_⟩, ?_, ?_, c4, ?_, c6⟩, ?_, ?_, ?_, ?_, ?_, ?_, ?_, ?_⟩
  · intro s hs
    have hs' : s < pS p := hs
    rw [hrow (24 + s) (by omega) (by omega) (by omega)]; exact hc s hs
  · intro m hm
    have hm' : m < pM p := hm
    rw [hrow (30 + m) (by omega) (by omega) (by omega)]; exact hd m hm
  · intro t ht
    have ht' : t < pT p := ht
    rw [hrow (34 + t) (by omega) (by omega) (by omega)]; exact he t ht
  · unfold vTk
    rw [hf 51 5 (by omega), hrow 52 (by omega) (by omega) (by omega), hrow 53 (by omega) (by omega) (by omega), hrow 54 (by omega) (by omega) (by omega)]
    exact c2
  · obtain ⟨j, j1, j2, j3⟩ := cj
    refine ⟨j, j1, j2, fun i hi => ?_⟩
    rw [hrow 55 (by omega) (by omega) (by omega), hrow 52 (by omega) (by omega) (by omega), hrow 53 (by omega) (by omega) (by omega), hrow 54 (by omega) (by omega) (by omega)]
    have hw : (I 53 i).toNatClampNeg < 5 := Nat.lt_of_lt_of_le (qIn_c (c2.2.2.1 i (by omega)).2.1 b2) b2
    rw [qCnt_br (br' := qBr H) (br := qBr I) (by unfold qBr; rw [hrow _ (by omega) (by omega) (by omega)])]
    exact j3 i hi
  · rcases c5 with q | ⟨j, cs, g1, g2, g3, g4⟩
    · exact Or.inl q
    · exact Or.inr ⟨j, cs, g1, g2, g3, qLawC_tr hlp g3 g4⟩
  · obtain ⟨⟨q1, q2, q3, q4⟩, ⟨q5, q6, q7⟩, ⟨q8, q9, q10, q11⟩, q12, ⟨q13, q14, q15, q16⟩, q17⟩ := r
    have h73 : ∀ k, (k < 27 ∨ 29 < k) → H 73 k = I 73 k := fun k hk => hf 73 k (by omega)
    refine ⟨⟨by rw [h73 23 (by omega), e22]; exact q1, by rw [h73 24 (by omega), e22]; exact q2, by rw [h73 25 (by omega), e22]; exact q3, by rw [h73 26 (by omega), e22]; exact q4⟩, ⟨?_, ?_, ?_⟩, ⟨by rw [h73 33 (by omega), hf 51 5 (by omega)]; exact q8, by rw [hrow 86 (by omega) (by omega) (by omega), hrow 52 (by omega) (by omega) (by omega)]; exact q9, by rw [hrow 87 (by omega) (by omega) (by omega), hrow 53 (by omega) (by omega) (by omega)]; exact q10, by rw [hrow 88 (by omega) (by omega) (by omega), hrow 54 (by omega) (by omega) (by omega)]; exact q11⟩, ?_, ⟨e28, e27, e29, by rw [h73 13 (by omega), h05]; exact q16⟩, by rw [h73 34 (by omega)]; exact q17⟩
    · intro s k hs hk
      rw [hrow 85 (by omega) (by omega) (by omega), hrow (24 + s) (by omega) (by omega) (by omega)]; exact q5 s k hs hk
    · intro m hm
      rw [hrow 85 (by omega) (by omega) (by omega), hrow (30 + m) (by omega) (by omega) (by omega)]; exact q6 m hm
    · intro t k ht hk
      rw [hrow 85 (by omega) (by omega) (by omega), hrow (34 + t) (by omega) (by omega) (by omega)]; exact q7 t k ht hk
    · rcases r4 with ⟨w1, w2⟩ | ⟨i, cs, w1, w2, w3, w4⟩
      · exact Or.inl ⟨w1, w2⟩
      · exact Or.inr ⟨i, cs, w1, w2, w3, qLawR_tr hlp w3 w4⟩
  · exact iTp_cr (fun j k q => hf j k (by unfold kpT at q; omega)) h1
  · exact iLw_cr h05 hlp h2
  · exact iSn_cr (p := p) (fun j k q => hf j k (by unfold kpS at q; omega)) h3
  · exact iIm_cr (p := p) (fun j k q => hf j k (by unfold kpI at q; omega)) h4
  · exact h5
  · exact on
  · unfold iPw; rw [hrow 99 (by omega) (by omega) (by omega)]; exact h7
theorem iNV_set {a b : Int32} (h : iNV I p) (ok : stOk (I 0 5) a b) (g : stC I a b J) (g2 : stR J a b H) : ∃ p', iNV H p' := by
  obtain ⟨f1, f2, f3, f4, f5⟩ := g
  obtain ⟨k1, k2, k3, k4⟩ := g2
  have h' := h
  obtain ⟨c, r, h1, ⟨nl, l1, l2, l3⟩, h3, h4, h5, h6, h7⟩ := h'
  have hf : qFr (fun j k => (j = 0 ∧ 6 ≤ k ∧ k ≤ 8) ∨ (j = 51 ∧ k = 6) ∨ (j = 73 ∧ 27 ≤ k ∧ k ≤ 29)) I H := fun j k q => by rw [k1 j k (by omega), f1 j k (by omega)]
  have b6 : H 0 6 = if a = 0 then b else I 0 6 := by rw [k1 0 6 (by omega)]; exact f2
  have b7 : H 0 7 = if a = 1 then b else I 0 7 := by rw [k1 0 7 (by omega)]; exact f3
  have b8 : H 0 8 = if a = 2 then b else I 0 8 := by rw [k1 0 8 (by omega)]; exact f4
  have bj : H 51 6 = if a = 0 then 0 else I 51 6 := by rw [k1 51 6 (by omega)]; exact f5
  have b27 : H 73 27 = if a = 0 then b else I 0 6 := by rw [k2, f1 73 27 (by omega), r.2.2.2.2.1.2.1]
  have b28 : H 73 28 = if a = 1 then b else I 0 7 := by rw [k3, f1 73 28 (by omega), r.2.2.2.2.1.1]
  have b29 : H 73 29 = if a = 2 then b else I 0 8 := by rw [k4, f1 73 29 (by omega), r.2.2.2.2.1.2.2.1]
  have h05 : H 0 5 = I 0 5 := hf 0 5 (by omega)
  have e0 : (0 : Int32).toInt = 0 := rfl
  have e1 : (1 : Int32).toInt = 1 := rfl
  have e9 : (999 : Int32).toInt = 999 := rfl
  have em : (-1 : Int32).toInt = -1 := rfl
  rcases ok with ⟨q1, q2, q3⟩ | ⟨q1, q2, q3⟩ | ⟨q1, q2, q3⟩
  · have n1 : ¬ a = 1 := by rw [q1]; decide
    have n2 : ¬ a = 2 := by rw [q1]; decide
    rw [if_pos q1] at b6 bj b27
    rw [if_neg n1] at b7 b28
    rw [if_neg n2] at b8 b29
    by_cases hb : b = -1
    · refine ⟨_, iNV_st (w := none) (hh := none) h hf ?_ (Or.inl ⟨rfl, rfl⟩) (Or.inl ⟨by rw [b27]; exact hb, rfl⟩) ⟨0, Nat.zero_le _, bj, fun i hi => by omega⟩ (by rw [b7]; exact c.2.2.2.2.2) (by rw [b8]; exact h6) (by rw [b27, b6]) (by rw [b28, b7]) (by rw [b29, b8])⟩
      show H 0 6 = -1
      rw [b6]; exact hb
    · have hin : ∃ j, j < nl ∧ b = nI j := by
        rw [i_lt] at q2
        rw [l2, i_le, nI_i (by omega)] at q3
        rw [i_eq] at hb
        exact ⟨b.toInt.toNat, by omega, by rw [i_eq, nI_i (by omega)]; omega⟩
      obtain ⟨j, hj, rfl⟩ := hin
      obtain ⟨cs, g1, g2⟩ := l3 j hj
      refine ⟨_, iNV_st (w := some j) (hh := some cs) h hf ?_ (Or.inr ⟨j, cs, rfl, rfl, by omega, g1⟩) (Or.inr ⟨j, cs, b27, rfl, by omega, g2⟩) ⟨0, Nat.zero_le _, bj, fun i hi => by omega⟩ (by rw [b7]; exact c.2.2.2.2.2) (by rw [b8]; exact h6) (by rw [b27, b6]) (by rw [b28, b7]) (by rw [b29, b8])⟩
      show H 0 6 = nI j ∧ j < 4 ∧ ∃ k, j < k ∧ k ≤ 4 ∧ H 0 5 = nI k
      exact ⟨b6, by omega, nl, hj, l1, by rw [h05]; exact l2⟩
  all_goals
    have n0 : ¬ a = 0 := by rw [q1]; decide
    rw [if_neg n0] at b6 bj b27
    have hw : qHw H (pW p) := by
      have := c.2.2.2.1
      unfold qHw at this ⊢
      rw [b6, h05]; exact this
    have r4 : (H 73 27 = -1 ∧ pH p = none) ∨ ∃ n cs, H 73 27 = nI n ∧ pH p = some cs ∧ n < 4 ∧ qLawR I n cs := by
      have := r.2.2.2.1
      unfold qHoR at this
      rw [r.2.2.2.2.1.2.1] at this
      rw [b27]; exact this
    have cj : ∃ j, j ≤ pN p ∧ H 51 6 = nI j ∧ qJud I (pH p) j := by rw [bj]; exact c.2.2.1
    refine ⟨_, iNV_st (w := pW p) (hh := pH p) h hf hw c.2.2.2.2.1 r4 cj ?_ ?_ (by rw [b27, b6]) (by rw [b28, b7]) (by rw [b29, b8])⟩
  · rw [b7, if_pos q1]
    rw [i_lt] at q2 q3
    exact ⟨b.toInt.toNat, by omega, by rw [i_eq, nI_i (by omega)]; omega⟩
  · rw [b8, if_neg (by rw [q1]; decide)]; exact h6
  · rw [b7, if_neg (by rw [q1]; decide)]; exact c.2.2.2.2.2
  · rw [b8, if_pos q1]
    rw [i_lt] at q2 q3
    rw [i_eq, i_eq]; omega
end L73
