/-! acts: day, both; what holds then -/
def daOk (p : qPa) (lt a : Int32) : Prop := ¬ pS p = 0 ∧ ¬ a < 1 ∧ a ≤ 40 - nI (pN p) ∧ lt + a ≤ 999
theorem daOk_n {p : qPa} {lt a : Int32} (n40 : pN p ≤ 40) (h : daOk p lt a) : ∃ n, 1 ≤ n ∧ pN p + n ≤ 40 ∧ a = nI n := by
  obtain ⟨-, h2, h3, -⟩ := h
  rw [i_lt] at h2
  have e : ((40 : Int32) - nI (pN p)).toInt = 40 - (pN p : Int) := pk_sub_toInt (a := 40) (by omega) (by omega)
  rw [i_le, e] at h3
  have e1 : (1 : Int32).toInt = 1 := rfl
  exact ⟨a.toInt.toNat, by omega, by omega, by rw [i_eq, nI_i (by omega)]; omega⟩
theorem daOk_k {p : qPa} {lt : Int32} {k : Nat} (n40 : pN p ≤ 40) (h1 : 1 ≤ k) (h4 : k ≤ 40) : daOk p lt (nI k) ↔ ¬ pS p = 0 ∧ pN p + k ≤ 40 ∧ lt + nI k ≤ 999 := by
  unfold daOk
  have e : ((40 : Int32) - nI (pN p)).toInt = 40 - (pN p : Int) := pk_sub_toInt (a := 40) (by omega) (by omega)
  have e1 : (1 : Int32).toInt = 1 := rfl
  constructor
  · rintro ⟨q1, q2, q3, q4⟩
    rw [i_le, e, nI_i (by omega)] at q3
    exact ⟨q1, by omega, q4⟩
  · rintro ⟨q1, q2, q3⟩
    refine ⟨q1, ?_, ?_, q3⟩
    · rw [i_lt, nI_i (by omega)]; omega
    · rw [i_le, e, nI_i (by omega)]; omega
section L76
variable {d : Nat} {K : qK} {I J H : Nat → Nat → Int32} {L : Nat → Nat → Int64} {R : Nat → Nat → Option Nat} {sz : Nat} {Q : Option Value → qMem → Prop} {p : qPa}
theorem s11028 {a : Int32} {b : Int64} (hK : qLay K sz) (hR : qRef R) (cI : CI I p) (hv : iHv p) (ht : daOk p (tkL I p) a → ∀ n, pN p + n ≤ 40 → 1 ≤ n → a = nI n → ∀ J, apC I p n (dva b (nI (pM p))) (dvb b (nI (pS p))) (fun k => tkL I p + nI k + 1) J → Q (some (.int (nI (pN p + n)))) (K, J, L, R, sz)) (hf : ¬ daOk p (tkL I p) a → Q (some (.int (-1))) (K, I, L, R, sz)) : X (d + 1) 0 0 11028 0 0 0 (qent (qml 11028) [.ref 0, .int a, .long b]) [] (K, I, L, R, sz) Q := by
  have n40 := cI.2.1.2.1
  have e5 := cI.2.1.1
  refine e11028 (p := p) hK hR cI (fun h1 h2 => hf (fun q => q.2.1 h2)) (fun h1 h2 h3 h4 => ?_) (fun h1 h2 h3 h4 => hf (fun q => h4 q.2.2.2)) (fun h1 h2 h3 => hf (fun q => h3 (by rw [e5]; exact q.2.2.1))) (fun h1 => hf (fun q => q.1 h1))
  rw [e5] at h3
  have ok : daOk p (tkL I p) a := ⟨h1, h2, h3, h4⟩
  obtain ⟨n, n1, n2, n3⟩ := daOk_n n40 ok
  have hM : ¬ pM p = 0 := by rcases hv with q | q <;> omega
  have := l11028 (p := p) (I := I) (d := d) (Q := Q) (L := L) (x := b) (x2 := b) (lt := tkL I p) hK hR cI n3 h1 hM n2 (fun J hJ => ht ok n n2 n1 n3 J hJ) n 0 I (by omega) ⟨qFr.refl, e5, dyW_0.symm, dyW_0.symm, dyW_0.symm⟩
  rw [show nI 0 = (0 : Int32) from rfl, Int32.add_zero] at this
  exact this
theorem s12095 {a : Int32} {b : Int64} {mi : Nat → Int32} (hK : qLay K sz) (hR : qRef R) (sS : I 73 24 = nI (pS p)) (s5 : pS p ≤ 5) (sM : I 73 25 = nI (pM p)) (s3 : pM p ≤ 3) (h33 : I 73 33 = nI (pN p)) (n40 : pN p ≤ 40) (e88 : I 88 = mi) (hmi : ¬ pN p = 0 → qIn 1000 (mi (pN p - 1))) (hv : iHv p) (ht : daOk p (if pN p = 0 then -1 else mi (pN p - 1)) a → ∀ n, pN p + n ≤ 40 → 1 ≤ n → a = nI n → ∀ J, apR I (pN p) n (dva b (nI (pM p))) (dvb b (nI (pS p))) (fun k => (if pN p = 0 then -1 else mi (pN p - 1)) + nI k + 1) J → Q (some (.int (nI (pN p + n)))) (K, J, L, R, sz)) (hf : ¬ daOk p (if pN p = 0 then -1 else mi (pN p - 1)) a → Q (some (.int (-1))) (K, I, L, R, sz)) : X (d + 1) 0 0 12095 0 0 0 (qent (qml 12095) [.ref 73, .int a, .long b]) [] (K, I, L, R, sz) Q := by
  have hz : I 73 33 = 0 ↔ pN p = 0 := by rw [h33]; exact nI_eq (b := 0) (by omega) (by omega)
  have hz24 : I 73 24 = 0 ↔ pS p = 0 := by rw [sS]; exact nI_eq (b := 0) (by omega) (by omega)
  have hm1 : ¬ pN p = 0 → I 73 33 - 1 = nI (pN p - 1) := fun h => by rw [h33, show pN p = (pN p - 1) + 1 from by omega, nI_pred]; rfl
  have e1 : (1 : Int32).toInt = 1 := rfl
  have e40 : (40 : Int32).toInt = 40 := rfl
  have ha : 1 ≤ a → a ≤ 40 → ∃ k, 1 ≤ k ∧ k ≤ 40 ∧ a = nI k := fun h1 h2 => by
    rw [i_le] at h1 h2
    exact ⟨a.toInt.toNat, by omega, by omega, by rw [i_eq, nI_i (by omega)]; omega⟩
  have h40 : ∀ k, k ≤ 40 → (40 < I 73 33 + nI k ↔ 40 < pN p + k) := fun k hk => by
    rw [h33, nI_add]; exact nI_ltI (a := 40) (by omega) (by omega)
  have hno : ¬ (1 ≤ a ∧ a ≤ 40) → ∀ lt, ¬ daOk p lt a := fun h lt q => by
    obtain ⟨n, n1, n2, n3⟩ := daOk_n n40 q
    apply h
    rw [n3, i_le, i_le, nI_i (by omega)]
    omega
  have hgo : ∀ k fr, ¬ I 73 24 = 0 → 1 ≤ k → k ≤ 40 → a = nI k → ¬ 40 < I 73 33 + a → fr = (if pN p = 0 then -1 else mi (pN p - 1)) + 1 → (if pN p = 0 then -1 else mi (pN p - 1)) + a ≤ 999 → X (d + 1) 0 0 12095 0 0 74 [some (.ref 73), some (.int a), some (.long b), none, some (.int fr), some (.long b), none, some (.int 0)] [] (K, I, L, R, sz) Q := by
    intro k fr h1 h2 h3 h4 h5 h6 h7
    have hS : ¬ pS p = 0 := fun q => h1 (hz24.mpr q)
    have hM : ¬ pM p = 0 := by rcases hv with q | q <;> omega
    have hk40 : pN p + k ≤ 40 := by
      have := mt (h40 k h3).mpr (by rw [← h4]; exact h5)
      omega
    have ok : daOk p (if pN p = 0 then -1 else mi (pN p - 1)) a := by
      rw [h4]; exact (daOk_k n40 h2 h3).mpr ⟨hS, hk40, by rw [← h4]; exact h7⟩
    exact l12095 (p := p) (I := I) (d := d) (Q := Q) (L := L) (x := b) (x2 := b) (fr := fr) hK hR sS s5 sM s3 h4 hS hM hk40 (fun J hJ => ht ok k hk40 h2 h4 J (by
      rw [show (fun k => (if pN p = 0 then -1 else mi (pN p - 1)) + nI k + 1) = (fun k => fr + nI k) from funext fun j => by rw [h6, Int32.add_assoc, Int32.add_comm (nI j) 1, ← Int32.add_assoc]]
      exact hJ)) k 0 I (by omega) ⟨qFr.refl, h33, dyW_0.symm, dyW_0.symm, dyW_0.symm⟩
  have hsub : ∀ x : Int32, (x + 1 + a) - 1 = x + a := fun x => by
    rw [show x + 1 + a = x + a + 1 from by ac_rfl, Int32.add_sub_cancel]
  have h0 : pN p = 0 → ((0 : Int32) + a) - 1 = (if pN p = 0 then -1 else mi (pN p - 1)) + a := fun h => by
    rw [if_pos h, Int32.zero_add, Int32.sub_eq_add_neg, Int32.add_comm]
  have hn0 : ¬ pN p = 0 → (I 88 ((I 73 33 - 1).toNatClampNeg) + 1 + a) - 1 = (if pN p = 0 then -1 else mi (pN p - 1)) + a := fun h => by
    rw [if_neg h, hsub, hm1 h, nI_c (by omega), e88]
  refine e12095 hK hR (fun h => by rw [hm1 (fun q => h (hz.mpr q))]; exact vI (by omega) (by omega)) (fun h1 h2 => hf (fun q => q.1 (hz24.mp h2))) (fun h1 h2 h3 h4 h5 => hf (fun q => ?_)) (fun h1 h2 h3 h4 h5 h6 => ?_) (fun h1 h2 h3 h4 h5 h6 => hf (fun q => ?_)) (fun h1 h2 h3 => hf (hno h3 _)) (fun h1 h2 => hf (fun q => q.1 (hz24.mp h2))) (fun h1 h2 h3 h4 h5 => hf (fun q => ?_)) (fun h1 h2 h3 h4 h5 h6 => ?_) (fun h1 h2 h3 h4 h5 h6 => hf (fun q => ?_)) (fun h1 h2 h3 => hf (hno h3 _))
  · obtain ⟨k, k1, k2, k3⟩ := ha h3 h4
    rw [k3] at q h5
    have := ((daOk_k n40 k1 k2).mp q).2.1
    have := (h40 k k2).mp h5
    omega
  · obtain ⟨k, k1, k2, k3⟩ := ha h3 h4
    have hN : ¬ pN p = 0 := fun q => h1 (hz.mpr q)
    rw [hn0 hN] at h6
    exact hgo k _ h2 k1 k2 k3 h5 (by rw [if_neg hN, hm1 hN, nI_c (by omega), e88]) h6
  · have hN : ¬ pN p = 0 := fun q => h1 (hz.mpr q)
    rw [hn0 hN] at h6
    exact h6 q.2.2.2
  · obtain ⟨k, k1, k2, k3⟩ := ha h3 h4
    rw [k3] at q h5
    have := ((daOk_k n40 k1 k2).mp q).2.1
    have := (h40 k k2).mp h5
    omega
  · obtain ⟨k, k1, k2, k3⟩ := ha h3 h4
    have hN : pN p = 0 := hz.mp h1
    rw [h0 hN] at h6
    exact hgo k _ h2 k1 k2 k3 h5 (by rw [if_pos hN]; rfl) h6
  · have hN : pN p = 0 := hz.mp h1
    rw [h0 hN] at h6
    exact h6 q.2.2.2
theorem iNV_day {n : Nat} {b : Int64} (h : iNV I p) (ok : daOk p (tkL I p) (nI n)) (hn : pN p + n ≤ 40) (n1 : 1 ≤ n) (g : apC I p n (dva b (nI (pM p))) (dvb b (nI (pS p))) (fun k => tkL I p + nI k + 1) J) (g2 : apR J (pN p) n (dva b (nI (pM p))) (dvb b (nI (pS p))) (fun k => tkL I p + nI k + 1) H) : iNV H (pNn p (pN p + n)) := by
  obtain ⟨f1, f2, f3, f4, f5⟩ := g
  obtain ⟨k1, k2, k3, k4, k5⟩ := g2
  have hc := h.1
  have r := h.2.1
  have w5 := hc.w5
  have w3 := hc.w3
  have hS : 1 ≤ pS p := by have := ok.1; omega
  have hM : 1 ≤ pM p := by rcases h.2.2.2.2.2.2.1 with q | q <;> omega
  obtain ⟨j0, j1, j2, -⟩ := hc.2.2.1
  have e1 : ∀ j, 52 ≤ j → j ≤ 54 → H j = J j := fun j q1 q2 => k1.row (fun k q => by omega)
  have e2 : ∀ j, 86 ≤ j → j ≤ 88 → J j = I j := fun j q1 q2 => f1.row (fun k q => by omega)
  have hvc : ∃ m0, (∀ k, k < n → tkL I p + nI k + 1 = nI (m0 + k)) ∧ m0 + n ≤ 1000 ∧ (¬ pN p = 0 → ∃ m, I 54 (pN p - 1) = nI m ∧ m0 = m + 1) := by
    unfold tkL at ok ⊢
    by_cases hN : pN p = 0
    · refine ⟨0, fun k hk => ?_, by omega, fun q => absurd hN q⟩
      rw [if_pos hN, Nat.zero_add, show (-1 : Int32) + nI k + 1 = (-1 + 1) + nI k from by ac_rfl]
      show (0 : Int32) + nI k = nI k
      rw [Int32.zero_add]
    · obtain ⟨m, m1, m2⟩ := (hc.2.1.2.2.1 (pN p - 1) (by omega)).2.2
      have h9 := ok.2.2.2
      rw [if_neg hN, m2, nI_add] at h9
      have := (nI_leI (a := m + n) (b := 999) (by omega) (by omega)).mp h9
      refine ⟨m + 1, fun k hk => ?_, by omega, fun _ => ⟨m, m2, rfl⟩⟩
      rw [if_neg hN, m2, nI_add, nI_1, show m + k + 1 = m + 1 + k from by omega]
  obtain ⟨m0, v1, v2, v3⟩ := hvc
  refine iNV_tk (n := pN p + n) (j0 := j0) (j := j0) h (fun j k q => ?_) ⟨hn, ?_, ?_⟩ (by rw [k1 51 5 (by omega)]; exact f2) (by rw [k1 51 6 (by omega), f1 51 6 (by omega)]; exact j2) j2 j1 (Nat.le_refl _) (by omega) ((e1 52 (by omega) (by omega)).trans f3) ((e1 53 (by omega) (by omega)).trans f4) ((e1 54 (by omega) (by omega)).trans f5) k2 (by rw [k3, e2 86 (by omega) (by omega), r.2.2.1.2.1]) (by rw [k4, e2 87 (by omega) (by omega), r.2.2.1.2.2.1]) (by rw [k5, e2 88 (by omega) (by omega), r.2.2.1.2.2.2]) (fun i hi => ?_)
  · rw [k1 j k (by omega), f1 j k (by omega)]
  · intro i hi
    rw [dyW, dyW, dyW]
    by_cases hin : pN p ≤ i ∧ i < pN p + n
    · rw [if_pos hin, if_pos hin, if_pos hin]
      refine ⟨Or.inl ?_, ?_, ?_⟩
      · obtain ⟨q, q1, q2⟩ := drw_in (x := dn (dx b (i - pN p))) (k := pM p) (by omega) (by omega)
        exact ⟨q, q1, q2⟩
      · obtain ⟨q, q1, q2⟩ := drw_in (x := dn (dn (dx b (i - pN p)))) (k := pS p) (by omega) (by omega)
        exact ⟨q, q1, q2⟩
      · exact ⟨m0 + (i - pN p), by omega, v1 _ (by omega)⟩
    · rw [if_neg hin, if_neg hin, if_neg hin]
      exact hc.2.1.2.2.1 i (by omega)
  · intro i j hij hj
    rw [dyW, dyW]
    by_cases hjn : pN p ≤ j ∧ j < pN p + n
    · rw [if_pos hjn]
      by_cases hin : pN p ≤ i ∧ i < pN p + n
      · rw [if_pos hin, v1 _ (by omega), v1 _ (by omega)]
        exact nI_nlt (by omega) (by omega)
      · rw [if_neg hin, v1 _ (by omega)]
        obtain ⟨m, q1, q2⟩ := v3 (by omega)
        have := hc.2.1.2.2.2 i (pN p - 1) (by omega) (by omega)
        rw [q1] at this
        obtain ⟨m', m1', m2'⟩ := (hc.2.1.2.2.1 i (by omega)).2.2
        rw [m2'] at this ⊢
        have : ¬ m < m' := fun w => this (nI_lt w (by omega))
        exact nI_nlt (by omega) (by omega)
    · rw [if_neg hjn, if_neg (by omega)]
      exact hc.2.1.2.2.2 i j hij (by omega)
  · rw [dyW, dyW, dyW, if_neg (by omega), if_neg (by omega), if_neg (by omega)]
    exact ⟨rfl, rfl, rfl⟩
end L76
