/-! acts: day -/
theorem u33 (u : UInt64) : ∃ a, a < 2147483648 ∧ (u >>> ((33 : Int32).toInt64.toUInt64 &&& Int64.toUInt64 63)).toInt64 = lN a := by
  have e : ((33 : Int32).toInt64.toUInt64 &&& Int64.toUInt64 63) = (33 : UInt64) := by decide
  rw [e]
  have hlt : (u >>> (33 : UInt64)).toNat < 2147483648 := by
    rw [UInt64.toNat_shiftRight]
    have : u.toNat < 2 ^ 64 := u.toNat_lt
    have e2 : (33 : UInt64).toNat % 64 = 33 := by decide
    rw [e2, Nat.shiftRight_eq_div_pow]
    omega
  refine ⟨(u >>> (33 : UInt64)).toNat, hlt, ?_⟩
  generalize hv : u >>> (33 : UInt64) = v at hlt ⊢
  refine Int64.toBitVec.inj ?_
  show v.toBitVec = BitVec.ofNat 64 v.toBitVec.toNat
  simp
theorem drw_in {x : Int64} {k : Nat} (h0 : 0 < k) (hk : k < 2147483648) : ∃ j, j < k ∧ drw x (nI k) = nI j := by
  obtain ⟨a, ha, e⟩ := u33 x.toUInt64
  refine ⟨a % k, Nat.mod_lt _ h0, ?_⟩
  unfold drw
  rw [e, nI_l (by omega), pk_lRem (by omega) h0 (by omega), lN_i]
/-- the draws' seed -/
def dn (x : Int64) : Int64 := (x * 6364136223846793005) + 1442695040888963407
def dx (x : Int64) : Nat → Int64
  | 0 => x
  | k + 1 => dn (dn (dx x k))
def dva (x : Int64) (m : Int32) (k : Nat) : Int32 := drw (dn (dx x k)) m
def dvb (x : Int64) (m : Int32) (k : Nat) : Int32 := drw (dn (dn (dx x k))) m
section L75
variable {d : Nat} {K : qK} {I J H : Nat → Nat → Int32} {L : Nat → Nat → Int64} {R : Nat → Nat → Option Nat} {sz : Nat} {Q : Option Value → qMem → Prop} {p : qPa}
theorem l11028 {x1 : Int32} {x x2 : Int64} {n : Nat} {lt : Int32} (hK : qLay K sz) (hR : qRef R) (cI : CI I p) (hx1 : x1 = nI n) (hS : ¬ pS p = 0) (hM : ¬ pM p = 0) (h40 : pN p + n ≤ 40) (hq : ∀ J, apC I p n (dva x (nI (pM p))) (dvb x (nI (pS p))) (fun k => lt + nI k + 1) J → Q (some (.int (nI (pN p + n)))) (K, J, L, R, sz)) : ∀ (k i : Nat) (J : Nat → Nat → Int32), i + k = n → apC I p i (dva x (nI (pM p))) (dvb x (nI (pS p))) (fun k => lt + nI k + 1) J → X (d + 1) 0 0 11028 0 0 55 [some (.ref 0), some (.int x1), some (.long x2), none, some (.int (lt + nI i)), some (.long (dx x i)), none, some (.int (nI i)), none, none] [] (K, J, L, R, sz) Q := by
  intro k
  have w5 := cI.w5
  have w3 := cI.w3
  subst hx1
  induction k with
  | zero =>
    intro i J hi hJ
    have hle : nI n ≤ nI i := nI_le (by omega) (by omega)
    have : i = n := by omega
    subst this
    exact g11028_55 hK hR (fun h => absurd hle h) (fun h => absurd hle h) (fun h => absurd hle h) (fun _ => by rw [hJ.2.1]; exact hq J hJ) (fun h => absurd hle h)
  | succ k ih =>
    intro i J hi hJ
    have hnl : ¬ nI n ≤ nI i := nI_ge (by omega) (by omega)
    obtain ⟨f1, f2, f3, f4, f5⟩ := hJ
    have e2 : J 22 2 = nI (pM p) := by rw [f1 22 2 (by omega)]; exact cI.lM
    have e1 : J 22 1 = nI (pS p) := by rw [f1 22 1 (by omega)]; exact cI.lS
    refine g11028_55 hK hR (fun _ => by rw [e2]; exact nI_nle (by omega) (by omega)) (fun _ => by rw [e1]; exact nI_nle (by omega) (by omega)) (fun _ => ⟨pN p + i, by omega, f2⟩) (fun h => absurd h hnl) (fun _ J2 h2 => ?_)
    rw [e1, e2] at h2
    obtain ⟨g1, g2, g3, g4, g5⟩ := h2
    rw [f2, nI_c (by omega)] at g3 g4 g5
    have := ih (i + 1) J2 (by omega) ⟨f1.trans g1, by rw [g2, f2, nI_1]; rfl, ?_, ?_, ?_⟩
    · rw [nI_1, show lt + nI i + 1 = lt + nI (i + 1) from by rw [← nI_1, Int32.add_assoc]]
      exact this
    · rw [g3, f3]; exact dyW_s (v := dva x (nI (pM p)))
    · rw [g4, f4]; exact dyW_s (v := dvb x (nI (pS p)))
    · rw [g5, f5]; exact dyW_s (v := fun k => lt + nI k + 1)
theorem l12095 {x1 : Int32} {x x2 : Int64} {n : Nat} {fr : Int32} (hK : qLay K sz) (hR : qRef R) (sS : I 73 24 = nI (pS p)) (s5 : pS p ≤ 5) (sM : I 73 25 = nI (pM p)) (s3 : pM p ≤ 3) (hx1 : x1 = nI n) (hS : ¬ pS p = 0) (hM : ¬ pM p = 0) (h40 : pN p + n ≤ 40) (hq : ∀ J, apR I (pN p) n (dva x (nI (pM p))) (dvb x (nI (pS p))) (fun k => fr + nI k) J → Q (some (.int (nI (pN p + n)))) (K, J, L, R, sz)) : ∀ (k i : Nat) (J : Nat → Nat → Int32), i + k = n → apR I (pN p) i (dva x (nI (pM p))) (dvb x (nI (pS p))) (fun k => fr + nI k) J → X (d + 1) 0 0 12095 0 0 74 [some (.ref 73), some (.int x1), some (.long x2), none, some (.int fr), some (.long (dx x i)), none, some (.int (nI i))] [] (K, J, L, R, sz) Q := by
  intro k
  subst hx1
  induction k with
  | zero =>
    intro i J hi hJ
    have hle : nI n ≤ nI i := nI_le (by omega) (by omega)
    have : i = n := by omega
    subst this
    exact g12095_74 (d := d + 1) hK hR (fun h => absurd hle h) (fun h => absurd hle h) (fun h => absurd hle h) (fun h => absurd hle h) (fun h => absurd hle h) (fun _ => by rw [hJ.2.1]; exact hq J hJ) (fun h => absurd hle h)
  | succ k ih =>
    intro i J hi hJ
    have hnl : ¬ nI n ≤ nI i := nI_ge (by omega) (by omega)
    obtain ⟨f1, f2, f3, f4, f5⟩ := hJ
    have e2 : J 73 25 = nI (pM p) := by rw [f1 73 25 (by omega)]; exact sM
    have e1 : J 73 24 = nI (pS p) := by rw [f1 73 24 (by omega)]; exact sS
    have hl : ∀ m, ¬ m = 0 → m ≤ 5 → ¬ (nI m).toInt64 = 0 := fun m h1 h2 h3 => by
      rw [nI_l (by omega)] at h3
      have := (lN_eq (a := m) (b := 0) (by omega) (by omega)).mp h3
      omega
    have hv : vp_in (J 73 33) 40 := by rw [f2]; exact vI (by omega) (by omega)
    refine g12095_74 (d := d + 1) hK hR (fun _ => by rw [e2]; exact hl _ hM (by omega)) (fun _ => hv) (fun _ M e => by rw [e, vu_n (by decide), e1]; exact hl _ hS (by omega)) (fun _ M e => by rw [e, vu_n (by decide)]; exact hv) (fun _ M e M2 e' => by rw [e', vu_n (by decide), e, vu_n (by decide)]; exact hv) (fun h => absurd h hnl) (fun _ M1 m1 M2 m2 M3 m3 M4 m4 => ?_)
    subst m1 m2 m3 m4
    have hx := ih (i + 1) (va_up (va_up (va_up (va_up J 86 (upd (J 86) (pN p + i) (dva x (nI (pM p)) i))) 87 (upd (J 87) (pN p + i) (dvb x (nI (pS p)) i))) 88 (upd (J 88) (pN p + i) (fr + nI i))) 73 (upd (J 73) 33 (nI (pN p + i) + 1))) (by omega) ⟨?_, ?_, ?_, ?_, ?_⟩
    · have e33 : (J 73 33).toNatClampNeg = pN p + i := by rw [f2]; exact nI_c (by omega)
      rw [nI_1]
      have hz : ∀ (a a' b b' c c' : Int32) (q q' : Int32) (u : Nat), a = a' → b = b' → c = c' → q = q' → X (d + 1) 0 0 12095 0 0 74 [some (.ref 73), some (.int (nI n)), some (.long x2), none, some (.int fr), some (.long (dx x (i + 1))), none, some (.int (nI (i + 1)))] [] (K, va_up (va_up (va_up (va_up J 86 (upd (J 86) u a')) 87 (upd (J 87) u b')) 88 (upd (J 88) u c')) 73 (upd (J 73) 33 q'), L, R, sz) Q → X (d + 1) 0 0 12095 0 0 74 [some (.ref 73), some (.int (nI n)), some (.long x2), none, some (.int fr), some (.long (dx x (i + 1))), none, some (.int (nI (i + 1)))] [] (K, va_up (va_up (va_up (va_up J 86 (upd (J 86) u a)) 87 (upd (J 87) u b)) 88 (upd (J 88) u c)) 73 (upd (J 73) 33 q), L, R, sz) Q := by
        intro a a' b b' c c' q q' u e1 e2 e3 e4 h
        subst e1 e2 e3 e4; exact h
      have := hz (drw (dn (dx x i)) (J 73 25)) _ (drw (dn (dn (dx x i))) (J 73 24)) _ (fr + nI i) _ (J 73 33 + 1) _ (J 73 33).toNatClampNeg (by rw [e2]) (by rw [e1]) rfl (by rw [f2]) (by rw [e33]; exact hx)
      exact this
    · refine f1.trans ?_
      exact (((qFr.up (P := fun j k => (j = 73 ∧ k = 33) ∨ j = 86 ∨ j = 87 ∨ j = 88) (fun _ => by simp)).trans (qFr.up (P := fun j k => (j = 73 ∧ k = 33) ∨ j = 86 ∨ j = 87 ∨ j = 88) (fun _ => by simp))).trans (qFr.up (P := fun j k => (j = 73 ∧ k = 33) ∨ j = 86 ∨ j = 87 ∨ j = 88) (fun _ => by simp))).trans (qFr.up1 (P := fun j k => (j = 73 ∧ k = 33) ∨ j = 86 ∨ j = 87 ∨ j = 88) (by simp))
    · show nI (pN p + i) + 1 = _
      rw [nI_1]; rfl
    · show upd (J 86) (pN p + i) (dva x (nI (pM p)) i) = _
      rw [f3]; exact dyW_s (v := dva x (nI (pM p)))
    · show upd (J 87) (pN p + i) (dvb x (nI (pS p)) i) = _
      rw [f4]; exact dyW_s (v := dvb x (nI (pS p)))
    · show upd (J 88) (pN p + i) (fr + nI i) = _
      rw [f5]; exact dyW_s (v := fun k => fr + nI k)
end L75
