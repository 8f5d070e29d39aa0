/-! master, task, bars -/
noncomputable def fMaster (I : Nat → Nat → Int32) (p : qPa) (a : Int32) : Int32 := @ite Int32 (qIn (pM p) a) (Classical.propDecidable _) (I (30 + a.toNatClampNeg) 0) (-1)
noncomputable def fTask (I : Nat → Nat → Int32) (p : qPa) (a b : Int32) : Int32 := @ite Int32 (qIn (pT p) a ∧ qIn 4 b) (Classical.propDecidable _) (I (34 + a.toNatClampNeg) b.toNatClampNeg) (-1000000)
theorem qIn_iff {n : Nat} {a : Int32} (hn : n < 1000) : qIn n a ↔ 0 ≤ a ∧ a < nI n := by
  constructor
  · rintro ⟨s, h1, rfl⟩
    exact ⟨nI_pos' (by omega), nI_lt h1 (by omega)⟩
  · rintro ⟨h1, h2⟩
    rw [i_le] at h1
    rw [i_lt, nI_i (by omega)] at h2
    have e0 : (0 : Int32).toInt = 0 := rfl
    refine ⟨a.toInt.toNat, by omega, ?_⟩
    rw [i_eq, nI_i (by omega)]
    omega
/-- hands of m -/
noncomputable def hnd (may : Nat → Prop) : Nat → Nat
  | 0 => 0
  | i + 1 => @ite Nat (may i) (Classical.propDecidable _) (hnd may i + 1) (hnd may i)
theorem hnd_cong {may may' : Nat → Prop} : ∀ n, (∀ i, i < n → (may' i ↔ may i)) → hnd may' n = hnd may n := by
  intro n
  induction n with
  | zero => intro _; rfl
  | succ n ih =>
    intro h
    rw [hnd, hnd, ih (fun i hi => h i (by omega))]
    have hn := h n (Nat.lt_succ_self n)
    by_cases hc : may n
    · rw [if_pos hc, if_pos (hn.mpr hc)]
    · rw [if_neg hc, if_neg (fun q => hc (hn.mp q))]
theorem hnd_le (may : Nat → Prop) : ∀ n, hnd may n ≤ n := by
  intro n
  induction n with
  | zero => exact Nat.le_refl _
  | succ n ih => rw [hnd]; split <;> omega
/-- the tasks below i that are barred: need (hands), after (the task ahead), h hands -/
def brB (need after : Nat → Int32) (h : Int32) : Nat → Int32
  | 0 => 0
  | i + 1 => if h < need i ∨ (¬ after i = -1 ∧ ((brB need after h i >>> (after i &&& 31)) &&& 1) = 1) then brB need after h i ||| (1 <<< (nI i &&& 31)) else brB need after h i
theorem brB_cong {need need' after after' : Nat → Int32} {h : Int32} : ∀ n, (∀ i, i < n → need' i = need i ∧ after' i = after i) → brB need' after' h n = brB need after h n := by
  intro n
  induction n with
  | zero => intro _; rfl
  | succ n ih =>
    intro hh
    rw [brB, brB, ih (fun i hi => hh i (by omega)), (hh n (Nat.lt_succ_self n)).1, (hh n (Nat.lt_succ_self n)).2]
noncomputable def fBars (I : Nat → Nat → Int32) (p : qPa) (a : Int32) : Int32 := @ite Int32 (qIn (pM p) a) (Classical.propDecidable _) (brB (fun t => I (34 + t) 1) (fun t => I (34 + t) 3) (nI (hnd (mayC I a) (pS p))) (pT p)) (-1)
section L46
variable {d : Nat} {K : qK} {I : Nat → Nat → Int32} {L : Nat → Nat → Int64} {R : Nat → Nat → Option Nat} {sz : Nat} {Q : Option Value → qMem → Prop} {p : qPa}
theorem CI.lT (h : CI I p) : I 22 3 = nI (pT p) := h.1.1.2.2.2
theorem CI.w4 (h : CI I p) : pT p ≤ 4 := h.1.2.1.2.2.2
theorem s11006 {a : Int32} (hK : qLay K sz) (hR : qRef R) (cI : CI I p) (hq : Q (some (.int (fMaster I p a))) (K, I, L, R, sz)) : X (d + 1) 0 0 11006 0 0 0 (qent (qml 11006) [.ref 0, .int a]) [] (K, I, L, R, sz) Q := by
  unfold fMaster at hq
  refine t11006 hK hR cI.lM cI.w3 (fun j h1 h2 => ?_) (fun j h1 h2 => ?_) (fun h => ?_)
  · rw [h2]; exact vI (by have := cI.w3; omega) (by omega)
  · rw [if_pos ⟨j, h1, h2⟩] at hq; exact hq
  · rw [if_neg (fun ⟨j, h1, h2⟩ => h j h1 h2)] at hq; exact hq
theorem s12050 {a : Int32} (hK : qLay K sz) (hR : qRef R) (cI : CI I p) (rI : RI I p) (hq : Q (some (.int (fMaster I p a))) (K, I, L, R, sz)) : X (d + 2) 0 0 12050 0 0 0 (qent (qml 12050) [.ref 73, .int a]) [] (K, I, L, R, sz) Q := by
  unfold fMaster at hq
  have w3 := cI.w3
  have e15 : ∀ j, (15 + nI j : Int32) = nI (15 + j) := fun j => by rw [show (15 : Int32) = nI 15 from rfl, nI_add]
  refine t12050 hK hR (rI.mM cI) w3 (fun j h1 h2 => ?_) (fun j h1 h2 => ?_) (fun h => ?_)
  · rw [h2, e15]; exact vI (by omega) (by omega)
  · rw [if_pos ⟨j, h1, h2⟩, h2, nI_c (by omega), ← rI.2.1.2.1 j (by omega) (by omega)] at hq
    rw [h2, e15, nI_c (by omega)]
    exact hq
  · rw [if_neg (fun ⟨j, h1, h2⟩ => h j h1 h2)] at hq; exact hq
theorem s11007 {a b : Int32} (hK : qLay K sz) (hR : qRef R) (cI : CI I p) (hq : Q (some (.int (fTask I p a b))) (K, I, L, R, sz)) : X d 0 0 11007 0 0 0 (qent (qml 11007) [.ref 0, .int a, .int b]) [] (K, I, L, R, sz) Q := by
  unfold fTask at hq
  have w4 := cI.w4
  have hb : ∀ {b : Int32}, ¬ b < 0 → b ≤ 3 → qIn 4 b := fun h1 h2 => (qIn_iff (by omega)).mpr ⟨inl.mp h1, by rw [i_lt]; rw [i_le] at h2; have e3 : (3 : Int32).toInt = 3 := rfl; have e4 : (nI 4).toInt = 4 := rfl; omega⟩
  have ha : ¬ a < 0 → ¬ I 22 3 ≤ a → qIn (pT p) a := fun h1 h2 => (qIn_iff (by omega)).mpr ⟨inl.mp h1, by rw [cI.lT] at h2; exact Classical.not_not.mp (fun w => h2 (le_nlt.mpr w))⟩
  refine t11007 hK hR (fun h1 h2 _ _ => qIn_vp (ha h1 h2) w4 (by omega)) (fun _ _ h1 h2 => qIn_vp (hb h1 h2) (Nat.le_refl _) (by omega)) (fun h => ?_) (fun _ h => ?_) (fun _ _ h => ?_) (fun h1 h2 h3 h4 => ?_) (fun _ _ _ h => ?_)
  · rw [if_neg (fun q => inl.mpr ((qIn_iff (by omega)).mp q.1).1 h)] at hq; exact hq
  · rw [if_neg (fun q => by have := ((qIn_iff (by omega)).mp q.1).2; rw [cI.lT] at h; exact le_nlt.mp h this)] at hq; exact hq
  · rw [if_neg (fun q => inl.mpr ((qIn_iff (by omega)).mp q.2).1 h)] at hq; exact hq
  · rw [if_pos ⟨ha h1 h2, hb h3 h4⟩] at hq; exact hq
  · rw [if_neg (fun q => h (by have := ((qIn_iff (by omega)).mp q.2).2; rw [i_lt] at this; rw [i_le]; have e3 : (3 : Int32).toInt = 3 := rfl; have e4 : (nI 4).toInt = 4 := rfl; omega))] at hq; exact hq
theorem s12051 {a b : Int32} (hK : qLay K sz) (hR : qRef R) (cI : CI I p) (rI : RI I p) (hq : Q (some (.int (fTask I p a b))) (K, I, L, R, sz)) : X (d + 1) 0 0 12051 0 0 0 (qent (qml 12051) [.ref 73, .int a, .int b]) [] (K, I, L, R, sz) Q := by
  unfold fTask at hq
  have w4 := cI.w4
  have mT : I 73 26 = nI (pT p) := by rw [rI.1.2.2.2]; exact cI.lT
  have ha : (0 ≤ a ∧ a ≤ I 73 26 - 1) ↔ qIn (pT p) a := by
    rw [qIn_iff (by omega), mT]
    constructor
    · rintro ⟨h1, h2⟩
      refine ⟨h1, ?_⟩
      obtain ⟨j, h3, h4⟩ := q_in1 (by omega) h1 h2
      rw [h4]; exact nI_lt h3 (by omega)
    · rintro ⟨h1, h2⟩
      refine ⟨h1, ?_⟩
      apply Classical.byContradiction
      intro q
      obtain ⟨j, h3, h4⟩ := (qIn_iff (n := pT p) (by omega)).mpr ⟨h1, h2⟩
      exact q_in0 (n := pT p) (by omega) (fun w => q w.2) j h3 h4
  have hb : (0 ≤ b ∧ b ≤ 3) ↔ qIn 4 b := by
    rw [qIn_iff (by omega)]
    have e : b ≤ 3 ↔ b < nI 4 := by
      rw [i_le, i_lt]
      have e3 : (3 : Int32).toInt = 3 := rfl
      have e4 : (nI 4).toInt = 4 := rfl
      omega
    rw [e]
  have e18 : ∀ j k, (18 + 4 * nI j + nI k : Int32) = nI (18 + 4 * j + k) := fun j k => by rw [show (18 : Int32) = nI 18 from rfl, show (4 : Int32) = nI 4 from rfl, pk_mul, nI_add, nI_add]
  refine t12051 hK hR (fun h1 h2 h3 h4 => ?_) (fun h1 h2 h3 h4 => ?_) (fun h1 h2 h => ?_) (fun h => ?_)
  · obtain ⟨j, b1, rfl⟩ := ha.mp ⟨h1, h2⟩
    obtain ⟨k, b2, rfl⟩ := hb.mp ⟨h3, h4⟩
    rw [e18]; exact vI (by omega) (by omega)
  · obtain ⟨j, b1, rfl⟩ := ha.mp ⟨h1, h2⟩
    obtain ⟨k, b2, rfl⟩ := hb.mp ⟨h3, h4⟩
    rw [if_pos ⟨⟨j, b1, rfl⟩, ⟨k, b2, rfl⟩⟩, nI_c (by omega), nI_c (by omega), ← rI.2.1.2.2 j k (by omega) (by omega) b2] at hq
    rw [e18, nI_c (by omega)]
    exact hq
  · rw [if_neg (fun q => h (hb.mpr q.2))] at hq; exact hq
  · rw [if_neg (fun q => h (ha.mpr q.1))] at hq; exact hq
theorem fMaster_fr {J : Nat → Nat → Int32} (hf : qFr scQ I J) (cI : CI I p) (a : Int32) : fMaster J p a = fMaster I p a := by
  unfold fMaster
  by_cases h : qIn (pM p) a
  · rw [if_pos h, if_pos h]
    exact hf _ _ (scQ_no (by have := qIn_c h (by have := cI.w3; omega); have := cI.w3; omega) _)
  · rw [if_neg h, if_neg h]
theorem fTask_fr {J : Nat → Nat → Int32} (hf : qFr scQ I J) (cI : CI I p) (a b : Int32) : fTask J p a b = fTask I p a b := by
  unfold fTask
  by_cases h : qIn (pT p) a ∧ qIn 4 b
  · rw [if_pos h, if_pos h]
    exact hf _ _ (scQ_no (by have := qIn_c h.1 (by have := cI.w4; omega); have := cI.w4; omega) _)
  · rw [if_neg h, if_neg h]
end L46
