/-! chains: whom one comes to by k moves -/
def qsv (a : Int32) : Prop := 10 ≤ a ∧ a ≤ 14
theorem qsv_at {a : Int32} (h1 : 10 ≤ a) (h2 : a ≤ 14) : ∃ j, j < 5 ∧ a = nI (10 + j) ∧ a - 10 = nI j := by
  obtain ⟨j, hj, e⟩ := nI_of2 (x := a) (M := 14) (n := 14) rfl (by rw [i_lt]; rw [i_le] at h1; have e1 : (10 : Int32).toInt = 10 := rfl; have e2 : (0 : Int32).toInt = 0 := rfl; omega) h2
  rw [e, i_le, nI_i (by omega)] at h1
  have e1 : (10 : Int32).toInt = 10 := rfl
  refine ⟨j - 10, by omega, ?_, ?_⟩
  · rw [e]; congr 1; omega
  · rw [e, show (10 : Int32) = nI 10 from rfl, pk_sub (by omega)]
theorem qsv_nI {j : Nat} (h : j < 5) : 10 ≤ nI (10 + j) ∧ nI (10 + j) ≤ 14 := by
  have e1 : (10 : Int32).toInt = 10 := rfl
  have e2 : (14 : Int32).toInt = 14 := rfl
  constructor <;> (rw [i_le, nI_i (by omega)]; omega)
theorem q_10p (j : Nat) : (10 + nI j : Int32) = nI (10 + j) := by rw [show (10 : Int32) = nI 10 from rfl, nI_add]
def hx (f : Nat → Int32) : Nat → Int32 → Int32
  | 0, a => a
  | k + 1, a => if 10 ≤ a ∧ a ≤ 14 then hx f k (f (a - 10).toNatClampNeg) else a
theorem hx_s {f : Nat → Int32} {k : Nat} {a : Int32} (h1 : 10 ≤ a) (h2 : a ≤ 14) : hx f (k + 1) a = hx f k (f (a - 10).toNatClampNeg) := by
  rw [hx, if_pos ⟨h1, h2⟩]
theorem hx_e {f : Nat → Int32} {k : Nat} {a : Int32} (h1 : ¬ (10 ≤ a ∧ a ≤ 14)) : hx f (k + 1) a = a := by
  rw [hx, if_neg h1]
/-- how many moves, at most k -/
def sx (f : Nat → Int32) : Nat → Int32 → Nat
  | 0, _ => 0
  | k + 1, a => if 10 ≤ a ∧ a ≤ 14 then sx f k (f (a - 10).toNatClampNeg) + 1 else 0
/-- does one come by o within k looks -/
def gb (f : Nat → Int32) (o : Int32) : Nat → Int32 → Prop
  | 0, _ => False
  | k + 1, a => (10 ≤ a ∧ a ≤ 14) ∧ (a = 10 + o ∨ gb f o k (f (a - 10).toNatClampNeg))
/-- HEAD with n servants, of the servant a -/
def hd (f : Nat → Int32) (n : Nat) (a : Int32) : Int32 := if 10 ≤ hx f (n + 1) (10 + a) ∧ hx f (n + 1) (10 + a) ≤ 14 then -1 else hx f (n + 1) (10 + a)
section L18
variable {d : Nat} {K : qK} {I : Nat → Nat → Int32} {L : Nat → Nat → Int64} {R : Nat → Nat → Option Nat} {sz : Nat} {Q : Option Value → qMem → Prop}
theorem qsv_in {a : Int32} (h1 : 10 ≤ a) (h2 : a ≤ 14) : vp_in (a - 10) 5 := by
  obtain ⟨j, hj, -, e⟩ := qsv_at h1 h2
  rw [e]
  exact vI hj (by omega)
theorem l5002 {n : Nat} {a : Int32} (hK : qLay K sz) (hR : qRef R) (hn : I 69 2 = nI n) (h5 : n ≤ 5) : ∀ (k i : Nat) (x2 : Int32), i + k = n + 1 → Q (some (.int (if 10 ≤ hx (I 70) k x2 ∧ hx (I 70) k x2 ≤ 14 then -1 else hx (I 70) k x2))) (K, I, L, R, sz) → X (d + 1) 0 0 5002 0 0 7 [some (.ref 69), some (.int a), some (.int x2), some (.int (nI i))] [] (K, I, L, R, sz) Q := by
  intro k
  induction k with
  | zero =>
    intro i x2 hi hq
    have hlt : I 69 2 < nI i := by rw [hn]; exact nI_lt (by omega) (by omega)
    refine g5002_7 hK hR (fun h => absurd hlt h) (fun _ h1 h2 => ?_) (fun _ h1 => ?_) (fun h => absurd hlt h) (fun h => absurd hlt h) (fun h => absurd hlt h)
    · rw [show hx (I 70) 0 x2 = x2 from rfl, if_pos ⟨h1, h2⟩] at hq; exact hq
    · rw [show hx (I 70) 0 x2 = x2 from rfl, if_neg h1] at hq; exact hq
  | succ k ih =>
    intro i x2 hi hq
    have hnl : ¬ I 69 2 < nI i := by rw [hn]; exact nI_nlt (by omega) (by omega)
    refine g5002_7 hK hR (fun _ h1 h2 => qsv_in h1 h2) (fun h => absurd h hnl) (fun h => absurd h hnl) (fun _ h1 h2 => ?_) (fun _ h1 h2 h3 => absurd ⟨h2, h3⟩ h1) (fun _ h1 _ => ?_)
    · rw [hx_s h1 h2] at hq
      rw [nI_1]
      exact ih (i + 1) _ (by omega) hq
    · rw [hx_e h1, if_neg h1] at hq; exact hq
theorem s5002 {n : Nat} {a : Int32} (hK : qLay K sz) (hR : qRef R) (hn : I 69 2 = nI n) (h5 : n ≤ 5) (h : Q (some (.int (hd (I 70) n a))) (K, I, L, R, sz)) : X (d + 1) 0 0 5002 0 0 0 (qent (qml 5002) [.ref 69, .int a]) [] (K, I, L, R, sz) Q :=
  e5002 (l5002 hK hR hn h5 (n + 1) 0 (10 + a) (by omega) h)
theorem l5004 {a b : Int32} {m : Nat} (hK : qLay K sz) (hR : qRef R) (hb : b = nI m) (hm : m < 100) : ∀ (k i : Nat) (x2 : Int32), i + k = m → Q (some (.int (hx (I 70) k x2))) (K, I, L, R, sz) → X (d + 1) 0 0 5004 0 0 8 [some (.ref 69), some (.int a), some (.int b), some (.int x2), some (.int (nI i))] [] (K, I, L, R, sz) Q := by
  intro k
  induction k with
  | zero =>
    intro i x2 hi hq
    have hle : b ≤ nI i := by rw [hb]; exact nI_le (by omega) (by omega)
    exact g5004_8 hK hR (fun h => absurd hle h) (fun _ => hq) (fun h => absurd hle h) (fun h => absurd hle h)
  | succ k ih =>
    intro i x2 hi hq
    have hnl : ¬ b ≤ nI i := by rw [hb]; exact nI_ge (by omega) (by omega)
    refine g5004_8 hK hR (fun _ h1 h2 => qsv_in h1 h2) (fun h => absurd h hnl) (fun _ h1 h2 => ?_) (fun _ h1 => ?_)
    · rw [hx, if_pos ⟨h1, h2⟩] at hq
      rw [nI_1]
      exact ih (i + 1) _ (by omega) hq
    · rw [hx, if_neg h1] at hq; exact hq
theorem s5004 {a b : Int32} {m : Nat} (hK : qLay K sz) (hR : qRef R) (hb : b = nI m) (hm : m < 100) (h : Q (some (.int (hx (I 70) m (10 + a)))) (K, I, L, R, sz)) : X (d + 1) 0 0 5004 0 0 0 (qent (qml 5004) [.ref 69, .int a, .int b]) [] (K, I, L, R, sz) Q :=
  e5004 (l5004 hK hR hb hm m 0 (10 + a) (by omega) h)
theorem l5005 {n : Nat} {a o : Int32} (hK : qLay K sz) (hR : qRef R) (hn : I 69 2 = nI n) (h5 : n ≤ 5) : ∀ (k i : Nat) (x2 : Int32), i + k = n + 1 → (gb (I 70) o k x2 → Q (some (.int 1)) (K, I, L, R, sz)) → (¬ gb (I 70) o k x2 → Q (some (.int 0)) (K, I, L, R, sz)) → X (d + 1) 0 0 5005 0 0 8 [some (.ref 69), some (.int a), some (.int o), some (.int x2), some (.int (nI i))] [] (K, I, L, R, sz) Q := by
  intro k
  induction k with
  | zero =>
    intro i x2 hi ht hf
    have hlt : I 69 2 < nI i := by rw [hn]; exact nI_lt (by omega) (by omega)
    exact g5005_8 hK hR (fun h => absurd hlt h) (fun _ => hf (fun h => h)) (fun h => absurd hlt h) (fun h => absurd hlt h) (fun h => absurd hlt h)
  | succ k ih =>
    intro i x2 hi ht hf
    have hnl : ¬ I 69 2 < nI i := by rw [hn]; exact nI_nlt (by omega) (by omega)
    refine g5005_8 hK hR (fun _ h1 h2 _ => qsv_in h1 h2) (fun h => absurd h hnl) (fun _ h1 h2 h3 => ?_) (fun _ h1 h2 h3 => ht ⟨⟨h1, h2⟩, Or.inl h3⟩) (fun _ h1 => hf (fun g => h1 g.1))
    rw [nI_1]
    exact ih (i + 1) _ (by omega) (fun g => ht ⟨⟨h1, h2⟩, Or.inr g⟩) (fun g => hf (fun q => q.2.elim h3 g))
theorem s5005 {n : Nat} {a o : Int32} (hK : qLay K sz) (hR : qRef R) (hn : I 69 2 = nI n) (h5 : n ≤ 5) (ht : gb (I 70) o (n + 1) (10 + a) → Q (some (.int 1)) (K, I, L, R, sz)) (hf : ¬ gb (I 70) o (n + 1) (10 + a) → Q (some (.int 0)) (K, I, L, R, sz)) : X (d + 1) 0 0 5005 0 0 0 (qent (qml 5005) [.ref 69, .int a, .int o]) [] (K, I, L, R, sz) Q :=
  e5005 (l5005 hK hR hn h5 (n + 1) 0 (10 + a) (by omega) ht hf)
end L18
