/-! feed and end, both -/
def fdC (I : Nat → Nat → Int32) (n : Nat) (g : Nat → Int32) (J : Nat → Nat → Int32) : Prop := qFr (fun j k => (j = 1 ∧ k = 1) ∨ j = 2) I J ∧ J 1 1 = nI (tpS g (I 2, n) 20).2 ∧ J 2 = (tpS g (I 2, n) 20).1
def fdR (I : Nat → Nat → Int32) (n : Nat) (g : Nat → Int32) (J : Nat → Nat → Int32) : Prop := qFr (fun j k => (j = 73 ∧ k = 2) ∨ j = 74) I J ∧ J 73 2 = nI (tpS g (I 74, n) 20).2 ∧ J 74 = (tpS g (I 74, n) 20).1
theorem tpS_ok {g f f' : Nat → Int32} {n : Nat} (hg : ∀ k, ∃ b, b < 256 ∧ g k = nI b) (h : ∀ j, j < n → f' j = f j ∧ ∃ b, 1 ≤ b ∧ b < 256 ∧ f j = nI b) : ∀ k j, j < n + cN g k → (tpS g (f', n) k).1 j = (tpS g (f, n) k).1 j ∧ ∃ b, 1 ≤ b ∧ b < 256 ∧ (tpS g (f, n) k).1 j = nI b := by
  intro k
  induction k with
  | zero => intro j hj; exact h j hj
  | succ k ih =>
    intro j hj
    rw [tpS, tpS]
    by_cases h0 : g k = 0
    · rw [if_pos h0, if_pos h0]
      rw [cN, if_pos h0] at hj
      exact ih j hj
    · rw [if_neg h0, if_neg h0]
      rw [cN, if_neg h0] at hj
      have e1 := tpS_2 (g := g) (s := (f, n)) k
      have e2 := tpS_2 (g := g) (s := (f', n)) k
      show upd _ _ _ j = upd _ _ _ j ∧ ∃ b, 1 ≤ b ∧ b < 256 ∧ upd _ _ _ j = nI b
      rw [e1, e2]
      show upd _ (n + cN g k) _ j = upd _ (n + cN g k) _ j ∧ ∃ b, 1 ≤ b ∧ b < 256 ∧ upd _ (n + cN g k) _ j = nI b
      rw [upd, upd]
      by_cases hjk : j = n + cN g k
      · rw [if_pos hjk, if_pos hjk]
        obtain ⟨b, b1, b2⟩ := hg k
        refine ⟨rfl, b, ?_, b1, b2⟩
        have : ¬ b = 0 := fun q => h0 (by rw [b2, q]; rfl)
        omega
      · rw [if_neg hjk, if_neg hjk]
        exact ih j (by omega)
theorem by5_in (a b c e f : Int32) (k : Nat) : ∃ x, x < 256 ∧ by5 a b c e f k = nI x := wb_in _ _
section L79
variable {d : Nat} {K : qK} {I J H : Nat → Nat → Int32} {L : Nat → Nat → Int64} {R : Nat → Nat → Option Nat} {sz : Nat} {Q : Option Value → qMem → Prop} {p : qPa}
theorem s11001 {a b c e f : Int32} {n : Nat} (hK : qLay K sz) (hR : qRef R) (hn : I 1 1 = nI n) (h160 : n ≤ 160) (ht : n + cN (by5 a b c e f) 20 ≤ 160 → ∀ J, fdC I n (by5 a b c e f) J → Q (some (.int (nI (n + cN (by5 a b c e f) 20)))) (K, J, L, R, sz)) (hf : ¬ n + cN (by5 a b c e f) 20 ≤ 160 → Q (some (.int (-1))) (K, I, L, R, sz)) : X (d + 1) 0 0 11001 0 0 0 (qent (qml 11001) [.ref 0, .int a, .int b, .int c, .int e, .int f]) [] (K, I, L, R, sz) Q := by
  have e20 := cN_20 (a := a) (b := b) (c := c) (e := e) (f := f)
  have la := cN_le (g := wb a) 4
  have lb := cN_le (g := wb b) 4
  have lc := cN_le (g := wb c) 4
  have le := cN_le (g := wb e) 4
  have lf := cN_le (g := wb f) 4
  have hcond : (I 1 1 + (nI (cN (wb a) 4) + nI (cN (wb b) 4) + nI (cN (wb c) 4) + nI (cN (wb e) 4) + nI (cN (wb f) 4)) ≤ 160) ↔ n + cN (by5 a b c e f) 20 ≤ 160 := by
    rw [hn, nI_add, nI_add, nI_add, nI_add, nI_add, ← e20]
    exact nI_leI (b := 160) (by omega) (by omega)
  have st : ∀ (I J : Nat → Nat → Int32) (w : Int32) (m : Nat), putE I w J → m ≤ 160 → I 1 1 = nI m → J 1 1 = nI (m + cN (wb w) 4) := fun I J w m h1 h2 h3 => by
    have := (h1.2 m h2 h3).1
    rw [tpS_2] at this; exact this
  refine z11001 hK hR (fun h => ⟨n, hn, (by have hb := hcond.mp h; omega)⟩) (fun h I2 h2 => ⟨_, st _ _ _ n h2 h160 hn, (by have hb := hcond.mp h; omega)⟩) (fun h I2 h2 I4 h4 => ⟨_, st _ _ _ _ h4 (by have hb := hcond.mp h; omega) (st _ _ _ n h2 h160 hn), (by have hb := hcond.mp h; omega)⟩) (fun h I2 h2 I4 h4 I6 h6 => ⟨_, st _ _ _ _ h6 (by have hb := hcond.mp h; omega) (st _ _ _ _ h4 (by have hb := hcond.mp h; omega) (st _ _ _ n h2 h160 hn)), (by have hb := hcond.mp h; omega)⟩) (fun h I2 h2 I4 h4 I6 h6 I8 h8 => ⟨_, st _ _ _ _ h8 (by have hb := hcond.mp h; omega) (st _ _ _ _ h6 (by have hb := hcond.mp h; omega) (st _ _ _ _ h4 (by have hb := hcond.mp h; omega) (st _ _ _ n h2 h160 hn))), (by have hb := hcond.mp h; omega)⟩) (fun h I2 h2 I4 h4 I6 h6 I8 h8 I10 h10 => ?_) (fun h => hf (fun q => h (hcond.mpr q)))
  have hb := hcond.mp h
  have v2 := st _ _ _ n h2 h160 hn
  have v4 := st _ _ _ _ h4 (by omega) v2
  have v6 := st _ _ _ _ h6 (by omega) v4
  have v8 := st _ _ _ _ h8 (by omega) v6
  have v10 := st _ _ _ _ h10 (by omega) v8
  have t2 := h2.2 n h160 hn
  have t4 := h4.2 _ (by omega) v2
  have t6 := h6.2 _ (by omega) v4
  have t8 := h8.2 _ (by omega) v6
  have t10 := h10.2 _ (by omega) v8
  have hS : tpS (by5 a b c e f) (I 2, n) 20 = (I10 2, n + cN (by5 a b c e f) 20) := by
    rw [tpS_20]
    have q2 : tpS (wb a) (I 2, n) 4 = (I2 2, n + cN (wb a) 4) := Prod.ext t2.2.symm (tpS_2 4)
    rw [q2]
    have q4 : tpS (wb b) (I2 2, n + cN (wb a) 4) 4 = (I4 2, n + cN (wb a) 4 + cN (wb b) 4) := Prod.ext t4.2.symm (tpS_2 4)
    rw [q4]
    have q6 : tpS (wb c) (I4 2, n + cN (wb a) 4 + cN (wb b) 4) 4 = (I6 2, n + cN (wb a) 4 + cN (wb b) 4 + cN (wb c) 4) := Prod.ext t6.2.symm (tpS_2 4)
    rw [q6]
    have q8 : tpS (wb e) (I6 2, n + cN (wb a) 4 + cN (wb b) 4 + cN (wb c) 4) 4 = (I8 2, n + cN (wb a) 4 + cN (wb b) 4 + cN (wb c) 4 + cN (wb e) 4) := Prod.ext t8.2.symm (tpS_2 4)
    rw [q8]
    have q10 : tpS (wb f) (I8 2, n + cN (wb a) 4 + cN (wb b) 4 + cN (wb c) 4 + cN (wb e) 4) 4 = (I10 2, n + cN (wb a) 4 + cN (wb b) 4 + cN (wb c) 4 + cN (wb e) 4 + cN (wb f) 4) := Prod.ext t10.2.symm (tpS_2 4)
    rw [q10, e20]
    congr 1
    omega
  have v10' : I10 1 1 = nI (n + cN (by5 a b c e f) 20) := by rw [v10, e20]; congr 1; omega
  rw [v10']
  refine ht hb I10 ⟨(((h2.1.trans h4.1).trans h6.1).trans h8.1).trans h10.1, ?_, ?_⟩
  · rw [hS]; exact v10'
  · rw [hS]
theorem l12005a {a b c e f : Int32} {n : Nat} (hK : qLay K sz) (hn : I 73 2 = nI n) (h160 : n ≤ 160) (ht : n + cN (by5 a b c e f) 20 ≤ 160 → ∀ x6, X (d + 1) 0 0 12005 0 0 62 [some (.ref 73), some (.int a), some (.int b), some (.int c), some (.int e), some (.int f), some (.int x6), some (.int 0), none] [] (K, I, L, R, sz) Q) (hf : ¬ n + cN (by5 a b c e f) 20 ≤ 160 → Q (some (.int (-1))) (K, I, L, R, sz)) : ∀ (k i : Nat), i + k = 20 → X (d + 1) 0 0 12005 0 0 6 [some (.ref 73), some (.int a), some (.int b), some (.int c), some (.int e), some (.int f), some (.int (nI (cN (by5 a b c e f) i))), some (.int (nI i)), none] [] (K, I, L, R, sz) Q := by
  intro k
  induction k with
  | zero =>
    intro i hi
    have hle : 20 ≤ nI i := nI_le (a := 20) (by omega) (by omega)
    have : i = 20 := by omega
    subst this
    have hcond : (I 73 2 + nI (cN (by5 a b c e f) 20) ≤ 160) ↔ n + cN (by5 a b c e f) 20 ≤ 160 := by
      have := cN_le (g := by5 a b c e f) 20
      rw [hn, nI_add]
      exact nI_leI (b := 160) (by omega) (by omega)
    exact z12005_6 hK (fun h => absurd hle h) (fun _ h => ht (hcond.mp h) _) (fun _ h => hf (fun q => h (hcond.mpr q))) (fun h => absurd hle h) (fun h => absurd hle h)
  | succ k ih =>
    intro i hi
    have hnl : ¬ 20 ≤ nI i := nI_ge (b := 20) (by omega) (by omega)
    have ih' := ih (i + 1) (by omega)
    refine z12005_6 hK (fun _ => ⟨i, by omega, rfl⟩) (fun h => absurd h hnl) (fun h => absurd h hnl) (fun _ h => ?_) (fun _ h => ?_) <;> rw [nI_c (by omega)] at h
    · rw [cN, if_pos h] at ih'
      rw [nI_1, Int32.add_zero]; exact ih'
    · rw [cN, if_neg h] at ih'
      rw [nI_1, nI_1 i]; exact ih'
theorem l12005b {a b c e f x6 : Int32} {n : Nat} (hK : qLay K sz) (hR : qRef R) (hb : n + cN (by5 a b c e f) 20 ≤ 160) (hq : ∀ J, fdR I n (by5 a b c e f) J → Q (some (.int (nI (n + cN (by5 a b c e f) 20)))) (K, J, L, R, sz)) : ∀ (k i : Nat) (J : Nat → Nat → Int32), i + k = 20 → qFr (fun j k => (j = 73 ∧ k = 2) ∨ j = 74) I J → J 73 2 = nI (tpS (by5 a b c e f) (I 74, n) i).2 → J 74 = (tpS (by5 a b c e f) (I 74, n) i).1 → X (d + 1) 0 0 12005 0 0 62 [some (.ref 73), some (.int a), some (.int b), some (.int c), some (.int e), some (.int f), some (.int x6), some (.int (nI i)), none] [] (K, J, L, R, sz) Q := by
  intro k
  induction k with
  | zero =>
    intro i J hi hF h1 h2
    have hle : 20 ≤ nI i := nI_le (a := 20) (by omega) (by omega)
    have : i = 20 := by omega
    subst this
    refine z12005_62 hK hR (fun h => absurd hle h) (fun h => absurd hle h) (fun _ => ?_) (fun h => absurd hle h) (fun h => absurd hle h)
    have := hq J ⟨hF, h1, h2⟩
    rw [tpS_2] at h1
    rw [h1]; exact this
  | succ k ih =>
    intro i J hi hF h1 h2
    have hnl : ¬ 20 ≤ nI i := nI_ge (b := 20) (by omega) (by omega)
    have hS := tpS_2 (g := by5 a b c e f) (s := (I 74, n)) i
    have hm := cN_mono (g := by5 a b c e f) (k := i + 1) (20 - (i + 1))
    rw [show i + 1 + (20 - (i + 1)) = 20 from by omega] at hm
    have hbd : ¬ by5 a b c e f i = 0 → (tpS (by5 a b c e f) (I 74, n) i).2 < 160 := fun h => by
      have : cN (by5 a b c e f) (i + 1) = cN (by5 a b c e f) i + 1 := by rw [cN, if_neg h]
      rw [hS]; show n + cN (by5 a b c e f) i < 160; omega
    refine z12005_62 hK hR (fun _ => ⟨i, by omega, rfl⟩) (fun _ h => ?_) (fun h => absurd h hnl) (fun _ h => ?_) (fun _ h J1 e1 J2 e2 => ?_) <;> rw [nI_c (by omega)] at h
    · rw [h1]; exact vI (hbd h) (by omega)
    · rw [nI_1]
      exact ih (i + 1) J (by omega) hF (by rw [tpS, if_pos h]; exact h1) (by rw [tpS, if_pos h]; exact h2)
    · rw [h1, nI_c (by have := hbd h; omega), nI_c (by omega)] at e1
      rw [nI_1]
      subst e1 e2
      refine ih (i + 1) _ (by omega) ((hF.trans (qFr.up (fun _ => Or.inr rfl))).trans (qFr.up1 (Or.inl ⟨rfl, rfl⟩))) ?_ ?_
      · show J 73 2 + 1 = _
        rw [h1, nI_1, tpS, if_neg h]
      · show upd (J 74) _ _ = _
        rw [h2, tpS, if_neg h]
theorem s12005 {a b c e f : Int32} {n : Nat} (hK : qLay K sz) (hR : qRef R) (hn : I 73 2 = nI n) (h160 : n ≤ 160) (ht : n + cN (by5 a b c e f) 20 ≤ 160 → ∀ J, fdR I n (by5 a b c e f) J → Q (some (.int (nI (n + cN (by5 a b c e f) 20)))) (K, J, L, R, sz)) (hf : ¬ n + cN (by5 a b c e f) 20 ≤ 160 → Q (some (.int (-1))) (K, I, L, R, sz)) : X (d + 1) 0 0 12005 0 0 0 (qent (qml 12005) [.ref 73, .int a, .int b, .int c, .int e, .int f]) [] (K, I, L, R, sz) Q :=
  ez12005 (d := d + 1) (l12005a hK hn h160 (fun hb x6 => l12005b (I := I) (n := n) hK hR hb (ht hb) 20 0 I rfl qFr.refl hn rfl) hf 20 0 rfl)
theorem iNV_feed {a b c e f : Int32} {n : Nat} (h : iNV I p) (hn : I 1 1 = nI n) (h160 : n ≤ 160) (hb : n + cN (by5 a b c e f) 20 ≤ 160) (g : fdC I n (by5 a b c e f) J) (g2 : fdR J n (by5 a b c e f) H) : iNV H p := by
  obtain ⟨f1, f2, f3⟩ := g
  obtain ⟨k1, k2, k3⟩ := g2
  obtain ⟨m, m1, m2, m3, m4⟩ := h.2.2.1
  have : m = n := (nI_eq (by omega) (by omega)).mp (m2.symm.trans hn)
  subst this
  refine iNV_tp h (fun j k q => by unfold kpT at q; rw [k1 j k (by omega), f1 j k (by omega)]) ⟨m + cN (by5 a b c e f) 20, hb, ?_, ?_, fun k hk => ?_⟩
  · rw [k1 1 1 (by omega), f2, tpS_2]
  · rw [k2, tpS_2]
  · rw [k3, k1.row (j := 2) (fun _ => by omega), f3, f1.row (j := 74) (fun _ => by omega)]
    exact tpS_ok (by5_in a b c e f) m4 20 k hk
theorem iNV_end {a : Int32} {n : Nat} (h : iNV I p) (hn : I 1 1 = nI n) (h160 : n ≤ 160) (h0 : ¬ a < 0) (h1 : a ≤ nI n) : iNV (va_up (va_up I 1 (upd (I 1) 1 a)) 73 (upd (va_up I 1 (upd (I 1) 1 a) 73) 2 a)) p := by
  obtain ⟨m, m1, m2, m3, m4⟩ := h.2.2.1
  have : m = n := (nI_eq (by omega) (by omega)).mp (m2.symm.trans hn)
  subst this
  have hk : ∃ k, k ≤ m ∧ a = nI k := by
    rw [i_lt] at h0
    rw [i_le, nI_i (by omega)] at h1
    have e0 : (0 : Int32).toInt = 0 := rfl
    exact ⟨a.toInt.toNat, by omega, by rw [i_eq, nI_i (by omega)]; omega⟩
  obtain ⟨k, k1, rfl⟩ := hk
  refine iNV_tp h ((qFr.up1 (P := kpT) (Or.inl ⟨rfl, rfl⟩)).trans (qFr.up1 (P := kpT) (Or.inr (Or.inr (Or.inl ⟨rfl, rfl⟩))))) ⟨k, by omega, rfl, rfl, fun i hi => m4 i (by omega)⟩
end L79
