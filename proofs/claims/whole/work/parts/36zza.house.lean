/-! the reference reads houses: the items -/
def yPl (I : Nat → Nat → Int32) (a c : Int32) : Int32 := if a = 115 then (if c = 97 then 3 * (I 73 20) + 0 else if c = 111 then 3 * (I 73 20) + 1 else if c = 119 then 3 * (I 73 20) + 2 else -1) else if a = 109 then (if c = 97 then 15 + (I 73 21) else -1) else (if c = 114 then 18 + 4 * (I 73 22) + 0 else if c = 104 then 18 + 4 * (I 73 22) + 1 else if c = 110 then 18 + 4 * (I 73 22) + 2 else if c = 112 then 18 + 4 * (I 73 22) + 3 else -1)
def yHi (I : Nat → Nat → Int32) (c : Int32) : Int32 := if c = 97 then (I 73 19) - 1 else if c = 114 then (I 73 19) - 1 else if c = 111 then 2 else if c = 119 then 9 else if c = 104 then 3 else if c = 110 then 30 else (I 73 22) - 1
def gKn (j : Nat) : Int32 := [115, 109, 116].getD j 0
/-- where the column i of the s-th of kind j stands -/
def yPc (j s i : Nat) : Nat := if j = 0 then 3 * s + i else if j = 1 then 15 + s + i else 18 + 4 * s + i
def yUp (I : Nat → Nat → Int32) (a : Int32) : Prop := ∃ j s, j < 3 ∧ a = gKn j ∧ I 73 (20 + j) = nI s ∧ s < hMx j
def yRow (I : Nat → Nat → Int32) (j s : Nat) (row : Nat → Int32) : Prop := ∀ i, i < sLen j → I 84 (yPc j s i) = row i
abbrev yRw (j s o z : Nat) : Prop := yAt o z ∨ (o = 84 ∧ ∃ i, i < sLen j ∧ z = yPc j s i)
abbrev yRo (j s o z : Nat) : Prop := o = 84 ∧ ∃ i, i < sLen j ∧ z = yPc j s i
def yUs (I : Nat → Nat → Int32) (a : Int32) (J : Nat → Nat → Int32) : Prop := ∃ j s, j < 3 ∧ a = gKn j ∧ I 73 (20 + j) = nI s ∧ s < hMx j ∧ qFr (yRo j s) I J ∧ yRow J j s (hD j)
/-- a fault put down; the place is somewhere -/
def yXx (P : Nat → Nat → Prop) (b : Nat → Int32) (n : Nat) (I : Nat → Nat → Int32) (k : Nat) (J : Nat → Nat → Int32) : Prop := qFr P I J ∧ (∃ k', rTt b n J k') ∧ J 73 4 = nI k ∧ k ≤ n
/-- a letter told twice: no fault is put down yet -/
def ySo (P : Nat → Nat → Prop) (b : Nat → Int32) (n : Nat) (I : Nat → Nat → Int32) (k : Nat) (J : Nat → Nat → Int32) : Prop := yO P b n I k J ∧ nx b n k = k ∧ ¬ b k = 59 ∧ ¬ b k = -1
/-- the letters told -/
def rM (j m : Nat) : Int32 := nI (((List.range (sLen j)).filter (fun i => m.testBit i)).foldl (fun a i => a ||| (1 <<< ((gLt j i).toNatClampNeg - 97))) 0)
theorem yB0 : ∀ j : Fin 3, rM j.val 0 = 0 := by decide +kernel
theorem yB1 : ∀ (j : Fin 3) (m : Fin 16) (i : Fin 4), i.val < sLen j.val → ((((rM j.val m.val) >>> ((gLt j.val i.val - 97) &&& 31)) &&& 1) = 1 ↔ m.val.testBit i.val = true) := by decide +kernel
theorem yB2 : ∀ (j : Fin 3) (m : Fin 16) (i : Fin 4), i.val < sLen j.val → rM j.val m.val ||| (1 <<< ((gLt j.val i.val - 97) &&& 31)) = rM j.val (m.val ||| (1 <<< i.val)) := by decide +kernel
theorem yA0 : ∀ (s : Fin 6) (i : Fin 3), 3 * nI s.val + nI i.val = nI (3 * s.val + i.val) := by decide +kernel
theorem yA1 : ∀ (s : Fin 6), 15 + nI s.val = nI (15 + s.val) := by decide +kernel
theorem yA2 : ∀ (s : Fin 6) (i : Fin 4), 18 + 4 * nI s.val + nI i.val = nI (18 + 4 * s.val + i.val) := by decide +kernel
theorem gKn_i {i j : Nat} (hi : i < 3) (hj : j < 3) (e : gKn i = gKn j) : i = j := by
  rcases j3 hi with rfl | rfl | rfl <;> rcases j3 hj with rfl | rfl | rfl <;> first | rfl | exact absurd e (by decide)
theorem hMx5 {j : Nat} (hj : j < 3) : hMx j ≤ 5 := by rcases j3 hj with rfl | rfl | rfl <;> decide
theorem yPc_lt {j s i : Nat} (hj : j < 3) (hs : s < hMx j) (hi : i < sLen j) : yPc j s i < 34 := by
  rcases j3 hj with rfl | rfl | rfl
  · have h1 : s < 5 := hs
    have h2 : i < 3 := hi
    show 3 * s + i < 34; omega
  · have h1 : s < 3 := hs
    have h2 : i < 1 := hi
    show 15 + s + i < 34; omega
  · have h1 : s < 4 := hs
    have h2 : i < 4 := hi
    show 18 + 4 * s + i < 34; omega
theorem yPc_i {i j s z a c : Nat} (hi : i < 3) (hj : j < 3) (hs : s < hMx i) (hz : z < hMx j) (ha : a < sLen i) (hc : c < sLen j) (e : yPc i s a = yPc j z c) : i = j ∧ s = z ∧ a = c := by
  rcases j3 hi with rfl | rfl | rfl
  · have h1 : s < 5 := hs
    have h3 : a < 3 := ha
    rcases j3 hj with rfl | rfl | rfl
    · have h2 : z < 5 := hz
      have h4 : c < 3 := hc
      have e : 3 * s + a = 3 * z + c := e
      omega
    · have e : 3 * s + a = 15 + z + c := e
      omega
    · have e : 3 * s + a = 18 + 4 * z + c := e
      omega
  · have h1 : s < 3 := hs
    have h3 : a < 1 := ha
    rcases j3 hj with rfl | rfl | rfl
    · have h2 : z < 5 := hz
      have h4 : c < 3 := hc
      have e : 15 + s + a = 3 * z + c := e
      omega
    · have h4 : c < 1 := hc
      have e : 15 + s + a = 15 + z + c := e
      omega
    · have e : 15 + s + a = 18 + 4 * z + c := e
      omega
  · have h1 : s < 4 := hs
    have h3 : a < 4 := ha
    rcases j3 hj with rfl | rfl | rfl
    · have h2 : z < 5 := hz
      have h4 : c < 3 := hc
      have e : 18 + 4 * s + a = 3 * z + c := e
      omega
    · have h2 : z < 3 := hz
      have h4 : c < 1 := hc
      have e : 18 + 4 * s + a = 15 + z + c := e
      omega
    · have h4 : c < 4 := hc
      have e : 18 + 4 * s + a = 18 + 4 * z + c := e
      omega
section L36zza
variable {d : Nat} {K : qK} {I : Nat → Nat → Int32} {L : Nat → Nat → Int64} {R : Nat → Nat → Option Nat} {sz : Nat} {Q : Option Value → qMem → Prop} {b : Nat → Int32} {n : Nat}
variable {J M : Nat → Nat → Int32} {k : Nat}
theorem yPl_s {j i s : Nat} {c : Int32} (hj : j < 3) (hs : s < 6) (h0 : I 73 (20 + j) = nI s) (h : gCol j c = some i) : yPl I (gKn j) c = nI (yPc j s i) := by
  obtain ⟨rfl, hi⟩ := gCol_c hj h
  rcases j3 hj with rfl | rfl | rfl
  · have : i = 0 ∨ i = 1 ∨ i = 2 := by have h3 : i < 3 := hi; omega
    have h0 : I 73 20 = nI s := h0
    rcases this with rfl | rfl | rfl
    · show 3 * (I 73 20) + 0 = nI (3 * s + 0); rw [h0]; exact yA0 ⟨s, hs⟩ 0
    · show 3 * (I 73 20) + 1 = nI (3 * s + 1); rw [h0]; exact yA0 ⟨s, hs⟩ 1
    · show 3 * (I 73 20) + 2 = nI (3 * s + 2); rw [h0]; exact yA0 ⟨s, hs⟩ 2
  · have : i = 0 := by have h3 : i < 1 := hi; omega
    subst this
    have h0 : I 73 21 = nI s := h0
    show 15 + (I 73 21) = nI (15 + s); rw [h0]; exact yA1 ⟨s, hs⟩
  · have : i = 0 ∨ i = 1 ∨ i = 2 ∨ i = 3 := by have h3 : i < 4 := hi; omega
    have h0 : I 73 22 = nI s := h0
    rcases this with rfl | rfl | rfl | rfl
    · show 18 + 4 * (I 73 22) + 0 = nI (18 + 4 * s + 0); rw [h0]; exact yA2 ⟨s, hs⟩ 0
    · show 18 + 4 * (I 73 22) + 1 = nI (18 + 4 * s + 1); rw [h0]; exact yA2 ⟨s, hs⟩ 1
    · show 18 + 4 * (I 73 22) + 2 = nI (18 + 4 * s + 2); rw [h0]; exact yA2 ⟨s, hs⟩ 2
    · show 18 + 4 * (I 73 22) + 3 = nI (18 + 4 * s + 3); rw [h0]; exact yA2 ⟨s, hs⟩ 3
theorem yPl_n {j : Nat} {c : Int32} (hj : j < 3) (h : gCol j c = none) : yPl I (gKn j) c = -1 := by
  unfold gCol at h
  rcases j3 hj with rfl | rfl | rfl
  · rw [if_pos rfl] at h
    split at h
    · cases h
    · next q1 =>
      split at h
      · cases h
      · next q2 =>
        split at h
        · cases h
        · next q3 => unfold yPl; rw [if_pos (show gKn 0 = 115 from rfl), if_neg q1, if_neg q2, if_neg q3]
  · rw [if_neg (by decide), if_pos rfl] at h
    split at h
    · cases h
    · next q1 => unfold yPl; rw [if_neg (by decide), if_pos (show gKn 1 = 109 from rfl), if_neg q1]
  · rw [if_neg (by decide), if_neg (by decide)] at h
    split at h
    · cases h
    · next q1 =>
      split at h
      · cases h
      · next q2 =>
        split at h
        · cases h
        · next q3 =>
          split at h
          · cases h
          · next q4 => unfold yPl; rw [if_neg (by decide), if_neg (by decide), if_neg q1, if_neg q2, if_neg q3, if_neg q4]
theorem yHi_eq {j i r t : Nat} {c : Int32} (hj : j < 3) (h0 : I 73 19 = nI r) (h3 : j = 2 → I 73 22 = nI t) (h : gCol j c = some i) : yHi I c = hHi r t j i := by
  obtain ⟨rfl, hi⟩ := gCol_c hj h
  rcases j3 hj with rfl | rfl | rfl
  · have : i = 0 ∨ i = 1 ∨ i = 2 := by have h3 : i < 3 := hi; omega
    rcases this with rfl | rfl | rfl
    · exact show (I 73 19) - 1 = nI r - 1 by rw [h0]
    · rfl
    · rfl
  · have : i = 0 := by have h3 : i < 1 := hi; omega
    subst this
    exact show (I 73 19) - 1 = nI r - 1 by rw [h0]
  · have : i = 0 ∨ i = 1 ∨ i = 2 ∨ i = 3 := by have h3 : i < 4 := hi; omega
    rcases this with rfl | rfl | rfl | rfl
    · exact show (I 73 19) - 1 = nI r - 1 by rw [h0]
    · rfl
    · rfl
    · exact show (I 73 22) - 1 = nI t - 1 by rw [h3 rfl]
theorem yLo_eq {j i : Nat} {c : Int32} (hj : j < 3) (h : gCol j c = some i) : (c = 104 → hLo j i = 1) ∧ (¬ c = 104 → ¬ c = 110 → hLo j i = 0) ∧ (c = 110 → hLo j i = 1) := by
  obtain ⟨rfl, hi⟩ := gCol_c hj h
  rcases j3 hj with rfl | rfl | rfl
  · have : i = 0 ∨ i = 1 ∨ i = 2 := by have h3 : i < 3 := hi; omega
    rcases this with rfl | rfl | rfl <;> decide
  · have : i = 0 := by have h3 : i < 1 := hi; omega
    subst this; decide
  · have : i = 0 ∨ i = 1 ∨ i = 2 ∨ i = 3 := by have h3 : i < 4 := hi; omega
    rcases this with rfl | rfl | rfl | rfl <;> decide
theorem y12037 {a c : Int32} (hK : qLay K sz) (hq : Q (some (.int (yPl I a c))) (K, I, L, R, sz)) : X (d + 1) 0 0 12037 0 0 0 (qent (qml 12037) [.ref 73, .int a, .int c]) [] (K, I, L, R, sz) Q := by
  refine t12037 hK (fun h1 h2 h3 h4 h5 h6 => ?_) (fun h1 h2 h3 h4 h5 h6 => ?_) (fun h1 h2 h3 h4 h5 => ?_) (fun h1 h2 h3 h4 => ?_) (fun h1 h2 h3 => ?_) (fun h1 h2 h3 => ?_) (fun h1 h2 h3 => ?_) (fun h1 h2 h3 h4 => ?_) (fun h1 h2 h3 h4 => ?_) (fun h1 h2 h3 => ?_) (fun h1 h2 => ?_)
  · unfold yPl at hq; rw [if_neg h1, if_neg h2, if_neg h3, if_neg h4, if_neg h5, if_neg h6] at hq; exact hq
  · unfold yPl at hq; rw [if_neg h1, if_neg h2, if_neg h3, if_neg h4, if_neg h5, if_pos h6] at hq; exact hq
  · unfold yPl at hq; rw [if_neg h1, if_neg h2, if_neg h3, if_neg h4, if_pos h5] at hq; exact hq
  · unfold yPl at hq; rw [if_neg h1, if_neg h2, if_neg h3, if_pos h4] at hq; exact hq
  · unfold yPl at hq; rw [if_neg h1, if_neg h2, if_pos h3] at hq; exact hq
  · unfold yPl at hq; rw [if_neg h1, if_pos h2, if_neg h3] at hq; exact hq
  · unfold yPl at hq; rw [if_neg h1, if_pos h2, if_pos h3] at hq; exact hq
  · unfold yPl at hq; rw [if_pos h1, if_neg h2, if_neg h3, if_neg h4] at hq; exact hq
  · unfold yPl at hq; rw [if_pos h1, if_neg h2, if_neg h3, if_pos h4] at hq; exact hq
  · unfold yPl at hq; rw [if_pos h1, if_neg h2, if_pos h3] at hq; exact hq
  · unfold yPl at hq; rw [if_pos h1, if_pos h2] at hq; exact hq
theorem y12038 {a c : Int32} (hK : qLay K sz) (hq : Q (some (.int (yHi I c))) (K, I, L, R, sz)) : X d 0 0 12038 0 0 0 (qent (qml 12038) [.ref 73, .int a, .int c]) [] (K, I, L, R, sz) Q := by
  refine t12038 hK (fun h1 => ?_) (fun h1 h2 h3 h4 h5 h6 => ?_) (fun h1 h2 h3 h4 h5 h6 => ?_) (fun h1 h2 h3 h4 h5 => ?_) (fun h1 h2 h3 h4 => ?_) (fun h1 h2 h3 => ?_) (fun h1 h2 => ?_)
  · unfold yHi at hq; rw [if_pos h1] at hq; exact hq
  · unfold yHi at hq; rw [if_neg h1, if_neg h2, if_neg h3, if_neg h4, if_neg h5, if_neg h6] at hq; exact hq
  · unfold yHi at hq; rw [if_neg h1, if_neg h2, if_neg h3, if_neg h4, if_neg h5, if_pos h6] at hq; exact hq
  · unfold yHi at hq; rw [if_neg h1, if_neg h2, if_neg h3, if_neg h4, if_pos h5] at hq; exact hq
  · unfold yHi at hq; rw [if_neg h1, if_neg h2, if_neg h3, if_pos h4] at hq; exact hq
  · unfold yHi at hq; rw [if_neg h1, if_neg h2, if_pos h3] at hq; exact hq
  · unfold yHi at hq; rw [if_neg h1, if_pos h2] at hq; exact hq
theorem yRo_up {j s i : Nat} {v : Int32} (hi : i < sLen j) : qFr (yRo j s) I (va_up I 84 (upd (I 84) (yPc j s i) v)) := qFr.up1 ⟨rfl, i, hi, rfl⟩
theorem y12039 {a : Int32} (hK : qLay K sz) (hR : qRef R) (h : yUp I a) (hq : ∀ J, yUs I a J → Q none (K, J, L, R, sz)) : X (d + 1) 0 0 12039 0 0 0 (qent (qml 12039) [.ref 73, .int a]) [] (K, I, L, R, sz) Q := by
  obtain ⟨j, s, hj, rfl, h0, hs⟩ := h
  have h5 := hMx5 hj
  rcases j3 hj with rfl | rfl | rfl
  · have h0' : I 73 20 = nI s := h0
    have e0 : 3 * (I 73 20) + 0 = nI (yPc 0 s 0) := by rw [h0']; exact yA0 ⟨s, by omega⟩ 0
    have e1 : 3 * (I 73 20) + 1 = nI (yPc 0 s 1) := by rw [h0']; exact yA0 ⟨s, by omega⟩ 1
    have e2 : 3 * (I 73 20) + 2 = nI (yPc 0 s 2) := by rw [h0']; exact yA0 ⟨s, by omega⟩ 2
    have l0 := yPc_lt hj hs (i := 0) (by decide)
    have l1 := yPc_lt hj hs (i := 1) (by decide)
    have l2 := yPc_lt hj hs (i := 2) (by decide)
    refine t12039 hK hR (fun q => absurd rfl q) (fun q => absurd rfl q) (fun q => absurd rfl q) (fun q => absurd rfl q) (fun q => absurd rfl q) (fun _ => by rw [e0]; exact vI l0 (by omega)) (fun _ => by rw [e1]; exact vI l1 (by omega)) (fun _ => by rw [e2]; exact vI l2 (by omega)) (fun q => absurd rfl q) (fun q => absurd rfl q) (fun _ => ?_)
    simp only [e0, e1, e2, nI_c (show yPc 0 s 0 < 2 ^ 31 by omega), nI_c (show yPc 0 s 1 < 2 ^ 31 by omega), nI_c (show yPc 0 s 2 < 2 ^ 31 by omega)]
    refine hq _ ⟨0, s, hj, rfl, h0, hs, (yRo_up (by decide)).trans ((yRo_up (by decide)).trans (yRo_up (by decide))), fun i hi => ?_⟩
    simp only [vu_s]
    have p : ∀ x y : Nat, x < 3 → yPc 0 s x = yPc 0 s y → y < 3 → x = y := fun x y hx e hy => (yPc_i hj hj hs hs hx hy e).2.2
    have hi3 : i < 3 := hi
    have : i = 0 ∨ i = 1 ∨ i = 2 := by omega
    unfold upd
    rcases this with rfl | rfl | rfl
    · rw [if_neg (fun e => absurd (p 0 2 (by decide) e (by decide)) (by decide)), if_neg (fun e => absurd (p 0 1 (by decide) e (by decide)) (by decide)), if_pos rfl]; rfl
    · rw [if_neg (fun e => absurd (p 1 2 (by decide) e (by decide)) (by decide)), if_pos rfl]; rfl
    · rw [if_pos rfl]; rfl
  · have h0' : I 73 21 = nI s := h0
    have e0 : 15 + (I 73 21) = nI (yPc 1 s 0) := by rw [h0']; exact yA1 ⟨s, by omega⟩
    have l0 := yPc_lt hj hs (i := 0) (by decide)
    refine t12039 hK hR (fun _ q => absurd rfl q) (fun _ q => absurd rfl q) (fun _ q => absurd rfl q) (fun _ q => absurd rfl q) (fun _ _ => by rw [e0]; exact vI l0 (by omega)) (fun q => absurd q (by decide)) (fun q => absurd q (by decide)) (fun q => absurd q (by decide)) (fun _ q => absurd rfl q) (fun _ _ => ?_) (fun q => absurd q (by decide))
    simp only [e0, nI_c (show yPc 1 s 0 < 2 ^ 31 by omega)]
    refine hq _ ⟨1, s, hj, rfl, h0, hs, yRo_up (by decide), fun i hi => ?_⟩
    simp only [vu_s]
    have hi1 : i < 1 := hi
    have : i = 0 := by omega
    subst this
    unfold upd; rw [if_pos rfl]; rfl
  · have h0' : I 73 22 = nI s := h0
    have e0 : 18 + 4 * (I 73 22) + 0 = nI (yPc 2 s 0) := by rw [h0']; exact yA2 ⟨s, by omega⟩ 0
    have e1 : 18 + 4 * (I 73 22) + 1 = nI (yPc 2 s 1) := by rw [h0']; exact yA2 ⟨s, by omega⟩ 1
    have e2 : 18 + 4 * (I 73 22) + 2 = nI (yPc 2 s 2) := by rw [h0']; exact yA2 ⟨s, by omega⟩ 2
    have e3 : 18 + 4 * (I 73 22) + 3 = nI (yPc 2 s 3) := by rw [h0']; exact yA2 ⟨s, by omega⟩ 3
    have l0 := yPc_lt hj hs (i := 0) (by decide)
    have l1 := yPc_lt hj hs (i := 1) (by decide)
    have l2 := yPc_lt hj hs (i := 2) (by decide)
    have l3 := yPc_lt hj hs (i := 3) (by decide)
    refine t12039 hK hR (fun _ _ => by rw [e0]; exact vI l0 (by omega)) (fun _ _ => by rw [e1]; exact vI l1 (by omega)) (fun _ _ => by rw [e2]; exact vI l2 (by omega)) (fun _ _ => by rw [e3]; exact vI l3 (by omega)) (fun _ q => absurd q (by decide)) (fun q => absurd q (by decide)) (fun q => absurd q (by decide)) (fun q => absurd q (by decide)) (fun _ _ => ?_) (fun _ q => absurd q (by decide)) (fun q => absurd q (by decide))
    simp only [e0, e1, e2, e3, nI_c (show yPc 2 s 0 < 2 ^ 31 by omega), nI_c (show yPc 2 s 1 < 2 ^ 31 by omega), nI_c (show yPc 2 s 2 < 2 ^ 31 by omega), nI_c (show yPc 2 s 3 < 2 ^ 31 by omega)]
    refine hq _ ⟨2, s, hj, rfl, h0, hs, (yRo_up (by decide)).trans ((yRo_up (by decide)).trans ((yRo_up (by decide)).trans (yRo_up (by decide)))), fun i hi => ?_⟩
    simp only [vu_s]
    have p : ∀ x y : Nat, x < 4 → yPc 2 s x = yPc 2 s y → y < 4 → x = y := fun x y hx e hy => (yPc_i hj hj hs hs hx hy e).2.2
    have hi3 : i < 4 := hi
    have : i = 0 ∨ i = 1 ∨ i = 2 ∨ i = 3 := by omega
    unfold upd
    rcases this with rfl | rfl | rfl | rfl
    · rw [if_neg (fun e => absurd (p 0 3 (by decide) e (by decide)) (by decide)), if_neg (fun e => absurd (p 0 2 (by decide) e (by decide)) (by decide)), if_neg (fun e => absurd (p 0 1 (by decide) e (by decide)) (by decide)), if_pos rfl]; rfl
    · rw [if_neg (fun e => absurd (p 1 3 (by decide) e (by decide)) (by decide)), if_neg (fun e => absurd (p 1 2 (by decide) e (by decide)) (by decide)), if_pos rfl]; rfl
    · rw [if_neg (fun e => absurd (p 2 3 (by decide) e (by decide)) (by decide)), if_pos rfl]; rfl
    · rw [if_pos rfl]; rfl
theorem yUs.at {j s : Nat} (hj : j < 3) (hs : s < hMx j) (h0 : I 73 (20 + j) = nI s) (h : yUs I (gKn j) J) : qFr (yRo j s) I J ∧ yRow J j s (hD j) := by
  obtain ⟨i, z, a1, a2, a3, a4, a5, a6⟩ := h
  obtain rfl := gKn_i hj a1 a2
  have h5 := hMx5 hj
  have : z = s := nI_h (by omega) (by omega) (a3.symm.trans h0)
  subst this
  exact ⟨a5, a6⟩
theorem e12040   (hK : qLay K sz) (hR : qRef R) (b1 : ∃ k, rTt b n I k) (b2 : ∀ I1 : Nat → Nat → Int32, yLk b n I I1 → ¬ (rV b n I) = 115 → ¬ (rV b n I) = 109 → ¬ (rV b n I) = 116 → ∃ k, yS b n I1 k) (b3 : ∀ I1 : Nat → Nat → Int32, yLk b n I I1 → ¬ (rV b n I) = 115 → ¬ (rV b n I) = 109 → (rV b n I) = 116 → (I1 73 22) < 4 → ∀ I9 : Nat → Nat → Int32, I9 = va_up I1 73 (upd (I1 73) 3 ((I1 73 3) + 1)) → yUp I9 (rV b n I)) (b4 : ∀ I1 : Nat → Nat → Int32, yLk b n I I1 → ¬ (rV b n I) = 115 → ¬ (rV b n I) = 109 → (rV b n I) = 116 → (I1 73 22) < 4 → ∀ I9 : Nat → Nat → Int32, I9 = va_up I1 73 (upd (I1 73) 3 ((I1 73 3) + 1)) → ∀ I11 : Nat → Nat → Int32, yUs I9 (rV b n I) I11 → ∃ k, rTt b n I11 k) (b5 : ∀ I1 : Nat → Nat → Int32, yLk b n I I1 → ¬ (rV b n I) = 115 → ¬ (rV b n I) = 109 → (rV b n I) = 116 → ¬ (I1 73 22) < 4 → ∃ k, yS b n I1 k) (b6 : ∀ I1 : Nat → Nat → Int32, yLk b n I I1 → ¬ (rV b n I) = 115 → (rV b n I) = 109 → (I1 73 21) < 3 → ∀ I18 : Nat → Nat → Int32, I18 = va_up I1 73 (upd (I1 73) 3 ((I1 73 3) + 1)) → yUp I18 (rV b n I)) (b7 : ∀ I1 : Nat → Nat → Int32, yLk b n I I1 → ¬ (rV b n I) = 115 → (rV b n I) = 109 → (I1 73 21) < 3 → ∀ I18 : Nat → Nat → Int32, I18 = va_up I1 73 (upd (I1 73) 3 ((I1 73 3) + 1)) → ∀ I20 : Nat → Nat → Int32, yUs I18 (rV b n I) I20 → ∃ k, rTt b n I20 k) (b8 : ∀ I1 : Nat → Nat → Int32, yLk b n I I1 → ¬ (rV b n I) = 115 → (rV b n I) = 109 → ¬ (I1 73 21) < 3 → ∃ k, yS b n I1 k) (b9 : ∀ I1 : Nat → Nat → Int32, yLk b n I I1 → (rV b n I) = 115 → (I1 73 20) < 5 → ∀ I27 : Nat → Nat → Int32, I27 = va_up I1 73 (upd (I1 73) 3 ((I1 73 3) + 1)) → yUp I27 (rV b n I)) (b10 : ∀ I1 : Nat → Nat → Int32, yLk b n I I1 → (rV b n I) = 115 → (I1 73 20) < 5 → ∀ I27 : Nat → Nat → Int32, I27 = va_up I1 73 (upd (I1 73) 3 ((I1 73 3) + 1)) → ∀ I29 : Nat → Nat → Int32, yUs I27 (rV b n I) I29 → ∃ k, rTt b n I29 k) (b11 : ∀ I1 : Nat → Nat → Int32, yLk b n I I1 → (rV b n I) = 115 → ¬ (I1 73 20) < 5 → ∃ k, yS b n I1 k) (q1 : ∀ I1 : Nat → Nat → Int32, yLk b n I I1 → ¬ (rV b n I) = 115 → ¬ (rV b n I) = 109 → ¬ (rV b n I) = 116 → ∀ I6 : Nat → Nat → Int32, yBd b n I1 I6 → Q none (K, I6, L, R, sz)) (q2 : ∀ I1 : Nat → Nat → Int32, yLk b n I I1 → ¬ (rV b n I) = 115 → ¬ (rV b n I) = 109 → (rV b n I) = 116 → (I1 73 22) < 4 → ∀ I9 : Nat → Nat → Int32, I9 = va_up I1 73 (upd (I1 73) 3 ((I1 73 3) + 1)) → ∀ I11 : Nat → Nat → Int32, yUs I9 (rV b n I) I11 → ∀ I13 : Nat → Nat → Int32, yLk b n I11 I13 → X (d + 3) 0 0 12040 0 0 74 [some (.ref 73), some (.int (rV b n I)), some (.int 0), some (.int (rV b n I11))] [] (K, I13, L, R, sz) Q) (q3 : ∀ I1 : Nat → Nat → Int32, yLk b n I I1 → ¬ (rV b n I) = 115 → ¬ (rV b n I) = 109 → (rV b n I) = 116 → ¬ (I1 73 22) < 4 → ∀ I15 : Nat → Nat → Int32, yBd b n I1 I15 → Q none (K, I15, L, R, sz)) (q4 : ∀ I1 : Nat → Nat → Int32, yLk b n I I1 → ¬ (rV b n I) = 115 → (rV b n I) = 109 → (I1 73 21) < 3 → ∀ I18 : Nat → Nat → Int32, I18 = va_up I1 73 (upd (I1 73) 3 ((I1 73 3) + 1)) → ∀ I20 : Nat → Nat → Int32, yUs I18 (rV b n I) I20 → ∀ I22 : Nat → Nat → Int32, yLk b n I20 I22 → X (d + 3) 0 0 12040 0 0 74 [some (.ref 73), some (.int (rV b n I)), some (.int 0), some (.int (rV b n I20))] [] (K, I22, L, R, sz) Q) (q5 : ∀ I1 : Nat → Nat → Int32, yLk b n I I1 → ¬ (rV b n I) = 115 → (rV b n I) = 109 → ¬ (I1 73 21) < 3 → ∀ I24 : Nat → Nat → Int32, yBd b n I1 I24 → Q none (K, I24, L, R, sz)) (q6 : ∀ I1 : Nat → Nat → Int32, yLk b n I I1 → (rV b n I) = 115 → (I1 73 20) < 5 → ∀ I27 : Nat → Nat → Int32, I27 = va_up I1 73 (upd (I1 73) 3 ((I1 73 3) + 1)) → ∀ I29 : Nat → Nat → Int32, yUs I27 (rV b n I) I29 → ∀ I31 : Nat → Nat → Int32, yLk b n I29 I31 → X (d + 3) 0 0 12040 0 0 74 [some (.ref 73), some (.int (rV b n I)), some (.int 0), some (.int (rV b n I29))] [] (K, I31, L, R, sz) Q) (q7 : ∀ I1 : Nat → Nat → Int32, yLk b n I I1 → (rV b n I) = 115 → ¬ (I1 73 20) < 5 → ∀ I33 : Nat → Nat → Int32, yBd b n I1 I33 → Q none (K, I33, L, R, sz)) : X (d + 3) 0 0 12040 0 0 0 (qent (qml 12040) [.ref 73]) [] (K, I, L, R, sz) Q := show X _ 0 0 12040 0 0 0 [some (.ref 73), none, none, none] [] _ _ from x_ald0 k12040_0 <| x_cV0 (MCz := 0) (MSz := 0) k12040_1 v12_145_11 (hK.at rfl) (Nat.le_of_ble_eq_true rfl) (Nat.le_of_ble_eq_true rfl) (Nat.le_refl _) (Nat.le_refl _) <| y12008 hK hR b1 (fun I1 g2 => x_ist1 k12040_4 (Nat.le_of_ble_eq_true rfl) rfl <| x_ild1 k12040_5 <| x_bipush (v := 115) k12040_6 rfl <| x_icmpne (tgt := 19) k12040_8 (by decide) (fun h3 => x_ild1 k12040_19 <| x_bipush (v := 109) k12040_20 rfl <| x_icmpne (tgt := 33) k12040_22 (by decide) (fun h4 => x_ild1 k12040_33 <| x_bipush (v := 116) k12040_34 rfl <| x_icmpne (tgt := 47) k12040_36 (by decide) (fun h5 => x_ald0 k12040_47 <| x_cV0 (MCz := 0) (MSz := 0) k12040_48 v12_142_11 (hK.at rfl) (Nat.le_of_ble_eq_true rfl) (Nat.le_of_ble_eq_true rfl) (Nat.le_refl _) (Nat.le_refl _) <| y12009 hK (b2 I1 g2 h3 h4 h5) (fun I6 g7 => x_vret k12040_51 rfl (Nat.le_refl _) (Nat.le_refl _) <| (q1 I1 g2 h3 h4 h5 I6 g7))) (fun h5 => x_ald0 k12040_39 <| x_getI k12040_40 f12_248_11 (hK.at rfl) rfl <| x_iconst (v := 4) k12040_43 rfl <| x_icmplt (tgt := 52) k12040_44 (by decide) (fun h8 => x_ald0 k12040_52 <| x_dup k12040_53 rfl <| x_getI k12040_54 f12_126_11 (hK.at rfl) rfl <| x_iconst (v := 1) k12040_57 rfl <| x_iadd k12040_58 <| x_putI k12040_59 f12_126_11 (Or.inl rfl) (hK.at rfl) <| x_nm fun I9 e10 => x_ald0 k12040_62 <| x_ild1 k12040_63 <| x_cV1 (MCz := 0) (MSz := 0) k12040_64 v12_257_11 (hK.at rfl) (Nat.le_of_ble_eq_true rfl) (Nat.le_of_ble_eq_true rfl) (Nat.le_refl _) (Nat.le_refl _) <| y12039 hK hR (b3 I1 g2 h3 h4 h5 h8 I9 e10) (fun I11 g12 => x_iconst (v := 0) k12040_67 rfl <| x_ist2 k12040_68 (Nat.le_of_ble_eq_true rfl) rfl <| x_ald0 k12040_69 <| x_cV0 (MCz := 0) (MSz := 0) k12040_70 v12_145_11 (hK.at rfl) (Nat.le_of_ble_eq_true rfl) (Nat.le_of_ble_eq_true rfl) (Nat.le_refl _) (Nat.le_refl _) <| y12008 hK hR (b4 I1 g2 h3 h4 h5 h8 I9 e10 I11 g12) (fun I13 g14 => x_ist3 k12040_73 (Nat.le_of_ble_eq_true rfl) rfl <| (q2 I1 g2 h3 h4 h5 h8 I9 e10 I11 g12 I13 g14)))) (fun h8 => x_ald0 k12040_47 <| x_cV0 (MCz := 0) (MSz := 0) k12040_48 v12_142_11 (hK.at rfl) (Nat.le_of_ble_eq_true rfl) (Nat.le_of_ble_eq_true rfl) (Nat.le_refl _) (Nat.le_refl _) <| y12009 hK (b5 I1 g2 h3 h4 h5 h8) (fun I15 g16 => x_vret k12040_51 rfl (Nat.le_refl _) (Nat.le_refl _) <| (q3 I1 g2 h3 h4 h5 h8 I15 g16))))) (fun h4 => x_ald0 k12040_25 <| x_getI k12040_26 f12_242_11 (hK.at rfl) rfl <| x_iconst (v := 3) k12040_29 rfl <| x_icmplt (tgt := 52) k12040_30 (by decide) (fun h17 => x_ald0 k12040_52 <| x_dup k12040_53 rfl <| x_getI k12040_54 f12_126_11 (hK.at rfl) rfl <| x_iconst (v := 1) k12040_57 rfl <| x_iadd k12040_58 <| x_putI k12040_59 f12_126_11 (Or.inl rfl) (hK.at rfl) <| x_nm fun I18 e19 => x_ald0 k12040_62 <| x_ild1 k12040_63 <| x_cV1 (MCz := 0) (MSz := 0) k12040_64 v12_257_11 (hK.at rfl) (Nat.le_of_ble_eq_true rfl) (Nat.le_of_ble_eq_true rfl) (Nat.le_refl _) (Nat.le_refl _) <| y12039 hK hR (b6 I1 g2 h3 h4 h17 I18 e19) (fun I20 g21 => x_iconst (v := 0) k12040_67 rfl <| x_ist2 k12040_68 (Nat.le_of_ble_eq_true rfl) rfl <| x_ald0 k12040_69 <| x_cV0 (MCz := 0) (MSz := 0) k12040_70 v12_145_11 (hK.at rfl) (Nat.le_of_ble_eq_true rfl) (Nat.le_of_ble_eq_true rfl) (Nat.le_refl _) (Nat.le_refl _) <| y12008 hK hR (b7 I1 g2 h3 h4 h17 I18 e19 I20 g21) (fun I22 g23 => x_ist3 k12040_73 (Nat.le_of_ble_eq_true rfl) rfl <| (q4 I1 g2 h3 h4 h17 I18 e19 I20 g21 I22 g23)))) (fun h17 => x_ild1 k12040_33 <| x_bipush (v := 116) k12040_34 rfl <| x_icmpneT (tgt := 47) k12040_36 (by decide) (by rw [h4]; decide) <| x_ald0 k12040_47 <| x_cV0 (MCz := 0) (MSz := 0) k12040_48 v12_142_11 (hK.at rfl) (Nat.le_of_ble_eq_true rfl) (Nat.le_of_ble_eq_true rfl) (Nat.le_refl _) (Nat.le_refl _) <| y12009 hK (b8 I1 g2 h3 h4 h17) (fun I24 g25 => x_vret k12040_51 rfl (Nat.le_refl _) (Nat.le_refl _) <| (q5 I1 g2 h3 h4 h17 I24 g25))))) (fun h3 => x_ald0 k12040_11 <| x_getI k12040_12 f12_235_11 (hK.at rfl) rfl <| x_iconst (v := 5) k12040_15 rfl <| x_icmplt (tgt := 52) k12040_16 (by decide) (fun h26 => x_ald0 k12040_52 <| x_dup k12040_53 rfl <| x_getI k12040_54 f12_126_11 (hK.at rfl) rfl <| x_iconst (v := 1) k12040_57 rfl <| x_iadd k12040_58 <| x_putI k12040_59 f12_126_11 (Or.inl rfl) (hK.at rfl) <| x_nm fun I27 e28 => x_ald0 k12040_62 <| x_ild1 k12040_63 <| x_cV1 (MCz := 0) (MSz := 0) k12040_64 v12_257_11 (hK.at rfl) (Nat.le_of_ble_eq_true rfl) (Nat.le_of_ble_eq_true rfl) (Nat.le_refl _) (Nat.le_refl _) <| y12039 hK hR (b9 I1 g2 h3 h26 I27 e28) (fun I29 g30 => x_iconst (v := 0) k12040_67 rfl <| x_ist2 k12040_68 (Nat.le_of_ble_eq_true rfl) rfl <| x_ald0 k12040_69 <| x_cV0 (MCz := 0) (MSz := 0) k12040_70 v12_145_11 (hK.at rfl) (Nat.le_of_ble_eq_true rfl) (Nat.le_of_ble_eq_true rfl) (Nat.le_refl _) (Nat.le_refl _) <| y12008 hK hR (b10 I1 g2 h3 h26 I27 e28 I29 g30) (fun I31 g32 => x_ist3 k12040_73 (Nat.le_of_ble_eq_true rfl) rfl <| (q6 I1 g2 h3 h26 I27 e28 I29 g30 I31 g32)))) (fun h26 => x_ild1 k12040_19 <| x_bipush (v := 109) k12040_20 rfl <| x_icmpneT (tgt := 33) k12040_22 (by decide) (by rw [h3]; decide) <| x_ild1 k12040_33 <| x_bipush (v := 116) k12040_34 rfl <| x_icmpneT (tgt := 47) k12040_36 (by decide) (by rw [h3]; decide) <| x_ald0 k12040_47 <| x_cV0 (MCz := 0) (MSz := 0) k12040_48 v12_142_11 (hK.at rfl) (Nat.le_of_ble_eq_true rfl) (Nat.le_of_ble_eq_true rfl) (Nat.le_refl _) (Nat.le_refl _) <| y12009 hK (b11 I1 g2 h3 h26) (fun I33 g34 => x_vret k12040_51 rfl (Nat.le_refl _) (Nat.le_refl _) <| (q7 I1 g2 h3 h26 I33 g34)))))
theorem g12040_74 {kd : Int32} {x2 : Int32} {x3 : Int32}  (hK : qLay K sz) (hR : qRef R)  (q1 : ¬ (I 73 4) = (-1) → X (d + 3) 0 0 12040 0 0 168 [some (.ref 73), some (.int kd), some (.int x2), some (.int x3)] [] (K, I, L, R, sz) Q) (q2 : (I 73 4) = (-1) → (yPl I kd x3) = (-1) → X (d + 3) 0 0 12040 0 0 168 [some (.ref 73), some (.int kd), some (.int x2), some (.int x3)] [] (K, I, L, R, sz) Q) (q3 : (I 73 4) = (-1) → ¬ (yPl I kd x3) = (-1) → ((x2 >>> ((x3 - 97) &&& 31)) &&& 1) = 1 → X (d + 3) 0 0 12040 0 0 168 [some (.ref 73), some (.int kd), some (.int x2), some (.int x3)] [] (K, I, L, R, sz) Q) (q4 : (I 73 4) = (-1) → ¬ (yPl I kd x3) = (-1) → ¬ ((x2 >>> ((x3 - 97) &&& 31)) &&& 1) = 1 → ∀ I5 : Nat → Nat → Int32, I5 = va_up I 73 (upd (I 73) 3 ((I 73 3) + 1)) → x3 = 104 → X (d + 3) 0 0 12040 0 0 150 [some (.ref 73), some (.int kd), some (.int (x2 ||| (1 <<< ((x3 - 97) &&& 31)))), some (.int x3)] [.int 1, .ref 73, .int (yPl I5 kd x3), .ref 84] (K, I5, L, R, sz) Q) (q5 : (I 73 4) = (-1) → ¬ (yPl I kd x3) = (-1) → ¬ ((x2 >>> ((x3 - 97) &&& 31)) &&& 1) = 1 → ∀ I5 : Nat → Nat → Int32, I5 = va_up I 73 (upd (I 73) 3 ((I 73 3) + 1)) → ¬ x3 = 104 → ¬ x3 = 110 → X (d + 3) 0 0 12040 0 0 150 [some (.ref 73), some (.int kd), some (.int (x2 ||| (1 <<< ((x3 - 97) &&& 31)))), some (.int x3)] [.int 0, .ref 73, .int (yPl I5 kd x3), .ref 84] (K, I5, L, R, sz) Q) (q6 : (I 73 4) = (-1) → ¬ (yPl I kd x3) = (-1) → ¬ ((x2 >>> ((x3 - 97) &&& 31)) &&& 1) = 1 → ∀ I5 : Nat → Nat → Int32, I5 = va_up I 73 (upd (I 73) 3 ((I 73 3) + 1)) → ¬ x3 = 104 → x3 = 110 → X (d + 3) 0 0 12040 0 0 150 [some (.ref 73), some (.int kd), some (.int (x2 ||| (1 <<< ((x3 - 97) &&& 31)))), some (.int x3)] [.int 1, .ref 73, .int (yPl I5 kd x3), .ref 84] (K, I5, L, R, sz) Q) : X (d + 3) 0 0 12040 0 0 74 [some (.ref 73), some (.int kd), some (.int x2), some (.int x3)] [] (K, I, L, R, sz) Q := x_ald0 k12040_74 <| x_getI k12040_75 f12_133_11 (hK.at rfl) rfl <| x_iconst (v := (-1)) k12040_78 rfl <| x_icmpne (tgt := 168) k12040_79 (by decide) (fun h1 => (q1 h1)) (fun h1 => x_ald0 k12040_82 <| x_ild1 k12040_83 <| x_ild3 k12040_84 <| x_cV2 (MCz := 0) (MSz := 0) k12040_85 v12_260_11 (hK.at rfl) (Nat.le_of_ble_eq_true rfl) (Nat.le_of_ble_eq_true rfl) (Nat.le_refl _) (Nat.le_refl _) <| y12037 hK (x_iconst (v := (-1)) k12040_88 rfl <| x_icmpeq (tgt := 168) k12040_89 (by decide) (fun h2 => (q2 h1 h2)) (fun h2 => x_ild2 k12040_92 <| x_ild3 k12040_93 <| x_bipush (v := 97) k12040_94 rfl <| x_isub k12040_96 <| x_cS2 (MCz := 0) (MSz := 0) k12040_97 s12_263 (Nat.le_of_ble_eq_true rfl) (Nat.le_of_ble_eq_true rfl) (Nat.le_refl _) (Nat.le_refl _) <| t12001 (fun g3 => x_ifneT (tgt := 168) k12040_100 (by decide) (show ¬ (1 : Int32) = 0 by decide) <| (q3 h1 h2 g3)) (fun g4 => x_ifneF (tgt := 168) k12040_100 (by decide) (show (0 : Int32) = 0 by decide) <| x_ild2 k12040_103 <| x_iconst (v := 1) k12040_104 rfl <| x_ild3 k12040_105 <| x_bipush (v := 97) k12040_106 rfl <| x_isub k12040_108 <| x_ishl k12040_109 <| x_ior k12040_110 <| x_ist2 k12040_111 (Nat.le_of_ble_eq_true rfl) rfl <| x_ald0 k12040_112 <| x_dup k12040_113 rfl <| x_getI k12040_114 f12_126_11 (hK.at rfl) rfl <| x_iconst (v := 1) k12040_117 rfl <| x_iadd k12040_118 <| x_putI k12040_119 f12_126_11 (Or.inl rfl) (hK.at rfl) <| x_nm fun I5 e6 => x_ald0 k12040_122 <| x_getR k12040_123 f12_40_11 (hK.at rfl) rfl (hR _ _ _ rfl) <| x_ald0 k12040_126 <| x_ild1 k12040_127 <| x_ild3 k12040_128 <| x_cV2 (MCz := 0) (MSz := 0) k12040_129 v12_260_11 (hK.at rfl) (Nat.le_of_ble_eq_true rfl) (Nat.le_of_ble_eq_true rfl) (Nat.le_refl _) (Nat.le_refl _) <| y12037 hK (x_ald0 k12040_132 <| x_ild3 k12040_133 <| x_bipush (v := 104) k12040_134 rfl <| x_icmpeq (tgt := 145) k12040_136 (by decide) (fun h7 => x_iconst (v := 1) k12040_145 rfl <| x_goto (tgt := 150) k12040_146 (by decide) <| (q4 h1 h2 g4 I5 e6 h7)) (fun h7 => x_ild3 k12040_139 <| x_bipush (v := 110) k12040_140 rfl <| x_icmpne (tgt := 149) k12040_142 (by decide) (fun h8 => x_iconst (v := 0) k12040_149 rfl <| (q5 h1 h2 g4 I5 e6 h7 h8)) (fun h8 => x_iconst (v := 1) k12040_145 rfl <| x_goto (tgt := 150) k12040_146 (by decide) <| (q6 h1 h2 g4 I5 e6 h7 h8))))))))
theorem g12040_150 {kd : Int32} {x2 : Int32} {x3 : Int32} {pl : Int32} {lo : Int32}  (hK : qLay K sz) (hR : qRef R) (b1 : ∃ k, yS b n I k) (b2 : ∀ I1 : Nat → Nat → Int32, ∀ r2 : Int32, yNy b n I lo (yHi I x3) r2 I1 → vp_in pl 34) (b3 : ∀ I1 : Nat → Nat → Int32, ∀ r2 : Int32, yNy b n I lo (yHi I x3) r2 I1 → ∀ I4 : Nat → Nat → Int32, I4 = va_up I1 84 (upd (I1 84) pl.toNatClampNeg r2) → ∃ k, rTt b n I4 k) (b4 : ∀ I8 : Nat → Nat → Int32, ∀ r9 : Int32, yNn b n I lo (yHi I x3) I8 → vp_in pl 34) (b5 : ∀ I8 : Nat → Nat → Int32, ∀ r9 : Int32, yNn b n I lo (yHi I x3) I8 → ∀ I11 : Nat → Nat → Int32, I11 = va_up I8 84 (upd (I8 84) pl.toNatClampNeg r9) → ∃ k, rTt b n I11 k) (q1 : ∀ I1 : Nat → Nat → Int32, ∀ r2 : Int32, yNy b n I lo (yHi I x3) r2 I1 → ∀ I4 : Nat → Nat → Int32, I4 = va_up I1 84 (upd (I1 84) pl.toNatClampNeg r2) → ∀ I6 : Nat → Nat → Int32, yLk b n I4 I6 → X (d + 3) 0 0 12040 0 0 74 [some (.ref 73), some (.int kd), some (.int x2), some (.int (rV b n I4))] [] (K, I6, L, R, sz) Q) (q2 : ∀ I8 : Nat → Nat → Int32, ∀ r9 : Int32, yNn b n I lo (yHi I x3) I8 → ∀ I11 : Nat → Nat → Int32, I11 = va_up I8 84 (upd (I8 84) pl.toNatClampNeg r9) → ∀ I13 : Nat → Nat → Int32, yLk b n I11 I13 → X (d + 3) 0 0 12040 0 0 74 [some (.ref 73), some (.int kd), some (.int x2), some (.int (rV b n I11))] [] (K, I13, L, R, sz) Q) : X (d + 3) 0 0 12040 0 0 150 [some (.ref 73), some (.int kd), some (.int x2), some (.int x3)] [.int lo, .ref 73, .int pl, .ref 84] (K, I, L, R, sz) Q := x_ald0 k12040_150 <| x_ild1 k12040_151 <| x_ild3 k12040_152 <| x_cV2 (MCz := 0) (MSz := 0) k12040_153 v12_267_11 (hK.at rfl) (Nat.le_of_ble_eq_true rfl) (Nat.le_of_ble_eq_true rfl) (Nat.le_refl _) (Nat.le_refl _) <| y12038 hK (x_cV2 (MCz := 0) (MSz := 0) k12040_156 v12_270_11 (hK.at rfl) (Nat.le_of_ble_eq_true rfl) (Nat.le_of_ble_eq_true rfl) (Nat.le_refl _) (Nat.le_refl _) <| y12036 hK hR b1 (fun I1 r2 g3 => x_iast k12040_159 (hK.at rfl) (b2 I1 r2 g3) <| x_nm fun I4 e5 => x_ald0 k12040_160 <| x_cV0 (MCz := 0) (MSz := 0) k12040_161 v12_145_11 (hK.at rfl) (Nat.le_of_ble_eq_true rfl) (Nat.le_of_ble_eq_true rfl) (Nat.le_refl _) (Nat.le_refl _) <| y12008 hK hR (b3 I1 r2 g3 I4 e5) (fun I6 g7 => x_ist3 k12040_164 (Nat.le_of_ble_eq_true rfl) rfl <| x_goto (tgt := 74) k12040_165 (by decide) <| (q1 I1 r2 g3 I4 e5 I6 g7))) (fun I8 r9 g10 => x_iast k12040_159 (hK.at rfl) (b4 I8 r9 g10) <| x_nm fun I11 e12 => x_ald0 k12040_160 <| x_cV0 (MCz := 0) (MSz := 0) k12040_161 v12_145_11 (hK.at rfl) (Nat.le_of_ble_eq_true rfl) (Nat.le_of_ble_eq_true rfl) (Nat.le_refl _) (Nat.le_refl _) <| y12008 hK hR (b5 I8 r9 g10 I11 e12) (fun I13 g14 => x_ist3 k12040_164 (Nat.le_of_ble_eq_true rfl) rfl <| x_goto (tgt := 74) k12040_165 (by decide) <| (q2 I8 r9 g10 I11 e12 I13 g14))))
theorem g12040_168_0 {x2 : Int32} {x3 : Int32}  (hK : qLay K sz)  (q1 : ∀ I1 : Nat → Nat → Int32, I1 = va_up I 73 (upd (I 73) 20 ((I 73 20) + 1)) → ∀ I3 : Nat → Nat → Int32, I3 = va_up I1 73 (upd (I1 73) 21 ((I1 73 21) + 0)) → ∀ I5 : Nat → Nat → Int32, I5 = va_up I3 73 (upd (I3 73) 22 ((I3 73 22) + 0)) → Q none (K, I5, L, R, sz)) : X (d + 3) 0 0 12040 0 0 168 [some (.ref 73), some (.int 115), some (.int x2), some (.int x3)] [] (K, I, L, R, sz) Q := x_ald0 k12040_168 <| x_dup k12040_169 rfl <| x_getI k12040_170 f12_235_11 (hK.at rfl) rfl <| x_ild1 k12040_173 <| x_bipush (v := 115) k12040_174 rfl <| x_icmpneF (tgt := 183) k12040_176 (by decide) (show (115 : Int32) = 115 by decide) <| x_iconst (v := 1) k12040_179 rfl <| x_goto (tgt := 184) k12040_180 (by decide) <| x_iadd k12040_184 <| x_putI k12040_185 f12_235_11 (Or.inl rfl) (hK.at rfl) <| x_nm fun I1 e2 => x_ald0 k12040_188 <| x_dup k12040_189 rfl <| x_getI k12040_190 f12_242_11 (hK.at rfl) rfl <| x_ild1 k12040_193 <| x_bipush (v := 109) k12040_194 rfl <| x_icmpneT (tgt := 203) k12040_196 (by decide) (show ¬ (115 : Int32) = 109 by decide) <| x_iconst (v := 0) k12040_203 rfl <| x_iadd k12040_204 <| x_putI k12040_205 f12_242_11 (Or.inl rfl) (hK.at rfl) <| x_nm fun I3 e4 => x_ald0 k12040_208 <| x_dup k12040_209 rfl <| x_getI k12040_210 f12_248_11 (hK.at rfl) rfl <| x_ild1 k12040_213 <| x_bipush (v := 116) k12040_214 rfl <| x_icmpneT (tgt := 223) k12040_216 (by decide) (show ¬ (115 : Int32) = 116 by decide) <| x_iconst (v := 0) k12040_223 rfl <| x_iadd k12040_224 <| x_putI k12040_225 f12_248_11 (Or.inl rfl) (hK.at rfl) <| x_nm fun I5 e6 => x_vret k12040_228 rfl (Nat.le_refl _) (Nat.le_refl _) <| (q1 I1 e2 I3 e4 I5 e6)
theorem g12040_168_1 {x2 : Int32} {x3 : Int32}  (hK : qLay K sz)  (q1 : ∀ I1 : Nat → Nat → Int32, I1 = va_up I 73 (upd (I 73) 20 ((I 73 20) + 0)) → ∀ I3 : Nat → Nat → Int32, I3 = va_up I1 73 (upd (I1 73) 21 ((I1 73 21) + 1)) → ∀ I5 : Nat → Nat → Int32, I5 = va_up I3 73 (upd (I3 73) 22 ((I3 73 22) + 0)) → Q none (K, I5, L, R, sz)) : X (d + 3) 0 0 12040 0 0 168 [some (.ref 73), some (.int 109), some (.int x2), some (.int x3)] [] (K, I, L, R, sz) Q := x_ald0 k12040_168 <| x_dup k12040_169 rfl <| x_getI k12040_170 f12_235_11 (hK.at rfl) rfl <| x_ild1 k12040_173 <| x_bipush (v := 115) k12040_174 rfl <| x_icmpneT (tgt := 183) k12040_176 (by decide) (show ¬ (109 : Int32) = 115 by decide) <| x_iconst (v := 0) k12040_183 rfl <| x_iadd k12040_184 <| x_putI k12040_185 f12_235_11 (Or.inl rfl) (hK.at rfl) <| x_nm fun I1 e2 => x_ald0 k12040_188 <| x_dup k12040_189 rfl <| x_getI k12040_190 f12_242_11 (hK.at rfl) rfl <| x_ild1 k12040_193 <| x_bipush (v := 109) k12040_194 rfl <| x_icmpneF (tgt := 203) k12040_196 (by decide) (show (109 : Int32) = 109 by decide) <| x_iconst (v := 1) k12040_199 rfl <| x_goto (tgt := 204) k12040_200 (by decide) <| x_iadd k12040_204 <| x_putI k12040_205 f12_242_11 (Or.inl rfl) (hK.at rfl) <| x_nm fun I3 e4 => x_ald0 k12040_208 <| x_dup k12040_209 rfl <| x_getI k12040_210 f12_248_11 (hK.at rfl) rfl <| x_ild1 k12040_213 <| x_bipush (v := 116) k12040_214 rfl <| x_icmpneT (tgt := 223) k12040_216 (by decide) (show ¬ (109 : Int32) = 116 by decide) <| x_iconst (v := 0) k12040_223 rfl <| x_iadd k12040_224 <| x_putI k12040_225 f12_248_11 (Or.inl rfl) (hK.at rfl) <| x_nm fun I5 e6 => x_vret k12040_228 rfl (Nat.le_refl _) (Nat.le_refl _) <| (q1 I1 e2 I3 e4 I5 e6)
theorem g12040_168_2 {x2 : Int32} {x3 : Int32}  (hK : qLay K sz)  (q1 : ∀ I1 : Nat → Nat → Int32, I1 = va_up I 73 (upd (I 73) 20 ((I 73 20) + 0)) → ∀ I3 : Nat → Nat → Int32, I3 = va_up I1 73 (upd (I1 73) 21 ((I1 73 21) + 0)) → ∀ I5 : Nat → Nat → Int32, I5 = va_up I3 73 (upd (I3 73) 22 ((I3 73 22) + 1)) → Q none (K, I5, L, R, sz)) : X (d + 3) 0 0 12040 0 0 168 [some (.ref 73), some (.int 116), some (.int x2), some (.int x3)] [] (K, I, L, R, sz) Q := x_ald0 k12040_168 <| x_dup k12040_169 rfl <| x_getI k12040_170 f12_235_11 (hK.at rfl) rfl <| x_ild1 k12040_173 <| x_bipush (v := 115) k12040_174 rfl <| x_icmpneT (tgt := 183) k12040_176 (by decide) (show ¬ (116 : Int32) = 115 by decide) <| x_iconst (v := 0) k12040_183 rfl <| x_iadd k12040_184 <| x_putI k12040_185 f12_235_11 (Or.inl rfl) (hK.at rfl) <| x_nm fun I1 e2 => x_ald0 k12040_188 <| x_dup k12040_189 rfl <| x_getI k12040_190 f12_242_11 (hK.at rfl) rfl <| x_ild1 k12040_193 <| x_bipush (v := 109) k12040_194 rfl <| x_icmpneT (tgt := 203) k12040_196 (by decide) (show ¬ (116 : Int32) = 109 by decide) <| x_iconst (v := 0) k12040_203 rfl <| x_iadd k12040_204 <| x_putI k12040_205 f12_242_11 (Or.inl rfl) (hK.at rfl) <| x_nm fun I3 e4 => x_ald0 k12040_208 <| x_dup k12040_209 rfl <| x_getI k12040_210 f12_248_11 (hK.at rfl) rfl <| x_ild1 k12040_213 <| x_bipush (v := 116) k12040_214 rfl <| x_icmpneF (tgt := 223) k12040_216 (by decide) (show (116 : Int32) = 116 by decide) <| x_iconst (v := 1) k12040_219 rfl <| x_goto (tgt := 224) k12040_220 (by decide) <| x_iadd k12040_224 <| x_putI k12040_225 f12_248_11 (Or.inl rfl) (hK.at rfl) <| x_nm fun I5 e6 => x_vret k12040_228 rfl (Nat.le_refl _) (Nat.le_refl _) <| (q1 I1 e2 I3 e4 I5 e6)
end L36zza
