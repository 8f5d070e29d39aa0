/-! laws worked out: the reference's loops -/
section L29
variable {d : Nat} {K : qK} {I : Nat → Nat → Int32} {L : Nat → Nat → Int64} {R : Nat → Nat → Option Nat} {sz : Nat} {Q : Option Value → qMem → Prop} {ev : Ev}
def RX (d : Nat) (K : qK) (I : Nat → Nat → Int32) (L : Nat → Nat → Int64) (R : Nat → Nat → Option Nat) (sz : Nat) (Q : Option Value → qMem → Prop) (x1 x2 x3 : Int32) (i h : Nat) (S : Nat → Int32) : Prop := X (d + 3) 0 0 12031 0 0 12 [some (.ref 73), some (.int x1), some (.int x2), some (.int x3), some (.int (nI h)), some (.int (nI i))] [] (K, va_up I 83 S, L, R, sz) Q
/-- the letters told -/
def qLet (I : Nat → Nat → Int32) (ev : Ev) : Prop := I 82 0 = ev 109 ∧ I 82 1 = ev 115 ∧ I 82 2 = ev 116 ∧ I 82 3 = ev 110 ∧ I 82 4 = ev 108
theorem RX_tok {x1 x2 x3 : Int32} {i N h : Nat} {S : Nat → Int32} (hK : qLay K sz) (hR : qRef R) (hN : 340 * x1 + x3 = nI N) (hi : i < N) (h17 : N ≤ 1700) {c v : Int32} (hc : I 75 i = c) (hv : I 76 i = v)
    (k1 : c = 0 → h < 80 ∧ RX d K I L R sz Q x1 x2 x3 (i + 1) (h + 1) (upd S h v))
    (k2 : c = 1 → h < 80 ∧ vp_in v 5 ∧ RX d K I L R sz Q x1 x2 x3 (i + 1) (h + 1) (upd S h (I 82 v.toNatClampNeg)))
    (k3 : c ≠ 0 → c ≠ 1 → c = 9 → ∃ g, h = g + 1 ∧ g < 80 ∧ RX d K I L R sz Q x1 x2 x3 (i + 1) (g + 1) (upd S g (1 - S g)))
    (k4 : c ≠ 0 → c ≠ 1 → c ≠ 9 → ∃ g, h = g + 2 ∧ g + 1 < 80 ∧ RX d K I L R sz Q x1 x2 x3 (i + 1) (g + 1) (upd S g (wkL c (S g).toInt64 (S (g + 1)).toInt64))) : RX d K I L R sz Q x1 x2 x3 i h S := by
  have hci : (nI i).toNatClampNeg = i := nI_c (by omega)
  have e75 : va_up I 83 S 75 (nI i).toNatClampNeg = c := by rw [hci, vu_n (by decide), hc]
  have e76 : va_up I 83 S 76 (nI i).toNatClampNeg = v := by rw [hci, vu_n (by decide), hv]
  have hnl : ¬ 340 * x1 + x3 ≤ nI i := by rw [hN]; exact nI_ge hi (by omega)
  refine g12031_12 hK hR (fun _ => vI (by omega) (by omega)) ?_ ?_ ?_ ?_ ?_ ?_ (fun h => absurd h hnl) ?_ ?_ ?_ ?_ <;> rw [e75] <;> intro _
  · intro e
    obtain ⟨a, _⟩ := k1 e
    exact vI a (by omega)
  · intro e1 e2 e3
    obtain ⟨g, rfl, a, _⟩ := k4 e1 e2 e3
    rw [← Int32.sub_eq_add_neg, nI_pred, nI_pred]; exact vI (by omega) (by omega)
  · intro e1 e2 e3
    obtain ⟨g, rfl, a, _⟩ := k4 e1 e2 e3
    rw [← Int32.sub_eq_add_neg, nI_pred]; exact vI (by omega) (by omega)
  · intro e1 e2 e3
    obtain ⟨g, rfl, a, _⟩ := k3 e1 e2 e3
    rw [nI_pred]; exact vI (by omega) (by omega)
  · intro e1 e2
    rw [e76]
    exact (k2 e2).2.1
  · intro e1 e2
    exact vI (k2 e2).1 (by omega)
  · intro e
    obtain ⟨a, b⟩ := k1 e
    rw [e76, nI_1, nI_1, vu_t, vu_s, nI_c (by omega)]
    exact b
  · intro e1 e2 e3
    obtain ⟨g, rfl, a, b⟩ := k4 e1 e2 e3
    rw [← Int32.sub_eq_add_neg, nI_pred, nI_pred, nI_1, vu_t, vu_s, nI_c (by omega), nI_c (by omega)]
    exact b
  · intro e1 e2 e3
    obtain ⟨g, rfl, a, b⟩ := k3 e1 e2 e3
    rw [nI_pred, nI_1, vu_t, vu_s, nI_c (by omega)]
    exact b
  · intro e1 e2
    obtain ⟨a, _, b⟩ := k2 e2
    rw [e76, nI_1, nI_1, vu_t, vu_s, nI_c (by omega)]
    exact b
theorem RX_S {N : Nat} {x1 x2 x3 : Int32} (hK : qLay K sz) (hR : qRef R) (hN : 340 * x1 + x3 = nI N) (h17 : N ≤ 1700) (hL : qLet I ev) {a : List Int32} {va : Ev → Int32} {da : Nat} (h : qSu a va da) : ∀ (p h : Nat) (S : Nat → Int32), qHaz (I 75) (I 76) p a → p + a.length ≤ N → h + da ≤ 80 → (∀ S' : Nat → Int32, (∀ k, k < h → S' k = S k) → S' h = va ev → RX d K I L R sz Q x1 x2 x3 (p + a.length) (h + 1) S') → RX d K I L R sz Q x1 x2 x3 p h S := by
  refine (h (fun a va da => 0 < da ∧ ∀ (p h : Nat) (S : Nat → Int32), qHaz (I 75) (I 76) p a → p + a.length ≤ N → h + da ≤ 80 → (∀ S' : Nat → Int32, (∀ k, k < h → S' k = S k) → S' h = va ev → RX d K I L R sz Q x1 x2 x3 (p + a.length) (h + 1) S') → RX d K I L R sz Q x1 x2 x3 p h S) ?_ ?_ ?_).2
  · intro x h0 h9
    refine ⟨Nat.lt_succ_self 0, ?_⟩
    intro p h S hh hl hd hk
    rw [List.length_singleton] at hl
    obtain ⟨e1, e2⟩ := qHaz_1 hh
    have e3 : rc x = 0 := by rw [rc, if_pos h0]
    have e4 : rv x = x := by rw [rv, if_pos h0]
    rw [e3] at e1
    rw [e4] at e2
    exact RX_tok hK hR hN (by omega) h17 e1 e2 (fun _ => ⟨by omega, hk _ (fun k hk => by rw [upd, if_neg (by omega)]) (by simp [upd])⟩) (fun h => absurd h (by decide)) (fun h => absurd rfl h) (fun h => absurd rfl h)
  · intro c hc
    refine ⟨Nat.lt_succ_self 0, ?_⟩
    intro p h S hh hl hd hk
    rw [List.length_singleton] at hl
    obtain ⟨e1, e2⟩ := qHaz_1 hh
    have e3 : rc (-c) = 1 := by rcases hc with h | h | h | h | h <;> subst h <;> decide
    have e4 : vp_in (rv (-c)) 5 ∧ I 82 (rv (-c)).toNatClampNeg = ev c := by
      obtain ⟨l0, l1, l2, l3, l4⟩ := hL
      rcases hc with h | h | h | h | h <;> subst h
      · exact ⟨qvp (by decide), l0⟩
      · exact ⟨qvp (by decide), l1⟩
      · exact ⟨qvp (by decide), l2⟩
      · exact ⟨qvp (by decide), l3⟩
      · exact ⟨qvp (by decide), l4⟩
    rw [e3] at e1
    refine RX_tok hK hR hN (by omega) h17 e1 e2 (fun h => absurd h (by decide)) (fun _ => ⟨by omega, e4.1, ?_⟩) (fun _ h => absurd rfl h) (fun _ h => absurd rfl h)
    rw [e4.2]
    exact hk _ (fun k hk => by rw [upd, if_neg (by omega)]) (by simp [upd])
  · intro op a b va vb da db hop ha hb
    refine ⟨by omega, ?_⟩
    intro p h S hh hl hd hk
    obtain ⟨h12, h3⟩ := qHaz_app hh
    obtain ⟨h1, h2⟩ := qHaz_app h12
    simp only [List.length_append, List.length_cons, List.length_nil] at hl hk h3
    refine ha.2 p h S h1 (by omega) (by omega) (fun S1 b1 v1 => ?_)
    refine hb.2 (p + a.length) (h + 1) S1 h2 (by omega) (by omega) (fun S2 b2 v2 => ?_)
    obtain ⟨e1, e2⟩ := qHaz_1 h3
    rw [← Nat.add_assoc] at e1 e2
    have hb0 := hb.1
    have e3 : rc (-op) ≠ 0 ∧ rc (-op) ≠ 1 ∧ rc (-op) ≠ 9 := by rcases hop with h | h | h | h <;> subst h <;> decide
    refine RX_tok hK hR hN (by omega) h17 e1 e2 (fun h => absurd h e3.1) (fun h => absurd h e3.2.1) (fun _ _ h => absurd h e3.2.2) (fun _ _ _ => ⟨h, rfl, by omega, ?_⟩)
    rw [wk_bin hop, show p + a.length + b.length + 1 = p + (a.length + b.length + (0 + 1)) from by omega]
    exact hk _ (fun k hk => by rw [upd, if_neg (by omega), b2 k (by omega), b1 k hk]) (by rw [upd, if_pos rfl, b2 h (by omega), v1, v2])
theorem RX_T {N : Nat} {x1 x2 x3 : Int32} (hK : qLay K sz) (hR : qRef R) (hN : 340 * x1 + x3 = nI N) (h17 : N ≤ 1700) (hL : qLet I ev) {a : List Int32} {va : Ev → Int32} {da : Nat} (h : qTr a va da) : ∀ (p h : Nat) (S : Nat → Int32), qHaz (I 75) (I 76) p a → p + a.length ≤ N → h + da ≤ 80 → (∀ S' : Nat → Int32, (∀ k, k < h → S' k = S k) → S' h = va ev → RX d K I L R sz Q x1 x2 x3 (p + a.length) (h + 1) S') → RX d K I L R sz Q x1 x2 x3 p h S := by
  refine (h (fun a va da => (0 < da ∧ (∀ v, va v = 0 ∨ va v = 1)) ∧ ∀ (p h : Nat) (S : Nat → Int32), qHaz (I 75) (I 76) p a → p + a.length ≤ N → h + da ≤ 80 → (∀ S' : Nat → Int32, (∀ k, k < h → S' k = S k) → S' h = va ev → RX d K I L R sz Q x1 x2 x3 (p + a.length) (h + 1) S') → RX d K I L R sz Q x1 x2 x3 p h S) ?_ ?_ ?_ ?_).2
  · intro op a b va vb da db hop ha hb
    have hb0 := qSu_pos hb
    refine ⟨⟨by omega, fun v => qcp_bit _ _ _⟩, ?_⟩
    intro p h S hh hl hd hk
    obtain ⟨h12, h3⟩ := qHaz_app hh
    obtain ⟨h1, h2⟩ := qHaz_app h12
    simp only [List.length_append, List.length_cons, List.length_nil] at hl hk h3
    refine RX_S hK hR hN h17 hL ha p h S h1 (by omega) (by omega) (fun S1 b1 v1 => ?_)
    refine RX_S hK hR hN h17 hL hb (p + a.length) (h + 1) S1 h2 (by omega) (by omega) (fun S2 b2 v2 => ?_)
    obtain ⟨e1, e2⟩ := qHaz_1 h3
    rw [← Nat.add_assoc] at e1 e2
    have e3 : rc (-op) ≠ 0 ∧ rc (-op) ≠ 1 ∧ rc (-op) ≠ 9 := by rcases hop with h | h | h <;> subst h <;> decide
    refine RX_tok hK hR hN (by omega) h17 e1 e2 (fun h => absurd h e3.1) (fun h => absurd h e3.2.1) (fun _ _ h => absurd h e3.2.2) (fun _ _ _ => ⟨h, rfl, by omega, ?_⟩)
    rw [wk_cmp hop, show p + a.length + b.length + 1 = p + (a.length + b.length + (0 + 1)) from by omega]
    exact hk _ (fun k hk => by rw [upd, if_neg (by omega), b2 k (by omega), b1 k hk]) (by rw [upd, if_pos rfl, b2 h (by omega), v1, v2])
  · intro a va da ha
    refine ⟨⟨ha.1.1, fun v => qb_bit _⟩, ?_⟩
    intro p h S hh hl hd hk
    have ha0 := ha.1.1
    obtain ⟨h1, h2⟩ := qHaz_app hh
    simp only [List.length_append, List.length_cons, List.length_nil] at hl hk
    refine ha.2 p h S h1 (by omega) (by omega) (fun S1 b1 v1 => ?_)
    obtain ⟨e1, e2⟩ := qHaz_1 h2
    refine RX_tok hK hR hN (by omega) h17 e1 e2 (fun h => absurd h (by decide)) (fun h => absurd h (by decide)) (fun _ _ _ => ⟨h, rfl, by omega, ?_⟩) (fun _ _ h => absurd rfl h)
    have e : 1 - S1 h = qb (S1 h = 0) := by
      rcases (v1 ▸ ha.1.2 ev : S1 h = 0 ∨ S1 h = 1) with h | h <;> rw [h] <;> decide
    rw [e, show p + a.length + 1 = p + (a.length + (0 + 1)) from by omega]
    exact hk _ (fun k hk => by rw [upd, if_neg (by omega), b1 k hk]) (by rw [upd, if_pos rfl, v1])
  · intro a b va vb da db ha hb
    refine ⟨⟨by have := ha.1.1; omega, fun v => qb_bit _⟩, ?_⟩
    intro p h S hh hl hd hk
    obtain ⟨h12, h3⟩ := qHaz_app hh
    obtain ⟨h1, h2⟩ := qHaz_app h12
    simp only [List.length_append, List.length_cons, List.length_nil] at hl hk h3
    refine ha.2 p h S h1 (by omega) (by omega) (fun S1 b1 v1 => ?_)
    refine hb.2 (p + a.length) (h + 1) S1 h2 (by omega) (by omega) (fun S2 b2 v2 => ?_)
    obtain ⟨e1, e2⟩ := qHaz_1 h3
    rw [← Nat.add_assoc] at e1 e2
    have hb0 := hb.1.1
    refine RX_tok hK hR hN (by omega) h17 e1 e2 (fun h => absurd h (by decide)) (fun h => absurd h (by decide)) (fun _ _ h => absurd h (by decide)) (fun _ _ _ => ⟨h, rfl, by omega, ?_⟩)
    rw [wk_and, show p + a.length + b.length + 1 = p + (a.length + b.length + (0 + 1)) from by omega]
    exact hk _ (fun k hk => by rw [upd, if_neg (by omega), b2 k (by omega), b1 k hk]) (by rw [upd, if_pos rfl, b2 h (by omega), v1, v2])
  · intro a b va vb da db ha hb
    refine ⟨⟨by have := ha.1.1; omega, fun v => qb_bit _⟩, ?_⟩
    intro p h S hh hl hd hk
    obtain ⟨h12, h3⟩ := qHaz_app hh
    obtain ⟨h1, h2⟩ := qHaz_app h12
    simp only [List.length_append, List.length_cons, List.length_nil] at hl hk h3
    refine ha.2 p h S h1 (by omega) (by omega) (fun S1 b1 v1 => ?_)
    refine hb.2 (p + a.length) (h + 1) S1 h2 (by omega) (by omega) (fun S2 b2 v2 => ?_)
    obtain ⟨e1, e2⟩ := qHaz_1 h3
    rw [← Nat.add_assoc] at e1 e2
    have hb0 := hb.1.1
    refine RX_tok hK hR hN (by omega) h17 e1 e2 (fun h => absurd h (by decide)) (fun h => absurd h (by decide)) (fun _ _ h => absurd h (by decide)) (fun _ _ _ => ⟨h, rfl, by omega, ?_⟩)
    rw [wk_or, show p + a.length + b.length + 1 = p + (a.length + b.length + (0 + 1)) from by omega]
    exact hk _ (fun k hk => by rw [upd, if_neg (by omega), b2 k (by omega), b1 k hk]) (by rw [upd, if_pos rfl, b2 h (by omega), v1, v2])
theorem RX_end {N : Nat} {x1 x2 x3 : Int32} {h : Nat} {S : Nat → Int32} (hK : qLay K sz) (hR : qRef R) (hN : 340 * x1 + x3 = nI N) (h17 : N ≤ 1700) (hq : Q (some (.int (S 0))) (K, va_up I 83 S, L, R, sz)) : RX d K I L R sz Q x1 x2 x3 N h S := by
  have hle : 340 * x1 + x3 ≤ nI N := by rw [hN]; exact nI_le (by omega) (by omega)
  refine g12031_12 hK hR (fun h => absurd hle h) (fun h => absurd hle h) (fun h => absurd hle h) (fun h => absurd hle h) (fun h => absurd hle h) (fun h => absurd hle h) (fun h => absurd hle h) (fun _ => ?_) (fun h => absurd hle h) (fun h => absurd hle h) (fun h => absurd hle h) (fun h => absurd hle h)
  rw [vu_s]; exact hq
/-- the text of place n begins at 340 n -/
theorem s12031S {n from_ : Nat} {a b c : Int32} {l : List Int32} {va : Ev → Int32} {da : Nat} (hK : qLay K sz) (hR : qRef R) (hL : qLet I ev) (h : qSu l va da) (hd : da ≤ 80) (hn : n < 5) (hf : from_ + l.length ≤ 340) (ha : a = nI n) (hb : b = nI from_) (hc : c = nI (from_ + l.length)) (hh : qHaz (I 75) (I 76) (340 * n + from_) l) (hq : ∀ S, Q (some (.int (va ev))) (K, va_up I 83 S, L, R, sz)) : X (d + 3) 0 0 12031 0 0 0 (qent (qml 12031) [.ref 73, .int a, .int b, .int c]) [] (K, I, L, R, sz) Q := by
  subst ha hb hc
  have em : ∀ j, 340 * nI n + nI j = nI (340 * n + j) := fun j => by
    rw [show (340 : Int32) = nI 340 from rfl, pk_mul, nI_add]
  refine e12031 ?_
  rw [em]
  have := RX_S (d := d) (Q := Q) (L := L) (x2 := nI from_) (N := 340 * n + (from_ + l.length)) hK hR (em _) (by omega) hL h (340 * n + from_) 0 (I 83) hh (by omega) (by omega) (fun S' _ v => ?_)
  · rw [RX, vu_id] at this; exact this
  · rw [Nat.add_assoc]
    refine RX_end hK hR (em _) (by omega) ?_
    rw [v]; exact hq S'
theorem s12031T {n from_ : Nat} {a b c : Int32} {l : List Int32} {va : Ev → Int32} {da : Nat} (hK : qLay K sz) (hR : qRef R) (hL : qLet I ev) (h : qTr l va da) (hd : da ≤ 80) (hn : n < 5) (hf : from_ + l.length ≤ 340) (ha : a = nI n) (hb : b = nI from_) (hc : c = nI (from_ + l.length)) (hh : qHaz (I 75) (I 76) (340 * n + from_) l) (hq : ∀ S, Q (some (.int (va ev))) (K, va_up I 83 S, L, R, sz)) : X (d + 3) 0 0 12031 0 0 0 (qent (qml 12031) [.ref 73, .int a, .int b, .int c]) [] (K, I, L, R, sz) Q := by
  subst ha hb hc
  have em : ∀ j, 340 * nI n + nI j = nI (340 * n + j) := fun j => by
    rw [show (340 : Int32) = nI 340 from rfl, pk_mul, nI_add]
  refine e12031 ?_
  rw [em]
  have := RX_T (d := d) (Q := Q) (L := L) (x2 := nI from_) (N := 340 * n + (from_ + l.length)) hK hR (em _) (by omega) hL h (340 * n + from_) 0 (I 83) hh (by omega) (by omega) (fun S' _ v => ?_)
  · rw [RX, vu_id] at this; exact this
  · rw [Nat.add_assoc]
    refine RX_end hK hR (em _) (by omega) ?_
    rw [v]; exact hq S'
end L29
