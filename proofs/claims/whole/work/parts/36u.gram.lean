/-! clauses, what they are worth -/
def qMp {α β : Type} (f : α → β) (r : qRs α) : qRs β := match r with
  | (k, none) => (k, none)
  | (k, some a) => (k, some (f a))
def gGd (b : Nat → Int32) (n : Nat) : qPr := fun k => if b (nx b n k) = 63 then qBd (gSum b n (gAtom b n 6) (nx b n k + 1)) (fun k2 s => (k2, some ([-63] ++ s))) else (nx b n k, none)
/-- the code of a clause without its end -/
def cuB (c : qUc) : List Int32 := (match c.1 with | none => [] | some t => t ++ [-63]) ++ c.2
def gBodyC (b : Nat → Int32) (n : Nat) : qPr := fun k => qMp cuB (gBody b n k)
def gClC (b : Nat → Int32) (n : Nat) : qPr := fun k => qMp cuC (gCl b n k)
section L36u
variable {b : Nat → Int32} {n : Nat}
theorem qMp_S {α β : Type} {f : α → β} {r : qRs α} {k : Nat} {a : α} (h : r = (k, some a)) : qMp f r = (k, some (f a)) := by rw [h]; rfl
theorem qMp_N {α β : Type} {f : α → β} {r : qRs α} {k : Nat} (h : r = (k, none)) : qMp f r = (k, none) := by rw [h]; rfl
theorem qMp_some {α β : Type} {f : α → β} {r : qRs α} {k : Nat} {c : β} (h : qMp f r = (k, some c)) : ∃ a, r = (k, some a) ∧ c = f a := by
  obtain ⟨k1, a⟩ := r
  cases a with
  | none => simp [qMp] at h
  | some a => simp only [qMp, Prod.mk.injEq, Option.some.injEq] at h; exact ⟨a, by rw [h.1], h.2.symm⟩
theorem qMp_none {α β : Type} {f : α → β} {r : qRs α} {k : Nat} (h : qMp f r = (k, none)) : r = (k, none) := by
  obtain ⟨k1, a⟩ := r
  cases a with
  | none => simp only [qMp, Prod.mk.injEq, and_true] at h; rw [h]
  | some a => simp [qMp] at h
theorem cuC_B (c : qUc) : cuC c = cuB c ++ [-59] := by
  obtain ⟨t, s⟩ := c
  cases t <;> simp [cuC, cuB]
theorem gGd_ok {k k' : Nat} {cs : List Int32} (h : gGd b n k = (k', some cs)) : ∃ s, cs = [-63] ++ s ∧ ∀ t, gGuard b n k t = (k', some (some t, s)) := by
  unfold gGd at h
  by_cases c : b (nx b n k) = 63
  · rw [if_pos c] at h
    obtain ⟨k1, s, e1, e2⟩ := qBd_some h
    simp only [Prod.mk.injEq, Option.some.injEq] at e2
    refine ⟨s, e2.2.symm, fun t => ?_⟩
    unfold gGuard
    rw [if_pos c, qBd_S e1, e2.1]
  · rw [if_neg c] at h; simp at h
theorem gGd_no {k k' : Nat} (h : gGd b n k = (k', none)) : ∀ t, gGuard b n k t = (k', none) := by
  intro t
  unfold gGd at h
  unfold gGuard
  by_cases c : b (nx b n k) = 63
  · rw [if_pos c] at h ⊢
    rcases qBd_none h with e1 | ⟨k1, s, e1, e2⟩
    · rw [qBd_N e1]
    · simp at e2
  · rw [if_neg c] at h ⊢; simp only [Prod.mk.injEq, and_true] at h; rw [h]
theorem gGuard_ok {k k' : Nat} {t : List Int32} {c : qUc} (h : gGuard b n k t = (k', some c)) : ∃ s, c = (some t, s) ∧ b (nx b n k) = 63 ∧ gSum b n (gAtom b n 6) (nx b n k + 1) = (k', some s) := by
  unfold gGuard at h
  by_cases q : b (nx b n k) = 63
  · rw [if_pos q] at h
    obtain ⟨k1, s, e1, e2⟩ := qBd_some h
    simp only [Prod.mk.injEq, Option.some.injEq] at e2
    exact ⟨s, e2.2.symm, q, by rw [e1, e2.1]⟩
  · rw [if_neg q] at h; simp at h
theorem gGuard_W (h : qTb b n) (t : List Int32) : gW 1 n (fun c => (cuB c).length - t.length) (fun k => gGuard b n k t) := by
  intro k hk
  have g1 := @nx_ge b n k
  have g2 := nx_le h hk
  refine ⟨fun k' c e => ?_, fun k' e => ?_⟩
  · obtain ⟨s, rfl, q, e1⟩ := gGuard_ok e
    have hl := h.lt (k := nx b n k) (by rw [q]; decide)
    have := (gS_W h 6 _ (by omega)).1 _ _ e1
    show k + 1 ≤ k' ∧ k' ≤ n ∧ k + ((cuB (some t, s)).length - t.length) ≤ k'
    simp only [cuB, List.length_append, List.length_singleton]
    omega
  · change gGuard b n k t = (k', none) at e
    unfold gGuard at e
    by_cases q : b (nx b n k) = 63
    · rw [if_pos q] at e
      have hl := h.lt (k := nx b n k) (by rw [q]; decide)
      rcases qBd_none e with e1 | ⟨k1, s, e1, e2⟩
      · have := (gS_W h 6 _ (by omega)).2 _ e1; omega
      · simp at e2
    · rw [if_neg q] at e; simp only [Prod.mk.injEq, and_true] at e; omega
theorem gGd_W (h : qTb b n) : gL 1 n (gGd b n) := by
  intro k hk
  obtain ⟨a1, a2⟩ := gGuard_W h [] k hk
  refine ⟨fun k' c e => ?_, fun k' e => a2 k' (gGd_no e [])⟩
  obtain ⟨s, rfl, e1⟩ := gGd_ok e
  have := a1 _ _ (e1 [])
  simp only [cuB, List.length_append, List.length_singleton, List.length_nil] at this ⊢
  omega
theorem gBody_W (h : qTb b n) : gW 1 n (fun c => (cuB c).length) (gBody b n) := by
  intro k hk
  have g1 := @nx_ge b n k
  have g2 := nx_le h hk
  have hG : ∀ k1 t k' c, k1 ≤ n → gGuard b n k1 t = (k', some c) → k1 + 1 ≤ k' ∧ k' ≤ n ∧ k1 + (cuB c).length ≤ k' + t.length := fun k1 t k' c h1 e => by
    have := (gGuard_W h t k1 h1).1 _ _ e
    obtain ⟨s, rfl, -, -⟩ := gGuard_ok e
    simp only [cuB, List.length_append, List.length_singleton] at this ⊢
    omega
  refine ⟨fun k' c e => ?_, fun k' e => ?_⟩
  · show k + 1 ≤ k' ∧ k' ≤ n ∧ k + (cuB c).length ≤ k'
    unfold gBody at e
    split at e
    · obtain ⟨k1, t, e1, e2⟩ := qBd_some e
      have a := (gCond_W h (gUnit_W h 6) _ g2).1 _ _ e1
      have := hG _ _ _ _ a.2.1 e2
      omega
    · obtain ⟨k1, s, e1, e2⟩ := qBd_some e
      have a := (gS_W h 6 _ g2).1 _ _ e1
      have n1 := @nx_ge b n k1
      have n2 := nx_le h a.2.1
      split at e2
      · obtain ⟨k3, m, e3, e4⟩ := qBd_some e2
        have a3 := (gMore_W h _ n2).1 _ _ e3
        have := hG _ _ _ _ a3.2.1 e4
        rw [List.length_append] at this
        omega
      · simp only [Prod.mk.injEq, Option.some.injEq] at e2
        rw [← e2.2]
        simp only [cuB, List.nil_append]
        omega
  · unfold gBody at e
    split at e
    · rcases qBd_none e with e1 | ⟨k1, t, e1, e2⟩
      · have := (gCond_W h (gUnit_W h 6) _ g2).2 _ e1; omega
      · have a := (gCond_W h (gUnit_W h 6) _ g2).1 _ _ e1
        have := (gGuard_W h t k1 a.2.1).2 _ e2; omega
    · rcases qBd_none e with e1 | ⟨k1, s, e1, e2⟩
      · have := (gS_W h 6 _ g2).2 _ e1; omega
      · have a := (gS_W h 6 _ g2).1 _ _ e1
        have n1 := @nx_ge b n k1
        have n2 := nx_le h a.2.1
        split at e2
        · rcases qBd_none e2 with e3 | ⟨k3, m, e3, e4⟩
          · have := (gMore_W h _ n2).2 _ e3; omega
          · have a3 := (gMore_W h _ n2).1 _ _ e3
            have := (gGuard_W h (s ++ m) k3 a3.2.1).2 _ e4; omega
        · simp at e2
theorem gCl_W (h : qTb b n) : gW 3 n (fun c => (cuC c).length) (gCl b n) := by
  intro k hk
  have g1 := @nx_ge b n k
  have g2 := nx_le h hk
  have g3 := @nx_ge b n (nx b n k + 1)
  unfold gCl
  by_cases q : b (nx b n k) = 121
  · rw [if_pos q]
    have hl := h.lt (k := nx b n k) (by rw [q]; decide)
    have g4 := nx_le h (k := nx b n k + 1) (by omega)
    by_cases r : b (nx b n (nx b n k + 1)) = 58
    · rw [if_pos r]
      have hl2 := h.lt (k := nx b n (nx b n k + 1)) (by rw [r]; decide)
      obtain ⟨a1, a2⟩ := gBody_W h (nx b n (nx b n k + 1) + 1) (by omega)
      refine ⟨fun k' c e => ?_, fun k' e => ?_⟩
      · have := a1 k' c e
        show k + 3 ≤ k' ∧ k' ≤ n ∧ k + (cuC c).length ≤ k'
        rw [cuC_B, List.length_append, List.length_singleton]
        have : nx b n (nx b n k + 1) + 1 + (cuB c).length ≤ k' := this.2.2
        omega
      · have := a2 k' e; omega
    · rw [if_neg r]
      refine ⟨fun k' c e => ?_, fun k' e => ?_⟩
      · simp at e
      · simp only [Prod.mk.injEq, and_true] at e; omega
  · rw [if_neg q]
    refine ⟨fun k' c e => ?_, fun k' e => ?_⟩
    · simp at e
    · simp only [Prod.mk.injEq, and_true] at e; omega
theorem gClC_W (h : qTb b n) : gL 3 n (gClC b n) := by
  intro k hk
  obtain ⟨a1, a2⟩ := gCl_W h k hk
  refine ⟨fun k' c e => ?_, fun k' e => a2 k' (qMp_none e)⟩
  obtain ⟨a, e1, rfl⟩ := qMp_some e
  exact a1 k' a e1
/-! what it is worth -/
def suOk (d : Nat) (c : List Int32) : Prop := ∃ v d', d' ≤ d ∧ qSu c v d'
def trOk (d : Nat) (c : List Int32) : Prop := ∃ v d', d' ≤ d ∧ qTr c v d'
def gAll (P : List Int32 → Prop) (g : qPr) : Prop := ∀ k k' c, g k = (k', some c) → P c
theorem gSq_all {g h : qPr} {P A B : List Int32 → Prop} (hg : gAll A g) (hh : gAll B h) (hp : ∀ a c, A a → B c → P (a ++ c)) : gAll P (gSq g h) := by
  intro k k' c e
  obtain ⟨k1, c1, e1, e2⟩ := qBd_some e
  obtain ⟨k2, c2, e3, e4⟩ := qBd_some e2
  simp only [Prod.mk.injEq, Option.some.injEq] at e4
  rw [← e4.2]
  exact hp _ _ (hg _ _ _ e1) (hh _ _ _ e3)
/-- a loop goes on with what is ahead of it -/
theorem gLp_all {c : Int32 → Bool} {el : qPr} {P A : List Int32 → Prop} (he : gAll A el) (hp : ∀ x a e, c x = true → P a → A e → P (a ++ e ++ [-x])) : ∀ f, gAll (fun l => ∀ a, P a → P (a ++ l)) (gLp b n c el f) := by
  intro f
  induction f with
  | zero =>
    intro k k' l e a ha
    simp only [gLp, Prod.mk.injEq, Option.some.injEq] at e
    rw [← e.2, List.append_nil]; exact ha
  | succ f ih =>
    intro k k' l e a ha
    rw [gLp] at e
    by_cases q : c (b (nx b n k)) = true
    · rw [if_pos q] at e
      obtain ⟨k1, c1, e1, e2⟩ := qBd_some e
      obtain ⟨k2, c2, e3, e4⟩ := qBd_some e2
      simp only [Prod.mk.injEq, Option.some.injEq] at e4
      rw [← e4.2, ← List.append_assoc, ← List.append_assoc]
      exact ih _ _ _ e3 _ (hp _ _ _ q ha (he _ _ _ e1))
    · rw [if_neg q] at e
      simp only [Prod.mk.injEq, Option.some.injEq] at e
      rw [← e.2, List.append_nil]; exact ha
theorem suOk_bin {d : Nat} {x : Int32} {a e : List Int32} (hx : x = 43 ∨ x = 45 ∨ x = 42 ∨ x = 47) (ha : suOk (d + 1) a) (he : suOk d e) : suOk (d + 1) (a ++ e ++ [-x]) := by
  obtain ⟨va, da, h1, h2⟩ := ha
  obtain ⟨ve, de, h3, h4⟩ := he
  exact ⟨_, _, by omega, qSu_bin hx h2 h4⟩
theorem suOk_mono {d d' : Nat} {c : List Int32} (h : d ≤ d') (q : suOk d c) : suOk d' c := by
  obtain ⟨v, e, h1, h2⟩ := q
  exact ⟨v, e, by omega, h2⟩
theorem trOk_mono {d d' : Nat} {c : List Int32} (h : d ≤ d') (q : trOk d c) : trOk d' c := by
  obtain ⟨v, e, h1, h2⟩ := q
  exact ⟨v, e, by omega, h2⟩
theorem gAll_mono {P P' : List Int32 → Prop} {g : qPr} (h : gAll P g) (hp : ∀ c, P c → P' c) : gAll P' g := fun k k' c e => hp c (h k k' c e)
theorem gTerm_su {d : Nat} {a : qPr} (h : gAll (suOk d) a) : gAll (suOk (d + 1)) (gTerm b n a) :=
  gSq_all h (gLp_all (P := suOk (d + 1)) h (fun x a e hx ha he => suOk_bin (by have := of_decide_eq_true hx; rcases this with q | q <;> simp [q]) ha he) 160) (fun a c ha hc => hc a (suOk_mono (by omega) ha))
theorem gSum_su {d : Nat} {a : qPr} (h : gAll (suOk d) a) : gAll (suOk (d + 2)) (gSum b n a) :=
  gSq_all (gTerm_su h) (gLp_all (P := suOk (d + 2)) (gTerm_su h) (fun x a e hx ha he => suOk_bin (by have := of_decide_eq_true hx; rcases this with q | q <;> simp [q]) ha he) 160) (fun a c ha hc => hc a (suOk_mono (by omega) ha))
theorem gTail_su {P : List Int32 → Prop} {x : Int32} {g : qPr} (h : gAll P g) {k0 k' : Nat} {c : List Int32} (e : gTail b n x (g k0) = (k', some c)) : P c := by
  unfold gTail at e
  obtain ⟨k1, c1, e1, e2⟩ := qBd_some e
  split at e2
  · simp only [Prod.mk.injEq, Option.some.injEq] at e2
    rw [← e2.2]; exact h _ _ _ e1
  · simp at e2
theorem gNmb_su : gAll (suOk 1) (gNmb b n) := by
  intro k k' c e
  obtain ⟨k1, v, e1, e2⟩ := qBd_some e
  simp only [Prod.mk.injEq, Option.some.injEq] at e2
  rw [← e2.2]
  have h : ¬ v < 0 ∧ ¬ 9999 < v := by
    unfold gNum at e1
    split at e1
    · obtain ⟨k2, a, e3, e4⟩ := qBd_some e1
      split at e4
      · simp at e4
      · next q => simp only [Prod.mk.injEq, Option.some.injEq] at e4; rw [← e4.2]; exact ⟨fun w => q (Or.inl w), fun w => q (Or.inr w)⟩
    · simp at e1
  exact ⟨_, _, Nat.le_refl _, qSu_num (Int32.not_lt.mp h.1) (Int32.not_lt.mp h.2)⟩
theorem gAtom_su : ∀ e, gAll (suOk (2 * e + 1)) (gAtom b n e) := by
  have hl : ∀ k k' c d, qltr (b (nx b n k)) → ((nx b n k + 1, some [-(b (nx b n k))]) : qRs (List Int32)) = (k', some c) → 1 ≤ d → suOk d c := fun k k' c d q e hd => by
    simp only [Prod.mk.injEq, Option.some.injEq] at e
    rw [← e.2]
    exact ⟨_, _, hd, qSu_let q⟩
  intro e
  induction e with
  | zero =>
    intro k k' c h
    rw [gAtom] at h
    split at h
    · exact gNmb_su _ _ _ h
    · split at h
      · next q => exact hl _ _ _ _ q h (by omega)
      · simp at h
  | succ e ih =>
    intro k k' c h
    rw [gAtom] at h
    split at h
    · exact suOk_mono (by omega) (gNmb_su _ _ _ h)
    · split at h
      · next q => exact hl _ _ _ _ q h (by omega)
      · split at h
        · exact suOk_mono (by omega) (gTail_su (gSum_su ih) h)
        · simp at h
theorem gS_su (e : Nat) : gAll (suOk (2 * e + 3)) (gSum b n (gAtom b n e)) := gSum_su (gAtom_su e)
theorem gCmp_su (e : Nat) : gAll (fun l => ∀ a, suOk (2 * e + 3) a → trOk (2 * e + 4) (a ++ l)) (gCmp b n e) := by
  intro k k' c h a ha
  unfold gCmp at h
  by_cases q : cCmp (b (nx b n k)) = true
  · rw [if_pos q] at h
    obtain ⟨k1, c1, e1, e2⟩ := qBd_some h
    simp only [Prod.mk.injEq, Option.some.injEq] at e2
    rw [← e2.2, ← List.append_assoc]
    obtain ⟨va, da, h1, h2⟩ := ha
    obtain ⟨vc, dc, h3, h4⟩ := gS_su e _ _ _ e1
    exact ⟨_, _, by omega, qTr_cmp (of_decide_eq_true q) h2 h4⟩
  · rw [if_neg q] at h; simp at h
theorem gSC_su (e : Nat) : gAll (trOk (2 * e + 4)) (gSC b n e) := gSq_all (gS_su e) (gCmp_su e) (fun a c ha hc => hc a ha)
theorem lpA_su {d : Nat} {u : qPr} (h : gAll (trOk d) u) : gAll (fun l => ∀ a, trOk (d + 1) a → trOk (d + 1) (a ++ l)) (gLp b n cAnd u 160) :=
  gLp_all h (fun x a e hx ha he => by
    rw [of_decide_eq_true hx]
    obtain ⟨va, da, h1, h2⟩ := ha
    obtain ⟨ve, de, h3, h4⟩ := he
    exact ⟨_, _, by omega, qTr_and h2 h4⟩) 160
theorem lpO_su {d : Nat} {u : qPr} (h : gAll (trOk d) u) : gAll (fun l => ∀ a, trOk (d + 1) a → trOk (d + 1) (a ++ l)) (gLp b n cOr u 160) :=
  gLp_all h (fun x a e hx ha he => by
    rw [of_decide_eq_true hx]
    obtain ⟨va, da, h1, h2⟩ := ha
    obtain ⟨ve, de, h3, h4⟩ := he
    exact ⟨_, _, by omega, qTr_or h2 h4⟩) 160
theorem gTruth_su {d : Nat} {u : qPr} (h : gAll (trOk d) u) : gAll (trOk (d + 1)) (gTruth b n u) := gSq_all h (lpA_su h) (fun a c ha hc => hc a (trOk_mono (by omega) ha))
theorem gCond_su {d : Nat} {u : qPr} (h : gAll (trOk d) u) : gAll (trOk (d + 2)) (gCond b n u) := gSq_all (gTruth_su h) (lpO_su (gTruth_su h)) (fun a c ha hc => hc a (trOk_mono (by omega) ha))
theorem gUnit_su : ∀ e, gAll (trOk (2 * e + 4)) (gUnit b n e) := by
  intro e
  induction e with
  | zero =>
    intro k k' c h
    rw [gUnit] at h
    split at h
    · simp at h
    · exact gSC_su 0 _ _ _ h
  | succ e ih =>
    intro k k' c h
    rw [gUnit] at h
    split at h
    · obtain ⟨k1, c1, e1, e2⟩ := qBd_some h
      simp only [Prod.mk.injEq, Option.some.injEq] at e2
      rw [← e2.2]
      obtain ⟨v, d, h1, h2⟩ := ih _ _ _ e1
      exact ⟨_, _, by omega, qTr_not h2⟩
    · split at h
      · exact trOk_mono (by omega) (gTail_su (gCond_su ih) h)
      · exact gSC_su (e + 1) _ _ _ h
theorem gMore_su : gAll (fun l => ∀ a, suOk 15 a → trOk 18 (a ++ l)) (gMore b n) := by
  have h1 := lpA_su (b := b) (n := n) (gUnit_su (b := b) (n := n) 6)
  have h2 := lpO_su (b := b) (n := n) (gTruth_su (b := b) (n := n) (gUnit_su (b := b) (n := n) 6))
  refine gSq_all (gCmp_su 6) (gSq_all (P := fun l => ∀ a, trOk 17 a → trOk 18 (a ++ l)) h1 h2 (fun a c ha hc x hx => ?_)) (fun a c ha hc x hx => ?_)
  · rw [← List.append_assoc]; exact hc _ (trOk_mono (by omega) (ha x hx))
  · rw [← List.append_assoc]; exact hc _ (trOk_mono (by omega) (ha x hx))
/-- a clause with its worth -/
def cuX (x : qCls) : qUc := (x.1.map (fun t => t.1), x.2.1)
theorem gGuard_su {k k' : Nat} {t : List Int32} {c : qUc} (ht : trOk 18 t) (h : gGuard b n k t = (k', some c)) : ∃ x, cuX x = c ∧ qClsOk x := by
  obtain ⟨s, rfl, -, e⟩ := gGuard_ok h
  obtain ⟨vt, dt, h1, h2⟩ := ht
  obtain ⟨vs, ds, h3, h4⟩ := gS_su 6 _ _ _ e
  refine ⟨(some (t, vt), (s, vs)), rfl, fun u hu => ?_, ds, by omega, h4⟩
  cases hu
  exact ⟨dt, by omega, h2⟩
theorem gBody_su {k k' : Nat} {c : qUc} (h : gBody b n k = (k', some c)) : ∃ x, cuX x = c ∧ qClsOk x := by
  unfold gBody at h
  split at h
  · obtain ⟨k1, t, e1, e2⟩ := qBd_some h
    exact gGuard_su (gCond_su (gUnit_su 6) _ _ _ e1) e2
  · obtain ⟨k1, s, e1, e2⟩ := qBd_some h
    have hs := gS_su 6 _ _ _ e1
    split at e2
    · obtain ⟨k3, m, e3, e4⟩ := qBd_some e2
      exact gGuard_su (gMore_su _ _ _ e3 _ hs) e4
    · simp only [Prod.mk.injEq, Option.some.injEq] at e2
      obtain ⟨vs, ds, h3, h4⟩ := hs
      exact ⟨(none, (s, vs)), e2.2, ⟨fun u hu => (by cases hu), ds, by omega, h4⟩⟩
theorem gCl_su {k k' : Nat} {c : qUc} (h : gCl b n k = (k', some c)) : ∃ x, cuX x = c ∧ qClsOk x := by
  unfold gCl at h
  split at h
  · split at h
    · exact gBody_su h
    · simp at h
  · simp at h
theorem gCls_su : ∀ f k k' cs, gCls b n f k = (k', some cs) → ∃ xs : List qCls, xs.map cuX = cs ∧ ∀ x, x ∈ xs → qClsOk x := by
  intro f
  induction f with
  | zero =>
    intro k k' cs h
    simp only [gCls, Prod.mk.injEq, Option.some.injEq] at h
    exact ⟨[], h.2, fun x hx => by cases hx⟩
  | succ f ih =>
    intro k k' cs h
    rw [gCls] at h
    split at h
    · obtain ⟨k1, c, e1, e2⟩ := qBd_some h
      obtain ⟨k2, r, e3, e4⟩ := qBd_some e2
      simp only [Prod.mk.injEq, Option.some.injEq] at e4
      obtain ⟨x, x1, x2⟩ := gCl_su e1
      obtain ⟨xs, y1, y2⟩ := ih _ _ _ e3
      refine ⟨x :: xs, by rw [List.map_cons, x1, y1]; exact e4.2, fun z hz => ?_⟩
      rcases List.mem_cons.mp hz with rfl | hz
      · exact x2
      · exact y2 z hz
    · simp only [Prod.mk.injEq, Option.some.injEq] at h
      exact ⟨[], h.2, fun x hx => by cases hx⟩
theorem gLaw_su {k' : Nat} {cs : List qUc} (h : gLaw b n = (k', some cs)) : ∃ xs : List qCls, xs.map cuX = cs ∧ ∀ x, x ∈ xs → qClsOk x := by
  unfold gLaw at h
  obtain ⟨k1, c, e1, e2⟩ := qBd_some h
  obtain ⟨k2, r, e3, e4⟩ := qBd_some e2
  split at e4
  · simp only [Prod.mk.injEq, Option.some.injEq] at e4
    obtain ⟨x, x1, x2⟩ := gCl_su e1
    obtain ⟨xs, y1, y2⟩ := gCls_su _ _ _ _ e3
    refine ⟨x :: xs, by rw [List.map_cons, x1, y1]; exact e4.2, fun z hz => ?_⟩
    rcases List.mem_cons.mp hz with rfl | hz
    · exact x2
    · exact y2 z hz
  · simp at e4
theorem qCode_cu : ∀ xs : List qCls, qCode xs = cuCs (xs.map cuX) := by
  intro xs
  induction xs with
  | nil => rfl
  | cons x xs ih =>
    rw [qCode, List.map_cons, cuCs, ih]
    congr 1
    obtain ⟨t, s⟩ := x
    cases t with
    | none => rfl
    | some t => rfl
end L36u
