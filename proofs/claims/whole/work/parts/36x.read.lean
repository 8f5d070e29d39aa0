/-! the reference reads: what is said -/
def rTp (b : Nat → Int32) (n : Nat) (I : Nat → Nat → Int32) : Prop := I 73 2 = nI n ∧ n ≤ 160 ∧ (∀ j, j < n → I 74 j = b j) ∧ qTb b n
def rTt (b : Nat → Int32) (n : Nat) (I : Nat → Nat → Int32) (k : Nat) : Prop := rTp b n I ∧ I 73 3 = nI k ∧ k ≤ n
def hV (b : Nat → Int32) (I : Nat → Nat → Int32) : Int32 := b (I 73 3).toNatClampNeg
/-- text t: at k, c signs put down, e brackets open -/
def rS (b : Nat → Int32) (n t : Nat) (I : Nat → Nat → Int32) (k c e : Nat) : Prop := rTp b n I ∧ I 73 3 = nI k ∧ k ≤ n ∧ I 73 4 = -1 ∧ I 73 5 = nI e ∧ e ≤ 6 ∧ I 73 14 = nI t ∧ t < 5 ∧ I 77 t = nI c ∧ c ≤ 200
def rFr (t c j i : Nat) : Prop := (j = 73 ∧ (i = 3 ∨ i = 4 ∨ i = 5)) ∨ ((j = 75 ∨ j = 76) ∧ 340 * t + c ≤ i ∧ i < 340 * t + 340) ∨ (j = 77 ∧ i = t)
def rO (b : Nat → Int32) (n t : Nat) (I : Nat → Nat → Int32) (c e k : Nat) (cs : List Int32) (J : Nat → Nat → Int32) : Prop := qFr (rFr t c) I J ∧ rS b n t J k (c + cs.length) e ∧ qHaz (J 75) (J 76) (340 * t + c) cs
def rF (t : Nat) (I : Nat → Nat → Int32) (k c kf : Nat) (J : Nat → Nat → Int32) : Prop := qFr (rFr t c) I J ∧ J 73 4 = nI kf ∧ kf ≤ 160 ∧ ∃ c', J 77 t = nI c' ∧ c ≤ c' ∧ c' + k ≤ c + kf
def rIn (b : Nat → Int32) (n t dp : Nat) (I : Nat → Nat → Int32) : Prop := ∃ k c, rS b n t I k c dp ∧ c ≤ k
def rOk (b : Nat → Int32) (n t : Nat) (g : qPr) (I J : Nat → Nat → Int32) : Prop := ∃ k c e k' cs, rS b n t I k c e ∧ g k = (k', some cs) ∧ rO b n t I c e k' cs J
def rNo (b : Nat → Int32) (n t : Nat) (g : qPr) (I J : Nat → Nat → Int32) : Prop := ∃ k c e k', rS b n t I k c e ∧ g k = (k', none) ∧ rF t I k c k' J
def rPk (b : Nat → Int32) (n t : Nat) (I : Nat → Nat → Int32) : Prop := ∃ k c e, rS b n t I k c e ∧ c < 200
def rPf (_b : Nat → Int32) (_n t : Nat) (I : Nat → Nat → Int32) : Prop := ∃ c', I 77 t = nI c' ∧ c' < 340 ∧ I 73 14 = nI t ∧ t < 5
def rPu (t : Nat) (I : Nat → Nat → Int32) (a v : Int32) (J : Nat → Nat → Int32) : Prop := ∃ c, I 77 t = nI c ∧ c < 340 ∧ J = va_up (va_up (va_up I 75 (upd (I 75) (340 * t + c) a)) 76 (upd (I 76) (340 * t + c) v)) 77 (upd (I 77) t (nI (c + 1)))
def rBd (b : Nat → Int32) (n t : Nat) (I J : Nat → Nat → Int32) : Prop := ∃ k c e, rS b n t I k c e ∧ J = va_up I 73 (upd (I 73) 4 (nI k))
def rPo (b : Nat → Int32) (n t : Nat) (I : Nat → Nat → Int32) : Prop := ∃ k c e, rS b n t I k c e ∧ k < n
def rOp (b : Nat → Int32) (n t : Nat) (I J : Nat → Nat → Int32) : Prop := ∃ k c e, rS b n t I k c e ∧ e < 6 ∧ qFr (rFr t c) I J ∧ rS b n t J (k + 1) c (e + 1)
def rOf (b : Nat → Int32) (n t : Nat) (I J : Nat → Nat → Int32) : Prop := ∃ k c, rS b n t I k c 6 ∧ rF t I k c k J
def rPc (b : Nat → Int32) (n t : Nat) (I : Nat → Nat → Int32) (a : Int32) : Prop := (∃ k c e, rS b n t I k c (e + 1)) ∧ ¬ a = -1
def rC1 (b : Nat → Int32) (n t : Nat) (I : Nat → Nat → Int32) (a : Int32) (J : Nat → Nat → Int32) : Prop := ∃ k c e, rS b n t I k c (e + 1) ∧ b (nx b n k) = a ∧ qFr (rFr t c) I J ∧ rS b n t J (nx b n k + 1) c e
def rC2 (b : Nat → Int32) (n t : Nat) (I : Nat → Nat → Int32) (a : Int32) (J : Nat → Nat → Int32) : Prop := ∃ k c e, rS b n t I k c (e + 1) ∧ ¬ b (nx b n k) = a ∧ rF t I k c (nx b n k) J
def rC3 (I J : Nat → Nat → Int32) : Prop := qFr (fun j i => j = 73 ∧ (i = 3 ∨ i = 5)) I J
def rV (b : Nat → Int32) (n : Nat) (I : Nat → Nat → Int32) : Int32 := b (nx b n (I 73 3).toNatClampNeg)
def rNm (b : Nat → Int32) (n t : Nat) (I : Nat → Nat → Int32) (x : Int32) (J : Nat → Nat → Int32) : Prop := ∃ k c e k', rS b n t I k c e ∧ gNum b n 4 0 9999 k = (k', some x) ∧ rO b n t I c e k' [] J
def rNn (b : Nat → Int32) (n t : Nat) (I J : Nat → Nat → Int32) : Prop := ∃ k c e k', rS b n t I k c e ∧ gNum b n 4 0 9999 k = (k', none) ∧ rF t I k' c k' J
abbrev RSp (d y : Nat) (K : qK) (L : Nat → Nat → Int64) (R : Nat → Nat → Option Nat) (sz : Nat) (b : Nat → Int32) (n t dp : Nat) (g : qPr) : Prop := ∀ (I : Nat → Nat → Int32) (Q : Option Value → qMem → Prop), rIn b n t dp I → (∀ J, rOk b n t g I J → J 73 4 = -1 → Q none (K, J, L, R, sz)) → (∀ J, rNo b n t g I J → ¬ J 73 4 = -1 → Q none (K, J, L, R, sz)) → X d 0 0 y 0 0 0 (qent (qml y) [.ref 73]) [] (K, I, L, R, sz) Q
theorem RSp_c {d e y : Nat} {K : qK} {L : Nat → Nat → Int64} {R : Nat → Nat → Option Nat} {sz : Nat} {b : Nat → Int32} {n t dp : Nat} {g : qPr} (h : d = e) (q : RSp d y K L R sz b n t dp g) : RSp e y K L R sz b n t dp g := by subst h; exact q
section L36y
variable {b : Nat → Int32} {n t k c e : Nat} {I J M : Nat → Nat → Int32}
theorem rS.n160 (S : rS b n t I k c e) : n ≤ 160 := S.1.2.1
theorem rS.kn (S : rS b n t I k c e) : k ≤ n := S.2.2.1
theorem rS.tb (S : rS b n t I k c e) : qTb b n := S.1.2.2.2
theorem rS.w (S : rS b n t I k c e) : I 73 4 = -1 := S.2.2.2.1
theorem rS.e6 (S : rS b n t I k c e) : e ≤ 6 := S.2.2.2.2.2.1
theorem rS.t5 (S : rS b n t I k c e) : t < 5 := S.2.2.2.2.2.2.2.1
theorem rS.c200 (S : rS b n t I k c e) : c ≤ 200 := S.2.2.2.2.2.2.2.2.2
theorem rS.rt (S : rS b n t I k c e) : rTt b n I k := ⟨S.1, S.2.1, S.2.2.1⟩
theorem rS.p (S : rS b n t I k c e) : ∃ k c e, rS b n t I k c e := ⟨k, c, e, S⟩
theorem rS.uq {k' c' e' : Nat} (S : rS b n t I k c e) (h : rS b n t I k' c' e') : k' = k ∧ c' = c ∧ e' = e := by
  have h1 := S.n160
  have h2 := S.kn
  have h3 := h.kn
  have h4 := S.c200
  have h5 := h.c200
  have h6 := S.e6
  have h7 := h.e6
  exact ⟨nI_h (by omega) (by omega) (by rw [← S.2.1, ← h.2.1]), nI_h (by omega) (by omega) (by rw [← S.2.2.2.2.2.2.2.2.1, ← h.2.2.2.2.2.2.2.2.1]), nI_h (by omega) (by omega) (by rw [← S.2.2.2.2.1, ← h.2.2.2.2.1])⟩
theorem rOk.at {g : qPr} (S : rS b n t I k c e) (h : rOk b n t g I J) : ∃ k' cs, g k = (k', some cs) ∧ rO b n t I c e k' cs J := by
  obtain ⟨k0, c0, e0, k', cs, h1, h2, h3⟩ := h
  obtain ⟨rfl, rfl, rfl⟩ := S.uq h1
  exact ⟨k', cs, h2, h3⟩
theorem rNo.at {g : qPr} (S : rS b n t I k c e) (h : rNo b n t g I J) : ∃ k', g k = (k', none) ∧ rF t I k c k' J := by
  obtain ⟨k0, c0, e0, k', h1, h2, h3⟩ := h
  obtain ⟨rfl, rfl, rfl⟩ := S.uq h1
  exact ⟨k', h2, h3⟩
theorem rNm.at {x : Int32} (S : rS b n t I k c e) (h : rNm b n t I x J) : ∃ k', gNum b n 4 0 9999 k = (k', some x) ∧ rO b n t I c e k' [] J := by
  obtain ⟨k0, c0, e0, k', h1, h2, h3⟩ := h
  obtain ⟨rfl, rfl, rfl⟩ := S.uq h1
  exact ⟨k', h2, h3⟩
theorem rNn.at (S : rS b n t I k c e) (h : rNn b n t I J) : ∃ k', gNum b n 4 0 9999 k = (k', none) ∧ rF t I k' c k' J := by
  obtain ⟨k0, c0, e0, k', h1, h2, h3⟩ := h
  obtain ⟨rfl, rfl, rfl⟩ := S.uq h1
  exact ⟨k', h2, h3⟩
theorem rOp.at (S : rS b n t I k c e) (h : rOp b n t I J) : e < 6 ∧ qFr (rFr t c) I J ∧ rS b n t J (k + 1) c (e + 1) := by
  obtain ⟨k0, c0, e0, h1, h2⟩ := h
  obtain ⟨rfl, rfl, rfl⟩ := S.uq h1
  exact h2
theorem rOf.at (S : rS b n t I k c e) (h : rOf b n t I J) : e = 6 ∧ rF t I k c k J := by
  obtain ⟨k0, c0, h1, h2⟩ := h
  obtain ⟨rfl, rfl, rfl⟩ := S.uq h1
  exact ⟨rfl, h2⟩
theorem rBd.at (S : rS b n t I k c e) (h : rBd b n t I J) : rF t I k c k J := by
  obtain ⟨k0, c0, e0, h1, rfl⟩ := h
  obtain ⟨rfl, rfl, rfl⟩ := S.uq h1
  refine ⟨qFr.up1 (Or.inl ⟨rfl, by omega⟩), by rw [vu_s]; unfold upd; rw [if_pos rfl], by have := S.n160; have := S.kn; omega, c0, ?_, Nat.le_refl _, by omega⟩
  rw [vu_n (by decide)]; exact S.2.2.2.2.2.2.2.2.1
theorem rC1.at {a : Int32} (S : rS b n t I k c (e + 1)) (h : rC1 b n t I a J) : b (nx b n k) = a ∧ qFr (rFr t c) I J ∧ rS b n t J (nx b n k + 1) c e := by
  obtain ⟨k0, c0, e0, h1, h2⟩ := h
  obtain ⟨rfl, rfl, he⟩ := S.uq h1
  have : e0 = e := by omega
  subst this
  exact h2
theorem rC2.at {a : Int32} (S : rS b n t I k c (e + 1)) (h : rC2 b n t I a J) : ¬ b (nx b n k) = a ∧ rF t I k c (nx b n k) J := by
  obtain ⟨k0, c0, e0, h1, h2⟩ := h
  obtain ⟨rfl, rfl, he⟩ := S.uq h1
  exact h2
theorem rV_at (S : rS b n t I k c e) : rV b n I = b (nx b n k) := by
  have h1 := S.n160
  have h2 := S.kn
  unfold rV
  rw [S.2.1, nI_c (by omega)]
theorem rFr_mono {c c' : Nat} (h : c ≤ c') : ∀ j i, rFr t c' j i → rFr t c j i := fun j i q => by unfold rFr at q ⊢; omega
theorem rO.st {cs : List Int32} {k' : Nat} (h : rO b n t I c e k' cs J) : rS b n t J k' (c + cs.length) e := h.2.1
theorem rO.st0 {k' : Nat} (h : rO b n t I c e k' [] J) : rS b n t J k' c e := h.2.1
theorem qHaz_mk {f g : Nat → Int32} {p : Nat} {l m : List Int32} (h1 : qHaz f g p l) (h2 : qHaz f g (p + l.length) m) : qHaz f g p (l ++ m) := by
  intro j x e
  by_cases c : j < l.length
  · rw [List.getElem?_append_left c] at e; exact h1 j x e
  · rw [List.getElem?_append_right (by omega)] at e
    have := h2 _ _ e
    rw [show p + l.length + (j - l.length) = p + j by omega] at this; exact this
theorem rO.tr {k1 k2 : Nat} {c1 c2 : List Int32} (h : rO b n t I c e k1 c1 J) (g : rO b n t J (c + c1.length) e k2 c2 M) : rO b n t I c e k2 (c1 ++ c2) M := by
  obtain ⟨h1, h2, h3⟩ := h
  obtain ⟨g1, g2, g3⟩ := g
  refine ⟨h1.trans (g1.mono (rFr_mono (by omega))), by rw [List.length_append, ← Nat.add_assoc]; exact g2, qHaz_mk (fun j x q => ?_) (by rw [Nat.add_assoc]; exact g3)⟩
  have := (List.getElem?_eq_some_iff.mp q).1
  rw [g1 75 _ (by unfold rFr; omega), g1 76 _ (by unfold rFr; omega)]
  exact h3 j x q
theorem rO.tr0 {k1 k2 : Nat} {c2 : List Int32} (h : rO b n t I c e k1 [] J) (g : rO b n t J c e k2 c2 M) : rO b n t I c e k2 c2 M := h.tr g
theorem rO.t0 {k1 k2 : Nat} {c1 : List Int32} (h : rO b n t I c e k1 c1 J) (g : rO b n t J (c + c1.length) e k2 [] M) : rO b n t I c e k2 c1 M := by
  have := h.tr g
  rw [List.append_nil] at this; exact this
theorem rF.fr {k1 c1 kf : Nat} (h : rF t J k1 c1 kf M) (f : qFr (rFr t c) I J) (h1 : c ≤ c1) (h2 : c1 + k ≤ c + k1) : rF t I k c kf M := by
  obtain ⟨g1, g2, g3, c', g4, g5, g6⟩ := h
  exact ⟨f.trans (g1.mono (rFr_mono h1)), g2, g3, c', g4, by omega, by omega⟩
theorem rO.trF {k1 kf : Nat} {c1 : List Int32} (h : rO b n t I c e k1 c1 J) (g : rF t J k1 (c + c1.length) kf M) (hl : k + c1.length ≤ k1) : rF t I k c kf M := g.fr h.1 (by omega) (by omega)
theorem rNx (S : rS b n t I k c e) (h : rOk b n t (gNx b n) I J) : rO b n t I c e (nx b n k) [] J := by
  obtain ⟨k', cs, h1, h2⟩ := h.at S
  simp only [gNx, Prod.mk.injEq, Option.some.injEq] at h1
  rw [← h1.1, ← h1.2] at h2; exact h2
theorem rS.up3 (S : rS b n t I k c e) {k' : Nat} (hk : k' ≤ n) : rO b n t I c e k' [] (va_up I 73 (upd (I 73) 3 (nI k'))) := by
  obtain ⟨⟨a1, a2, a3, a4⟩, h1, h2, h3, h4, h5, h6, h7, h8, h9⟩ := S
  refine ⟨qFr.up1 (Or.inl ⟨rfl, by omega⟩), ⟨⟨?_, a2, fun j hj => ?_, a4⟩, ?_, hk, ?_, ?_, h5, ?_, h7, ?_, h9⟩, fun j x q => by simp at q⟩
  · rw [vu_s]; unfold upd; rw [if_neg (by decide)]; exact a1
  · rw [vu_n (by decide)]; exact a3 j hj
  · rw [vu_s]; unfold upd; rw [if_pos rfl]
  · rw [vu_s]; unfold upd; rw [if_neg (by decide)]; exact h3
  · rw [vu_s]; unfold upd; rw [if_neg (by decide)]; exact h4
  · rw [vu_s]; unfold upd; rw [if_neg (by decide)]; exact h6
  · rw [vu_n (by decide)]; exact h8
theorem rS.inc (S : rS b n t I k c e) (hk : k < n) (h : J = va_up I 73 (upd (I 73) 3 ((I 73 3) + 1))) : rO b n t I c e (k + 1) [] J := by
  have := S.up3 (k' := k + 1) (by omega)
  rw [h, S.2.1, nI_1]; exact this
theorem rS.up5 (S : rS b n t I k c e) {e' : Nat} (he : e' ≤ 6) : qFr (rFr t c) I (va_up I 73 (upd (I 73) 5 (nI e'))) ∧ rS b n t (va_up I 73 (upd (I 73) 5 (nI e'))) k c e' := by
  obtain ⟨⟨a1, a2, a3, a4⟩, h1, h2, h3, h4, h5, h6, h7, h8, h9⟩ := S
  refine ⟨qFr.up1 (Or.inl ⟨rfl, by omega⟩), ⟨⟨?_, a2, fun j hj => ?_, a4⟩, ?_, h2, ?_, ?_, he, ?_, h7, ?_, h9⟩⟩
  · rw [vu_s]; unfold upd; rw [if_neg (by decide)]; exact a1
  · rw [vu_n (by decide)]; exact a3 j hj
  · rw [vu_s]; unfold upd; rw [if_neg (by decide)]; exact h1
  · rw [vu_s]; unfold upd; rw [if_neg (by decide)]; exact h3
  · rw [vu_s]; unfold upd; rw [if_pos rfl]
  · rw [vu_s]; unfold upd; rw [if_neg (by decide)]; exact h6
  · rw [vu_n (by decide)]; exact h8
theorem rS.refl (S : rS b n t I k c e) : rO b n t I c e k [] I := ⟨qFr.refl, S, fun j x q => by simp at q⟩
theorem rPu_fr {c' : Nat} {a v : Int32} (h7 : I 77 t = nI c') (hc : c ≤ c') (hp : rPu t I a v J) (h3 : c' < 340) : qFr (rFr t c) I J ∧ J 77 t = nI (c' + 1) := by
  obtain ⟨c0, h1, h0, rfl⟩ := hp
  have e0 : c0 = c' := nI_h (by omega) (by omega) (by rw [← h1, ← h7])
  subst e0
  refine ⟨fun j i hn => ?_, by rw [vu_s]; unfold upd; rw [if_pos rfl]⟩
  by_cases c1 : j = 77
  · subst c1
    rw [vu_s]; unfold upd
    rw [if_neg (fun q => hn (Or.inr (Or.inr ⟨rfl, q⟩)))]
  · rw [vu_n c1]
    by_cases c2 : j = 76
    · subst c2
      rw [vu_s]; unfold upd
      rw [if_neg (fun q => hn (Or.inr (Or.inl ⟨Or.inr rfl, by omega, by omega⟩)))]
    · rw [vu_n c2]
      by_cases c3 : j = 75
      · subst c3
        rw [vu_s]; unfold upd
        rw [if_neg (fun q => hn (Or.inr (Or.inl ⟨Or.inl rfl, by omega, by omega⟩)))]
      · rw [vu_n c3]
theorem rPu_ok {x : Int32} (S : rS b n t I k c e) (hc : c < 200) (hp : rPu t I (rc x) (rv x) J) : rO b n t I c e k [x] J := by
  obtain ⟨f1, f2⟩ := rPu_fr (c := c) S.2.2.2.2.2.2.2.2.1 (Nat.le_refl _) hp (by omega)
  obtain ⟨⟨a1, a2, a3, a4⟩, h1, h2, h3, h4, h5, h6, h7, h8, h9⟩ := S
  have r73 : ∀ i, J 73 i = I 73 i := fun i => by obtain ⟨c0, _, _, rfl⟩ := hp; rw [vu_n (by decide), vu_n (by decide), vu_n (by decide)]
  have r74 : J 74 = I 74 := by obtain ⟨c0, _, _, rfl⟩ := hp; rw [vu_n (by decide), vu_n (by decide), vu_n (by decide)]
  refine ⟨f1, ⟨⟨by rw [r73]; exact a1, a2, fun j hj => by rw [r74]; exact a3 j hj, a4⟩, by rw [r73]; exact h1, h2, by rw [r73]; exact h3, by rw [r73]; exact h4, h5, by rw [r73]; exact h6, h7, f2, by simp only [List.length_singleton]; omega⟩, fun j y q => ?_⟩
  obtain ⟨c0, g1, g0, rfl⟩ := hp
  have e0 : c0 = c := nI_h (by omega) (by omega) (by rw [← g1, ← h8])
  subst e0
  cases j with
  | succ j => simp at q
  | zero =>
    simp only [List.getElem?_cons_zero, Option.some.injEq] at q
    rw [vu_n (by decide), vu_n (by decide), vu_s, vu_n (by decide), vu_s, ← q]
    unfold upd
    exact ⟨if_pos rfl, if_pos rfl⟩
theorem rF_w {kf : Nat} (h : rF t I k c kf J) : ¬ J 73 4 = -1 := by rw [h.2.1]; exact nI_m1 (by have := h.2.2.1; omega)
theorem rF_pf {kf : Nat} (S : rS b n t I k c e) (h : rF t I k c kf J) (hc : c ≤ k) : rPf b n t J := by
  obtain ⟨g1, g2, g3, c', g4, g5, g6⟩ := h
  exact ⟨c', g4, by omega, by rw [g1 73 14 (by unfold rFr; omega)]; exact S.2.2.2.2.2.2.1, S.t5⟩
/-- a sign is put down behind a fault -/
theorem rF_put {k1 c1 kf : Nat} {a v : Int32} {H : Nat → Nat → Int32} (h : rF t J k1 c1 kf H) (hp : rPu t H a v M) (f : qFr (rFr t c) I J) (h1 : c ≤ c1) (h2 : c1 + k + 1 ≤ c + k1) (h3 : c ≤ k) : rF t I k c kf M := by
  obtain ⟨g1, g2, g3, c', g4, g5, g6⟩ := h
  obtain ⟨f1, f2⟩ := rPu_fr (c := c) g4 (by omega) hp (by omega)
  have r4 : M 73 4 = H 73 4 := by obtain ⟨c0, _, _, rfl⟩ := hp; rw [vu_n (by decide), vu_n (by decide), vu_n (by decide)]
  exact ⟨(f.trans (g1.mono (rFr_mono h1))).trans f1, by rw [r4]; exact g2, g3, c' + 1, f2, by omega, by omega⟩
theorem rF_c3 {kf : Nat} (h : rF t I k c kf J) (g : rC3 J M) : rF t I k c kf M := by
  obtain ⟨g1, g2, g3, c', g4, g5, g6⟩ := h
  exact ⟨g1.trans (g.mono (fun j i q => Or.inl ⟨q.1, by omega⟩)), by rw [g 73 4 (by omega)]; exact g2, g3, c', by rw [g 77 t (by omega)]; exact g4, g5, g6⟩
theorem rOk_sq {g h : qPr} (q1 : rOk b n t g I J) (q2 : rOk b n t h J M) : rOk b n t (gSq g h) I M := by
  obtain ⟨k, c, e, k1, c1, S, e1, o1⟩ := q1
  obtain ⟨k2, c2, e2, o2⟩ := q2.at o1.st
  exact ⟨k, c, e, k2, c1 ++ c2, S, by unfold gSq; rw [qBd_S e1, qBd_S e2], o1.tr o2⟩
theorem rNo_sq1 {g h : qPr} (q1 : rNo b n t g I J) : rNo b n t (gSq g h) I J := by
  obtain ⟨k, c, e, k1, S, e1, o1⟩ := q1
  exact ⟨k, c, e, k1, S, by unfold gSq; rw [qBd_N e1], o1⟩
theorem rNo_sq2 {g h : qPr} (wg : gL 0 n g) (q1 : rOk b n t g I J) (q2 : rNo b n t h J M) : rNo b n t (gSq g h) I M := by
  obtain ⟨k, c, e, k1, c1, S, e1, o1⟩ := q1
  obtain ⟨k2, e2, o2⟩ := q2.at o1.st
  have := (wg k S.kn).1 _ _ e1
  exact ⟨k, c, e, k2, S, by unfold gSq; rw [qBd_S e1, qBd_N e2], o1.trF o2 (by omega)⟩
theorem gL_0 {g : qPr} {w : Nat} (h : gL w n g) : gL 0 n g := fun k hk => ⟨fun k' cs e => by have := (h k hk).1 k' cs e; omega, (h k hk).2⟩
/-- a loop whose sign is looked at ahead -/
theorem rLoop {dp : Nat} {c0 : Int32 → Bool} {el : qPr} {G : Int32 → (Nat → Nat → Int32) → Prop} {ok : (Nat → Nat → Int32) → Prop} (hb : qTb b n) (hc : ∀ x, c0 x = true → ¬ x = -1) (wE : gL 1 n el)
    (hout : ∀ x I, ¬ c0 x = true → ok I → G x I)
    (hin : ∀ x I, c0 x = true → (∀ I3, I3 = va_up I 73 (upd (I 73) 3 ((I 73 3) + 1)) → rIn b n t dp I3 ∧ (∀ I5, rOk b n t el I3 I5 → rPk b n t I5 ∧ ∀ I7, rPu t I5 (rc (-x)) (rv (-x)) I7 → (∃ k c e, rS b n t I7 k c e) ∧ ∀ I9, rOk b n t (gNx b n) I7 I9 → G (rV b n I7) I9) ∧ (∀ I11, rNo b n t el I3 I11 → rPf b n t I11 ∧ ∀ I13, rPu t I11 (rc (-x)) (rv (-x)) I13 → G (-1) I13)) → G x I) :
    ∀ f I k c, n < k + 2 * f → rS b n t I k c dp → nx b n k = k → c ≤ k → (∀ J k' cs, gLp b n c0 el f k = (k', some cs) → rO b n t I c dp k' cs J → ok J) → (∀ J k', gLp b n c0 el f k = (k', none) → rF t I k c k' J → ok J) → G (b k) I := by
  have hm1 : ¬ c0 (-1) = true := fun q => hc _ q rfl
  intro f
  induction f with
  | zero => intro I k c hk S; have := S.kn; omega
  | succ f ih =>
    intro I k c hk S hnx hsk hok hbad
    have h160 := S.n160
    by_cases hx : c0 (b k) = true
    · have hl := hb.lt (hc _ hx)
      refine hin _ _ hx (fun I3 e3 => ?_)
      have o3 := S.inc hl e3
      have S3 := o3.st0
      obtain ⟨w1, w2⟩ := wE (k + 1) (by omega)
      refine ⟨⟨k + 1, c, S3, by omega⟩, fun I5 h5 => ?_, fun I11 h11 => ?_⟩
      · obtain ⟨k2, c2, g5, o5⟩ := h5.at S3
        obtain ⟨a1, a2, a3⟩ := w1 _ _ g5
        refine ⟨⟨k2, _, dp, o5.st, by omega⟩, fun I7 h7 => ?_⟩
        have o7 := rPu_ok o5.st (by omega) h7
        have S7 := o7.st
        refine ⟨S7.p, fun I9 h9 => ?_⟩
        have r7 := (o3.tr0 o5).tr o7
        have r9 := r7.t0 (by rw [List.length_append, ← Nat.add_assoc]; exact rNx S7 h9)
        have hn2 := @nx_ge b n k2
        have hn3 := nx_le hb a2
        rw [rV_at S7]
        refine ih I9 (nx b n k2) (c + (c2 ++ [-(b k)]).length) (by omega) r9.st (nx_nx hb a2) (by rw [List.length_append, List.length_singleton]; omega) (fun J k' cs g q => ?_) (fun J k' g q => ?_)
        · rw [gLp_nx hb a2] at g
          refine hok J k' (c2 ++ [-(b k)] ++ cs) ?_ (r9.tr q)
          rw [gLp, hnx, if_pos hx, qBd_S g5, qBd_S g]
        · rw [gLp_nx hb a2] at g
          refine hbad J k' ?_ (r9.trF q (by rw [List.length_append, List.length_singleton]; omega))
          rw [gLp, hnx, if_pos hx, qBd_S g5, qBd_N g]
      · obtain ⟨k2, g5, o5⟩ := h11.at S3
        refine ⟨rF_pf S3 o5 (by omega), fun I13 h13 => hout _ _ hm1 (hbad _ k2 ?_ (rF_put o5 h13 o3.1 (Nat.le_refl _) (by omega) hsk))⟩
        rw [gLp, hnx, if_pos hx, qBd_N g5]
    · refine hout _ _ hx (hok I k [] ?_ S.refl)
      rw [gLp, hnx, if_neg hx]
/-- a loop whose sign is looked at at its head -/
theorem rLoop2 {dp : Nat} {c0 : Int32 → Bool} {x : Int32} {el : qPr} {G : (Nat → Nat → Int32) → Prop} {ok : (Nat → Nat → Int32) → Prop} (hb : qTb b n) (hc : ∀ y, c0 y = true ↔ y = x) (hx1 : ¬ x = -1) (wE : gL 1 n el)
    (hout : ∀ I, ¬ I 73 4 = -1 → ok I → G I)
    (hin : ∀ I, I 73 4 = -1 → (∃ k c e, rS b n t I k c e) → (∀ I2, rOk b n t (gNx b n) I I2 → (¬ rV b n I = x → ok I2) ∧ (rV b n I = x → ∀ I3, I3 = va_up I2 73 (upd (I2 73) 3 ((I2 73 3) + 1)) → rIn b n t dp I3 ∧ (∀ I5, rOk b n t el I3 I5 → rPk b n t I5 ∧ ∀ I7, rPu t I5 (rc (-x)) (rv (-x)) I7 → G I7) ∧ (∀ I11, rNo b n t el I3 I11 → rPf b n t I11 ∧ ∀ I13, rPu t I11 (rc (-x)) (rv (-x)) I13 → ¬ I13 73 4 = -1 → G I13))) → G I) :
    ∀ f I k c, n < k + 2 * f → rS b n t I k c dp → c ≤ k → (∀ J k' cs, gLp b n c0 el f k = (k', some cs) → rO b n t I c dp k' cs J → ok J) → (∀ J k', gLp b n c0 el f k = (k', none) → rF t I k c k' J → ok J) → G I := by
  intro f
  induction f with
  | zero => intro I k c hk S; have := S.kn; omega
  | succ f ih =>
    intro I k c hk S hsk hok hbad
    have h160 := S.n160
    have hn1 := @nx_ge b n k
    have hn2 := nx_le hb S.kn
    refine hin _ S.w S.p (fun I2 h2 => ⟨fun hx => ?_, fun hx I3 e3 => ?_⟩)
    · rw [rV_at S] at hx
      refine hok I2 (nx b n k) [] ?_ (rNx S h2)
      rw [gLp, if_neg (fun q => hx ((hc _).mp q))]
    · rw [rV_at S] at hx
      have o2 := rNx S h2
      have hl := hb.lt (k := nx b n k) (by rw [hx]; exact hx1)
      have o3 := o2.tr0 (o2.st0.inc hl e3)
      have S3 := o3.st0
      obtain ⟨w1, w2⟩ := wE (nx b n k + 1) (by omega)
      refine ⟨⟨nx b n k + 1, c, S3, by omega⟩, fun I5 h5 => ?_, fun I11 h11 => ?_⟩
      · obtain ⟨k2, c2, g5, o5⟩ := h5.at S3
        obtain ⟨a1, a2, a3⟩ := w1 _ _ g5
        refine ⟨⟨k2, _, dp, o5.st, by omega⟩, fun I7 h7 => ?_⟩
        have o7 := rPu_ok o5.st (by omega) h7
        have r7 := (o3.tr0 o5).tr o7
        refine ih I7 k2 (c + (c2 ++ [-x]).length) (by omega) r7.st (by rw [List.length_append, List.length_singleton]; omega) (fun J k' cs g q => ?_) (fun J k' g q => ?_)
        · refine hok J k' (c2 ++ [-x] ++ cs) ?_ (r7.tr q)
          rw [gLp, if_pos ((hc _).mpr hx), qBd_S g5, qBd_S g, hx]
        · refine hbad J k' ?_ (r7.trF q (by rw [List.length_append, List.length_singleton]; omega))
          rw [gLp, if_pos ((hc _).mpr hx), qBd_S g5, qBd_N g]
      · obtain ⟨k2, g5, o5⟩ := h11.at S3
        refine ⟨rF_pf S3 o5 (by omega), fun I13 h13 hw => hout _ hw (hbad _ k2 ?_ (rF_put o5 h13 o3.1 (Nat.le_refl _) (by omega) hsk))⟩
        rw [gLp, if_pos ((hc _).mpr hx), qBd_N g5]
end L36y
section L36y2
variable {d : Nat} {K : qK} {I : Nat → Nat → Int32} {L : Nat → Nat → Int64} {R : Nat → Nat → Option Nat} {sz : Nat} {Q : Option Value → qMem → Prop} {b : Nat → Int32} {n : Nat} {t : Nat}
theorem e12007   (hK : qLay K sz) (hR : qRef R) (b1 : ¬ (I 73 2) ≤ (I 73 3) → vp_in (I 73 3) 160) (q1 : (I 73 2) ≤ (I 73 3) → Q (some (.int (-1))) (K, I, L, R, sz)) (q2 : ¬ (I 73 2) ≤ (I 73 3) → Q (some (.int (I 74 ((I 73 3).toNatClampNeg)))) (K, I, L, R, sz)) : X d 0 0 12007 0 0 0 (qent (qml 12007) [.ref 73]) [] (K, I, L, R, sz) Q := show X _ 0 0 12007 0 0 0 [some (.ref 73)] [] _ _ from x_ald0 k12007_0 <| x_getI k12007_1 f12_126_11 (hK.at rfl) rfl <| x_ald0 k12007_4 <| x_getI k12007_5 f12_123_11 (hK.at rfl) rfl <| x_icmpge (tgt := 23) k12007_8 (by decide) (fun h1 => x_iconst (v := (-1)) k12007_23 rfl <| x_iret k12007_24 rfl (Nat.le_refl _) (Nat.le_refl _) <| (q1 h1)) (fun h1 => x_ald0 k12007_11 <| x_getR k12007_12 f12_9_11 (hK.at rfl) rfl (hR _ _ _ rfl) <| x_ald0 k12007_15 <| x_getI k12007_16 f12_126_11 (hK.at rfl) rfl <| x_iald k12007_19 (hK.at rfl) (b1 h1) <| x_goto (tgt := 24) k12007_20 (by decide) <| x_iret k12007_24 rfl (Nat.le_refl _) (Nat.le_refl _) <| (q2 h1))
theorem s12007 {k : Nat} (hK : qLay K sz) (hR : qRef R) (h : rTt b n I k) (hq : Q (some (.int (b k))) (K, I, L, R, sz)) : X d 0 0 12007 0 0 0 (qent (qml 12007) [.ref 73]) [] (K, I, L, R, sz) Q := by
  obtain ⟨⟨a1, a2, a3, a4⟩, h1, h2⟩ := h
  have hl : I 73 2 ≤ I 73 3 ↔ n ≤ k := by rw [a1, h1, nI_leI (by omega) (by omega)]
  refine e12007 hK hR (fun q => ?_) (fun q => ?_) (fun q => ?_)
  · rw [hl] at q; rw [h1]; exact vI (by omega) (by omega)
  · rw [hl] at q; rw [a4 k q] at hq; exact hq
  · rw [hl] at q; rw [h1, nI_c (by omega), a3 k (by omega)]; exact hq
theorem u12007 (hK : qLay K sz) (hR : qRef R) (h : ∃ k, rTt b n I k) (hq : Q (some (.int (hV b I))) (K, I, L, R, sz)) : X d 0 0 12007 0 0 0 (qent (qml 12007) [.ref 73]) [] (K, I, L, R, sz) Q := by
  obtain ⟨k, h⟩ := h
  refine s12007 hK hR h ?_
  have h1 := h.2.1
  have h2 := h.2.2
  have h3 := h.1.2.1
  unfold hV at hq
  rw [h1, nI_c (by omega)] at hq; exact hq
theorem hV_at {k : Nat} (h : rTt b n I k) : hV b I = b k := by
  have h1 := h.2.1
  have h2 := h.2.2
  have h3 := h.1.2.1
  unfold hV
  rw [h1, nI_c (by omega)]
theorem rT_up {k k' : Nat} (h : rTt b n I k) (hk : k' ≤ n) : rTt b n (va_up I 73 (upd (I 73) 3 (nI k'))) k' := by
  obtain ⟨⟨a1, a2, a3, a4⟩, h1, h2⟩ := h
  refine ⟨⟨?_, a2, fun j hj => ?_, a4⟩, ?_, hk⟩
  · rw [vu_s]; unfold upd; rw [if_neg (by decide)]; exact a1
  · rw [vu_n (by decide)]; exact a3 j hj
  · rw [vu_s]; unfold upd; rw [if_pos rfl]
theorem z12008   (hK : qLay K sz) (hR : qRef R) (b1 : ∃ k, rTt b n I k) (q1 : ¬ (hV b I) = 32 → Q (some (.int (hV b I))) (K, I, L, R, sz)) (q2 : (hV b I) = 32 → ∀ I2 : Nat → Nat → Int32, I2 = va_up I 73 (upd (I 73) 3 ((I 73 3) + 1)) → X (d + 1) 0 0 12008 0 0 0 [some (.ref 73)] [] (K, I2, L, R, sz) Q) : X (d + 1) 0 0 12008 0 0 0 (qent (qml 12008) [.ref 73]) [] (K, I, L, R, sz) Q := show X _ 0 0 12008 0 0 0 [some (.ref 73)] [] _ _ from x_ald0 k12008_0 <| x_cV0 (MCz := 0) (MSz := 0) k12008_1 v12_129_11 (hK.at rfl) (Nat.le_of_ble_eq_true rfl) (Nat.le_of_ble_eq_true rfl) (Nat.le_refl _) (Nat.le_refl _) <| u12007 hK hR b1 (x_bipush (v := 32) k12008_4 rfl <| x_icmpne (tgt := 22) k12008_6 (by decide) (fun h1 => x_ald0 k12008_22 <| x_cV0 (MCz := 0) (MSz := 0) k12008_23 v12_129_11 (hK.at rfl) (Nat.le_of_ble_eq_true rfl) (Nat.le_of_ble_eq_true rfl) (Nat.le_refl _) (Nat.le_refl _) <| u12007 hK hR b1 (x_iret k12008_26 rfl (Nat.le_refl _) (Nat.le_refl _) <| (q1 h1))) (fun h1 => x_ald0 k12008_9 <| x_dup k12008_10 rfl <| x_getI k12008_11 f12_126_11 (hK.at rfl) rfl <| x_iconst (v := 1) k12008_14 rfl <| x_iadd k12008_15 <| x_putI k12008_16 f12_126_11 (Or.inl rfl) (hK.at rfl) <| x_nm fun I2 e3 => x_goto (tgt := 0) k12008_19 (by decide) <| (q2 h1 I2 e3)))
theorem e12019 {a : Int32}    (q1 : a = 61 → Q (some (.int 1)) (K, I, L, R, sz)) (q2 : ¬ a = 61 → a = 60 → Q (some (.int 1)) (K, I, L, R, sz)) (q3 : ¬ a = 61 → ¬ a = 60 → ¬ a = 62 → Q (some (.int 0)) (K, I, L, R, sz)) (q4 : ¬ a = 61 → ¬ a = 60 → a = 62 → Q (some (.int 1)) (K, I, L, R, sz)) : X d 0 0 12019 0 0 0 (qent (qml 12019) [.int a]) [] (K, I, L, R, sz) Q := show X _ 0 0 12019 0 0 0 [some (.int a)] [] _ _ from x_ild0 k12019_0 <| x_bipush (v := 61) k12019_1 rfl <| x_icmpeq (tgt := 18) k12019_3 (by decide) (fun h1 => x_iconst (v := 1) k12019_18 rfl <| x_goto (tgt := 23) k12019_19 (by decide) <| x_zret k12019_23 rfl (Or.inr rfl) (Nat.le_refl _) (Nat.le_refl _) <| (q1 h1)) (fun h1 => x_ild0 k12019_6 <| x_bipush (v := 60) k12019_7 rfl <| x_icmpeq (tgt := 18) k12019_9 (by decide) (fun h2 => x_iconst (v := 1) k12019_18 rfl <| x_goto (tgt := 23) k12019_19 (by decide) <| x_zret k12019_23 rfl (Or.inr rfl) (Nat.le_refl _) (Nat.le_refl _) <| (q2 h1 h2)) (fun h2 => x_ild0 k12019_12 <| x_bipush (v := 62) k12019_13 rfl <| x_icmpne (tgt := 22) k12019_15 (by decide) (fun h3 => x_iconst (v := 0) k12019_22 rfl <| x_zret k12019_23 rfl (Or.inl rfl) (Nat.le_refl _) (Nat.le_refl _) <| (q3 h1 h2 h3)) (fun h3 => x_iconst (v := 1) k12019_18 rfl <| x_goto (tgt := 23) k12019_19 (by decide) <| x_zret k12019_23 rfl (Or.inr rfl) (Nat.le_refl _) (Nat.le_refl _) <| (q4 h1 h2 h3))))
theorem e12011 {a : Int32} {v : Int32}  (hK : qLay K sz) (hR : qRef R) (b1 : vp_in (I 73 14) 5) (b2 : vp_in ((340 * (I 73 14)) + (I 77 ((I 73 14).toNatClampNeg))) 1700) (b3 : ∀ I1 : Nat → Nat → Int32, I1 = va_up I 75 (upd (I 75) (((340 * (I 73 14)) + (I 77 ((I 73 14).toNatClampNeg))).toNatClampNeg) a) → vp_in (I1 73 14) 5) (b4 : ∀ I1 : Nat → Nat → Int32, I1 = va_up I 75 (upd (I 75) (((340 * (I 73 14)) + (I 77 ((I 73 14).toNatClampNeg))).toNatClampNeg) a) → vp_in ((340 * (I1 73 14)) + (I1 77 ((I1 73 14).toNatClampNeg))) 1700) (b5 : ∀ I1 : Nat → Nat → Int32, I1 = va_up I 75 (upd (I 75) (((340 * (I 73 14)) + (I 77 ((I 73 14).toNatClampNeg))).toNatClampNeg) a) → ∀ I3 : Nat → Nat → Int32, I3 = va_up I1 76 (upd (I1 76) (((340 * (I1 73 14)) + (I1 77 ((I1 73 14).toNatClampNeg))).toNatClampNeg) v) → vp_in (I3 73 14) 5) (q1 : ∀ I1 : Nat → Nat → Int32, I1 = va_up I 75 (upd (I 75) (((340 * (I 73 14)) + (I 77 ((I 73 14).toNatClampNeg))).toNatClampNeg) a) → ∀ I3 : Nat → Nat → Int32, I3 = va_up I1 76 (upd (I1 76) (((340 * (I1 73 14)) + (I1 77 ((I1 73 14).toNatClampNeg))).toNatClampNeg) v) → ∀ I5 : Nat → Nat → Int32, I5 = va_up I3 77 (upd (I3 77) ((I3 73 14).toNatClampNeg) ((I3 77 ((I3 73 14).toNatClampNeg)) + 1)) → Q none (K, I5, L, R, sz)) : X d 0 0 12011 0 0 0 (qent (qml 12011) [.ref 73, .int a, .int v]) [] (K, I, L, R, sz) Q := show X _ 0 0 12011 0 0 0 [some (.ref 73), some (.int a), some (.int v)] [] _ _ from x_ald0 k12011_0 <| x_getR k12011_1 f12_13_11 (hK.at rfl) rfl (hR _ _ _ rfl) <| x_sipush (v := 340) k12011_4 rfl <| x_ald0 k12011_7 <| x_getI k12011_8 f12_136_11 (hK.at rfl) rfl <| x_imul k12011_11 <| x_ald0 k12011_12 <| x_getR k12011_13 f12_19_11 (hK.at rfl) rfl (hR _ _ _ rfl) <| x_ald0 k12011_16 <| x_getI k12011_17 f12_136_11 (hK.at rfl) rfl <| x_iald k12011_20 (hK.at rfl) b1 <| x_iadd k12011_21 <| x_ild1 k12011_22 <| x_iast k12011_23 (hK.at rfl) b2 <| x_nm fun I1 e2 => x_ald0 k12011_24 <| x_getR k12011_25 f12_16_11 (hK.at rfl) rfl (hR _ _ _ rfl) <| x_sipush (v := 340) k12011_28 rfl <| x_ald0 k12011_31 <| x_getI k12011_32 f12_136_11 (hK.at rfl) rfl <| x_imul k12011_35 <| x_ald0 k12011_36 <| x_getR k12011_37 f12_19_11 (hK.at rfl) rfl (hR _ _ _ rfl) <| x_ald0 k12011_40 <| x_getI k12011_41 f12_136_11 (hK.at rfl) rfl <| x_iald k12011_44 (hK.at rfl) (b3 I1 e2) <| x_iadd k12011_45 <| x_ild2 k12011_46 <| x_iast k12011_47 (hK.at rfl) (b4 I1 e2) <| x_nm fun I3 e4 => x_ald0 k12011_48 <| x_getR k12011_49 f12_19_11 (hK.at rfl) rfl (hR _ _ _ rfl) <| x_ald0 k12011_52 <| x_getI k12011_53 f12_136_11 (hK.at rfl) rfl <| x_dup2 k12011_56 rfl rfl <| x_iald k12011_57 (hK.at rfl) (b5 I1 e2 I3 e4) <| x_iconst (v := 1) k12011_58 rfl <| x_iadd k12011_59 <| x_iast k12011_60 (hK.at rfl) (b5 I1 e2 I3 e4) <| x_nm fun I5 e6 => x_vret k12011_61 rfl (Nat.le_refl _) (Nat.le_refl _) <| (q1 I1 e2 I3 e4 I5 e6)
theorem e12012 {a : Int32}    (q1 : ¬ a = 109 → ¬ a = 115 → ¬ a = 116 → ¬ a = 110 → ¬ a = 108 → Q (some (.int (-1))) (K, I, L, R, sz)) (q2 : ¬ a = 109 → ¬ a = 115 → ¬ a = 116 → ¬ a = 110 → a = 108 → Q (some (.int 4)) (K, I, L, R, sz)) (q3 : ¬ a = 109 → ¬ a = 115 → ¬ a = 116 → a = 110 → Q (some (.int 3)) (K, I, L, R, sz)) (q4 : ¬ a = 109 → ¬ a = 115 → a = 116 → Q (some (.int 2)) (K, I, L, R, sz)) (q5 : ¬ a = 109 → a = 115 → Q (some (.int 1)) (K, I, L, R, sz)) (q6 : a = 109 → Q (some (.int 0)) (K, I, L, R, sz)) : X d 0 0 12012 0 0 0 (qent (qml 12012) [.int a]) [] (K, I, L, R, sz) Q := show X _ 0 0 12012 0 0 0 [some (.int a)] [] _ _ from x_ild0 k12012_0 <| x_bipush (v := 109) k12012_1 rfl <| x_icmpne (tgt := 10) k12012_3 (by decide) (fun h1 => x_ild0 k12012_10 <| x_bipush (v := 115) k12012_11 rfl <| x_icmpne (tgt := 20) k12012_13 (by decide) (fun h2 => x_ild0 k12012_20 <| x_bipush (v := 116) k12012_21 rfl <| x_icmpne (tgt := 30) k12012_23 (by decide) (fun h3 => x_ild0 k12012_30 <| x_bipush (v := 110) k12012_31 rfl <| x_icmpne (tgt := 40) k12012_33 (by decide) (fun h4 => x_ild0 k12012_40 <| x_bipush (v := 108) k12012_41 rfl <| x_icmpne (tgt := 50) k12012_43 (by decide) (fun h5 => x_iconst (v := (-1)) k12012_50 rfl <| x_iret k12012_51 rfl (Nat.le_refl _) (Nat.le_refl _) <| (q1 h1 h2 h3 h4 h5)) (fun h5 => x_iconst (v := 4) k12012_46 rfl <| x_goto (tgt := 51) k12012_47 (by decide) <| x_iret k12012_51 rfl (Nat.le_refl _) (Nat.le_refl _) <| (q2 h1 h2 h3 h4 h5))) (fun h4 => x_iconst (v := 3) k12012_36 rfl <| x_goto (tgt := 51) k12012_37 (by decide) <| x_iret k12012_51 rfl (Nat.le_refl _) (Nat.le_refl _) <| (q3 h1 h2 h3 h4))) (fun h3 => x_iconst (v := 2) k12012_26 rfl <| x_goto (tgt := 51) k12012_27 (by decide) <| x_iret k12012_51 rfl (Nat.le_refl _) (Nat.le_refl _) <| (q4 h1 h2 h3))) (fun h2 => x_iconst (v := 1) k12012_16 rfl <| x_goto (tgt := 51) k12012_17 (by decide) <| x_iret k12012_51 rfl (Nat.le_refl _) (Nat.le_refl _) <| (q5 h1 h2))) (fun h1 => x_iconst (v := 0) k12012_6 rfl <| x_goto (tgt := 51) k12012_7 (by decide) <| x_iret k12012_51 rfl (Nat.le_refl _) (Nat.le_refl _) <| (q6 h1))
theorem s12008 {k : Nat} (hK : qLay K sz) (hR : qRef R) (h : rTt b n I k) (hq : Q (some (.int (b (nx b n k)))) (K, va_up I 73 (upd (I 73) 3 (nI (nx b n k))), L, R, sz)) : X (d + 1) 0 0 12008 0 0 0 (qent (qml 12008) [.ref 73]) [] (K, I, L, R, sz) Q := by
  have hl : ∀ (f k : Nat) (J : Nat → Nat → Int32), k + f = n → rTt b n J k → Q (some (.int (b (sk b f k)))) (K, va_up J 73 (upd (J 73) 3 (nI (sk b f k))), L, R, sz) → X (d + 1) 0 0 12008 0 0 0 (qent (qml 12008) [.ref 73]) [] (K, J, L, R, sz) Q := by
    intro f
    induction f with
    | zero =>
      intro k J hk h hq
      have ev := hV_at h
      have hno : ¬ b k = 32 := by rw [h.1.2.2.2 k (by omega)]; decide
      rw [sk, up_id h.2.1] at hq
      exact z12008 hK hR ⟨k, h⟩ (fun _ => by rw [ev]; exact hq) (fun q => absurd (ev.symm.trans q) hno)
    | succ f ih =>
      intro k J hk h hq
      have ev := hV_at h
      rw [sk] at hq
      refine z12008 (hK := hK) (hR := hR) (b1 := ⟨k, h⟩) (q1 := fun q => ?_) (q2 := fun q B hB => ?_)
      · rw [ev] at q ⊢
        rw [if_neg q, up_id h.2.1] at hq
        exact hq
      · rw [ev] at q
        rw [if_pos q] at hq
        rw [h.2.1, nI_1] at hB
        refine ih (k + 1) B (by omega) (by rw [hB]; exact rT_up h (by omega)) ?_
        rw [hB, up_up]; exact hq
  exact hl (n - k) k I (by have := h.2.2; omega) h hq
theorem r12008 (hK : qLay K sz) (hR : qRef R) (h : ∃ k c e, rS b n t I k c e) (hq : ∀ J, rOk b n t (gNx b n) I J → J 73 4 = -1 → Q (some (.int (rV b n I))) (K, J, L, R, sz)) : X (d + 1) 0 0 12008 0 0 0 (qent (qml 12008) [.ref 73]) [] (K, I, L, R, sz) Q := by
  obtain ⟨k, c, e, S⟩ := h
  refine s12008 hK hR S.rt ?_
  have o := S.up3 (nx_le S.tb S.kn)
  have := hq _ ⟨k, c, e, nx b n k, [], S, rfl, o⟩ o.st0.w
  rw [rV_at S] at this; exact this

theorem e12013   (hK : qLay K sz)  (q1 : ¬ (I 73 5) = 6 → ∀ I2 : Nat → Nat → Int32, I2 = va_up I 73 (upd (I 73) 5 ((I 73 5) + 1)) → ∀ I4 : Nat → Nat → Int32, I4 = va_up I2 73 (upd (I2 73) 3 ((I2 73 3) + 1)) → Q none (K, I4, L, R, sz)) (q2 : (I 73 5) = 6 → (I 73 4) = -1 → ∀ I7 : Nat → Nat → Int32, I7 = va_up I 73 (upd (I 73) 4 (I 73 3)) → ∀ I9 : Nat → Nat → Int32, I9 = va_up I7 73 (upd (I7 73) 5 ((I7 73 5) + 1)) → ∀ I11 : Nat → Nat → Int32, I11 = va_up I9 73 (upd (I9 73) 3 ((I9 73 3) + 1)) → Q none (K, I11, L, R, sz)) (q3 : (I 73 5) = 6 → ¬ (I 73 4) = -1 → ∀ I14 : Nat → Nat → Int32, I14 = va_up I 73 (upd (I 73) 4 (I 73 4)) → ∀ I16 : Nat → Nat → Int32, I16 = va_up I14 73 (upd (I14 73) 5 ((I14 73 5) + 1)) → ∀ I18 : Nat → Nat → Int32, I18 = va_up I16 73 (upd (I16 73) 3 ((I16 73 3) + 1)) → Q none (K, I18, L, R, sz)) : X (d + 1) 0 0 12013 0 0 0 (qent (qml 12013) [.ref 73]) [] (K, I, L, R, sz) Q := show X _ 0 0 12013 0 0 0 [some (.ref 73)] [] _ _ from x_ald0 k12013_0 <| x_getI k12013_1 f12_139_11 (hK.at rfl) rfl <| x_bipush (v := 6) k12013_4 rfl <| x_icmpne (tgt := 13) k12013_6 (by decide) (fun h1 => x_ald0 k12013_13 <| x_dup k12013_14 rfl <| x_getI k12013_15 f12_139_11 (hK.at rfl) rfl <| x_iconst (v := 1) k12013_18 rfl <| x_iadd k12013_19 <| x_putI k12013_20 f12_139_11 (Or.inl rfl) (hK.at rfl) <| x_nm fun I2 e3 => x_ald0 k12013_23 <| x_dup k12013_24 rfl <| x_getI k12013_25 f12_126_11 (hK.at rfl) rfl <| x_iconst (v := 1) k12013_28 rfl <| x_iadd k12013_29 <| x_putI k12013_30 f12_126_11 (Or.inl rfl) (hK.at rfl) <| x_nm fun I4 e5 => x_vret k12013_33 rfl (Nat.le_refl _) (Nat.le_refl _) <| (q1 h1 I2 e3 I4 e5)) (fun h1 => x_ald0 k12013_9 <| x_cV0 (MCz := 0) (MSz := 0) k12013_10 v12_142_11 (hK.at rfl) (Nat.le_of_ble_eq_true rfl) (Nat.le_of_ble_eq_true rfl) (Nat.le_refl _) (Nat.le_refl _) <| t12009 hK (fun g6 => x_nm fun I7 e8 => x_ald0 k12013_13 <| x_dup k12013_14 rfl <| x_getI k12013_15 f12_139_11 (hK.at rfl) rfl <| x_iconst (v := 1) k12013_18 rfl <| x_iadd k12013_19 <| x_putI k12013_20 f12_139_11 (Or.inl rfl) (hK.at rfl) <| x_nm fun I9 e10 => x_ald0 k12013_23 <| x_dup k12013_24 rfl <| x_getI k12013_25 f12_126_11 (hK.at rfl) rfl <| x_iconst (v := 1) k12013_28 rfl <| x_iadd k12013_29 <| x_putI k12013_30 f12_126_11 (Or.inl rfl) (hK.at rfl) <| x_nm fun I11 e12 => x_vret k12013_33 rfl (Nat.le_refl _) (Nat.le_refl _) <| (q2 h1 g6 I7 e8 I9 e10 I11 e12)) (fun g13 => x_nm fun I14 e15 => x_ald0 k12013_13 <| x_dup k12013_14 rfl <| x_getI k12013_15 f12_139_11 (hK.at rfl) rfl <| x_iconst (v := 1) k12013_18 rfl <| x_iadd k12013_19 <| x_putI k12013_20 f12_139_11 (Or.inl rfl) (hK.at rfl) <| x_nm fun I16 e17 => x_ald0 k12013_23 <| x_dup k12013_24 rfl <| x_getI k12013_25 f12_126_11 (hK.at rfl) rfl <| x_iconst (v := 1) k12013_28 rfl <| x_iadd k12013_29 <| x_putI k12013_30 f12_126_11 (Or.inl rfl) (hK.at rfl) <| x_nm fun I18 e19 => x_vret k12013_33 rfl (Nat.le_refl _) (Nat.le_refl _) <| (q3 h1 g13 I14 e15 I16 e17 I18 e19)))
theorem e12014n {a : Int32}  (hK : qLay K sz)  (q1 : ¬ (I 73 4) = (-1) → ∀ I2 : Nat → Nat → Int32, I2 = va_up I 73 (upd (I 73) 3 ((I 73 3) + 1)) → ∀ I4 : Nat → Nat → Int32, I4 = va_up I2 73 (upd (I2 73) 5 ((I2 73 5) - 1)) → Q none (K, I4, L, R, sz)) (q2 : (I 73 4) = (-1) → X d 0 0 12014 0 0 8 [some (.ref 73), some (.int a)] [] (K, I, L, R, sz) Q) : X d 0 0 12014 0 0 0 (qent (qml 12014) [.ref 73, .int a]) [] (K, I, L, R, sz) Q := show X _ 0 0 12014 0 0 0 [some (.ref 73), some (.int a)] [] _ _ from x_ald0 k12014_0 <| x_getI k12014_1 f12_133_11 (hK.at rfl) rfl <| x_iconst (v := (-1)) k12014_4 rfl <| x_icmpne (tgt := 20) k12014_5 (by decide) (fun h1 => x_ald0 k12014_20 <| x_dup k12014_21 rfl <| x_getI k12014_22 f12_126_11 (hK.at rfl) rfl <| x_iconst (v := 1) k12014_25 rfl <| x_iadd k12014_26 <| x_putI k12014_27 f12_126_11 (Or.inl rfl) (hK.at rfl) <| x_nm fun I2 e3 => x_ald0 k12014_30 <| x_dup k12014_31 rfl <| x_getI k12014_32 f12_139_11 (hK.at rfl) rfl <| x_iconst (v := 1) k12014_35 rfl <| x_isub k12014_36 <| x_putI k12014_37 f12_139_11 (Or.inl rfl) (hK.at rfl) <| x_nm fun I4 e5 => x_vret k12014_40 rfl (Nat.le_refl _) (Nat.le_refl _) <| (q1 h1 I2 e3 I4 e5)) (fun h1 => (q2 h1))
theorem r12009 (hK : qLay K sz) (h : ∃ k c e, rS b n t I k c e) (hq : ∀ J, rBd b n t I J → ¬ J 73 4 = -1 → Q none (K, J, L, R, sz)) : X d 0 0 12009 0 0 0 (qent (qml 12009) [.ref 73]) [] (K, I, L, R, sz) Q := by
  obtain ⟨k, c, e, S⟩ := h
  refine t12009 hK (fun _ => ?_) (fun q => absurd S.w q)
  have hb : rBd b n t I (va_up I 73 (upd (I 73) 4 (nI k))) := ⟨k, c, e, S, rfl⟩
  have := hq _ hb (rF_w (hb.at S))
  rw [S.2.1]; exact this
theorem r12010 {a : Int32} (ht : qDig a → Q (some (.int 1)) (K, I, L, R, sz)) (hf : ¬ qDig a → Q (some (.int 0)) (K, I, L, R, sz)) : X d 0 0 12010 0 0 0 (qent (qml 12010) [.int a]) [] (K, I, L, R, sz) Q := t12010 (fun h1 h2 => ht ⟨h1, h2⟩) hf
theorem r12019 {a : Int32} (ht : cCmp a = true → Q (some (.int 1)) (K, I, L, R, sz)) (hf : ¬ cCmp a = true → Q (some (.int 0)) (K, I, L, R, sz)) : X d 0 0 12019 0 0 0 (qent (qml 12019) [.int a]) [] (K, I, L, R, sz) Q := by
  refine e12019 (fun h => ht (by simp [h])) (fun _ h => ht (by simp [h])) (fun h1 h2 h3 => hf (by simp [h1, h2, h3])) (fun _ _ h => ht (by simp [h]))
theorem r12011p {a v : Int32} {c : Nat} (hK : qLay K sz) (hR : qRef R) (h1 : I 77 t = nI c) (h2 : c < 340) (h3 : I 73 14 = nI t) (h4 : t < 5) (hq : ∀ J, rPu t I a v J → Q none (K, J, L, R, sz)) : X d 0 0 12011 0 0 0 (qent (qml 12011) [.ref 73, .int a, .int v]) [] (K, I, L, R, sz) Q := by
  have e5 : vp_in (I 73 14) 5 := by rw [h3]; exact vI h4 (by omega)
  have ei : ∀ J : Nat → Nat → Int32, J 73 = I 73 → J 77 = I 77 → 340 * (J 73 14) + J 77 (J 73 14).toNatClampNeg = nI (340 * t + c) := fun J q1 q2 => by
    rw [q1, q2, h3, nI_c (by omega), h1, show (340 : Int32) = nI 340 from rfl, pk_mul, nI_add]
  have ev : ∀ J : Nat → Nat → Int32, J 73 = I 73 → J 77 = I 77 → vp_in (340 * (J 73 14) + J 77 (J 73 14).toNatClampNeg) 1700 := fun J q1 q2 => by rw [ei J q1 q2]; exact vI (by omega) (by omega)
  refine e12011 hK hR e5 (ev I rfl rfl) (fun A hA => ?_) (fun A hA => ?_) (fun A hA B hB => ?_) (fun A hA B hB C hC => ?_)
  · rw [hA, vu_n (by decide)]; exact e5
  · refine ev A ?_ ?_
    · rw [hA, vu_n (by decide)]
    · rw [hA, vu_n (by decide)]
  · rw [hB, vu_n (by decide), hA, vu_n (by decide)]; exact e5
  · rw [ei I rfl rfl, nI_c (by omega)] at hA
    rw [ei A (by rw [hA, vu_n (by decide)]) (by rw [hA, vu_n (by decide)]), nI_c (by omega)] at hB
    have b73 : B 73 = I 73 := by rw [hB, vu_n (by decide), hA, vu_n (by decide)]
    have b77 : B 77 = I 77 := by rw [hB, vu_n (by decide), hA, vu_n (by decide)]
    have a76 : A 76 = I 76 := by rw [hA, vu_n (by decide)]
    rw [b73, b77, h3, nI_c (by omega), h1, nI_1] at hC
    rw [a76, hA] at hB
    rw [hB] at hC
    exact hq C ⟨c, h1, h2, hC⟩

theorem e12014o {a : Int32} (hw : (I 73 4) = (-1)) (hK : qLay K sz) (hR : qRef R) (b1 : (I 73 4) = (-1) → ∃ k c e, rS b n t I k c e) (b2 : (I 73 4) = (-1) → ∀ I1 : Nat → Nat → Int32, rOk b n t (gNx b n) I I1 → (I1 73 4) = (-1) → ¬ (rV b n I) = a → ∃ k c e, rS b n t I1 k c e) (q1 : (I 73 4) = (-1) → ∀ I1 : Nat → Nat → Int32, rOk b n t (gNx b n) I I1 → (I1 73 4) = (-1) → (rV b n I) = a → ∀ I5 : Nat → Nat → Int32, I5 = va_up I1 73 (upd (I1 73) 3 ((I1 73 3) + 1)) → ∀ I7 : Nat → Nat → Int32, I7 = va_up I5 73 (upd (I5 73) 5 ((I5 73 5) - 1)) → Q none (K, I7, L, R, sz)) (q2 : (I 73 4) = (-1) → ∀ I1 : Nat → Nat → Int32, rOk b n t (gNx b n) I I1 → (I1 73 4) = (-1) → ¬ (rV b n I) = a → ∀ I9 : Nat → Nat → Int32, rBd b n t I1 I9 → ¬ (I9 73 4) = (-1) → ∀ I12 : Nat → Nat → Int32, I12 = va_up I9 73 (upd (I9 73) 3 ((I9 73 3) + 1)) → ∀ I14 : Nat → Nat → Int32, I14 = va_up I12 73 (upd (I12 73) 5 ((I12 73 5) - 1)) → Q none (K, I14, L, R, sz)) : X (d + 2) 0 0 12014 0 0 0 (qent (qml 12014) [.ref 73, .int a]) [] (K, I, L, R, sz) Q := show X _ 0 0 12014 0 0 0 [some (.ref 73), some (.int a)] [] _ _ from x_ald0 k12014_0 <| x_getI k12014_1 f12_133_11 (hK.at rfl) rfl <| x_iconst (v := (-1)) k12014_4 rfl <| x_icmpneF (tgt := 20) k12014_5 (by decide) hw <| x_ald0 k12014_8 <| x_cV0 (MCz := 0) (MSz := 0) k12014_9 v12_145_11 (hK.at rfl) (Nat.le_of_ble_eq_true rfl) (Nat.le_of_ble_eq_true rfl) (Nat.le_refl _) (Nat.le_refl _) <| r12008 hK hR (b1 hw) (fun I1 g2 g3 => x_ild1 k12014_12 <| x_icmpeq (tgt := 20) k12014_13 (by decide) (fun h4 => x_ald0 k12014_20 <| x_dup k12014_21 rfl <| x_getI k12014_22 f12_126_11 (hK.at rfl) rfl <| x_iconst (v := 1) k12014_25 rfl <| x_iadd k12014_26 <| x_putI k12014_27 f12_126_11 (Or.inl rfl) (hK.at rfl) <| x_nm fun I5 e6 => x_ald0 k12014_30 <| x_dup k12014_31 rfl <| x_getI k12014_32 f12_139_11 (hK.at rfl) rfl <| x_iconst (v := 1) k12014_35 rfl <| x_isub k12014_36 <| x_putI k12014_37 f12_139_11 (Or.inl rfl) (hK.at rfl) <| x_nm fun I7 e8 => x_vret k12014_40 rfl (Nat.le_refl _) (Nat.le_refl _) <| (q1 hw I1 g2 g3 h4 I5 e6 I7 e8)) (fun h4 => x_ald0 k12014_16 <| x_cV0 (MCz := 0) (MSz := 0) k12014_17 v12_142_11 (hK.at rfl) (Nat.le_of_ble_eq_true rfl) (Nat.le_of_ble_eq_true rfl) (Nat.le_refl _) (Nat.le_refl _) <| r12009 hK (b2 hw I1 g2 g3 h4) (fun I9 g10 g11 => x_ald0 k12014_20 <| x_dup k12014_21 rfl <| x_getI k12014_22 f12_126_11 (hK.at rfl) rfl <| x_iconst (v := 1) k12014_25 rfl <| x_iadd k12014_26 <| x_putI k12014_27 f12_126_11 (Or.inl rfl) (hK.at rfl) <| x_nm fun I12 e13 => x_ald0 k12014_30 <| x_dup k12014_31 rfl <| x_getI k12014_32 f12_139_11 (hK.at rfl) rfl <| x_iconst (v := 1) k12014_35 rfl <| x_isub k12014_36 <| x_putI k12014_37 f12_139_11 (Or.inl rfl) (hK.at rfl) <| x_nm fun I14 e15 => x_vret k12014_40 rfl (Nat.le_refl _) (Nat.le_refl _) <| (q2 hw I1 g2 g3 h4 I9 g10 g11 I12 e13 I14 e15))))
theorem e12015     (q1 : X d 0 0 12015 0 0 4 [some (.ref 73), some (.int 0), some (.int 0)] [] (K, I, L, R, sz) Q) : X d 0 0 12015 0 0 0 (qent (qml 12015) [.ref 73]) [] (K, I, L, R, sz) Q := show X _ 0 0 12015 0 0 0 [some (.ref 73), none, none] [] _ _ from x_iconst (v := 0) k12015_0 rfl <| x_ist1 k12015_1 (Nat.le_of_ble_eq_true rfl) rfl <| x_iconst (v := 0) k12015_2 rfl <| x_ist2 k12015_3 (Nat.le_of_ble_eq_true rfl) rfl <| q1
theorem g12015_4 {x1 : Int32} {x2 : Int32}  (hK : qLay K sz) (hR : qRef R) (b1 : 4 ≤ x2 → ∃ k, rTt b n I k) (b2 : 4 ≤ x2 → qDig (hV b I) → ∃ k c e, rS b n t I k c e) (b3 : ¬ 4 ≤ x2 → ∃ k, rTt b n I k) (q1 : 4 ≤ x2 → qDig (hV b I) → ∀ I3 : Nat → Nat → Int32, rBd b n t I I3 → ¬ (I3 73 4) = (-1) → Q (some (.int x1)) (K, I3, L, R, sz)) (q2 : 4 ≤ x2 → ¬ qDig (hV b I) → Q (some (.int x1)) (K, I, L, R, sz)) (q3 : ¬ 4 ≤ x2 → qDig (hV b I) → ∀ I8 : Nat → Nat → Int32, I8 = va_up I 73 (upd (I 73) 3 ((I 73 3) + 1)) → X (d + 1) 0 0 12015 0 0 4 [some (.ref 73), some (.int (((10 * x1) + (hV b I)) - 48)), some (.int (x2 + 1))] [] (K, I8, L, R, sz) Q) (q4 : ¬ 4 ≤ x2 → ¬ qDig (hV b I) → Q (some (.int x1)) (K, I, L, R, sz)) : X (d + 1) 0 0 12015 0 0 4 [some (.ref 73), some (.int x1), some (.int x2)] [] (K, I, L, R, sz) Q := x_ild2 k12015_4 <| x_iconst (v := 4) k12015_5 rfl <| x_icmpge (tgt := 48) k12015_6 (by decide) (fun h1 => x_ald0 k12015_48 <| x_cV0 (MCz := 0) (MSz := 0) k12015_49 v12_129_11 (hK.at rfl) (Nat.le_of_ble_eq_true rfl) (Nat.le_of_ble_eq_true rfl) (Nat.le_refl _) (Nat.le_refl _) <| u12007 hK hR (b1 h1) (x_cS1 (MCz := 0) (MSz := 0) k12015_52 s12_148 (Nat.le_of_ble_eq_true rfl) (Nat.le_of_ble_eq_true rfl) (Nat.le_refl _) (Nat.le_refl _) <| r12010 (fun g2 => x_ifeqF (tgt := 62) k12015_55 (by decide) (show ¬ (1 : Int32) = 0 by decide) <| x_ald0 k12015_58 <| x_cV0 (MCz := 0) (MSz := 0) k12015_59 v12_142_11 (hK.at rfl) (Nat.le_of_ble_eq_true rfl) (Nat.le_of_ble_eq_true rfl) (Nat.le_refl _) (Nat.le_refl _) <| r12009 hK (b2 h1 g2) (fun I3 g4 g5 => x_ild1 k12015_62 <| x_iret k12015_63 rfl (Nat.le_refl _) (Nat.le_refl _) <| (q1 h1 g2 I3 g4 g5))) (fun g6 => x_ifeqT (tgt := 62) k12015_55 (by decide) (show (0 : Int32) = 0 by decide) <| x_ild1 k12015_62 <| x_iret k12015_63 rfl (Nat.le_refl _) (Nat.le_refl _) <| (q2 h1 g6)))) (fun h1 => x_ald0 k12015_9 <| x_cV0 (MCz := 0) (MSz := 0) k12015_10 v12_129_11 (hK.at rfl) (Nat.le_of_ble_eq_true rfl) (Nat.le_of_ble_eq_true rfl) (Nat.le_refl _) (Nat.le_refl _) <| u12007 hK hR (b3 h1) (x_cS1 (MCz := 0) (MSz := 0) k12015_13 s12_148 (Nat.le_of_ble_eq_true rfl) (Nat.le_of_ble_eq_true rfl) (Nat.le_refl _) (Nat.le_refl _) <| r12010 (fun g7 => x_ifeqF (tgt := 48) k12015_16 (by decide) (show ¬ (1 : Int32) = 0 by decide) <| x_bipush (v := 10) k12015_19 rfl <| x_ild1 k12015_21 <| x_imul k12015_22 <| x_ald0 k12015_23 <| x_cV0 (MCz := 0) (MSz := 0) k12015_24 v12_129_11 (hK.at rfl) (Nat.le_of_ble_eq_true rfl) (Nat.le_of_ble_eq_true rfl) (Nat.le_refl _) (Nat.le_refl _) <| u12007 hK hR (b3 h1) (x_iadd k12015_27 <| x_bipush (v := 48) k12015_28 rfl <| x_isub k12015_30 <| x_ist1 k12015_31 (Nat.le_of_ble_eq_true rfl) rfl <| x_ald0 k12015_32 <| x_dup k12015_33 rfl <| x_getI k12015_34 f12_126_11 (hK.at rfl) rfl <| x_iconst (v := 1) k12015_37 rfl <| x_iadd k12015_38 <| x_putI k12015_39 f12_126_11 (Or.inl rfl) (hK.at rfl) <| x_nm fun I8 e9 => x_inc2 (c := 1) k12015_42 rfl (Nat.le_of_ble_eq_true rfl) rfl <| x_goto (tgt := 4) k12015_45 (by decide) <| (q3 h1 g7 I8 e9))) (fun g10 => x_ifeqT (tgt := 48) k12015_16 (by decide) (show (0 : Int32) = 0 by decide) <| x_ald0 k12015_48 <| x_cV0 (MCz := 0) (MSz := 0) k12015_49 v12_129_11 (hK.at rfl) (Nat.le_of_ble_eq_true rfl) (Nat.le_of_ble_eq_true rfl) (Nat.le_refl _) (Nat.le_refl _) <| u12007 hK hR (b3 h1) (x_cS1 (MCz := 0) (MSz := 0) k12015_52 s12_148 (Nat.le_of_ble_eq_true rfl) (Nat.le_of_ble_eq_true rfl) (Nat.le_refl _) (Nat.le_refl _) <| r12010 (fun g11 => absurd g11 g10) (fun g12 => x_ifeqT (tgt := 62) k12015_55 (by decide) (show (0 : Int32) = 0 by decide) <| x_ild1 k12015_62 <| x_iret k12015_63 rfl (Nat.le_refl _) (Nat.le_refl _) <| (q4 h1 g10))))))
theorem e12022n   (hK : qLay K sz)  (q1 : ¬ (I 73 4) = (-1) → Q none (K, I, L, R, sz)) (q2 : (I 73 4) = (-1) → X d 0 0 12022 0 0 8 [some (.ref 73)] [] (K, I, L, R, sz) Q) : X d 0 0 12022 0 0 0 (qent (qml 12022) [.ref 73]) [] (K, I, L, R, sz) Q := show X _ 0 0 12022 0 0 0 [some (.ref 73)] [] _ _ from x_ald0 k12022_0 <| x_getI k12022_1 f12_133_11 (hK.at rfl) rfl <| x_iconst (v := (-1)) k12022_4 rfl <| x_icmpne (tgt := 41) k12022_5 (by decide) (fun h1 => x_vret k12022_41 rfl (Nat.le_refl _) (Nat.le_refl _) <| (q1 h1)) (fun h1 => (q2 h1))
theorem e12023n   (hK : qLay K sz)  (q1 : ¬ (I 73 4) = (-1) → Q none (K, I, L, R, sz)) (q2 : (I 73 4) = (-1) → X d 0 0 12023 0 0 8 [some (.ref 73)] [] (K, I, L, R, sz) Q) : X d 0 0 12023 0 0 0 (qent (qml 12023) [.ref 73]) [] (K, I, L, R, sz) Q := show X _ 0 0 12023 0 0 0 [some (.ref 73)] [] _ _ from x_ald0 k12023_0 <| x_getI k12023_1 f12_133_11 (hK.at rfl) rfl <| x_iconst (v := (-1)) k12023_4 rfl <| x_icmpne (tgt := 45) k12023_5 (by decide) (fun h1 => x_vret k12023_45 rfl (Nat.le_refl _) (Nat.le_refl _) <| (q1 h1)) (fun h1 => (q2 h1))
theorem r12011o {a v : Int32} (hK : qLay K sz) (hR : qRef R) (h : rPk b n t I) (hq : ∀ J, rPu t I a v J → J 73 4 = -1 → Q none (K, J, L, R, sz)) : X d 0 0 12011 0 0 0 (qent (qml 12011) [.ref 73, .int a, .int v]) [] (K, I, L, R, sz) Q := by
  obtain ⟨k, c, e, S, hc⟩ := h
  refine r12011p hK hR S.2.2.2.2.2.2.2.2.1 (by omega) S.2.2.2.2.2.2.1 S.t5 (fun J hJ => hq J hJ ?_)
  obtain ⟨c0, _, _, rfl⟩ := hJ
  rw [vu_n (by decide), vu_n (by decide), vu_n (by decide)]; exact S.w
theorem r12011n {a v : Int32} (hK : qLay K sz) (hR : qRef R) (h : rPf b n t I ∧ ¬ I 73 4 = -1) (hq : ∀ J, rPu t I a v J → ¬ J 73 4 = -1 → Q none (K, J, L, R, sz)) : X d 0 0 12011 0 0 0 (qent (qml 12011) [.ref 73, .int a, .int v]) [] (K, I, L, R, sz) Q := by
  obtain ⟨⟨c', h1, h2, h3, h4⟩, hw⟩ := h
  refine r12011p hK hR h1 h2 h3 h4 (fun J hJ => hq J hJ ?_)
  obtain ⟨c0, _, _, rfl⟩ := hJ
  rw [vu_n (by decide), vu_n (by decide), vu_n (by decide)]; exact hw
theorem r12012 {a : Int32} (ht : ∀ x, qltr a → x = rv (-a) → ¬ x = -1 → Q (some (.int x)) (K, I, L, R, sz)) (hf : ¬ qltr a → Q (some (.int (-1))) (K, I, L, R, sz)) : X d 0 0 12012 0 0 0 (qent (qml 12012) [.int a]) [] (K, I, L, R, sz) Q := by
  refine e12012 (fun h1 h2 h3 h4 h5 => hf (fun q => ?_)) (fun _ _ _ _ h => ht 4 (by rw [h]; decide) (by rw [h]; decide) (by decide)) (fun _ _ _ h => ht 3 (by rw [h]; decide) (by rw [h]; decide) (by decide)) (fun _ _ h => ht 2 (by rw [h]; decide) (by rw [h]; decide) (by decide)) (fun _ h => ht 1 (by rw [h]; decide) (by rw [h]; decide) (by decide)) (fun h => ht 0 (by rw [h]; decide) (by rw [h]; decide) (by decide))
  rcases q with q | q | q | q | q
  · exact h1 q
  · exact h2 q
  · exact h3 q
  · exact h4 q
  · exact h5 q
theorem r12013 (hK : qLay K sz) (hR : qRef R) (h : rPo b n t I) (ht : ∀ J, rOp b n t I J → J 73 4 = -1 → Q none (K, J, L, R, sz)) (hf : ∀ J, rOf b n t I J → ¬ J 73 4 = -1 → Q none (K, J, L, R, sz)) : X (d + 1) 0 0 12013 0 0 0 (qent (qml 12013) [.ref 73]) [] (K, I, L, R, sz) Q := by
  obtain ⟨k, c, e, S, hk⟩ := h
  have e5 := S.2.2.2.2.1
  have he6 := S.e6
  have q6 : I 73 5 = 6 ↔ e = 6 := by rw [e5, show (6 : Int32) = nI 6 from rfl, nI_eq (by omega) (by omega)]
  refine e12013 hK (fun q A hA B hB => ?_) (fun q hw A hA B hB C hC => ?_) (fun q hw => absurd S.w hw)
  · rw [q6] at q
    rw [e5, nI_1] at hA
    obtain ⟨f1, S1⟩ := S.up5 (e' := e + 1) (by omega)
    rw [← hA] at f1 S1
    have o := S1.inc hk hB
    exact ht B ⟨k, c, e, S, by omega, f1.trans o.1, o.st0⟩ o.st0.w
  · rw [q6] at q
    subst q
    have hbd : rBd b n t I A := ⟨k, c, 6, S, by rw [hA, S.2.1]⟩
    have g := hbd.at S
    have g2 : rF t I k c k C := rF_c3 g (fun j i hn => by
      rw [hC, hB]
      by_cases c1 : j = 73
      · subst c1
        rw [vu_s]; unfold upd
        rw [if_neg (fun q => hn ⟨rfl, Or.inl q⟩), vu_s, if_neg (fun q => hn ⟨rfl, Or.inr q⟩)]
      · rw [vu_n c1, vu_n c1])
    exact hf C ⟨k, c, S, g2⟩ (rF_w g2)
theorem r12014o {a : Int32} (hK : qLay K sz) (hR : qRef R) (h : rPc b n t I a) (ht : ∀ J, rC1 b n t I a J → J 73 4 = -1 → Q none (K, J, L, R, sz)) (hf : ∀ J, rC2 b n t I a J → ¬ J 73 4 = -1 → Q none (K, J, L, R, sz)) : X (d + 2) 0 0 12014 0 0 0 (qent (qml 12014) [.ref 73, .int a]) [] (K, I, L, R, sz) Q := by
  obtain ⟨⟨k, c, e, S⟩, ha⟩ := h
  have hv := rV_at S
  refine e12014o (hw := S.w) (hK := hK) (hR := hR) (b1 := fun _ => S.p) (b2 := fun _ I1 h1 _ _ => (rNx S h1).st0.p) (q1 := fun _ I1 h1 _ hx A hA B hB => ?_) (q2 := fun _ I1 h1 _ hx A hA _ B hB C hC => ?_)
  · rw [hv] at hx
    have o1 := rNx S h1
    have hl := S.tb.lt (k := nx b n k) (by rw [hx]; exact ha)
    have o2 := o1.st0.inc hl hA
    have he := o2.st0.e6
    rw [o2.st0.2.2.2.2.1, show (1 : Int32) = nI 1 from rfl, pk_sub (by omega), Nat.add_sub_cancel] at hB
    obtain ⟨f3, S3⟩ := o2.st0.up5 (e' := e) (by omega)
    rw [← hB] at f3 S3
    exact ht B ⟨k, c, e, S, hx, (o1.1.trans o2.1).trans f3, S3⟩ S3.w
  · rw [hv] at hx
    have o1 := rNx S h1
    have g := (hA.at o1.st0).fr o1.1 (Nat.le_refl _) (by have := @nx_ge b n k; omega) (k := k)
    have g2 : rF t I k c (nx b n k) C := rF_c3 g (fun j i hn => by
      rw [hC, hB]
      by_cases c1 : j = 73
      · subst c1
        rw [vu_s]; unfold upd
        rw [if_neg (fun q => hn ⟨rfl, Or.inr q⟩), vu_s, if_neg (fun q => hn ⟨rfl, Or.inl q⟩)]
      · rw [vu_n c1, vu_n c1])
    exact hf C ⟨k, c, e, S, hx, g2⟩ (rF_w g2)
theorem r12014n {a : Int32} (hK : qLay K sz) (hw : ¬ I 73 4 = -1) (hq : ∀ J, rC3 I J → ¬ J 73 4 = -1 → Q none (K, J, L, R, sz)) : X d 0 0 12014 0 0 0 (qent (qml 12014) [.ref 73, .int a]) [] (K, I, L, R, sz) Q := by
  refine e12014n hK (fun _ A hA B hB => hq B ?_ ?_) (fun q => absurd q hw)
  · intro j i hn
    rw [hB, hA]
    by_cases c1 : j = 73
    · subst c1
      rw [vu_s]; unfold upd
      rw [if_neg (fun q => hn ⟨rfl, Or.inr q⟩), vu_s, if_neg (fun q => hn ⟨rfl, Or.inl q⟩)]
    · rw [vu_n c1, vu_n c1]
  · rw [hB, vu_s]; unfold upd
    rw [if_neg (by decide), hA, vu_s]; unfold upd
    rw [if_neg (by decide)]; exact hw
theorem r12022n (hK : qLay K sz) (hw : ¬ I 73 4 = -1) (hq : Q none (K, I, L, R, sz)) : X d 0 0 12022 0 0 0 (qent (qml 12022) [.ref 73]) [] (K, I, L, R, sz) Q := e12022n hK (fun _ => hq) (fun q => absurd q hw)
theorem r12023n (hK : qLay K sz) (hw : ¬ I 73 4 = -1) (hq : Q none (K, I, L, R, sz)) : X d 0 0 12023 0 0 0 (qent (qml 12023) [.ref 73]) [] (K, I, L, R, sz) Q := e12023n hK (fun _ => hq) (fun q => absurd q hw)
theorem dg_nI {c : Int32} (h : qDig c) : ∃ u, c = nI (48 + u) ∧ u < 10 := by
  obtain ⟨m, hm, rfl⟩ := nI_of (x := c) (fun q => by have h1 := h.1; exact absurd (Int32.lt_of_le_of_lt h1 q) (by decide))
  have h1 := h.1
  have h2 := h.2
  rw [show (48 : Int32) = nI 48 from rfl, nI_leI (by omega) hm] at h1
  rw [show (57 : Int32) = nI 57 from rfl, nI_leI hm (by omega)] at h2
  exact ⟨m - 48, by congr 1; omega, by omega⟩
theorem gDg_val : ∀ (f w k k' : Nat) (x : Int32), (w + 1) * 10 ^ f ≤ 10000 → gDg b f (nI w) k = (k', some x) → ∃ u, x = nI u ∧ u < 10000 := by
  intro f
  induction f with
  | zero =>
    intro w k k' x h e
    rw [gDg] at e
    split at e
    · simp at e
    · simp only [Prod.mk.injEq, Option.some.injEq] at e
      exact ⟨w, e.2.symm, by omega⟩
  | succ f ih =>
    intro w k k' x h e
    rw [gDg] at e
    have hp : 0 < 10 ^ f := Nat.pow_pos (by omega)
    rw [Nat.pow_succ] at h
    split at e
    · next q =>
      obtain ⟨u, e1, e2⟩ := dg_nI q
      have ev : nI w * 10 + b k - 48 = nI (w * 10 + u) := by
        rw [e1, show (10 : Int32) = nI 10 from rfl, show (48 : Int32) = nI 48 from rfl, pk_mul, nI_add, pk_sub (by omega)]
        congr 1; omega
      rw [ev] at e
      refine ih _ _ _ _ ?_ e
      have : (w * 10 + u + 1) * 10 ^ f ≤ ((w + 1) * 10) * 10 ^ f := Nat.mul_le_mul_right _ (by omega)
      have e3 : (w + 1) * (10 ^ f * 10) = ((w + 1) * 10) * 10 ^ f := by rw [Nat.mul_comm (10 ^ f) 10, Nat.mul_assoc]
      omega
    · simp only [Prod.mk.injEq, Option.some.injEq] at e
      refine ⟨w, e.2.symm, ?_⟩
      have : (w + 1) * 1 ≤ (w + 1) * (10 ^ f * 10) := Nat.mul_le_mul_left _ (by omega)
      omega
theorem l12015 {k0 c e : Nat} {I0 : Nat → Nat → Int32} (hK : qLay K sz) (hR : qRef R) (S0 : rS b n t I0 k0 c e) : ∀ (f i : Nat) (v : Int32) (k : Nat) (I : Nat → Nat → Int32), i + f = 4 → rO b n t I0 c e k [] I → k0 ≤ k → (∀ J k' w, gDg b f v k = (k', some w) → rO b n t I0 c e k' [] J → Q (some (.int w)) (K, J, L, R, sz)) → (∀ J k' w, gDg b f v k = (k', none) → rF t I0 k' c k' J → Q (some (.int w)) (K, J, L, R, sz)) → X (d + 1) 0 0 12015 0 0 4 [some (.ref 73), some (.int v), some (.int (nI i))] [] (K, I, L, R, sz) Q := by
  intro f
  induction f with
  | zero =>
    intro i v k I hi o hk hok hno
    have S := o.st0
    have ev := hV_at S.rt
    have h4 : (4 : Int32) ≤ nI i := by rw [show (4 : Int32) = nI 4 from rfl, nI_leI (by omega) (by omega)]; omega
    refine g12015_4 (t := t) (hK := hK) (hR := hR) (b1 := fun _ => ⟨k, S.rt⟩) (b2 := fun _ _ => S.p) (b3 := fun q => absurd h4 q) (q1 := fun _ h A hA _ => ?_) (q2 := fun _ h => ?_) (q3 := fun q => absurd h4 q) (q4 := fun q => absurd h4 q)
    · rw [ev] at h
      exact hno A k v (by rw [gDg, if_pos h]) ((hA.at S).fr o.1 (Nat.le_refl _) (Nat.le_refl _))
    · rw [ev] at h
      exact hok I k v (by rw [gDg, if_neg h]) o
  | succ f ih =>
    intro i v k I hi o hk hok hno
    have S := o.st0
    have ev := hV_at S.rt
    have h4 : ¬ (4 : Int32) ≤ nI i := nI_ge (b := 4) (by omega) (by omega)
    refine g12015_4 (t := t) (hK := hK) (hR := hR) (b1 := fun q => absurd q h4) (b2 := fun q => absurd q h4) (b3 := fun _ => ⟨k, S.rt⟩) (q1 := fun q => absurd q h4) (q2 := fun q => absurd q h4) (q3 := fun _ h A hA => ?_) (q4 := fun _ h => ?_)
    · rw [ev] at h ⊢
      have hl := S.tb.lt (qDig_n h)
      rw [nI_1, Int32.mul_comm 10 v]
      refine ih (i + 1) _ (k + 1) A (by omega) (o.tr0 (S.inc hl hA)) (by omega) (fun J k' w g => hok J k' w (by rw [gDg, if_pos h]; exact g)) (fun J k' w g => hno J k' w (by rw [gDg, if_pos h]; exact g))
    · rw [ev] at h
      exact hok I k v (by rw [gDg, if_neg h]) o
theorem gNum4 {k : Nat} (hk : nx b n k = k) (h : qDig (b k)) : gNum b n 4 0 9999 k = gDg b 4 0 k := by
  unfold gNum
  rw [hk, if_pos h]
  obtain ⟨k1, a⟩ : ∃ r : qRs Int32, r = gDg b 4 0 k := ⟨_, rfl⟩
  cases hg : gDg b 4 0 k with
  | mk k1 a =>
    cases a with
    | none => rfl
    | some x =>
      obtain ⟨u, rfl, hu⟩ := gDg_val 4 0 k k1 x (by decide) hg
      simp only [qBd]
      rw [if_neg]
      intro q
      rcases q with q | q
      · exact absurd q (nI_pos (by omega))
      · rw [show (9999 : Int32) = nI 9999 from rfl, nI_ltI (by omega) (by omega)] at q; omega
theorem r12015 (hK : qLay K sz) (hR : qRef R) (h : ∃ k c e, rS b n t I k c e ∧ qDig (b k)) (ht : ∀ J x, rNm b n t I x J → J 73 4 = -1 → Q (some (.int x)) (K, J, L, R, sz)) (hf : ∀ J x, rNn b n t I J → ¬ J 73 4 = -1 → Q (some (.int x)) (K, J, L, R, sz)) : X (d + 1) 0 0 12015 0 0 0 (qent (qml 12015) [.ref 73]) [] (K, I, L, R, sz) Q := by
  obtain ⟨k, c, e, S, hd⟩ := h
  have hs : nx b n k = k := nx_self (fun q => by rw [q] at hd; exact absurd hd (by decide))
  refine e12015 (l12015 hK hR S 4 0 0 k I (by omega) S.refl (Nat.le_refl _) (fun J k' w g o => ?_) (fun J k' w g o => ?_))
  · exact ht J w ⟨k, c, e, k', S, by rw [gNum4 hs hd]; exact g, o⟩ o.st0.w
  · exact hf J w ⟨k, c, e, k', S, by rw [gNum4 hs hd]; exact g, o⟩ (rF_w o)

end L36y2
