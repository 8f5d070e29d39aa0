/-! the class reads laws: what is said -/
/-- the reader at k, s entries put down -/
def cS (b : Nat → Int32) (n : Nat) (I : Nat → Nat → Int32) (k s : Nat) : Prop := qTp I n ∧ (∀ j, tb I n j = b j) ∧ I 20 1 = nI k ∧ I 20 3 = nI s ∧ k ≤ n ∧ s ≤ 161
def cFr (s j k : Nat) : Prop := (j = 20 ∧ (k = 1 ∨ k = 3)) ∨ (j = 21 ∧ s ≤ k)
def cO (b : Nat → Int32) (n : Nat) (I : Nat → Nat → Int32) (s k : Nat) (cs : List Int32) (J : Nat → Nat → Int32) : Prop := qFr (cFr s) I J ∧ cS b n J k (s + cs.length) ∧ qHas (J 21) s cs
def cF (I : Nat → Nat → Int32) (k : Nat) (J : Nat → Nat → Int32) : Prop := qFr (cFr 0) I J ∧ J 20 1 = nI k
def cOk (b : Nat → Int32) (n : Nat) (g : qPr) (I J : Nat → Nat → Int32) : Prop := ∃ k s k' cs, cS b n I k s ∧ g k = (k', some cs) ∧ cO b n I s k' cs J
def cNot (b : Nat → Int32) (n : Nat) (g : qPr) (I J : Nat → Nat → Int32) : Prop := ∃ k s k', cS b n I k s ∧ g k = (k', none) ∧ cF I k' J
def cIn (b : Nat → Int32) (n : Nat) (I : Nat → Nat → Int32) : Prop := ∃ k s, cS b n I k s ∧ s ≤ k
def cEe (b : Nat → Int32) (n : Nat) (I : Nat → Nat → Int32) : Prop := ∃ k s, cS b n I k s ∧ s < 161
def cEm (b : Nat → Int32) (n : Nat) (I : Nat → Nat → Int32) (x : Int32) (J : Nat → Nat → Int32) : Prop := ∃ k s, cS b n I k s ∧ cO b n I s k [x] J
def cV (b : Nat → Int32) (n : Nat) (I : Nat → Nat → Int32) : Int32 := b (nx b n (I 20 1).toNatClampNeg)
def gNx (b : Nat → Int32) (n : Nat) : qPr := fun k => (nx b n k, some [])
def gPs (b : Nat → Int32) (n : Nat) (x : Int32) : qPr := fun k => if b (nx b n k) = x then (nx b n k + 1, some []) else (nx b n k, none)
def cNm (b : Nat → Int32) (n : Nat) (I : Nat → Nat → Int32) (x : Int32) (J : Nat → Nat → Int32) : Prop := ∃ k s k', cS b n I k s ∧ gNum b n 4 0 9999 k = (k', some x) ∧ cO b n I s k' [] J
def cNn (b : Nat → Int32) (n : Nat) (I J : Nat → Nat → Int32) : Prop := ∃ k s k', cS b n I k s ∧ gNum b n 4 0 9999 k = (k', none) ∧ cF I k' J
abbrev CSp (d y : Nat) (args : List Value) (K : qK) (L : Nat → Nat → Int64) (R : Nat → Nat → Option Nat) (sz : Nat) (b : Nat → Int32) (n : Nat) (g : qPr) : Prop := ∀ (I : Nat → Nat → Int32) (Q : Option Value → qMem → Prop), cIn b n I → (∀ J, cOk b n g I J → Q (some (.int 1)) (K, J, L, R, sz)) → (∀ J, cNot b n g I J → Q (some (.int 0)) (K, J, L, R, sz)) → X d 0 0 y 0 0 0 (qent (qml y) args) [] (K, I, L, R, sz) Q
theorem CSp_c {d e y : Nat} {args : List Value} {K : qK} {L : Nat → Nat → Int64} {R : Nat → Nat → Option Nat} {sz : Nat} {b : Nat → Int32} {n : Nat} {g : qPr} (h : d = e) (q : CSp d y args K L R sz b n g) : CSp e y args K L R sz b n g := by subst h; exact q
section L36r
variable {b : Nat → Int32} {n k s : Nat} {I J M : Nat → Nat → Int32}
theorem nI_h {a b : Nat} (ha : a < 1100) (hb : b < 1100) (h : nI a = nI b) : a = b := (nI_eq (by omega) (by omega)).mp h
theorem cS.n160 (S : cS b n I k s) : n ≤ 160 := S.1.2
theorem cS.kn (S : cS b n I k s) : k ≤ n := S.2.2.2.2.1
theorem cS.tb (S : cS b n I k s) : qTb b n := qTp_b S.1 S.2.1
theorem cS.uq {k' s' : Nat} (S : cS b n I k s) (h : cS b n I k' s') : k' = k ∧ s' = s := by
  have h1 := S.n160
  have h2 := S.kn
  have h3 := h.kn
  have h4 := S.2.2.2.2.2
  have h5 := h.2.2.2.2.2
  exact ⟨nI_h (by omega) (by omega) (by rw [← S.2.2.1, ← h.2.2.1]), nI_h (by omega) (by omega) (by rw [← S.2.2.2.1, ← h.2.2.2.1])⟩
theorem cOk.at {g : qPr} (S : cS b n I k s) (h : cOk b n g I J) : ∃ k' cs, g k = (k', some cs) ∧ cO b n I s k' cs J := by
  obtain ⟨k0, s0, k', cs, h1, h2, h3⟩ := h
  obtain ⟨rfl, rfl⟩ := S.uq h1
  exact ⟨k', cs, h2, h3⟩
theorem cNot.at {g : qPr} (S : cS b n I k s) (h : cNot b n g I J) : ∃ k', g k = (k', none) ∧ cF I k' J := by
  obtain ⟨k0, s0, k', h1, h2, h3⟩ := h
  obtain ⟨rfl, rfl⟩ := S.uq h1
  exact ⟨k', h2, h3⟩
theorem cEm.at {x : Int32} (S : cS b n I k s) (h : cEm b n I x J) : cO b n I s k [x] J := by
  obtain ⟨k0, s0, h1, h2⟩ := h
  obtain ⟨rfl, rfl⟩ := S.uq h1
  exact h2
theorem cNm.at {x : Int32} (S : cS b n I k s) (h : cNm b n I x J) : ∃ k', gNum b n 4 0 9999 k = (k', some x) ∧ cO b n I s k' [] J := by
  obtain ⟨k0, s0, k', h1, h2, h3⟩ := h
  obtain ⟨rfl, rfl⟩ := S.uq h1
  exact ⟨k', h2, h3⟩
theorem cNn.at (S : cS b n I k s) (h : cNn b n I J) : ∃ k', gNum b n 4 0 9999 k = (k', none) ∧ cF I k' J := by
  obtain ⟨k0, s0, k', h1, h2, h3⟩ := h
  obtain ⟨rfl, rfl⟩ := S.uq h1
  exact ⟨k', h2, h3⟩
theorem cV_at (S : cS b n I k s) : cV b n I = b (nx b n k) := by
  have h1 := S.n160
  have h2 := S.kn
  unfold cV
  rw [S.2.2.1, nI_c (by omega)]
theorem cNx (S : cS b n I k s) (h : cOk b n (gNx b n) I J) : cO b n I s (nx b n k) [] J := by
  obtain ⟨k', cs, h1, h2⟩ := h.at S
  simp only [gNx, Prod.mk.injEq, Option.some.injEq] at h1
  rw [← h1.1, ← h1.2] at h2; exact h2
theorem cO.st {cs : List Int32} (h : cO b n I s k cs J) : cS b n J k (s + cs.length) := h.2.1
theorem cO.st0 (h : cO b n I s k [] J) : cS b n J k s := h.2.1
theorem qHas_mk {f : Nat → Int32} {p : Nat} {l m : List Int32} (h1 : qHas f p l) (h2 : qHas f (p + l.length) m) : qHas f p (l ++ m) := by
  intro j x e
  by_cases c : j < l.length
  · rw [List.getElem?_append_left c] at e; exact h1 j x e
  · rw [List.getElem?_append_right (by omega)] at e
    have := h2 _ _ e
    rw [show p + l.length + (j - l.length) = p + j by omega] at this; exact this
theorem cFr_mono {s s' : Nat} (h : s ≤ s') : ∀ j k, cFr s' j k → cFr s j k := fun j k q => by unfold cFr at q ⊢; omega
theorem cO.tr {k' : Nat} {c1 c2 : List Int32} (h : cO b n I s k c1 J) (g : cO b n J (s + c1.length) k' c2 M) : cO b n I s k' (c1 ++ c2) M := by
  obtain ⟨h1, h2, h3⟩ := h
  obtain ⟨g1, g2, g3⟩ := g
  refine ⟨h1.trans (g1.mono (cFr_mono (by omega))), by rw [List.length_append, ← Nat.add_assoc]; exact g2, qHas_mk (fun j x e => ?_) g3⟩
  have := (List.getElem?_eq_some_iff.mp e).1
  rw [g1 21 (s + j) (by unfold cFr; omega)]
  exact h3 j x e
theorem cO.tr0 {k' : Nat} {c2 : List Int32} (h : cO b n I s k [] J) (g : cO b n J s k' c2 M) : cO b n I s k' c2 M := h.tr g
theorem cO.t0 {k' : Nat} {c1 : List Int32} (h : cO b n I s k c1 J) (g : cO b n J (s + c1.length) k' [] M) : cO b n I s k' c1 M := by
  have := h.tr g
  rw [List.append_nil] at this; exact this
theorem cO.trF {k' : Nat} {c1 : List Int32} (h : cO b n I s k c1 J) (g : cF J k' M) : cF I k' M := ⟨(h.1.mono (cFr_mono (Nat.zero_le _))).trans g.1, g.2⟩
theorem cO.toF (h : cO b n I s k [] J) : cF I k J := ⟨h.1.mono (cFr_mono (Nat.zero_le _)), h.2.1.2.2.1⟩
theorem cO.toF' {cs : List Int32} (h : cO b n I s k cs J) : cF I k J := ⟨h.1.mono (cFr_mono (Nat.zero_le _)), h.2.1.2.2.1⟩
theorem cO_at {k' : Nat} (S : cS b n I k s) (hk : k' ≤ n) : cO b n I s k' [] (va_up I 20 (upd (I 20) 1 (nI k'))) := by
  obtain ⟨h1, h2, h3, h4, h5, h6⟩ := S
  obtain ⟨t1, t2⟩ := qTp_up (o := 20) (f := upd (I 20) 1 (nI k')) (by decide) (by decide) h1 h2
  refine ⟨qFr.up1 (Or.inl ⟨rfl, Or.inl rfl⟩), ⟨t1, t2, up_at, ?_, hk, h6⟩, fun j x e => by simp at e⟩
  rw [vu_s]; unfold upd; rw [if_neg (by decide)]; exact h4
theorem cS.inc (S : cS b n I k s) (hk : k < n) (e : J = va_up I 20 (upd (I 20) 1 ((I 20 1) + 1))) : cO b n I s (k + 1) [] J := by
  have := cO_at (k' := k + 1) S (by omega)
  rw [e, S.2.2.1, nI_1]; exact this
theorem cS.refl (S : cS b n I k s) : cO b n I s k [] I := ⟨qFr.refl, S, fun j x e => by simp at e⟩
theorem cS.p1 (S : cS b n I k s) : ∃ k s, cS b n I k s := ⟨k, s, S⟩
theorem gLp_nx {c : Int32 → Bool} {el : qPr} {f : Nat} (h : qTb b n) (hk : k ≤ n) : gLp b n c el f (nx b n k) = gLp b n c el f k := by
  cases f <;> simp only [gLp, nx_nx h hk]
/-- a loop whose sign is looked at ahead -/
theorem cLoop {c : Int32 → Bool} {el : qPr} {G : Int32 → Nat → (Nat → Nat → Int32) → Prop} {bad ok : (Nat → Nat → Int32) → Prop} (hb : qTb b n) (hc : ∀ x, c x = true → ¬ x = -1) (wE : gL 1 n el)
    (hout : ∀ x i I, i < 160 → ¬ c x = true → ok I → G x i I)
    (hin : ∀ x i I, i < 160 → c x = true → (∀ I3, I3 = va_up I 20 (upd (I 20) 1 ((I 20 1) + 1)) → cIn b n I3 ∧ (∀ I5, cOk b n el I3 I5 → cEe b n I5 ∧ ∀ I7, cEm b n I5 (-x) I7 → (∃ k s, cS b n I7 k s) ∧ ∀ I9, cOk b n (gNx b n) I7 I9 → G (cV b n I7) (i + 1) I9) ∧ (∀ I11, cNot b n el I3 I11 → bad I11)) → G x i I) :
    ∀ f I k s i, i + f = 160 → n < k + 2 * f → cS b n I k s → nx b n k = k → s ≤ k → (∀ J k' cs, gLp b n c el f k = (k', some cs) → cO b n I s k' cs J → ok J) → (∀ J k', gLp b n c el f k = (k', none) → cF I k' J → bad J) → G (b k) i I := by
  intro f
  induction f with
  | zero => intro I k s i hi hk S; have := S.kn; omega
  | succ f ih =>
    intro I k s i hi hk S hnx hsk hok hbad
    have h160 := S.n160
    by_cases hx : c (b k) = true
    · have hl := hb.lt (hc _ hx)
      refine hin _ _ _ (by omega) hx (fun I3 e3 => ?_)
      have o3 := S.inc hl e3
      have S3 := o3.st0
      obtain ⟨w1, w2⟩ := wE (k + 1) (by omega)
      refine ⟨⟨k + 1, s, S3, by omega⟩, fun I5 h5 => ?_, fun I11 h11 => ?_⟩
      · obtain ⟨k2, c2, g5, o5⟩ := h5.at S3
        obtain ⟨a1, a2, a3⟩ := w1 _ _ g5
        refine ⟨⟨k2, _, o5.st, by omega⟩, fun I7 h7 => ?_⟩
        have o7 := h7.at o5.st
        have S7 := o7.st
        refine ⟨S7.p1, fun I9 h9 => ?_⟩
        have o9 := cNx S7 h9
        have S9 := o9.st
        have r7 := (o3.tr0 o5).tr o7
        have r9 := r7.t0 (by rw [List.length_append, ← Nat.add_assoc]; exact o9)
        have hn2 := @nx_ge b n k2
        have hn3 := nx_le hb a2
        rw [cV_at S7]
        refine ih I9 (nx b n k2) (s + (c2 ++ [-(b k)]).length) (i + 1) (by omega) (by omega) r9.st (nx_nx hb a2) (by rw [List.length_append, List.length_singleton]; omega) (fun J k' cs g q => ?_) (fun J k' g q => ?_)
        · rw [gLp_nx hb a2] at g
          refine hok J k' (c2 ++ [-(b k)] ++ cs) ?_ (r9.tr q)
          rw [gLp, hnx, if_pos hx, qBd_S g5, qBd_S g]
        · rw [gLp_nx hb a2] at g
          refine hbad J k' ?_ (r9.trF q)
          rw [gLp, hnx, if_pos hx, qBd_S g5, qBd_N g]
      · obtain ⟨k2, g5, o5⟩ := h11.at S3
        refine hbad _ k2 ?_ (o3.trF o5)
        rw [gLp, hnx, if_pos hx, qBd_N g5]
    · refine hout _ _ _ (by omega) hx (hok I k [] ?_ S.refl)
      rw [gLp, hnx, if_neg hx]
/-- a loop whose sign is looked at at its head -/
theorem cLoop2 {c : Int32 → Bool} {x : Int32} {el : qPr} {G : Nat → (Nat → Nat → Int32) → Prop} {bad ok : (Nat → Nat → Int32) → Prop} (hb : qTb b n) (hc : ∀ y, c y = true ↔ y = x) (hx1 : ¬ x = -1) (wE : gL 1 n el)
    (hin : ∀ i I, i < 160 → (∃ k s, cS b n I k s) → (∀ I2, cOk b n (gNx b n) I I2 → (¬ cV b n I = x → ok I2) ∧ (cV b n I = x → ∀ I3, I3 = va_up I2 20 (upd (I2 20) 1 ((I2 20 1) + 1)) → cIn b n I3 ∧ (∀ I5, cOk b n el I3 I5 → cEe b n I5 ∧ ∀ I7, cEm b n I5 (-x) I7 → G (i + 1) I7) ∧ (∀ I11, cNot b n el I3 I11 → bad I11))) → G i I) :
    ∀ f I k s i, i + f = 160 → n < k + 2 * f → cS b n I k s → s ≤ k → (∀ J k' cs, gLp b n c el f k = (k', some cs) → cO b n I s k' cs J → ok J) → (∀ J k', gLp b n c el f k = (k', none) → cF I k' J → bad J) → G i I := by
  intro f
  induction f with
  | zero => intro I k s i hi hk S; have := S.kn; omega
  | succ f ih =>
    intro I k s i hi hk S hsk hok hbad
    have h160 := S.n160
    have hn1 := @nx_ge b n k
    have hn2 := nx_le hb S.kn
    refine hin _ _ (by omega) S.p1 (fun I2 h2 => ⟨fun hx => ?_, fun hx I3 e3 => ?_⟩)
    · rw [cV_at S] at hx
      refine hok I2 (nx b n k) [] ?_ (cNx S h2)
      rw [gLp, if_neg (fun q => hx ((hc _).mp q))]
    · rw [cV_at S] at hx
      have o2 := cNx S h2
      have hl := hb.lt (k := nx b n k) (by rw [hx]; exact hx1)
      have o3 := o2.tr0 (o2.st0.inc hl e3)
      have S3 := o3.st0
      obtain ⟨w1, w2⟩ := wE (nx b n k + 1) (by omega)
      refine ⟨⟨nx b n k + 1, s, S3, by omega⟩, fun I5 h5 => ?_, fun I11 h11 => ?_⟩
      · obtain ⟨k2, c2, g5, o5⟩ := h5.at S3
        obtain ⟨a1, a2, a3⟩ := w1 _ _ g5
        refine ⟨⟨k2, _, o5.st, by omega⟩, fun I7 h7 => ?_⟩
        have o7 := h7.at o5.st
        have r7 := (o3.tr0 o5).tr o7
        refine ih I7 k2 (s + (c2 ++ [-x]).length) (i + 1) (by omega) (by omega) r7.st (by rw [List.length_append, List.length_singleton]; omega) (fun J k' cs g q => ?_) (fun J k' g q => ?_)
        · refine hok J k' (c2 ++ [-x] ++ cs) ?_ (r7.tr q)
          rw [gLp, if_pos ((hc _).mpr hx), qBd_S g5, qBd_S g, hx]
        · refine hbad J k' ?_ (r7.trF q)
          rw [gLp, if_pos ((hc _).mpr hx), qBd_S g5, qBd_N g]
      · obtain ⟨k2, g5, o5⟩ := h11.at S3
        refine hbad _ k2 ?_ (o3.trF o5)
        rw [gLp, if_pos ((hc _).mpr hx), qBd_N g5]
end L36r
section L36r2
variable {d : Nat} {K : qK} {I : Nat → Nat → Int32} {L : Nat → Nat → Int64} {R : Nat → Nat → Option Nat} {sz : Nat} {Q : Option Value → qMem → Prop} {b : Nat → Int32} {n : Nat}
theorem e4016 {a : Int32}  (hK : qLay K sz) (hR : qRef R) (b1 : (I 20 3) < 161 → vp_in (I 20 3) 161) (q1 : (I 20 3) < 161 → ∀ I2 : Nat → Nat → Int32, I2 = va_up I 21 (upd (I 21) ((I 20 3).toNatClampNeg) a) → ∀ I4 : Nat → Nat → Int32, I4 = va_up I2 20 (upd (I2 20) 3 ((I2 20 3) + 1)) → Q (some (.int 1)) (K, I4, L, R, sz)) (q2 : ¬ (I 20 3) < 161 → Q (some (.int 0)) (K, I, L, R, sz)) : X d 0 0 4016 0 0 0 (qent (qml 4016) [.ref 20, .int a]) [] (K, I, L, R, sz) Q := show X _ 0 0 4016 0 0 0 [some (.ref 20), some (.int a)] [] _ _ from x_ald0 k4016_0 <| x_getI k4016_1 f4_21_4 (hK.at rfl) rfl <| x_sipush (v := 161) k4016_4 rfl <| x_icmplt (tgt := 12) k4016_7 (by decide) (fun h1 => x_ald0 k4016_12 <| x_getR k4016_13 f4_11_4 (hK.at rfl) rfl (hR _ _ _ rfl) <| x_ald0 k4016_16 <| x_getI k4016_17 f4_21_4 (hK.at rfl) rfl <| x_ild1 k4016_20 <| x_iast k4016_21 (hK.at rfl) (b1 h1) <| x_nm fun I2 e3 => x_ald0 k4016_22 <| x_dup k4016_23 rfl <| x_getI k4016_24 f4_21_4 (hK.at rfl) rfl <| x_iconst (v := 1) k4016_27 rfl <| x_iadd k4016_28 <| x_putI k4016_29 f4_21_4 (Or.inl rfl) (hK.at rfl) <| x_nm fun I4 e5 => x_iconst (v := 1) k4016_32 rfl <| x_zret k4016_33 rfl (Or.inr rfl) (Nat.le_refl _) (Nat.le_refl _) <| (q1 h1 I2 e3 I4 e5)) (fun h1 => x_iconst (v := 0) k4016_10 rfl <| x_zret k4016_11 rfl (Or.inl rfl) (Nat.le_refl _) (Nat.le_refl _) <| (q2 h1))
theorem w7001 (hK : qLay K sz) (hR : qRef R) (h : ∃ k s, cS b n I k s) (hq : ∀ J, cOk b n (gNx b n) I J → Q (some (.int (cV b n I))) (K, J, L, R, sz)) : X (d + 1) 0 0 7001 0 0 0 (qent (qml 7001) [.ref 20]) [] (K, I, L, R, sz) Q := by
  obtain ⟨k, s, S⟩ := h
  have h2 := nx_le S.tb S.kn
  refine v7001_20 hK hR ⟨n, k, S.1, S.2.2.1, S.kn⟩ (fun J hJ => ?_)
  rw [nxV_at S.1 S.2.1 S.2.2.1 S.kn, ← cV_at S]
  unfold nxR at hJ
  rw [nxK_at S.1 S.2.1 S.2.2.1 S.kn] at hJ
  rw [hJ]
  exact hq _ ⟨k, s, nx b n k, [], S, rfl, cO_at S h2⟩
theorem w7002 {x : Int32} (hK : qLay K sz) (hR : qRef R) (h : (∃ k s, cS b n I k s) ∧ ¬ x = -1) (ht : ∀ J, cOk b n (gPs b n x) I J → Q (some (.int 1)) (K, J, L, R, sz)) (hf : ∀ J, cNot b n (gPs b n x) I J → Q (some (.int 0)) (K, J, L, R, sz)) : X (d + 2) 0 0 7002 0 0 0 (qent (qml 7002) [.ref 20, .int x]) [] (K, I, L, R, sz) Q := by
  obtain ⟨⟨k, s, S⟩, hx⟩ := h
  have h2 := nx_le S.tb S.kn
  refine p7002_20 hK hR S.1 S.2.1 S.2.2.1 S.kn (fun e => ?_) (fun e => ?_)
  · have hl := S.tb.lt (k := nx b n k) (by rw [e]; exact hx)
    exact ht _ ⟨k, s, nx b n k + 1, [], S, by unfold gPs; rw [if_pos e], cO_at S (by omega)⟩
  · exact hf _ ⟨k, s, nx b n k, S, by unfold gPs; rw [if_neg e], (cO_at S h2).toF⟩
theorem w7004 (hK : qLay K sz) (hR : qRef R) (h : ∃ k s, cS b n I k s) (ht : ∀ J x, cNm b n I x J → Q (some (.int x)) (K, J, L, R, sz)) (hf : ∀ J, cNn b n I J → Q (some (.int (-1))) (K, J, L, R, sz)) : X (d + 2) 0 0 7004 0 0 0 (qent (qml 7004) [.ref 20, .int 4, .int 0, .int 9999]) [] (K, I, L, R, sz) Q := by
  obtain ⟨k, s, S⟩ := h
  have hw := gNum_W S.tb 4 0 9999 k S.kn
  refine n7004_20 (m := 4) hK hR (by decide) S.1 S.2.1 S.2.2.1 S.kn (fun k' w e => ?_) (fun k' e => ?_)
  · exact ht _ _ ⟨k, s, k', S, e, cO_at S (hw.1 _ _ e).2.1⟩
  · exact hf _ ⟨k, s, k', S, e, (cO_at S (hw.2 _ e).2).toF⟩
theorem w4016 {x : Int32} (hK : qLay K sz) (hR : qRef R) (h : cEe b n I) (hq : ∀ J, cEm b n I x J → Q (some (.int 1)) (K, J, L, R, sz)) : X d 0 0 4016 0 0 0 (qent (qml 4016) [.ref 20, .int x]) [] (K, I, L, R, sz) Q := by
  obtain ⟨k, s, S, hs⟩ := h
  have e3 := S.2.2.2.1
  refine e4016 hK hR (fun _ => by rw [e3]; exact vI (by omega) (by omega)) (fun _ A hA B hB => ?_) (fun q => absurd (show I 20 3 < 161 by rw [e3, show (161 : Int32) = nI 161 from rfl, nI_ltI (by omega) (by omega)]; exact hs) q)
  rw [e3, nI_c (by omega)] at hA
  have a20 : A 20 = I 20 := by rw [hA, vu_n (by decide)]
  rw [a20, e3, nI_1] at hB
  refine hq B ⟨k, s, S, ?_, ⟨⟨?_, ?_⟩, ?_, ?_, ?_, S.kn, by simp only [List.length_singleton]; omega⟩, ?_⟩
  · intro j i hn
    rw [hB]
    by_cases c : j = 20
    · subst c
      rw [vu_s]; unfold upd
      rw [if_neg (fun q => hn (Or.inl ⟨rfl, Or.inr q⟩))]
    · rw [vu_n c, hA]
      by_cases c1 : j = 21
      · subst c1
        rw [vu_s]; unfold upd
        rw [if_neg (fun q => hn (Or.inr ⟨rfl, by omega⟩))]
      · rw [vu_n c1]
  · rw [hB, vu_n (by decide), hA, vu_n (by decide)]; exact S.1.1
  · exact S.1.2
  · intro j
    rw [← S.2.1 j]; unfold tb
    rw [hB, vu_n (by decide), hA, vu_n (by decide)]
  · rw [hB, vu_s]; unfold upd; rw [if_neg (by decide)]; exact S.2.2.1
  · rw [hB, vu_s]; unfold upd; rw [if_pos rfl]; rfl
  · intro j y e
    rw [hB, vu_n (by decide), hA, vu_s]
    cases j with
    | zero => simp only [List.getElem?_cons_zero, Option.some.injEq] at e; unfold upd; rw [if_pos (by omega)]; exact e
    | succ j => simp at e

end L36r2
