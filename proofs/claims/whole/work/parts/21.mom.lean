/-! leanings of a minute, heads, hands -/
/-- the leanings laid: of the thanks below i, over b -/
def qLy (c wo wm mi : Nat → Int32) (t la : Int32) (b : Nat → Int32) : Nat → Nat → Int32
  | 0 => b
  | i + 1 => if ¬ c i = 0 ∧ ¬ t < mi i then upd (qLy c wo wm mi t la b i) (wm i).toNatClampNeg (if la = 0 ∨ ¬ la ≤ t - mi i then wo i else -1) else qLy c wo wm mi t la b i
def qSort (mi : Nat → Int32) (n : Nat) : Prop := ∀ i j, i ≤ j → j < n → ¬ mi j < mi i
theorem qLy_rest {c wo wm mi : Nat → Int32} {t la : Int32} {b : Nat → Int32} {n i : Nat} (hs : qSort mi n) (h : t < mi i) : ∀ k, i + k ≤ n → qLy c wo wm mi t la b (i + k) = qLy c wo wm mi t la b i := by
  intro k
  induction k with
  | zero => intro _; rfl
  | succ k ih =>
    intro hk
    rw [← Nat.add_assoc, qLy, if_neg, ih (by omega)]
    intro q
    have h1 := hs i (i + k) (by omega) (by omega)
    have h2 := q.2
    rw [i_lt] at h h1 h2
    omega
/-- who holds: the bits of the servants below i whose head is m -/
def hb (f : Nat → Int32) (n : Nat) (m : Int32) : Nat → Int32
  | 0 => 0
  | i + 1 => if hd f n (nI i) = m then hb f n m i ||| (1 <<< (nI i &&& 31)) else hb f n m i
theorem hb_cong {f g : Nat → Int32} {n : Nat} {m : Int32} (hv : qVal f n) (hn : n ≤ 5) (hfg : ∀ j, j < n → g j = f j) : ∀ i, i ≤ n → hb g n m i = hb f n m i := by
  intro i
  induction i with
  | zero => intro _; rfl
  | succ i ih => intro hi; rw [hb, hb, ih (by omega), hd_cong hv (by omega) hn hfg]
theorem sx_spec {f : Nat → Int32} : ∀ (k : Nat) (a : Int32), sx f k a ≤ k ∧ (∀ j, j < sx f k a → 10 ≤ hx f j a ∧ hx f j a ≤ 14) ∧ (sx f k a < k → ¬ (10 ≤ hx f (sx f k a) a ∧ hx f (sx f k a) a ≤ 14)) := by
  intro k
  induction k with
  | zero => intro a; exact ⟨Nat.le_refl _, fun j h => absurd h (Nat.not_lt_zero _), fun h => absurd h (Nat.lt_irrefl _)⟩
  | succ k ih =>
    intro a
    by_cases h : 10 ≤ a ∧ a ≤ 14
    · obtain ⟨h1, h2, h3⟩ := ih (f (a - 10).toNatClampNeg)
      rw [sx, if_pos h]
      refine ⟨by omega, ?_, ?_⟩
      · intro j hj
        cases j with
        | zero => exact h
        | succ j => rw [hx_s h.1 h.2]; exact h2 j (by omega)
      · intro hl
        rw [hx_s h.1 h.2]
        exact h3 (by omega)
    · rw [sx, if_neg h]
      exact ⟨by omega, fun j hj => absurd hj (Nat.not_lt_zero _), fun _ => h⟩
theorem hx_sx {f : Nat → Int32} (k : Nat) (a : Int32) : hx f (sx f k a) a = hx f k a := by
  obtain ⟨h1, h2, h3⟩ := sx_spec (f := f) k a
  by_cases h : sx f k a < k
  · have := hx_out (f := f) (h3 h) (k - sx f k a)
    rw [← hx_add, show sx f k a + (k - sx f k a) = k from by omega] at this
    exact this.symm
  · rw [show sx f k a = k from by omega]
theorem rst_up {f : Nat → Int32} {n : Nat} {a : Int32} (h5 : n ≤ 5) (h : ¬ rst f n a = -1) : qUp f a (rst f n a) ∧ hx f (rst f n a).toNatClampNeg (10 + a) = hd f n a ∧ ¬ hd f n a = -1 ∧ rst f n a = nI (sx f (n + 1) (10 + a)) := by
  obtain ⟨h1, h2, -⟩ := sx_spec (f := f) (n + 1) (10 + a)
  unfold rst at h ⊢
  by_cases he : hd f n a = -1
  · rw [if_pos he] at h; exact absurd rfl h
  · rw [if_neg he]
    refine ⟨⟨_, by omega, rfl, h2⟩, ?_, he, rfl⟩
    rw [nI_c (by omega), hx_sx]
    unfold hd at he ⊢
    split
    · next hh => rw [if_pos hh] at he; exact absurd rfl he
    · rfl
theorem rst_hd {f : Nat → Int32} {n : Nat} {a : Int32} (h5 : n ≤ 5) (h : rst f n a = -1) : hd f n a = -1 := by
  obtain ⟨h1, -, -⟩ := sx_spec (f := f) (n + 1) (10 + a)
  unfold rst at h
  by_cases he : hd f n a = -1
  · exact he
  · rw [if_neg he] at h
    have := congrArg Int32.toInt h
    rw [nI_i (by omega)] at this
    have e : (-1 : Int32).toInt = -1 := rfl
    omega
/-- the places below i hold v -/
def qfi (v : Int32) (g : Nat → Int32) (i : Nat) : Nat → Int32 := fun k => if k < i then v else g k
theorem qfi_succ (v : Int32) (g : Nat → Int32) (i : Nat) : upd (qfi v g i) i v = qfi v g (i + 1) := by
  funext k
  simp only [upd, qfi]
  by_cases h : k = i
  · subst h; simp
  · by_cases h2 : k < i
    · simp [h, h2, show k < i + 1 from by omega]
    · simp [h, h2, show ¬ k < i + 1 from by omega]
theorem qfi_0 (v : Int32) (g : Nat → Int32) : qfi v g 0 = g := by funext k; simp [qfi]
section L21
variable {d : Nat} {K : qK} {I : Nat → Nat → Int32} {L : Nat → Nat → Int64} {R : Nat → Nat → Option Nat} {sz : Nat} {Q : Option Value → qMem → Prop}
theorem l5003 {n : Nat} {a : Int32} (hK : qLay K sz) (hR : qRef R) (hn : I 69 2 = nI n) (h5 : n ≤ 5) : ∀ (k i : Nat) (x2 : Int32), i + k = n + 1 → Q (some (.int (nI (i + sx (I 70) k x2)))) (K, I, L, R, sz) → X (d + 1) 0 0 5003 0 0 18 [some (.ref 69), some (.int a), some (.int x2), some (.int (nI i))] [] (K, I, L, R, sz) Q := by
  intro k
  induction k with
  | zero =>
    intro i x2 hi hq
    have hlt : I 69 2 < nI i := by rw [hn]; exact nI_lt (by omega) (by omega)
    exact g5003_18 hK hR (fun h => absurd hlt h) (fun _ => hq) (fun h => absurd hlt h) (fun h => absurd hlt h)
  | succ k ih =>
    intro i x2 hi hq
    have hnl : ¬ I 69 2 < nI i := by rw [hn]; exact nI_nlt (by omega) (by omega)
    refine g5003_18 hK hR (fun _ h1 h2 => qsv_in h1 h2) (fun h => absurd h hnl) (fun _ h1 h2 => ?_) (fun _ h1 => ?_)
    · rw [sx, if_pos ⟨h1, h2⟩] at hq
      rw [nI_1]
      exact ih (i + 1) _ (by omega) (by rw [show i + 1 + sx (I 70) k (I 70 (x2 - 10).toNatClampNeg) = i + (sx (I 70) k (I 70 (x2 - 10).toNatClampNeg) + 1) from by omega]; exact hq)
    · rw [sx, if_neg h1] at hq; exact hq
/-- the class's STEPS: nought for the reference's NONE -/
def cst (f : Nat → Int32) (n : Nat) (s : Int32) : Int32 := if rst f n s = -1 then 0 else rst f n s
theorem s5003 {nC : Nat} {a : Int32} (hn : I 69 2 = nI nC) (h5 : nC ≤ 5) (hK : qLay K sz) (hR : qRef R) (h : Q (some (.int (cst (I 70) nC a))) (K, I, L, R, sz)) : X (d + 2) 0 0 5003 0 0 0 (qent (qml 5003) [.ref 69, .int a]) [] (K, I, L, R, sz) Q := by
  refine e5003 hn h5 hK hR (fun h1 => l5003 hK hR hn h5 (nC + 1) 0 (10 + a) (by omega) ?_) (fun h1 => ?_)
  · rw [Nat.zero_add]
    have h2 : ¬ rst (I 70) nC a = -1 := fun q => h1 (rst_hd h5 q)
    rw [cst, if_neg h2, (rst_up h5 h2).2.2.2] at h
    exact h
  · rw [cst, rst, if_pos h1, if_pos rfl] at h; exact h
theorem l5006 {n : Nat} {m : Int32} (hn : I 69 2 = nI n) (h5 : n ≤ 5) (hK : qLay K sz) (hR : qRef R) (hq : Q (some (.int (hb (I 70) n m n))) (K, I, L, R, sz)) : ∀ (k i : Nat), i + k = n → X (d + 2) 0 0 5006 0 0 4 [some (.ref 69), some (.int m), some (.int (hb (I 70) n m i)), some (.int (nI i))] [] (K, I, L, R, sz) Q := by
  intro k
  induction k with
  | zero =>
    intro i hi
    have hle : I 69 2 ≤ nI i := by rw [hn]; exact nI_le (by omega) (by omega)
    refine g5006_4 hn h5 hK hR (fun _ => ?_) (fun h => absurd hle h) (fun h => absurd hle h)
    rw [show i = n from by omega]; exact hq
  | succ k ih =>
    intro i hi
    have hnl : ¬ I 69 2 ≤ nI i := by rw [hn]; exact nI_ge (by omega) (by omega)
    refine g5006_4 hn h5 hK hR (fun h => absurd h hnl) (fun _ h1 => ?_) (fun _ h1 => ?_)
    · have := ih (i + 1) (by omega)
      rw [hb, if_neg h1] at this
      rw [nI_1]; exact this
    · have := ih (i + 1) (by omega)
      rw [hb, if_pos h1] at this
      rw [nI_1]; exact this
theorem s5006 {nC : Nat} {m : Int32} (hn : I 69 2 = nI nC) (h5 : nC ≤ 5) (hK : qLay K sz) (hR : qRef R) (hq : Q (some (.int (hb (I 70) nC m nC))) (K, I, L, R, sz)) : X (d + 2) 0 0 5006 0 0 0 (qent (qml 5006) [.ref 69, .int m]) [] (K, I, L, R, sz) Q :=
  e5006 (l5006 hn h5 hK hR hq nC 0 (by omega))
theorem s12062 {nS : Nat} {a : Int32} (hK : qLay K sz) (hR : qRef R) (mS : I 73 24 = nI nS) (w5 : nS ≤ 5) (hv : qVal (I 89) nS) (hs : qIn nS a) (hq : Q (some (.int (hd (I 89) nS a))) (K, I, L, R, sz)) : X (d + 1) 0 0 12062 0 0 0 (qent (qml 12062) [.ref 73, .int a]) [] (K, I, L, R, sz) Q := by
  refine t12062 hK hR mS w5 hv hs (fun h => (rst_up w5 h).1) (fun h => ?_) (fun h => ?_)
  · rw [(rst_up w5 h).2.1]; exact hq
  · rw [rst_hd w5 h] at hq; exact hq
/-- look's first loop -/
theorem l5001a {x3 x4 x5 : Int32} (hK : qLay K sz) (hR : qRef R) (hq : X d 0 0 5001 0 0 31 [some (.ref 69), some (.ref 51), some (.ref 55), some (.int x3), some (.int x4), some (.int x5), some (.int 0), none] [] (K, va_up I 70 (qfi (-1) (I 70) 5), L, R, sz) Q) : ∀ (k i : Nat), i + k = 5 → X d 0 0 5001 0 0 8 [some (.ref 69), some (.ref 51), some (.ref 55), some (.int x3), some (.int x4), some (.int x5), some (.int (nI i)), none] [] (K, va_up I 70 (qfi (-1) (I 70) i), L, R, sz) Q := by
  intro k
  induction k with
  | zero =>
    intro i hi
    have hle : 5 ≤ nI i := nI_le (a := 5) (by omega) (by omega)
    refine g5001_8 hK hR (fun h => absurd hle h) (fun _ => ?_) (fun h => absurd hle h)
    rw [show i = 5 from by omega]; exact hq
  | succ k ih =>
    intro i hi
    have hnl : ¬ 5 ≤ nI i := nI_ge (b := 5) (by omega) (by omega)
    refine g5001_8 hK hR (fun _ => vI (by omega) (by omega)) (fun h => absurd h hnl) (fun _ => ?_)
    rw [vu_t, vu_s, nI_c (by omega), nI_1]
    have := ih (i + 1) (by omega)
    rw [← qfi_succ] at this
    exact this
theorem l5001b {x3 t la : Int32} {n : Nat} {b : Nat → Int32} (hK : qLay K sz) (hR : qRef R) (hn : I 51 5 = nI n) (h40 : n ≤ 40) (hw : ∀ i, i < n → vp_in (I 53 i) 5) (hs : qSort (I 54) n) (hq : Q none (K, va_up I 70 (qLy (I 55) (I 52) (I 53) (I 54) t la b n), L, R, sz)) : ∀ (k i : Nat), i + k = n → X d 0 0 5001 0 0 31 [some (.ref 69), some (.ref 51), some (.ref 55), some (.int x3), some (.int t), some (.int la), some (.int (nI i)), none] [] (K, va_up I 70 (qLy (I 55) (I 52) (I 53) (I 54) t la b i), L, R, sz) Q := by
  intro k
  induction k with
  | zero =>
    intro i hi
    have hle : I 51 5 ≤ nI i := by rw [hn]; exact nI_le (by omega) (by omega)
    refine g5001_31 hK hR (fun h => absurd hle h) (fun h => absurd hle h) (fun h => absurd hle h) (fun h => absurd hle h) (fun _ => ?_) (fun h => absurd hle h) (fun h => absurd hle h) (fun h => absurd hle h) (fun h => absurd hle h) (fun h => absurd hle h)
    rw [show i = n from by omega]; exact hq
  | succ k ih =>
    intro i hi
    have hnl : ¬ I 51 5 ≤ nI i := by rw [hn]; exact nI_ge (by omega) (by omega)
    have hc : (nI i).toNatClampNeg = i := nI_c (by omega)
    have hwi := hw i (by omega)
    have ih' := ih (i + 1) (by omega)
    rw [← hc] at hwi
    refine g5001_31 hK hR (fun _ => vI (by omega) (by omega)) (fun _ _ _ _ => hwi) (fun _ _ _ _ _ => hwi) (fun _ _ _ _ _ => hwi) (fun h => absurd h hnl) (fun _ h1 => ?_) (fun _ h1 h2 => ?_) (fun _ h1 h2 h3 => ?_) (fun _ h1 h2 h3 h4 => ?_) (fun _ h1 h2 h3 h4 => ?_)
    · rw [hc] at h1
      rw [← qLy_rest hs (c := I 55) (wo := I 52) (wm := I 53) (la := la) (b := b) (i := i) h1 (n - i) (by omega), show i + (n - i) = n from by omega]
      exact hq
    · rw [hc] at h2
      rw [qLy, if_neg (fun q => q.1 h2)] at ih'
      rw [nI_1]
      exact ih'
    · rw [hc] at h1 h2
      rw [qLy, if_pos ⟨h2, h1⟩, if_pos (Or.inl h3)] at ih'
      rw [nI_1, vu_t, vu_s, hc]
      exact ih'
    · rw [hc] at h1 h2 h4
      replace h4 : la ≤ t - I 54 i := h4
      rw [qLy, if_pos ⟨h2, h1⟩, if_neg (fun q => q.elim h3 (fun w => w h4))] at ih'
      rw [nI_1, vu_t, vu_s, hc]
      exact ih'
    · rw [hc] at h1 h2 h4
      replace h4 : ¬ la ≤ t - I 54 i := h4
      rw [qLy, if_pos ⟨h2, h1⟩, if_pos (Or.inr h4)] at ih'
      rw [nI_1, vu_t, vu_s, hc]
      exact ih'
end L21
