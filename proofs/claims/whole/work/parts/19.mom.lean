/-! chains: the reference's walk comes to the same -/
theorem q_hole : ∀ (m : Nat) {f : Nat → Nat} {n : Nat}, (∀ i, i < n → f i < m) → m < n → ∃ i j, i < j ∧ j < n ∧ f i = f j := by
  intro m
  induction m with
  | zero => intro f n h hm; exact absurd (h 0 (by omega)) (by omega)
  | succ m ih =>
    intro f n h hm
    by_cases hx : ∃ i, i < m + 1 ∧ f i = f (m + 1)
    · obtain ⟨i, h1, h2⟩ := hx
      exact ⟨i, m + 1, h1, hm, h2⟩
    · obtain ⟨i, j, h1, h2, h3⟩ := ih (f := fun i => if f (m + 1) < f i then f i - 1 else f i) (n := m + 1) (fun i hi => by
        have e1 := h i (by omega)
        have e2 := h (m + 1) hm
        have e3 : f i ≠ f (m + 1) := fun e => hx ⟨i, hi, e⟩
        by_cases hg : f (m + 1) < f i
        · rw [if_pos hg]; omega
        · rw [if_neg hg]; omega) (by omega)
      have e3 : f i ≠ f (m + 1) := fun e => hx ⟨i, by omega, e⟩
      have e4 : f j ≠ f (m + 1) := fun e => hx ⟨j, by omega, e⟩
      refine ⟨i, j, h1, by omega, ?_⟩
      by_cases hg : f (m + 1) < f i <;> by_cases hk : f (m + 1) < f j
      · rw [if_pos hg, if_pos hk] at h3; omega
      · rw [if_pos hg, if_neg hk] at h3; omega
      · rw [if_neg hg, if_pos hk] at h3; omega
      · rw [if_neg hg, if_neg hk] at h3; omega
theorem vu_s {α : Type} {f : Nat → α} {i : Nat} {v : α} : va_up f i v i = v := by simp [va_up]
theorem vu_n {α : Type} {f : Nat → α} {i j : Nat} {v : α} (h : j ≠ i) : va_up f i v j = f j := by simp [va_up, h]
theorem vu_t {α : Type} {f : Nat → α} {i : Nat} {v w : α} : va_up (va_up f i v) i w = va_up f i w := by funext j; simp only [va_up]; split <;> rfl
theorem vu_id {α : Type} {f : Nat → α} {i : Nat} : va_up f i (f i) = f := by funext j; simp only [va_up]; split <;> simp_all
/-- one look on -/
def st1 (f : Nat → Int32) (a : Int32) : Int32 := if 10 ≤ a ∧ a ≤ 14 then f (a - 10).toNatClampNeg else a
theorem hx_0 {f : Nat → Int32} {a : Int32} : hx f 0 a = a := rfl
theorem hx_out {f : Nat → Int32} {a : Int32} (h : ¬ (10 ≤ a ∧ a ≤ 14)) : ∀ k, hx f k a = a
  | 0 => rfl
  | _ + 1 => hx_e h
theorem hx_st {f : Nat → Int32} : ∀ (k : Nat) (a : Int32), hx f (k + 1) a = hx f k (st1 f a) := by
  intro k a
  unfold st1
  split
  · next h => exact hx_s h.1 h.2
  · next h => rw [hx_out h, hx_out h]
theorem hx_st' {f : Nat → Int32} : ∀ (k : Nat) (a : Int32), hx f (k + 1) a = st1 f (hx f k a) := by
  intro k
  induction k with
  | zero => intro a; exact hx_st 0 a
  | succ k ih => intro a; rw [hx_st (k + 1) a, ih, ← hx_st k a]
theorem hx_add {f : Nat → Int32} (j : Nat) : ∀ (k : Nat) (a : Int32), hx f (j + k) a = hx f k (hx f j a) := by
  intro k
  induction k with
  | zero => intro a; rfl
  | succ k ih => intro a; rw [← Nat.add_assoc, hx_st', ih, ← hx_st' k]
/-- a reading of the leanings with n servants: master, nobody, or one of the n -/
def qVal (f : Nat → Int32) (n : Nat) : Prop := ∀ j, j < n → ¬ 10 ≤ f j ∨ ∃ i, i < n ∧ f j = nI (10 + i)
theorem hx_val {f : Nat → Int32} {n s : Nat} (hv : qVal f n) (hs : s < n) (hn : n ≤ 5) : ∀ k, ¬ 10 ≤ hx f k (nI (10 + s)) ∨ ∃ i, i < n ∧ hx f k (nI (10 + s)) = nI (10 + i) := by
  intro k
  induction k with
  | zero => exact Or.inr ⟨s, hs, rfl⟩
  | succ k ih =>
    rw [hx_st']
    rcases ih with h | ⟨i, hi, h⟩
    · rw [st1, if_neg (fun q => h q.1)]; exact Or.inl h
    · rw [h, st1, if_pos (qsv_nI (by omega)), show (10 + i) = 10 + i from rfl, show (nI (10 + i) - 10 : Int32) = nI i from by rw [← q_10p, Int32.add_comm, Int32.add_sub_cancel], nI_c (by omega)]
      exact hv i hi
theorem qsv_of {f : Nat → Int32} {n s k : Nat} (hv : qVal f n) (hs : s < n) (hn : n ≤ 5) (h : 10 ≤ hx f k (nI (10 + s))) : ∃ i, i < n ∧ hx f k (nI (10 + s)) = nI (10 + i) := (hx_val hv hs hn k).resolve_left (fun q => q h)
/-- who is a servant still after n looks is one for ever -/
theorem hx_loop {f : Nat → Int32} {n s : Nat} (hv : qVal f n) (hs : s < n) (hn : n ≤ 5) (h : 10 ≤ hx f n (nI (10 + s))) : ∀ k, 10 ≤ hx f k (nI (10 + s)) := by
  have hle : ∀ k, k ≤ n → 10 ≤ hx f k (nI (10 + s)) := by
    intro k hk
    apply Classical.byContradiction
    intro q
    have := hx_out (f := f) (fun w => q w.1) (n - k)
    rw [← hx_add, show k + (n - k) = n from by omega] at this
    rw [this] at h
    exact q h
  have hu : ∀ k, ∃ i, k ≤ n → i < n ∧ hx f k (nI (10 + s)) = nI (10 + i) := by
    intro k
    by_cases hk : k ≤ n
    · obtain ⟨i, hi⟩ := qsv_of hv hs hn (hle k hk)
      exact ⟨i, fun _ => hi⟩
    · exact ⟨0, fun q => absurd q hk⟩
  obtain ⟨i, j, h1, h2, h3⟩ := q_hole n (f := fun k => (hu k).choose) (n := n + 1) (fun k hk => ((hu k).choose_spec (by omega)).1) (by omega)
  have e : hx f i (nI (10 + s)) = hx f j (nI (10 + s)) := by
    rw [((hu i).choose_spec (by omega)).2, ((hu j).choose_spec (by omega)).2]
    exact congrArg (fun q => nI (10 + q)) h3
  intro k
  induction k using Nat.strongRecOn with
  | _ k ih =>
    by_cases hk : k ≤ n
    · exact hle k hk
    · have := hx_add (f := f) j (k - j) (nI (10 + s))
      rw [show j + (k - j) = k from by omega, ← e, ← hx_add] at this
      rw [this]
      exact ih _ (by omega)
theorem hx_cong {f g : Nat → Int32} {n s : Nat} (hv : qVal f n) (hs : s < n) (hn : n ≤ 5) (hfg : ∀ j, j < n → g j = f j) : ∀ k, hx g k (nI (10 + s)) = hx f k (nI (10 + s)) := by
  intro k
  induction k with
  | zero => rfl
  | succ k ih =>
    rw [hx_st', hx_st', ih]
    rcases hx_val hv hs hn k with h | ⟨i, hi, h⟩
    · rw [st1, st1, if_neg (fun q => h q.1), if_neg (fun q => h q.1)]
    · rw [h, st1, st1, if_pos (qsv_nI (by omega)), if_pos (qsv_nI (by omega)), show (nI (10 + i) - 10 : Int32) = nI i from by rw [← q_10p, Int32.add_comm, Int32.add_sub_cancel], nI_c (by omega)]
      exact hfg i hi
theorem hd_cong {f g : Nat → Int32} {n s : Nat} (hv : qVal f n) (hs : s < n) (hn : n ≤ 5) (hfg : ∀ j, j < n → g j = f j) : hd g n (nI s) = hd f n (nI s) := by
  unfold hd
  rw [q_10p, hx_cong hv hs hn hfg]
/-- a count of looks, by where the last stays -/
theorem sx_eq {f : Nat → Int32} : ∀ (i k : Nat) (a : Int32), i ≤ k → (∀ j, j < i → 10 ≤ hx f j a ∧ hx f j a ≤ 14) → ¬ (10 ≤ hx f i a ∧ hx f i a ≤ 14) → sx f k a = i := by
  intro i
  induction i with
  | zero =>
    intro k a _ _ h
    cases k with
    | zero => rfl
    | succ k =>
      rw [hx_0] at h
      rw [sx, if_neg h]
  | succ i ih =>
    intro k a hk h1 h2
    cases k with
    | zero => omega
    | succ k =>
      have h0 := h1 0 (by omega)
      rw [hx_0] at h0
      rw [sx, if_pos h0]
      have e : ∀ j, hx f j (f (a - 10).toNatClampNeg) = hx f (j + 1) a := fun j => (hx_s h0.1 h0.2).symm
      rw [ih k _ (by omega) (fun j hj => by rw [e]; exact h1 (j + 1) (by omega)) (by rw [e]; exact h2)]
/-- the reference's STEPS -/
def rst (f : Nat → Int32) (n : Nat) (s : Int32) : Int32 := if hd f n s = -1 then -1 else nI (sx f (n + 1) (10 + s))
theorem i10m1 : ¬ (10 : Int32) ≤ -1 := by decide
theorem hd_end {f : Nat → Int32} {n s i : Nat} (hi : i ≤ n + 1) (h : ¬ 10 ≤ hx f i (nI (10 + s))) : hd f n (nI s) = hx f i (nI (10 + s)) := by
  have := hx_out (f := f) (fun w => h w.1) (n + 1 - i)
  rw [← hx_add, show i + (n + 1 - i) = n + 1 from by omega] at this
  rw [hd, q_10p, if_neg (by rw [this]; exact fun w => h w.1), this]
section L19
variable {d : Nat} {K : qK} {I : Nat → Nat → Int32} {L : Nat → Nat → Int64} {R : Nat → Nat → Option Nat} {sz : Nat} {Q : Option Value → qMem → Prop}
theorem l12060 {n s : Nat} {a : Int32} (hK : qLay K sz) (hR : qRef R) (mS : I 73 24 = nI n) (h5 : n ≤ 5) (hv : qVal (I 89) n) (hs : s < n) : ∀ (k i : Nat), i + k = n → (∀ j, j ≤ i → 10 ≤ hx (I 89) j (nI (10 + s))) → Q (some (.int (rst (I 89) n (nI s)))) (K, I, L, R, sz) → X d 0 0 12060 0 0 7 [some (.ref 73), some (.int a), some (.int (hx (I 89) i (nI (10 + s)))), some (.int (nI (i + 1)))] [] (K, I, L, R, sz) Q := by
  intro k
  induction k with
  | zero =>
    intro i hi hj hq
    have hlt : I 73 24 < nI (i + 1) := by rw [mS]; exact nI_lt (by omega) (by omega)
    refine g12060_7 hK hR (fun h => absurd hlt h) (fun _ => ?_) (fun h => absurd hlt h) (fun h => absurd hlt h) (fun h => absurd hlt h)
    have := hx_loop hv hs h5 (hj n (by omega)) (n + 1)
    have h2 : hd (I 89) n (nI s) = -1 := by
      obtain ⟨w, hw, e⟩ := qsv_of hv hs h5 this
      rw [hd, q_10p, e, if_pos (qsv_nI (by omega))]
    rw [rst, if_pos h2] at hq
    exact hq
  | succ k ih =>
    intro i hi hj hq
    have hnl : ¬ I 73 24 < nI (i + 1) := by rw [mS]; exact nI_nlt (by omega) (by omega)
    obtain ⟨w, hw, e⟩ := qsv_of hv hs h5 (hj i (Nat.le_refl _))
    have hsv : 10 ≤ hx (I 89) i (nI (10 + s)) ∧ hx (I 89) i (nI (10 + s)) ≤ 14 := by rw [e]; exact qsv_nI (by omega)
    have hn1 : I 89 (hx (I 89) i (nI (10 + s)) - 10).toNatClampNeg = hx (I 89) (i + 1) (nI (10 + s)) := by rw [hx_st', st1, if_pos hsv]
    have hall : ∀ j, j < i + 1 → 10 ≤ hx (I 89) j (nI (10 + s)) ∧ hx (I 89) j (nI (10 + s)) ≤ 14 := by
      intro j hj'
      obtain ⟨w, hw, e⟩ := qsv_of hv hs h5 (hj j (by omega))
      rw [e]; exact qsv_nI (by omega)
    refine g12060_7 hK hR (fun _ => qsv_in hsv.1 hsv.2) (fun h => absurd h hnl) (fun _ h1 h2 => ?_) (fun _ h1 h2 => ?_) (fun _ h1 => ?_)
    · rw [hn1] at h2 ⊢
      rw [nI_1]
      exact ih (i + 1) (by omega) (fun j hj' => by
        by_cases hh : j = i + 1
        · rw [hh]; exact h2
        · exact hj j (by omega)) hq
    · rw [hn1] at h1 h2
      have h3 := hd_end (n := n) (i := i + 1) (by omega) h2
      rw [rst, h3, if_neg h1, q_10p, sx_eq (i + 1) (n + 1) _ (by omega) hall (fun w => h2 w.1)] at hq
      exact hq
    · rw [hn1] at h1
      have h3 : hd (I 89) n (nI s) = -1 := by
        rw [← h1]
        exact hd_end (n := n) (i := i + 1) (by omega) (by rw [h1]; exact i10m1)
      rw [rst, if_pos h3] at hq
      exact hq
theorem s12060 {n s : Nat} {a : Int32} (hK : qLay K sz) (hR : qRef R) (mS : I 73 24 = nI n) (h5 : n ≤ 5) (hv : qVal (I 89) n) (hs : s < n) (ha : a = nI s) (hq : Q (some (.int (rst (I 89) n a))) (K, I, L, R, sz)) : X d 0 0 12060 0 0 0 (qent (qml 12060) [.ref 73, .int a]) [] (K, I, L, R, sz) Q := by
  subst ha
  refine e12060 ?_
  rw [q_10p]
  exact l12060 (a := nI s) hK hR mS h5 hv hs n 0 (by omega) (fun j hj => by
    rw [show j = 0 from by omega]; exact (qsv_nI (by omega)).1) hq
theorem l12061 {m : Nat} {a b z : Int32} (hK : qLay K sz) (hR : qRef R) (hb : b = nI m) (hm : m < 100) : ∀ (k i : Nat), i + k = m → (∀ j, j < m → 10 ≤ hx (I 89) j z ∧ hx (I 89) j z ≤ 14) → Q (some (.int (hx (I 89) m z))) (K, I, L, R, sz) → X d 0 0 12061 0 0 8 [some (.ref 73), some (.int a), some (.int b), some (.int (hx (I 89) i z)), some (.int (nI i))] [] (K, I, L, R, sz) Q := by
  intro k
  induction k with
  | zero =>
    intro i hi hj hq
    have hle : b ≤ nI i := by rw [hb]; exact nI_le (by omega) (by omega)
    refine g12061_8 hK hR (fun h => absurd hle h) (fun _ => ?_) (fun h => absurd hle h)
    rw [show i = m from by omega]; exact hq
  | succ k ih =>
    intro i hi hj hq
    have hnl : ¬ b ≤ nI i := by rw [hb]; exact nI_ge (by omega) (by omega)
    have hsv := hj i (by omega)
    refine g12061_8 hK hR (fun _ => qsv_in hsv.1 hsv.2) (fun h => absurd h hnl) (fun _ => ?_)
    have hn1 : I 89 (hx (I 89) i z - 10).toNatClampNeg = hx (I 89) (i + 1) z := by rw [hx_st', st1, if_pos hsv]
    rw [hn1, nI_1]
    exact ih (i + 1) (by omega) hj hq
theorem s12061 {m : Nat} {a b : Int32} (hK : qLay K sz) (hR : qRef R) (hb : b = nI m) (hm : m < 100) (hj : ∀ j, j < m → 10 ≤ hx (I 89) j (10 + a) ∧ hx (I 89) j (10 + a) ≤ 14) (hq : Q (some (.int (hx (I 89) m (10 + a)))) (K, I, L, R, sz)) : X d 0 0 12061 0 0 0 (qent (qml 12061) [.ref 73, .int a, .int b]) [] (K, I, L, R, sz) Q :=
  e12061 (l12061 hK hR hb hm m 0 (by omega) hj hq)
end L19
