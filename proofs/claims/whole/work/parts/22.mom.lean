/-! the looks of both -/
theorem qIn_vp {n m : Nat} {a : Int32} (h : qIn n a) (hn : n ≤ m) (hm : m < 2147483648) : vp_in a m := by
  obtain ⟨s, h1, h2⟩ := h
  rw [h2]; exact vI (by omega) hm
theorem qLy_off {c wo wm mi b : Nat → Int32} {t la : Int32} {nS k : Nat} (hk : nS ≤ k) (h5 : nS ≤ 5) : ∀ n, (∀ i, i < n → qIn nS (wm i)) → qLy c wo wm mi t la b n k = b k := by
  intro n
  induction n with
  | zero => intro _; rfl
  | succ n ih =>
    intro hw
    rw [qLy]
    split
    · obtain ⟨s, h1, h2⟩ := hw n (by omega)
      rw [h2, nI_c (by omega), upd, if_neg (by omega)]
      exact ih fun i hi => hw i (by omega)
    · exact ih fun i hi => hw i (by omega)
/-- the reference's way of laying: servant by servant -/
def qRl (f : Nat → Nat → Int32) (n s i : Nat) : Nat → Int32 := fun k => if k < s then f n k else if k = s then f i k else f 0 k
theorem qRl_next (f : Nat → Nat → Int32) (n s : Nat) : qRl f n s n = qRl f n (s + 1) 0 := by
  funext k
  simp only [qRl]
  by_cases h : k < s
  · simp [h, show k < s + 1 from by omega]
  · by_cases h2 : k = s
    · subst h2; simp
    · simp [h, h2, show ¬ k < s + 1 from by omega]
theorem qRl_step {f : Nat → Nat → Int32} {n s i : Nat} (h : f (i + 1) s = f i s) : qRl f n s (i + 1) = qRl f n s i := by
  funext k
  simp only [qRl]
  by_cases h2 : k = s
  · subst h2; simp [h]
  · simp [h2]
theorem qRl_upd {f : Nat → Nat → Int32} {n s i : Nat} {v : Int32} (h : f (i + 1) s = v) : upd (qRl f n s i) s v = qRl f n s (i + 1) := by
  funext k
  simp only [qRl, upd]
  by_cases h2 : k = s
  · subst h2; simp [h]
  · simp [h2]

section L22
variable {d : Nat} {K : qK} {I : Nat → Nat → Int32} {L : Nat → Nat → Int64} {R : Nat → Nat → Option Nat} {sz : Nat} {Q : Option Value → qMem → Prop}
theorem e12063 {a : Int32}    (q1 : X d 0 0 12063 0 0 4 [some (.ref 73), some (.int a), some (.int 0), some (.int 0)] [] (K, I, L, R, sz) Q) : X d 0 0 12063 0 0 0 (qent (qml 12063) [.ref 73, .int a]) [] (K, I, L, R, sz) Q := show X _ 0 0 12063 0 0 0 [some (.ref 73), some (.int a), none, none] [] _ _ from x_iconst (v := 0) k12063_0 rfl <| x_ist2 k12063_1 (Nat.le_of_ble_eq_true rfl) rfl <| x_iconst (v := 0) k12063_2 rfl <| x_ist3 k12063_3 (Nat.le_of_ble_eq_true rfl) rfl <| q1
theorem g12063_4 {x1 : Int32} {x2 : Int32} {x3 : Int32}  {nS : Nat} (hK : qLay K sz) (hR : qRef R) (mS : I 73 24 = nI nS) (w5 : nS ≤ 5) (b1 : ¬ (I 73 24) ≤ x3 → qVal (I 89) nS) (b2 : ¬ (I 73 24) ≤ x3 → qIn nS x3) (q1 : (I 73 24) ≤ x3 → Q (some (.int x2)) (K, I, L, R, sz)) (q2 : ¬ (I 73 24) ≤ x3 → ¬ (hd (I 89) nS x3) = x1 → X (d + 2) 0 0 12063 0 0 4 [some (.ref 73), some (.int x1), some (.int (x2 ||| 0)), some (.int (x3 + 1))] [] (K, I, L, R, sz) Q) (q3 : ¬ (I 73 24) ≤ x3 → (hd (I 89) nS x3) = x1 → X (d + 2) 0 0 12063 0 0 4 [some (.ref 73), some (.int x1), some (.int (x2 ||| (1 <<< (x3 &&& 31)))), some (.int (x3 + 1))] [] (K, I, L, R, sz) Q) : X (d + 2) 0 0 12063 0 0 4 [some (.ref 73), some (.int x1), some (.int x2), some (.int x3)] [] (K, I, L, R, sz) Q := x_ild3 k12063_4 <| x_ald0 k12063_5 <| x_getI k12063_6 f12_289_11 (hK.at rfl) rfl <| x_icmpge (tgt := 37) k12063_9 (by decide) (fun h1 => x_ild2 k12063_37 <| x_iret k12063_38 rfl (Nat.le_refl _) (Nat.le_refl _) <| (q1 h1)) (fun h1 => x_ild2 k12063_12 <| x_ald0 k12063_13 <| x_ild3 k12063_14 <| x_cV1 (MCz := 0) (MSz := 0) k12063_15 v12_345_11 (hK.at rfl) (Nat.le_of_ble_eq_true rfl) (Nat.le_of_ble_eq_true rfl) (Nat.le_refl _) (Nat.le_refl _) <| s12062 hK hR mS w5 (b1 h1) (b2 h1) (x_ild1 k12063_18 <| x_icmpne (tgt := 28) k12063_19 (by decide) (fun h2 => x_iconst (v := 0) k12063_28 rfl <| x_ior k12063_29 <| x_ist2 k12063_30 (Nat.le_of_ble_eq_true rfl) rfl <| x_inc3 (c := 1) k12063_31 rfl (Nat.le_of_ble_eq_true rfl) rfl <| x_goto (tgt := 4) k12063_34 (by decide) <| (q2 h1 h2)) (fun h2 => x_iconst (v := 1) k12063_22 rfl <| x_ild3 k12063_23 <| x_ishl k12063_24 <| x_goto (tgt := 29) k12063_25 (by decide) <| x_ior k12063_29 <| x_ist2 k12063_30 (Nat.le_of_ble_eq_true rfl) rfl <| x_inc3 (c := 1) k12063_31 rfl (Nat.le_of_ble_eq_true rfl) rfl <| x_goto (tgt := 4) k12063_34 (by decide) <| (q3 h1 h2))))

theorem l12058a {t : Int32} {nS : Nat} (hK : qLay K sz) (hR : qRef R) (mS : I 73 24 = nI nS) (w5 : nS ≤ 5) (hq : X d 0 0 12058 0 0 25 [some (.ref 73), some (.int t), some (.int 0), none] [] (K, va_up I 89 (qfi (-1) (I 89) nS), L, R, sz) Q) : ∀ (k i : Nat), i + k = nS → X d 0 0 12058 0 0 2 [some (.ref 73), some (.int t), some (.int (nI i)), none] [] (K, va_up I 89 (qfi (-1) (I 89) i), L, R, sz) Q := by
  intro k
  induction k with
  | zero =>
    intro i hi
    have hle : I 73 24 ≤ nI i := by rw [mS]; exact nI_le (by omega) (by omega)
    refine g12058b_2 hK hR (fun h => absurd hle h) (fun _ => ?_) (fun h => absurd hle h)
    rw [show i = nS from by omega]; exact hq
  | succ k ih =>
    intro i hi
    have hnl : ¬ I 73 24 ≤ nI i := by rw [mS]; exact nI_ge (by omega) (by omega)
    refine g12058b_2 hK hR (fun _ => vI (by omega) (by omega)) (fun h => absurd h hnl) (fun _ => ?_)
    rw [vu_t, vu_s, nI_c (by omega), nI_1]
    have := ih (i + 1) (by omega)
    rw [← qfi_succ] at this
    exact this
theorem l12058c {t : Int32} {n s nS : Nat} {b : Nat → Int32} (hK : qLay K sz) (hR : qRef R) (hn : I 73 33 = nI n) (h40 : n ≤ 40) (w5 : nS ≤ 5) (hs : s < nS) (hw : ∀ i, i < n → qIn nS (I 87 i)) (hq : X d 0 0 12058 0 0 25 [some (.ref 73), some (.int t), some (.int (nI (s + 1))), none] [] (K, va_up I 89 (qRl (qLy (I 90) (I 86) (I 87) (I 88) t (I 73 28) b) n (s + 1) 0), L, R, sz) Q) : ∀ (k i : Nat), i + k = n → X d 0 0 12058 0 0 35 [some (.ref 73), some (.int t), some (.int (nI s)), some (.int (nI i))] [] (K, va_up I 89 (qRl (qLy (I 90) (I 86) (I 87) (I 88) t (I 73 28) b) n s i), L, R, sz) Q := by
  intro k
  induction k with
  | zero =>
    intro i hi
    have hle : I 73 33 ≤ nI i := by rw [hn]; exact nI_le (by omega) (by omega)
    refine g12058b_35 hK hR (fun h => absurd hle h) (fun h => absurd hle h) (fun h => absurd hle h) (fun h => absurd hle h) (fun _ => ?_) (fun h => absurd hle h) (fun h => absurd hle h) (fun h => absurd hle h) (fun h => absurd hle h) (fun h => absurd hle h) (fun h => absurd hle h)
    rw [nI_1, show i = n from by omega, qRl_next]; exact hq
  | succ k ih =>
    intro i hi
    have hnl : ¬ I 73 33 ≤ nI i := by rw [hn]; exact nI_ge (by omega) (by omega)
    have hc : (nI i).toNatClampNeg = i := nI_c (by omega)
    have hcs : (nI s).toNatClampNeg = s := nI_c (by omega)
    obtain ⟨w, hw1, hw2⟩ := hw i (by omega)
    have hcw : (nI w).toNatClampNeg = w := nI_c (by omega)
    have ih' := ih (i + 1) (by omega)
    have hs5 : vp_in (nI s) 5 := vI (by omega) (by omega)
    refine g12058b_35 hK hR (fun _ => vI (by omega) (by omega)) (fun _ _ _ _ _ => hs5) (fun _ _ _ _ _ _ => hs5) (fun _ _ _ _ _ _ => hs5) (fun h => absurd h hnl) (fun _ h1 => ?_) (fun _ h1 h2 => ?_) (fun _ h1 h2 h3 => ?_) (fun _ h1 h2 h3 h4 => ?_) (fun _ h1 h2 h3 h4 h5 => ?_) (fun _ h1 h2 h3 h4 h5 => ?_)
    · replace h1 : I 90 i = 0 := by rw [hc] at h1; exact h1
      rw [qRl_step (by rw [qLy, if_neg (fun q => q.1 h1)])] at ih'
      rw [nI_1]; exact ih'
    · replace h2 : ¬ I 87 i = nI s := by rw [hc] at h2; exact h2
      have : ¬ s = w := fun q => h2 (by rw [hw2, q])
      rw [qRl_step (by rw [qLy]; split; (rw [hw2, hcw, upd, if_neg this]); rfl)] at ih'
      rw [nI_1]; exact ih'
    · replace h3 : t < I 88 i := by rw [hc] at h3; exact h3
      rw [qRl_step (by rw [qLy, if_neg (fun q => q.2 h3)])] at ih'
      rw [nI_1]; exact ih'
    · replace h1 : ¬ I 90 i = 0 := by rw [hc] at h1; exact h1
      replace h2 : I 87 i = nI s := by rw [hc] at h2; exact h2
      replace h3 : ¬ t < I 88 i := by rw [hc] at h3; exact h3
      replace h4 : I 73 28 = 0 := h4
      rw [vu_t, vu_s, hcs, hc, nI_1]
      rw [← qRl_upd (v := I 86 i) (by rw [qLy, if_pos ⟨h1, h3⟩, h2, hcs, if_pos (Or.inl h4)]; simp [upd])] at ih'
      exact ih'
    · replace h1 : ¬ I 90 i = 0 := by rw [hc] at h1; exact h1
      replace h2 : I 87 i = nI s := by rw [hc] at h2; exact h2
      replace h3 : ¬ t < I 88 i := by rw [hc] at h3; exact h3
      replace h4 : ¬ I 73 28 = 0 := h4
      replace h5 : I 73 28 ≤ t - I 88 i := by rw [hc] at h5; exact h5
      rw [vu_t, vu_s, hcs, nI_1]
      rw [← qRl_upd (v := -1) (by rw [qLy, if_pos ⟨h1, h3⟩, h2, hcs, if_neg (fun q => q.elim h4 (fun w => w h5))]; simp [upd])] at ih'
      exact ih'
    · replace h1 : ¬ I 90 i = 0 := by rw [hc] at h1; exact h1
      replace h2 : I 87 i = nI s := by rw [hc] at h2; exact h2
      replace h3 : ¬ t < I 88 i := by rw [hc] at h3; exact h3
      replace h5 : ¬ I 73 28 ≤ t - I 88 i := by rw [hc] at h5; exact h5
      rw [vu_t, vu_s, hcs, hc, nI_1]
      rw [← qRl_upd (v := I 86 i) (by rw [qLy, if_pos ⟨h1, h3⟩, h2, hcs, if_pos (Or.inr h5)]; simp [upd])] at ih'
      exact ih'
theorem l12058b {t : Int32} {n nS : Nat} {b : Nat → Int32} (hK : qLay K sz) (hR : qRef R) (mS : I 73 24 = nI nS) (hn : I 73 33 = nI n) (h40 : n ≤ 40) (w5 : nS ≤ 5) (hw : ∀ i, i < n → qIn nS (I 87 i)) (hq : Q none (K, va_up I 89 (qLy (I 90) (I 86) (I 87) (I 88) t (I 73 28) b n), L, R, sz)) : ∀ (k s : Nat), s + k = nS → X d 0 0 12058 0 0 25 [some (.ref 73), some (.int t), some (.int (nI s)), none] [] (K, va_up I 89 (qRl (qLy (I 90) (I 86) (I 87) (I 88) t (I 73 28) b) n s 0), L, R, sz) Q := by
  intro k
  induction k with
  | zero =>
    intro s hs
    have hle : I 73 24 ≤ nI s := by rw [mS]; exact nI_le (by omega) (by omega)
    refine g12058b_25 hK (fun _ => ?_) (fun h => absurd hle h)
    have : qRl (qLy (I 90) (I 86) (I 87) (I 88) t (I 73 28) b) n s 0 = qLy (I 90) (I 86) (I 87) (I 88) t (I 73 28) b n := by
      funext k
      simp only [qRl]
      by_cases h : k < s
      · simp [h]
      · simp only [h, if_false, ite_self]
        rw [qLy_off (nS := nS) (by omega) w5 n hw]
        rfl
    rw [this]; exact hq
  | succ k ih =>
    intro s hs
    have hnl : ¬ I 73 24 ≤ nI s := by rw [mS]; exact nI_ge (by omega) (by omega)
    refine g12058b_25 hK (fun h => absurd h hnl) (fun _ => ?_)
    exact l12058c hK hR hn h40 w5 (by omega) hw (ih (s + 1) (by omega)) n 0 (by omega)
theorem s12058 {t : Int32} {n nS : Nat} (hK : qLay K sz) (hR : qRef R) (mS : I 73 24 = nI nS) (hn : I 73 33 = nI n) (h40 : n ≤ 40) (w5 : nS ≤ 5) (hw : ∀ i, i < n → qIn nS (I 87 i)) (hq : Q none (K, va_up I 89 (qLy (I 90) (I 86) (I 87) (I 88) t (I 73 28) (qfi (-1) (I 89) nS) n), L, R, sz)) : X d 0 0 12058 0 0 0 (qent (qml 12058) [.ref 73, .int t]) [] (K, I, L, R, sz) Q := by
  refine e12058b ?_
  have h1 := l12058b (I := va_up I 89 (qfi (-1) (I 89) nS)) (t := t) (d := d) (b := qfi (-1) (I 89) nS) hK hR mS hn h40 w5 hw (Q := Q) (by rw [vu_t]; exact hq) nS 0 (by omega)
  have h2 : qRl (qLy (I 90) (I 86) (I 87) (I 88) t (I 73 28) (qfi (-1) (I 89) nS)) n 0 0 = qfi (-1) (I 89) nS := by
    funext k
    simp only [qRl, Nat.not_lt_zero, if_false, ite_self]
    rfl
  have h3 := l12058a (I := I) hK hR mS w5 (t := t) (Q := Q) (d := d) (L := L) (by
    rw [vu_t] at h1
    refine Eq.mp ?_ h1
    rw [show qRl (qLy (va_up I 89 (qfi (-1) (I 89) nS) 90) (va_up I 89 (qfi (-1) (I 89) nS) 86) (va_up I 89 (qfi (-1) (I 89) nS) 87) (va_up I 89 (qfi (-1) (I 89) nS) 88) t (va_up I 89 (qfi (-1) (I 89) nS) 73 28) (qfi (-1) (I 89) nS)) n 0 0 = _ from h2]
    rfl) nS 0 (by omega)
  rw [qfi_0, vu_id] at h3
  exact h3
theorem s5001 {a t la : Int32} {n : Nat} (hK : qLay K sz) (hR : qRef R) (hn : I 51 5 = nI n) (h40 : n ≤ 40) (hw : ∀ i, i < n → vp_in (I 53 i) 5) (hs : qSort (I 54) n) (hq : Q none (K, va_up (va_up I 69 (upd (I 69) 2 a)) 70 (qLy (I 55) (I 52) (I 53) (I 54) t la (qfi (-1) (I 70) 5) n), L, R, sz)) : X d 0 0 5001 0 0 0 (qent (qml 5001) [.ref 69, .ref 51, .ref 55, .int a, .int t, .int la]) [] (K, I, L, R, sz) Q := by
  refine e5001 hK ?_
  have h1 := l5001b (I := va_up I 69 (upd (I 69) 2 a)) (x3 := a) (t := t) (la := la) (d := d) (Q := Q) (L := L) (b := qfi (-1) (I 70) 5) hK hR hn h40 hw hs hq n 0 (by omega)
  have h2 := l5001a (I := va_up I 69 (upd (I 69) 2 a)) hK hR h1 5 0 (by omega)
  rw [qfi_0, vu_id] at h2
  exact h2

/-- look's first loop -/
theorem l5001aw {x3 x4 x5 : Int32} (hK : qLay K sz) (hR : qRef R) (hq : X d 0 0 5001 0 0 31 [some (.ref 69), some (.ref 51), some (.ref 56), some (.int x3), some (.int x4), some (.int x5), some (.int 0), none] [] (K, va_up I 70 (qfi (-1) (I 70) 5), L, R, sz) Q) : ∀ (k i : Nat), i + k = 5 → X d 0 0 5001 0 0 8 [some (.ref 69), some (.ref 51), some (.ref 56), some (.int x3), some (.int x4), some (.int x5), some (.int (nI i)), none] [] (K, va_up I 70 (qfi (-1) (I 70) i), L, R, sz) Q := by
  intro k
  induction k with
  | zero =>
    intro i hi
    have hle : 5 ≤ nI i := nI_le (a := 5) (by omega) (by omega)
    refine g5001w_8 hK hR (fun h => absurd hle h) (fun _ => ?_) (fun h => absurd hle h)
    rw [show i = 5 from by omega]; exact hq
  | succ k ih =>
    intro i hi
    have hnl : ¬ 5 ≤ nI i := nI_ge (b := 5) (by omega) (by omega)
    refine g5001w_8 hK hR (fun _ => vI (by omega) (by omega)) (fun h => absurd h hnl) (fun _ => ?_)
    rw [vu_t, vu_s, nI_c (by omega), nI_1]
    have := ih (i + 1) (by omega)
    rw [← qfi_succ] at this
    exact this
theorem l5001bw {x3 t la : Int32} {n : Nat} {b : Nat → Int32} (hK : qLay K sz) (hR : qRef R) (hn : I 51 5 = nI n) (h40 : n ≤ 40) (hw : ∀ i, i < n → vp_in (I 53 i) 5) (hs : qSort (I 54) n) (hq : Q none (K, va_up I 70 (qLy (I 56) (I 52) (I 53) (I 54) t la b n), L, R, sz)) : ∀ (k i : Nat), i + k = n → X d 0 0 5001 0 0 31 [some (.ref 69), some (.ref 51), some (.ref 56), some (.int x3), some (.int t), some (.int la), some (.int (nI i)), none] [] (K, va_up I 70 (qLy (I 56) (I 52) (I 53) (I 54) t la b i), L, R, sz) Q := by
  intro k
  induction k with
  | zero =>
    intro i hi
    have hle : I 51 5 ≤ nI i := by rw [hn]; exact nI_le (by omega) (by omega)
    refine g5001w_31 hK hR (fun h => absurd hle h) (fun h => absurd hle h) (fun h => absurd hle h) (fun h => absurd hle h) (fun _ => ?_) (fun h => absurd hle h) (fun h => absurd hle h) (fun h => absurd hle h) (fun h => absurd hle h) (fun h => absurd hle h)
    rw [show i = n from by omega]; exact hq
  | succ k ih =>
    intro i hi
    have hnl : ¬ I 51 5 ≤ nI i := by rw [hn]; exact nI_ge (by omega) (by omega)
    have hc : (nI i).toNatClampNeg = i := nI_c (by omega)
    have hwi := hw i (by omega)
    have ih' := ih (i + 1) (by omega)
    rw [← hc] at hwi
    refine g5001w_31 hK hR (fun _ => vI (by omega) (by omega)) (fun _ _ _ _ => hwi) (fun _ _ _ _ _ => hwi) (fun _ _ _ _ _ => hwi) (fun h => absurd h hnl) (fun _ h1 => ?_) (fun _ h1 h2 => ?_) (fun _ h1 h2 h3 => ?_) (fun _ h1 h2 h3 h4 => ?_) (fun _ h1 h2 h3 h4 => ?_)
    · rw [hc] at h1
      rw [← qLy_rest hs (c := I 56) (wo := I 52) (wm := I 53) (la := la) (b := b) (i := i) h1 (n - i) (by omega), show i + (n - i) = n from by omega]
      exact hq
    · rw [hc] at h2
      rw [qLy, if_neg (fun q => q.1 h2)] at ih'
      rw [nI_1]
      exact ih'
    · rw [hc] at h1 h2
      rw [qLy, if_pos ⟨h2, h1⟩, if_pos (Or.inl h3)] at ih'
      rw [nI_1, vu_t, vu_s, hc]
      exact ih'
    · rw [hc] at h1 h2 h4
      replace h4 : la ≤ t - I 54 i := h4
      rw [qLy, if_pos ⟨h2, h1⟩, if_neg (fun q => q.elim h3 (fun w => w h4))] at ih'
      rw [nI_1, vu_t, vu_s, hc]
      exact ih'
    · rw [hc] at h1 h2 h4
      replace h4 : ¬ la ≤ t - I 54 i := h4
      rw [qLy, if_pos ⟨h2, h1⟩, if_pos (Or.inr h4)] at ih'
      rw [nI_1, vu_t, vu_s, hc]
      exact ih'

theorem s5001w {a t la : Int32} {n : Nat} (hK : qLay K sz) (hR : qRef R) (hn : I 51 5 = nI n) (h40 : n ≤ 40) (hw : ∀ i, i < n → vp_in (I 53 i) 5) (hs : qSort (I 54) n) (hq : Q none (K, va_up (va_up I 69 (upd (I 69) 2 a)) 70 (qLy (I 56) (I 52) (I 53) (I 54) t la (qfi (-1) (I 70) 5) n), L, R, sz)) : X d 0 0 5001 0 0 0 (qent (qml 5001) [.ref 69, .ref 51, .ref 56, .int a, .int t, .int la]) [] (K, I, L, R, sz) Q := by
  refine e5001w hK ?_
  have h1 := l5001bw (I := va_up I 69 (upd (I 69) 2 a)) (x3 := a) (t := t) (la := la) (d := d) (Q := Q) (L := L) (b := qfi (-1) (I 70) 5) hK hR hn h40 hw hs hq n 0 (by omega)
  have h2 := l5001aw (I := va_up I 69 (upd (I 69) 2 a)) hK hR h1 5 0 (by omega)
  rw [qfi_0, vu_id] at h2
  exact h2

theorem l12063 {nS : Nat} {m : Int32} (hK : qLay K sz) (hR : qRef R) (mS : I 73 24 = nI nS) (w5 : nS ≤ 5) (hv : qVal (I 89) nS) (hq : Q (some (.int (hb (I 89) nS m nS))) (K, I, L, R, sz)) : ∀ (k i : Nat), i + k = nS → X (d + 2) 0 0 12063 0 0 4 [some (.ref 73), some (.int m), some (.int (hb (I 89) nS m i)), some (.int (nI i))] [] (K, I, L, R, sz) Q := by
  intro k
  induction k with
  | zero =>
    intro i hi
    have hle : I 73 24 ≤ nI i := by rw [mS]; exact nI_le (by omega) (by omega)
    refine g12063_4 hK hR mS w5 (fun h => absurd hle h) (fun h => absurd hle h) (fun _ => ?_) (fun h => absurd hle h) (fun h => absurd hle h)
    rw [show i = nS from by omega]; exact hq
  | succ k ih =>
    intro i hi
    have hnl : ¬ I 73 24 ≤ nI i := by rw [mS]; exact nI_ge (by omega) (by omega)
    refine g12063_4 hK hR mS w5 (fun _ => hv) (fun _ => ⟨i, by omega, rfl⟩) (fun h => absurd h hnl) (fun _ h1 => ?_) (fun _ h1 => ?_)
    · have := ih (i + 1) (by omega)
      rw [hb, if_neg h1] at this
      rw [nI_1, Int32.or_zero]; exact this
    · have := ih (i + 1) (by omega)
      rw [hb, if_pos h1] at this
      rw [nI_1]; exact this
theorem s12063 {nS : Nat} {m : Int32} (hK : qLay K sz) (hR : qRef R) (mS : I 73 24 = nI nS) (w5 : nS ≤ 5) (hv : qVal (I 89) nS) (hq : Q (some (.int (hb (I 89) nS m nS))) (K, I, L, R, sz)) : X (d + 2) 0 0 12063 0 0 0 (qent (qml 12063) [.ref 73, .int m]) [] (K, I, L, R, sz) Q :=
  e12063 (l12063 hK hR mS w5 hv hq nS 0 (by omega))
end L22
