/-! plans: how much at most, and what the answer is -/
def gV (g : qPg) : Prop := gS g ≤ 3 ∧ gR g ≤ 5 ∧ gN g ≤ 4 ∧ (∀ t, t < gN g → gTr g t < gR g ∧ (1 ≤ gTh g t ∧ gTh g t ≤ 3) ∧ (1 ≤ gTm g t ∧ gTm g t ≤ 30)) ∧ g0r g < gR g ∧ (∀ s, s < gS g → g0f g s < gR g) ∧ (∀ s, gS g ≤ s → g0f g s = 0)
def full (g : qPg) (d : Nat → Bool) : Prop := ∀ t, t < gN g → d t = true
/-- a state in order -/
def okS (g : qPg) (d h : Nat → Bool) (r : Nat) (f : Nat → Nat) : Prop := (∀ t, gN g ≤ t → d t = false) ∧ (∀ s, gS g ≤ s → h s = false) ∧ r < gR g ∧ (∀ s, s < gS g → f s < gR g) ∧ (∀ s, gS g ≤ s → f s = 0)
theorem cb_up {A : Nat → Bool} {s : Nat} (h : A s = false) : ∀ n, cb (va_up A s true) n = cb A n + (if s < n then 1 else 0) := by
  intro n
  induction n with
  | zero => rfl
  | succ n ih =>
    rw [cb_s, cb_s, ih]
    by_cases e : n = s
    · subst e; rw [vu_s, h, if_neg (Nat.lt_irrefl n), if_pos (Nat.lt_succ_self n), if_pos rfl, if_neg Bool.false_ne_true]
    · rw [vu_n e]
      by_cases c : s < n
      · rw [if_pos c, if_pos (show s < n + 1 by omega)]; omega
      · rw [if_neg c, if_neg (show ¬ s < n + 1 by omega)]; omega
theorem cb_sub {A H : Nat → Bool} : ∀ n, (∀ s, s < n → H s = true → A s = true) → cb (fun s => A s && !H s) n + cb H n = cb A n := by
  intro n
  induction n with
  | zero => intro _; rfl
  | succ n ih =>
    intro h
    have h1 := ih (fun s hs => h s (by omega))
    have h2 := h n (by omega)
    rw [cb_s, cb_s, cb_s]
    cases hA : A n <;> cases hH : H n
    · simp; omega
    · rw [h2 hH] at hA; cases hA
    · simp; omega
    · simp; omega
theorem wk_le {g : qPg} {H : Nat → Bool} {t : Nat} {f : Nat → Nat} : ∀ n, (∀ s, s < n → ds (gTr g t) (f s) ≤ 4) → wk g H t f n ≤ 4 * n := by
  intro n
  induction n with
  | zero => intro _; exact Nat.le_refl _
  | succ n ih =>
    intro h
    have h1 := ih (fun s hs => h s (by omega))
    have h2 := h n (by omega)
    have e : wk g H t f (n + 1) = wk g H t f n + (if H n then ds (gTr g t) (f n) else 0) := rfl
    rw [e]
    split <;> omega
theorem ds_lt {a b R : Nat} (ha : a < R) (hb : b < R) : ds a b < R := by unfold ds; omega
theorem c_inv {g : qPg} (v : gV g) : ∀ n d h r f T k, cP g n d h r f T k → okS g d h r f ∧ k ≤ 3 * cb d (gN g) + cb h (gS g) ∧ T ≤ 5 * k + 42 * cb d (gN g) ∧ (gOc g = false → k ≤ cb h (gS g)) := by
  obtain ⟨v1, v2, v3, v4, v5, v6, v7⟩ := v
  intro n
  induction n with
  | zero =>
    intro d h r f T k hp
    obtain ⟨h1, h2, h3, h4, h5, h6⟩ := hp
    subst h1 h2 h3 h4 h5 h6
    exact ⟨⟨fun _ _ => rfl, fun _ _ => rfl, v5, v6, v7⟩, Nat.zero_le _, Nat.zero_le _, fun _ => Nat.zero_le _⟩
  | succ n ih =>
    intro d h r f T k hp
    obtain ⟨d1, h1, r1, f1, T1, k1, w, b, hp1, he, rfl, rfl⟩ := hp
    obtain ⟨⟨o1, o2, o3, o4, o5⟩, i1, i2, i3⟩ := ih d1 h1 r1 f1 T1 k1 hp1
    rcases he with ⟨s, hs, ha, hs1, rfl, rfl, rfl, rfl, rfl, rfl⟩ | ⟨t, H, ht, hd, hop, hH, hcn, rfl, rfl, rfl, rfl, rfl, rfl⟩
    · have hd := ds_lt o3 (o4 s hs)
      rw [cb_up hs1, if_pos hs]
      refine ⟨⟨o1, fun j hj => ?_, o4 s hs, o4, o5⟩, by omega, by omega, fun q => by have := i3 q; omega⟩
      rw [vu_n (by omega)]; exact o2 j hj
    · obtain ⟨t1, t2, t3⟩ := v4 t ht
      have hHl : ∀ s, H s = true → s < gS g := fun s hs => Nat.lt_of_not_le fun c => by
        have := hH s hs
        rw [o2 s c] at this; cases this
      have hwk := @wk_le g H t f1 (gS g) (fun s hs => by have := ds_lt t1 (o4 s hs); omega)
      have hsub := @cb_sub h1 H (gS g) (fun s _ => hH s)
      rw [cb_up hd, if_pos ht]
      refine ⟨⟨fun j hj => ?_, fun s hs => ?_, o3, fun s hs => ?_, fun s hs => ?_⟩, ?_, by omega, fun q => ?_⟩
      · rw [vu_n (by omega)]; exact o1 j hj
      · cases gOc g
        · exact o2 s hs
        · show (h1 s && !H s) = false
          rw [o2 s hs]; rfl
      · show (if H s then gTr g t else f1 s) < gR g
        split
        · exact t1
        · exact o4 s hs
      · show (if H s then gTr g t else f1 s) = 0
        rw [if_neg (fun c => by have := hHl s c; omega)]; exact o5 s hs
      · cases gOc g
        · rw [if_neg Bool.false_ne_true]; omega
        · rw [if_pos rfl]; omega
      · rw [q, if_neg Bool.false_ne_true]; have := i3 q; omega
theorem c_bnd {g : qPg} (v : gV g) {d h : Nat → Bool} {r : Nat} {f : Nat → Nat} {T k : Nat} (hc : cW g d h r f T k) : T ≤ 243 ∧ k ≤ 15 := by
  obtain ⟨n, hc⟩ := hc
  obtain ⟨-, h1, h2, -⟩ := c_inv v n d h r f T k hc
  have c1 := cb_le d (gN g)
  have c2 := cb_le h (gS g)
  have v1 := v.1
  have v3 := v.2.2.1
  omega
theorem c_trim {g : qPg} (v : gV g) (hoc : gOc g = true) : ∀ n d h r f T k, cP g n d h r f T k → ∀ U : Nat → Bool, (∀ s, U s = true → h s = true) → ∃ r' T' k', cW g d (fun s => h s && !U s) r' f T' k' ∧ k = k' + cb U (gS g) := by
  intro n
  induction n with
  | zero =>
    intro d h r f T k hp U hU
    have hp' := hp
    obtain ⟨h1, h2, h3, h4, h5, h6⟩ := hp'
    have hU0 : ∀ s, U s = false := fun s => by
      cases e : U s
      · rfl
      · have := hU s e; rw [h2] at this; exact absurd this Bool.false_ne_true
    refine ⟨r, T, k, ?_, ?_⟩
    · have : (fun s => h s && !U s) = h := by funext s; rw [hU0 s]; simp
      rw [this]; exact ⟨0, hp⟩
    · have : cb U (gS g) = 0 := by
        rw [cb_cong (B := fun _ => false) _ (fun s _ => hU0 s)]
        exact sm_0 _
      omega
  | succ n ih =>
    intro d h r f T k hp U hU
    obtain ⟨d1, h1, r1, f1, T1, k1, w, b, hp1, he, rfl, rfl⟩ := hp
    rcases he with ⟨s, hs, ha, hs1, rfl, rfl, rfl, rfl, rfl, rfl⟩ | ⟨t, H, ht, hd, hop, hH, hcn, rfl, rfl, rfl, rfl, rfl, rfl⟩
    · cases hUs : U s
      · have hU1 : ∀ j, U j = true → h1 j = true := fun j hj => by
          have e : j ≠ s := fun q => by rw [q, hUs] at hj; cases hj
          have := hU j hj
          rw [vu_n e] at this; exact this
        obtain ⟨r', T', k', h2, h3⟩ := ih _ _ _ _ _ _ hp1 U hU1
        have h4 := cW_s h2 (Or.inl ⟨s, hs, ha, (by show (h1 s && !U s) = false; rw [hs1]; rfl), rfl, rfl, rfl, rfl, rfl, rfl⟩)
        refine ⟨f s, T' + (ds r' (f s) + 1), k' + 1, ?_, by rw [h3]; exact Nat.add_right_comm _ _ _⟩
        · have e : (fun j => va_up h1 s true j && !U j) = va_up (fun j => h1 j && !U j) s true := by
            funext j
            by_cases q : j = s
            · subst q; rw [vu_s, vu_s, hUs]; rfl
            · rw [vu_n q, vu_n q]
          rw [e]; exact h4
      · have hU1 : ∀ j, va_up U s false j = true → h1 j = true := fun j hj => by
          by_cases q : j = s
          · rw [q, vu_s] at hj; cases hj
          · rw [vu_n q] at hj
            have := hU j hj
            rw [vu_n q] at this; exact this
        obtain ⟨r', T', k', h2, h3⟩ := ih _ _ _ _ _ _ hp1 (va_up U s false) hU1
        have ec : cb U (gS g) = cb (va_up U s false) (gS g) + 1 := by
          have := @cb_up (va_up U s false) s vu_s (gS g)
          rw [if_pos hs, vu_t, ← hUs, vu_id] at this
          exact this
        refine ⟨r', T', k', ?_, by rw [ec]; omega⟩
        have e : (fun j => va_up h1 s true j && !U j) = fun j => h1 j && !va_up U s false j := by
          funext j
          by_cases q : j = s
          · subst q; rw [vu_s, vu_s, hUs, hs1]; rfl
          · rw [vu_n q, vu_n q]
        rw [e]; exact h2
    · rw [hoc, if_pos rfl] at hU ⊢
      have hU1 : ∀ j, U j = true → h1 j = true ∧ H j = false := fun j hj => by
        have := hU j hj
        simp only [Bool.and_eq_true, Bool.not_eq_true'] at this
        exact this
      obtain ⟨r', T', k', h2, h3⟩ := ih _ _ _ _ _ _ hp1 U (fun j hj => (hU1 j hj).1)
      have hHU : ∀ j, H j = true → (fun s => h1 s && !U s) j = true := fun j hj => by
        show (h1 j && !U j) = true
        have e1 := hH j hj
        cases hUj : U j
        · rw [e1]; rfl
        · have := (hU1 j hUj).2
          rw [hj] at this; cases this
      have h4 := cW_s h2 (Or.inr ⟨t, H, ht, hd, hop, hHU, hcn, rfl, rfl, rfl, rfl, rfl, rfl⟩)
      rw [hoc, if_pos rfl] at h4
      refine ⟨r', T' + (gTm g t + wk g H t f1 (gS g)), k' + 0, ?_, by rw [h3]; omega⟩
      · have e : (fun s => (h1 s && !H s) && !U s) = fun s => (h1 s && !U s) && !H s := by
          funext s
          cases h1 s <;> cases H s <;> cases U s <;> rfl
        rw [e]; exact h4
theorem r_few {g : qPg} (v : gV g) {d h : Nat → Bool} {r : Nat} {f : Nat → Nat} {T k : Nat} (hr : rW g d h r f T k) : ∃ h' r' f' T' k', rW g d h' r' f' T' k' ∧ k' ≤ 12 ∧ k' ≤ k := by
  obtain ⟨h1, r1, f1, T1, k1, hc, -, hk⟩ := r_c hr
  have v1 := v.1
  have v3 := v.2.2.1
  have c1 := cb_le d (gN g)
  obtain ⟨n, hp⟩ := hc
  obtain ⟨-, i1, -, i3⟩ := c_inv v n _ _ _ _ _ _ hp
  have c2 := cb_le h1 (gS g)
  cases hoc : gOc g
  · obtain ⟨h2, f2, h3⟩ := c_r v.1 (fun t ht => (v.2.2.2.1 t ht).1) ⟨n, hp⟩
    have := i3 hoc
    exact ⟨h2, r1, f2, T1, k1, h3, by omega, hk⟩
  · obtain ⟨r2, T2, k2, h2, h3⟩ := c_trim v hoc n _ _ _ _ _ _ hp h1 (fun _ q => q)
    obtain ⟨h4, f4, h5⟩ := c_r v.1 (fun t ht => (v.2.2.2.1 t ht).1) h2
    exact ⟨h4, r2, f4, T2, k2, h5, by omega, by omega⟩
theorem r_soon {g : qPg} (v : gV g) {d h : Nat → Bool} {r : Nat} {f : Nat → Nat} {T k : Nat} (hr : rW g d h r f T k) : ∃ h' r' f' T' k', rW g d h' r' f' T' k' ∧ T' ≤ 243 ∧ T' ≤ T := by
  obtain ⟨h1, r1, f1, T1, k1, hc, hT, hk⟩ := r_c hr
  obtain ⟨h2, f2, h3⟩ := c_r v.1 (fun t ht => (v.2.2.2.1 t ht).1) hc
  exact ⟨h2, r1, f2, T1, k1, h3, (c_bnd v hc).1, hT⟩
/-- the plan: so many minutes, so many thanks -/
def isPl (g : qPg) (T k : Nat) : Prop := (∃ d h r f, rW g d h r f T k ∧ full g d) ∧ ∀ d h r f T' k', rW g d h r f T' k' → full g d → T < T' ∨ (T = T' ∧ k ≤ k')
def noPl (g : qPg) : Prop := ∀ d h r f T k, rW g d h r f T k → ¬ full g d
def isFw (g : qPg) (k : Nat) : Prop := (∃ d h r f T, rW g d h r f T k ∧ full g d) ∧ ∀ d h r f T' k', rW g d h r f T' k' → full g d → k ≤ k'
theorem isPl_1 {g : qPg} {T k T' k' : Nat} (h : isPl g T k) (h' : isPl g T' k') : T = T' ∧ k = k' := by
  obtain ⟨⟨d, a, r, f, h1, h2⟩, h3⟩ := h
  obtain ⟨⟨d', a', r', f', h1', h2'⟩, h3'⟩ := h'
  have e1 := h3 _ _ _ _ _ _ h1' h2'
  have e2 := h3' _ _ _ _ _ _ h1 h2
  omega
theorem isPl_n {g : qPg} {T k : Nat} (h : isPl g T k) (n : noPl g) : False := by
  obtain ⟨⟨d, a, r, f, h1, h2⟩, h3⟩ := h
  exact n _ _ _ _ _ _ h1 h2
theorem isFw_1 {g : qPg} {k k' : Nat} (h : isFw g k) (h' : isFw g k') : k = k' := by
  obtain ⟨⟨d, a, r, f, T, h1, h2⟩, h3⟩ := h
  obtain ⟨⟨d', a', r', f', T', h1', h2'⟩, h3'⟩ := h'
  have e1 := h3 _ _ _ _ _ _ h1' h2'
  have e2 := h3' _ _ _ _ _ _ h1 h2
  omega
theorem isFw_n {g : qPg} {k : Nat} (h : isFw g k) (n : noPl g) : False := by
  obtain ⟨⟨d, a, r, f, T, h1, h2⟩, h3⟩ := h
  exact n _ _ _ _ _ _ h1 h2
/-- least by the class's steps -/
def cMin (g : qPg) (c v : Nat) : Prop := (∃ d h r f T k, cW g d h r f T k ∧ full g d ∧ v = T * c + k) ∧ ∀ d h r f T k, cW g d h r f T k → full g d → v ≤ T * c + k
def cNo (g : qPg) : Prop := ∀ d h r f T k, cW g d h r f T k → ¬ full g d
theorem cNo_r {g : qPg} (h : cNo g) : noPl g := fun d a r f T k hr hf => by
  obtain ⟨h', r', f', T', k', hc, -⟩ := r_c hr
  exact h _ _ _ _ _ _ hc hf
theorem cMin_pl {g : qPg} (v : gV g) {m : Nat} (h : cMin g 1000 m) : isPl g (m / 1000) (m % 1000) := by
  obtain ⟨⟨d, a, r, f, T, k, hc, hf, hm⟩, hl⟩ := h
  have hb := (c_bnd v hc).2
  have e1 : m / 1000 = T := by omega
  have e2 : m % 1000 = k := by omega
  rw [e1, e2]
  obtain ⟨h2, f2, h3⟩ := c_r v.1 (fun t ht => (v.2.2.2.1 t ht).1) hc
  refine ⟨⟨d, h2, r, f2, h3, hf⟩, fun d' a' r' f' T' k' hr' hf' => ?_⟩
  obtain ⟨h4, r4, f4, T4, k4, hc4, g1, g2⟩ := r_c hr'
  have := hl _ _ _ _ _ _ hc4 hf'
  have := (c_bnd v hc4).2
  omega
theorem cMin_fw {g : qPg} (v : gV g) {m : Nat} (h : cMin g 0 m) : isFw g m := by
  obtain ⟨⟨d, a, r, f, T, k, hc, hf, hm⟩, hl⟩ := h
  have e : m = k := by omega
  rw [e]
  obtain ⟨h2, f2, h3⟩ := c_r v.1 (fun t ht => (v.2.2.2.1 t ht).1) hc
  refine ⟨⟨d, h2, r, f2, T, h3, hf⟩, fun d' a' r' f' T' k' hr' hf' => ?_⟩
  obtain ⟨h4, r4, f4, T4, k4, hc4, g1, g2⟩ := r_c hr'
  have := hl _ _ _ _ _ _ hc4 hf'
  omega
