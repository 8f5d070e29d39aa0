/-! plans: the two ways of counting, and that they agree -/
def ds (a b : Nat) : Nat := (a - b) + (b - a)
theorem ds_tri (a b c : Nat) : ds a c ≤ ds a b + ds b c := by unfold ds; omega
theorem ds_comm (a b : Nat) : ds a b = ds b a := by unfold ds; omega
theorem ds_0 (a : Nat) : ds a a = 0 := by unfold ds; omega
/-- a task's house for one master: servants, rooms, tasks; whom he may thank; a task's room, hands, minutes; open by what is done; once; the start -/
def qPg : Type := (Nat × Nat × Nat) × (Nat → Bool) × ((Nat → Nat) × (Nat → Nat) × (Nat → Nat)) × ((Nat → Bool) → Nat → Bool) × Bool × Nat × (Nat → Nat)
def gS (g : qPg) : Nat := g.1.1
def gR (g : qPg) : Nat := g.1.2.1
def gN (g : qPg) : Nat := g.1.2.2
def gA (g : qPg) : Nat → Bool := g.2.1
def gTr (g : qPg) : Nat → Nat := g.2.2.1.1
def gTh (g : qPg) : Nat → Nat := g.2.2.1.2.1
def gTm (g : qPg) : Nat → Nat := g.2.2.1.2.2
def gOp (g : qPg) : (Nat → Bool) → Nat → Bool := g.2.2.2.1
def gOc (g : qPg) : Bool := g.2.2.2.2.1
def g0r (g : qPg) : Nat := g.2.2.2.2.2.1
def g0f (g : qPg) : Nat → Nat := g.2.2.2.2.2.2
def cb (H : Nat → Bool) (n : Nat) : Nat := sm (fun s => if H s then 1 else 0) n
/-- the first n of those -/
def lowS (e : Nat → Bool) (n s : Nat) : Bool := e s && decide (cb e s < n)
theorem cb_s (H : Nat → Bool) (n : Nat) : cb H (n + 1) = cb H n + (if H n then 1 else 0) := rfl
theorem cb_le (H : Nat → Bool) : ∀ n, cb H n ≤ n := by
  intro n
  induction n with
  | zero => exact Nat.le_refl _
  | succ n ih => rw [cb_s]; split <;> omega
theorem lowS_cb (e : Nat → Bool) (n : Nat) : ∀ j, cb (lowS e n) j = if cb e j ≤ n then cb e j else n := by
  intro j
  induction j with
  | zero => show 0 = if 0 ≤ n then 0 else n; rw [if_pos (Nat.zero_le _)]
  | succ j ih =>
    rw [cb_s, cb_s, ih]
    unfold lowS
    cases he : e j
    · simp
    · by_cases h : cb e j < n
      · rw [decide_eq_true h]
        simp only [Bool.and_self, if_true]
        rw [if_pos (by omega), if_pos (by omega)]
      · rw [decide_eq_false h]
        simp only [Bool.and_false, Bool.false_eq_true, if_false, if_true]
        by_cases h2 : cb e j ≤ n
        · rw [if_pos h2, if_neg (by omega)]; omega
        · rw [if_neg h2, if_neg (by omega)]; omega
theorem cb_mono {A B : Nat → Bool} : ∀ n, (∀ s, s < n → A s = true → B s = true) → cb A n ≤ cb B n := by
  intro n
  induction n with
  | zero => intro _; exact Nat.le_refl _
  | succ n ih =>
    intro h
    have h1 := ih (fun s hs => h s (by omega))
    have h2 := h n (by omega)
    rw [cb_s, cb_s]
    cases hA : A n
    · simp; omega
    · rw [h2 hA]; simp; omega
theorem cb_cong {A B : Nat → Bool} : ∀ n, (∀ s, s < n → A s = B s) → cb A n = cb B n := by
  intro n h
  exact Nat.le_antisymm (cb_mono n (fun s hs q => by rw [← h s hs]; exact q)) (cb_mono n (fun s hs q => by rw [h s hs]; exact q))
/-- what the walk of the hands takes -/
def wk (g : qPg) (H : Nat → Bool) (t : Nat) (f : Nat → Nat) (n : Nat) : Nat := sm (fun s => if H s then ds (gTr g t) (f s) else 0) n
def st0 (g : qPg) (d h : Nat → Bool) (r : Nat) (f : Nat → Nat) (T k : Nat) : Prop := (d = fun _ => false) ∧ (h = fun _ => false) ∧ r = g0r g ∧ f = g0f g ∧ T = 0 ∧ k = 0
/-- one step of the class, from the state with a dash -/
def cE (g : qPg) (d' h' : Nat → Bool) (r' : Nat) (f' : Nat → Nat) (d h : Nat → Bool) (r : Nat) (f : Nat → Nat) (w b : Nat) : Prop :=
  (∃ s, s < gS g ∧ gA g s = true ∧ h' s = false ∧ d = d' ∧ h = va_up h' s true ∧ r = f' s ∧ f = f' ∧ w = ds r' (f' s) + 1 ∧ b = 1) ∨
  (∃ t H, t < gN g ∧ d' t = false ∧ gOp g d' t = true ∧ (∀ s, H s = true → h' s = true) ∧ cb H (gS g) = gTh g t ∧ d = va_up d' t true ∧ h = (if gOc g then fun s => h' s && !H s else h') ∧ r = r' ∧ f = (fun s => if H s then gTr g t else f' s) ∧ w = gTm g t + wk g H t f' (gS g) ∧ b = 0)
/-- one step of the reference -/
def rE (g : qPg) (d' h' : Nat → Bool) (r' : Nat) (f' : Nat → Nat) (d h : Nat → Bool) (r : Nat) (f : Nat → Nat) (w b : Nat) : Prop :=
  (∃ s, s < gS g ∧ gA g s = true ∧ d = d' ∧ h = va_up h' s true ∧ r = f' s ∧ f = f' ∧ w = ds r' (f' s) + 1 ∧ b = 1) ∨
  (∃ s q, s < gS g ∧ h' s = true ∧ q < gR g ∧ q ≠ f' s ∧ d = d' ∧ h = h' ∧ r = r' ∧ f = va_up f' s q ∧ w = ds q (f' s) ∧ b = 0) ∨
  (∃ t, t < gN g ∧ d' t = false ∧ gOp g d' t = true ∧ cb (lowS (fun s => h' s && decide (f' s = gTr g t)) (gTh g t)) (gS g) = gTh g t ∧ d = va_up d' t true ∧ h = (if gOc g then fun s => h' s && !lowS (fun s => h' s && decide (f' s = gTr g t)) (gTh g t) s else h') ∧ r = r' ∧ f = f' ∧ w = gTm g t ∧ b = 0)
def cP (g : qPg) : Nat → (Nat → Bool) → (Nat → Bool) → Nat → (Nat → Nat) → Nat → Nat → Prop
  | 0 => fun d h r f T k => st0 g d h r f T k
  | n + 1 => fun d h r f T k => ∃ d' h' r' f' T' k' w b, cP g n d' h' r' f' T' k' ∧ cE g d' h' r' f' d h r f w b ∧ T = T' + w ∧ k = k' + b
def rP (g : qPg) : Nat → (Nat → Bool) → (Nat → Bool) → Nat → (Nat → Nat) → Nat → Nat → Prop
  | 0 => fun d h r f T k => st0 g d h r f T k
  | n + 1 => fun d h r f T k => ∃ d' h' r' f' T' k' w b, rP g n d' h' r' f' T' k' ∧ rE g d' h' r' f' d h r f w b ∧ T = T' + w ∧ k = k' + b
def cW (g : qPg) (d h : Nat → Bool) (r : Nat) (f : Nat → Nat) (T k : Nat) : Prop := ∃ n, cP g n d h r f T k
def rW (g : qPg) (d h : Nat → Bool) (r : Nat) (f : Nat → Nat) (T k : Nat) : Prop := ∃ n, rP g n d h r f T k
theorem cW_s {g : qPg} {d' h' d h : Nat → Bool} {r' r : Nat} {f' f : Nat → Nat} {T k w b : Nat} (h1 : cW g d' h' r' f' T k) (h2 : cE g d' h' r' f' d h r f w b) : cW g d h r f (T + w) (k + b) := by
  obtain ⟨n, h1⟩ := h1
  exact ⟨n + 1, _, _, _, _, _, _, _, _, h1, h2, rfl, rfl⟩
theorem rW_s {g : qPg} {d' h' d h : Nat → Bool} {r' r : Nat} {f' f : Nat → Nat} {T k w b : Nat} (h1 : rW g d' h' r' f' T k) (h2 : rE g d' h' r' f' d h r f w b) : rW g d h r f (T + w) (k + b) := by
  obtain ⟨n, h1⟩ := h1
  exact ⟨n + 1, _, _, _, _, _, _, _, _, h1, h2, rfl, rfl⟩
/-- how far apart the servants stand -/
def ap (f f' : Nat → Nat) (n : Nat) : Nat := sm (fun s => ds (f s) (f' s)) n
theorem ap_up {f f' : Nat → Nat} {s q : Nat} : ∀ n, ap f (va_up f' s q) n ≤ ap f f' n + ds q (f' s) := by
  have h0 : ∀ n, n ≤ s → ap f (va_up f' s q) n = ap f f' n := fun n hn => sm_cong n (fun i hi => by rw [vu_n (by omega)])
  intro n
  induction n with
  | zero => exact Nat.zero_le _
  | succ n ih =>
    unfold ap at *
    rw [sm, sm]
    by_cases h : n = s
    · subst h
      have h1 := h0 n (Nat.le_refl _)
      rw [h1, vu_s]
      have := ds_tri (f n) (f' n) q
      rw [ds_comm (f' n) q] at this
      omega
    · rw [vu_n h]; omega
/-- the class lags behind: whatever the reference does, the class has done it as cheaply -/
theorem r_to_c {g : qPg} : ∀ n d h r f T k, rP g n d h r f T k → ∃ r' f' T' k', cW g d h r' f' T' k' ∧ (∀ s, h s = false → f' s = f s) ∧ T' + ds r' r + ap f' f (gS g) ≤ T ∧ k' ≤ k := by
  intro n
  induction n with
  | zero =>
    intro d h r f T k hp
    obtain ⟨h1, h2, h3, h4, h5, h6⟩ := hp
    refine ⟨r, f, T, k, ⟨0, h1, h2, h3, h4, h5, h6⟩, fun _ _ => rfl, ?_, Nat.le_refl _⟩
    have : ap f f (gS g) = 0 := by
      unfold ap
      rw [sm_cong (g := fun _ => 0) _ (fun i _ => ds_0 _), sm_0]
    rw [this, ds_0]; omega
  | succ n ih =>
    intro d h r f T k hp
    obtain ⟨d1, h1, r1, f1, T1, k1, w, b, hp1, he, rfl, rfl⟩ := hp
    obtain ⟨r2, f2, T2, k2, hc, hf, hT, hk⟩ := ih d1 h1 r1 f1 T1 k1 hp1
    rcases he with ⟨s, hs, ha, rfl, rfl, rfl, rfl, rfl, rfl⟩ | ⟨s, q, hs, hh, hq, hne, rfl, rfl, rfl, rfl, rfl, rfl⟩ | ⟨t, ht, hd, hop, hcn, rfl, rfl, rfl, rfl, rfl, rfl⟩
    · cases hs1 : h1 s
      · -- a new thank: the class does it too
        have e := hf s hs1
        refine ⟨f2 s, f2, T2 + (ds r2 (f2 s) + 1), k2 + 1, cW_s hc (Or.inl ⟨s, hs, ha, hs1, rfl, rfl, rfl, rfl, rfl, rfl⟩), fun j hj => ?_, ?_, by omega⟩
        · have : j ≠ s := fun q => by rw [q, vu_s] at hj; cases hj
          rw [vu_n this] at hj
          exact hf j hj
        · rw [e, ds_0]
          have := ds_tri r2 r1 (f s)
          omega
      · refine ⟨r2, f2, T2, k2, ?_, fun j hj => ?_, ?_, by omega⟩
        · have : va_up h1 s true = h1 := by rw [← hs1]; exact vu_id
          rw [this]; exact hc
        · have : va_up h1 s true = h1 := by rw [← hs1]; exact vu_id
          rw [this] at hj; exact hf j hj
        · have := ds_tri r2 r1 (f s)
          omega
    · refine ⟨r2, f2, T2, k2, hc, fun j hj => ?_, ?_, by omega⟩
      · have : j ≠ s := fun q => by rw [q, hh] at hj; cases hj
        rw [vu_n this]; exact hf j hj
      · have := @ap_up f2 f1 s q (gS g)
        omega
    · -- a task: the hands walk now
      obtain ⟨E, hE⟩ : ∃ E, E = lowS (fun s => h1 s && decide (f s = gTr g t)) (gTh g t) := ⟨_, rfl⟩
      rw [← hE] at hcn ⊢
      have hEh : ∀ s, E s = true → h1 s = true ∧ f s = gTr g t := fun s hs => by
        rw [hE] at hs
        unfold lowS at hs
        rw [Bool.and_eq_true, Bool.and_eq_true] at hs
        exact ⟨hs.1.1, of_decide_eq_true hs.1.2⟩
      refine ⟨r2, fun s => if E s then gTr g t else f2 s, T2 + (gTm g t + wk g E t f2 (gS g)), k2 + 0, cW_s hc (Or.inr ⟨t, E, ht, hd, hop, fun s hs => (hEh s hs).1, hcn, rfl, rfl, rfl, rfl, rfl, rfl⟩), fun j hj => ?_, ?_, by omega⟩
      · cases hEj : E j
        · show (if E j = true then gTr g t else f2 j) = f j
          rw [hEj, if_neg Bool.false_ne_true]
          refine hf j ?_
          cases hoc : gOc g
          · rw [hoc, if_neg Bool.false_ne_true] at hj; exact hj
          · rw [hoc, if_pos rfl, hEj] at hj
            simpa using hj
        · show (if E j = true then gTr g t else f2 j) = f j
          rw [hEj, if_pos rfl]
          exact (hEh j hEj).2.symm
      · have : ∀ n, wk g E t f2 n + ap (fun s => if E s then gTr g t else f2 s) f n ≤ ap f2 f n := by
          intro n
          induction n with
          | zero => exact Nat.le_refl _
          | succ n ih =>
            have e1 : wk g E t f2 (n + 1) = wk g E t f2 n + (if E n then ds (gTr g t) (f2 n) else 0) := rfl
            have e2 : ap (fun s => if E s then gTr g t else f2 s) f (n + 1) = ap (fun s => if E s then gTr g t else f2 s) f n + ds (if E n then gTr g t else f2 n) (f n) := rfl
            have e3 : ap f2 f (n + 1) = ap f2 f n + ds (f2 n) (f n) := rfl
            rw [e1, e2, e3]
            cases hEn : E n
            · rw [if_neg Bool.false_ne_true, if_neg Bool.false_ne_true]; omega
            · rw [if_pos rfl, if_pos rfl, (hEh n hEn).2, ds_0, ds_comm (gTr g t)]; omega
        have := this (gS g)
        omega
theorem r_c {g : qPg} {d h : Nat → Bool} {r : Nat} {f : Nat → Nat} {T k : Nat} (hr : rW g d h r f T k) : ∃ h' r' f' T' k', cW g d h' r' f' T' k' ∧ T' ≤ T ∧ k' ≤ k := by
  obtain ⟨n, hr⟩ := hr
  obtain ⟨r', f', T', k', h1, _, h3, h4⟩ := r_to_c n d h r f T k hr
  exact ⟨h, r', f', T', k', h1, by omega, h4⟩
