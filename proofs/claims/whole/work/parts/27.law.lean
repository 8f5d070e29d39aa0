/-! laws worked out: the class's answer -/
theorem qSu_no {a : List Int32} {va : Ev → Int32} {da : Nat} (h : qSu a va da) : ∀ x, x ∈ a → x ≠ -59 ∧ x ≠ -63 := by
  refine h (fun a _ _ => ∀ x, x ∈ a → x ≠ -59 ∧ x ≠ -63) ?_ ?_ ?_
  · intro x h0 h9 y hy
    rw [List.mem_singleton] at hy
    subst hy
    rw [i_le] at h0
    have e1 : (0 : Int32).toInt = 0 := rfl
    have e2 : (-59 : Int32).toInt = -59 := rfl
    have e3 : (-63 : Int32).toInt = -63 := rfl
    constructor <;> (intro e; rw [e] at h0; omega)
  · intro c hc y hy
    rw [List.mem_singleton] at hy
    subst hy
    rcases hc with h | h | h | h | h <;> subst h <;> decide
  · intro op a b va vb da db hop ha hb x hx
    rw [List.mem_append, List.mem_append, List.mem_singleton] at hx
    rcases hx with (hx | hx) | hx
    · exact ha x hx
    · exact hb x hx
    · subst hx
      rcases hop with h | h | h | h <;> subst h <;> decide
theorem qLm_in {I : Nat → Nat → Int32} {o : Nat} {h : Int32} : va_up I o (upd (I o) 3 h) = qLm I o h (I (o + 2)) := by rw [qLm, vu_id]
section L27
variable {d : Nat} {K : qK} {I : Nat → Nat → Int32} {L : Nat → Nat → Int64} {R : Nat → Nat → Option Nat} {sz : Nat} {Q : Option Value → qMem → Prop} {o : Nat} {m s t n l : Int32}
theorem LX_S {N : Nat} (ho : qLw K R sz o) (hN : I o 1 = nI N) (h161 : N ≤ 161) {a : List Int32} {va : Ev → Int32} {da : Nat} (h : qSu a va da) : ∀ (p h : Nat) (S : Nat → Int32), qHas (I (o + 1)) p a → p + a.length ≤ N → h + da < 161 → (∀ S' : Nat → Int32, (∀ k, k < h → S' k = S k) → S' h = va (qEnv m s t n l) → LX d K I L R sz Q o m s t n l (p + a.length) (h + 1) S') → LX d K I L R sz Q o m s t n l p h S := by
  refine h (fun a va da => ∀ (p h : Nat) (S : Nat → Int32), qHas (I (o + 1)) p a → p + a.length ≤ N → h + da < 161 → (∀ S' : Nat → Int32, (∀ k, k < h → S' k = S k) → S' h = va (qEnv m s t n l) → LX d K I L R sz Q o m s t n l (p + a.length) (h + 1) S') → LX d K I L R sz Q o m s t n l p h S) ?_ ?_ ?_
  · intro x h0 h9 p h S hh hl hd hk
    rw [List.length_singleton] at hl
    exact LX_num ho hN (by omega) h161 (by omega) (qHas_1 hh) h0 h9 (hk _ (fun k hk => by rw [upd, if_neg (by omega)]) (by simp [upd]))
  · intro c hc p h S hh hl hd hk
    rw [List.length_singleton] at hl
    refine LX_sign ho hN (by omega) h161 (qHas_1 hh) (by rcases hc with h | h | h | h | h <;> subst h <;> decide) (fun _ _ q => absurd hc q) (fun _ => ⟨by omega, hk _ (fun k hk => by rw [upd, if_neg (by omega)]) (by simp [upd])⟩) (fun e => ?_) (fun e => ?_)
    · exfalso; rcases hc with h | h | h | h | h <;> (rw [h] at e; exact absurd e (by decide))
    · exfalso; rcases hc with h | h | h | h | h <;> (rw [h] at e; exact absurd e (by decide))
  · intro op a b va vb da db hop ha hb p h S hh hl hd hk
    obtain ⟨h12, h3⟩ := qHas_app hh
    obtain ⟨h1, h2⟩ := qHas_app h12
    simp only [List.length_append, List.length_cons, List.length_nil] at hl hk h3
    refine ha p h S h1 (by omega) (by omega) (fun S1 b1 v1 => ?_)
    refine hb (p + a.length) (h + 1) S1 h2 (by omega) (by omega) (fun S2 b2 v2 => ?_)
    have := qHas_1 h3
    refine LX_bin ho hN (by omega) h161 (by omega) (by rw [Nat.add_assoc]; exact this) hop ?_
    have := hk (upd S2 h (rk op (S2 h) (S2 (h + 1)))) (fun k hk => by rw [upd, if_neg (by omega), b2 k (by omega), b1 k hk]) (by rw [upd, if_pos rfl, b2 h (by omega), v1, v2])
    rw [show p + a.length + b.length + 1 = p + (a.length + b.length + (0 + 1)) from by omega]
    exact this
theorem LX_T {N : Nat} (ho : qLw K R sz o) (hN : I o 1 = nI N) (h161 : N ≤ 161) {a : List Int32} {va : Ev → Int32} {da : Nat} (h : qTr a va da) : (∀ v, va v = 0 ∨ va v = 1) ∧ ∀ (p h : Nat) (S : Nat → Int32), qHas (I (o + 1)) p a → p + a.length ≤ N → h + da < 161 → (∀ S' : Nat → Int32, (∀ k, k < h → S' k = S k) → S' h = va (qEnv m s t n l) → LX d K I L R sz Q o m s t n l (p + a.length) (h + 1) S') → LX d K I L R sz Q o m s t n l p h S := by
  refine h (fun a va da => (∀ v, va v = 0 ∨ va v = 1) ∧ ∀ (p h : Nat) (S : Nat → Int32), qHas (I (o + 1)) p a → p + a.length ≤ N → h + da < 161 → (∀ S' : Nat → Int32, (∀ k, k < h → S' k = S k) → S' h = va (qEnv m s t n l) → LX d K I L R sz Q o m s t n l (p + a.length) (h + 1) S') → LX d K I L R sz Q o m s t n l p h S) ?_ ?_ ?_ ?_
  · intro op a b va vb da db hop ha hb
    refine ⟨fun v => qcp_bit _ _ _, ?_⟩
    intro p h S hh hl hd hk
    obtain ⟨h12, h3⟩ := qHas_app hh
    obtain ⟨h1, h2⟩ := qHas_app h12
    simp only [List.length_append, List.length_cons, List.length_nil] at hl hk h3
    refine LX_S ho hN h161 ha p h S h1 (by omega) (by omega) (fun S1 b1 v1 => ?_)
    refine LX_S ho hN h161 hb (p + a.length) (h + 1) S1 h2 (by omega) (by omega) (fun S2 b2 v2 => ?_)
    have := qHas_1 h3
    refine LX_cmp ho hN (by omega) h161 (by omega) (by rw [Nat.add_assoc]; exact this) hop ?_
    have := hk (upd S2 h (qcp op (S2 h) (S2 (h + 1)))) (fun k hk => by rw [upd, if_neg (by omega), b2 k (by omega), b1 k hk]) (by rw [upd, if_pos rfl, b2 h (by omega), v1, v2])
    rw [show p + a.length + b.length + 1 = p + (a.length + b.length + (0 + 1)) from by omega]
    exact this
  · intro a va da ha
    refine ⟨fun v => qb_bit _, ?_⟩
    intro p h S hh hl hd hk
    obtain ⟨h1, h2⟩ := qHas_app hh
    simp only [List.length_append, List.length_cons, List.length_nil] at hl hk
    refine ha.2 p h S h1 (by omega) (by omega) (fun S1 b1 v1 => ?_)
    have := qHas_1 h2
    refine LX_not ho hN (by omega) h161 (by omega) this ?_
    have := hk (upd S1 h (qb (S1 h = 0))) (fun k hk => by rw [upd, if_neg (by omega), b1 k hk]) (by rw [upd, if_pos rfl, v1])
    rw [show p + a.length + 1 = p + (a.length + (0 + 1)) from by omega]
    exact this
  · intro a b va vb da db ha hb
    refine ⟨fun v => qb_bit _, ?_⟩
    intro p h S hh hl hd hk
    obtain ⟨h12, h3⟩ := qHas_app hh
    obtain ⟨h1, h2⟩ := qHas_app h12
    simp only [List.length_append, List.length_cons, List.length_nil] at hl hk h3
    refine ha.2 p h S h1 (by omega) (by omega) (fun S1 b1 v1 => ?_)
    refine hb.2 (p + a.length) (h + 1) S1 h2 (by omega) (by omega) (fun S2 b2 v2 => ?_)
    have := qHas_1 h3
    have e1 : S2 h = va (qEnv m s t n l) := by rw [b2 h (by omega), v1]
    refine LX_and ho hN (by omega) h161 (by omega) (by rw [Nat.add_assoc]; exact this) (by rw [e1]; exact ha.1 _) (by rw [v2]; exact hb.1 _) ?_
    have := hk (upd S2 h (qb (¬ S2 h = 0 ∧ ¬ S2 (h + 1) = 0))) (fun k hk => by rw [upd, if_neg (by omega), b2 k (by omega), b1 k hk]) (by rw [upd, if_pos rfl, e1, v2])
    rw [show p + a.length + b.length + 1 = p + (a.length + b.length + (0 + 1)) from by omega]
    exact this
  · intro a b va vb da db ha hb
    refine ⟨fun v => qb_bit _, ?_⟩
    intro p h S hh hl hd hk
    obtain ⟨h12, h3⟩ := qHas_app hh
    obtain ⟨h1, h2⟩ := qHas_app h12
    simp only [List.length_append, List.length_cons, List.length_nil] at hl hk h3
    refine ha.2 p h S h1 (by omega) (by omega) (fun S1 b1 v1 => ?_)
    refine hb.2 (p + a.length) (h + 1) S1 h2 (by omega) (by omega) (fun S2 b2 v2 => ?_)
    have := qHas_1 h3
    have e1 : S2 h = va (qEnv m s t n l) := by rw [b2 h (by omega), v1]
    refine LX_or ho hN (by omega) h161 (by omega) (by rw [Nat.add_assoc]; exact this) (by rw [e1]; exact ha.1 _) (by rw [v2]; exact hb.1 _) ?_
    have := hk (upd S2 h (qb (¬ S2 h = 0 ∨ ¬ S2 (h + 1) = 0))) (fun k hk => by rw [upd, if_neg (by omega), b2 k (by omega), b1 k hk]) (by rw [upd, if_pos rfl, e1, v2])
    rw [show p + a.length + b.length + 1 = p + (a.length + b.length + (0 + 1)) from by omega]
    exact this
theorem LX_skip {N p e h : Nat} {z : Int32} {S : Nat → Int32} (ho : qLw K R sz o) (hN : I o 1 = nI N) (h161 : N ≤ 161) (hp : p < e) (he : e < N) (hc : I (o + 1) e = -59) (hj : ∀ j, p ≤ j → j < e → I (o + 1) j ≠ -59) (hq : LX d K I L R sz Q o m s t n l (e + 1) h S) : X (d + 3) 0 0 3002 0 0 190 [some (.ref o), some (.int m), some (.int s), some (.int t), some (.int n), some (.int l), some (.int 0), some (.int (nI p)), some (.int z)] [] (K, qLm I o (nI h) S, L, R, sz) Q := by
  refine LX_go0 ho ?_
  have hl : ∀ (k i : Nat), i + k = e → p ≤ i → LX0 d K I L R sz Q o m s t n l i h S := by
    intro k
    induction k with
    | zero =>
      intro i hi hpi
      have hci : (nI i).toNatClampNeg = i := nI_c (by omega)
      have hnl : ¬ qLm I o (nI h) S o 1 ≤ nI i := by rw [qLm_1, hN]; exact nI_ge (by omega) (by omega)
      have hw : -(qLm I o (nI h) S (o + 1) (nI i).toNatClampNeg) = 59 := by rw [qLm_c, hci, show i = e from by omega, hc]; rfl
      refine g3002_11 ho (fun _ => vI (by omega) (by omega)) (fun h => absurd h hnl) (fun _ h => absurd rfl h) (fun _ h => absurd rfl h) (fun _ h => absurd rfl h) (fun _ h => absurd rfl h) (fun _ h => absurd rfl h) (fun _ h => absurd rfl h) (fun _ h => absurd rfl h) (fun _ h => absurd rfl h) (fun _ h => absurd rfl h) (fun _ _ h => absurd hw h) (fun _ _ _ => LX_go ho ?_)
      rw [show i = e from by omega]
      exact hq
    | succ k ih =>
      intro i hi hpi
      have hci : (nI i).toNatClampNeg = i := nI_c (by omega)
      have hnl : ¬ qLm I o (nI h) S o 1 ≤ nI i := by rw [qLm_1, hN]; exact nI_ge (by omega) (by omega)
      have hw : ¬ -(qLm I o (nI h) S (o + 1) (nI i).toNatClampNeg) = 59 := by
        rw [qLm_c, hci]
        intro e1
        refine hj i hpi (by omega) ?_
        rw [← e1, Int32.neg_neg]
      refine g3002_11 ho (fun _ => vI (by omega) (by omega)) (fun h => absurd h hnl) (fun _ h => absurd rfl h) (fun _ h => absurd rfl h) (fun _ h => absurd rfl h) (fun _ h => absurd rfl h) (fun _ h => absurd rfl h) (fun _ h => absurd rfl h) (fun _ h => absurd rfl h) (fun _ h => absurd rfl h) (fun _ h => absurd rfl h) (fun _ _ _ => LX_go0 ho (ih (i + 1) (by omega) (by omega))) (fun _ _ h => absurd h hw)
  exact hl (e - (p + 1)) (p + 1) (by omega) (by omega)
theorem LX_cls {N : Nat} (ho : qLw K R sz o) (hN : I o 1 = nI N) (h161 : N ≤ 161) : ∀ (cs : List qCls), (∀ c, c ∈ cs → qClsOk c) → ∀ (p : Nat) (S : Nat → Int32), qHas (I (o + 1)) p (qCode cs) → p + (qCode cs).length = N → (∀ h S', Q (some (.int (qWorth (qEnv m s t n l) cs))) (K, qLm I o (nI h) S', L, R, sz)) → LX d K I L R sz Q o m s t n l p 0 S := by
  intro cs
  induction cs with
  | nil =>
    intro _ p S _ hp hq
    have hle : qLm I o (nI 0) S o 1 ≤ nI p := by rw [qLm_1, hN]; exact nI_le (by simp [qCode] at hp; omega) (by omega)
    exact g3002_11 ho (fun h => absurd hle h) (fun _ => hq 0 S) (fun h => absurd hle h) (fun h => absurd hle h) (fun h => absurd hle h) (fun h => absurd hle h) (fun h => absurd hle h) (fun h => absurd hle h) (fun h => absurd hle h) (fun h => absurd hle h) (fun h => absurd hle h) (fun h => absurd hle h) (fun h => absurd hle h)
  | cons c r ih =>
    intro hok p S hh hp hq
    obtain ⟨ts, sc, sv⟩ := c
    obtain ⟨hc1, hcr⟩ := qHas_app hh
    obtain ⟨hT, ds, hds, hS⟩ := hok _ (List.mem_cons_self ..)
    replace hS : qSu sc sv ds := hS
    have hfin : ∀ q S, qHas (I (o + 1)) q (sc ++ [-59]) → q + sc.length < N → (∀ h S', Q (some (.int (sv (qEnv m s t n l)))) (K, qLm I o (nI h) S', L, R, sz)) → LX d K I L R sz Q o m s t n l q 0 S := by
      intro q S hh hl hq
      obtain ⟨h1, h2⟩ := qHas_app hh
      refine LX_S ho hN h161 hS q 0 S h1 (by omega) (by omega) (fun S' _ v => ?_)
      refine LX_sign ho hN hl h161 (qHas_1 h2) (by decide) (fun h => absurd rfl h) (fun h => absurd h (by unfold qlet; decide)) (fun h => absurd h (by decide)) (fun _ => ?_)
      refine g3002_79 ho (by omega) ?_
      rw [v]
      exact hq 0 S'
    cases ts with
    | none =>
      simp only [qCode, qCode1, List.nil_append, List.length_append, List.length_cons, List.length_nil] at hp hc1
      exact hfin p S hc1 (by omega) hq
    | some te =>
      obtain ⟨tc, tv⟩ := te
      obtain ⟨dt, hdt, hTt⟩ := hT _ rfl
      replace hTt : qTr tc tv dt := hTt
      simp only [qCode, qCode1, List.length_append, List.length_cons, List.length_nil] at hp hc1 hcr
      obtain ⟨h12, h3⟩ := qHas_app hc1
      obtain ⟨h1, h2⟩ := qHas_app h12
      simp only [List.length_append, List.length_cons, List.length_nil] at h3
      refine (LX_T ho hN h161 hTt).2 p 0 S h1 (by omega) (by omega) (fun S' _ v => ?_)
      refine LX_sign ho hN (by omega) h161 (qHas_1 h2) (by decide) (fun _ h => absurd rfl h) (fun h => absurd h (by unfold qlet; decide)) (fun _ => ?_) (fun h => absurd h (by decide))
      refine g3002_91 ho (by omega) (fun e => ?_) (fun e => LX_go ho ?_)
      · have hx : tv (qEnv m s t n l) = 0 := by rw [← v]; exact e
        simp only [qWorth, if_pos hx] at hq
        obtain ⟨h4, h5⟩ := qHas_app h3
        refine LX_skip (e := p + (tc.length + 1) + sc.length) ho hN h161 (by omega) (by omega) (qHas_1 h5) (fun j hj1 hj2 => ?_) ?_
        · by_cases hj : j = p + tc.length
          · rw [hj, qHas_1 h2]; decide
          · obtain ⟨x, hx⟩ : ∃ x, sc[j - (p + (tc.length + 1))]? = some x := ⟨_, List.getElem?_eq_getElem (by omega)⟩
            have := h4 _ x hx
            rw [show p + (tc.length + (0 + 1)) + (j - (p + (tc.length + 1))) = j from by omega] at this
            rw [this]
            exact (qSu_no hS x (List.mem_of_getElem? hx)).1
        · refine ih (fun c hc => hok c (List.mem_cons_of_mem _ hc)) _ _ ?_ (by omega) hq
          rw [show p + (tc.length + 1) + sc.length + 1 = p + (tc.length + (0 + 1) + (sc.length + (0 + 1))) from by omega]
          exact hcr
      · have hx : ¬ tv (qEnv m s t n l) = 0 := by rw [← v]; exact e
        simp only [qWorth, if_neg hx] at hq
        exact hfin _ S' h3 (by omega) hq
/-- a law's code in memory -/
def qLawC (I : Nat → Nat → Int32) (o : Nat) (cs : List qCls) : Prop := I o 1 = nI (qCode cs).length ∧ (qCode cs).length ≤ 161 ∧ qHas (I (o + 1)) 0 (qCode cs) ∧ ∀ c, c ∈ cs → qClsOk c
theorem s3002 {cs : List qCls} (ho : qLw K R sz o) (hc : qLawC I o cs) (hq : ∀ h S, Q (some (.int (qWorth (qEnv m s t n l) cs))) (K, qLm I o h S, L, R, sz)) : X (d + 3) 0 0 3002 0 0 0 (qent (qml 3002) [.ref o, .int m, .int s, .int t, .int n, .int l]) [] (K, I, L, R, sz) Q := by
  refine e3002 ho ?_
  rw [qLm_in]
  exact LX_cls (N := (qCode cs).length) ho hc.1 hc.2.1 cs hc.2.2.2 0 _ hc.2.2.1 (by omega) (fun h S => hq _ S)
end L27
