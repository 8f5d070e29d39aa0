/-! plans: the reference's rounds, minute by minute -/
def lx (T k T' k' : Nat) : Prop := T < T' ∨ (T = T' ∧ k ≤ k')
def rSt2 (g : qPg) (i T k : Nat) : Prop := rW g (uD i) (uH i) (uR i) (uF i) T k
def rSnd (g : qPg) (mn fw : Nat → Int32) : Prop := ∀ i, i < 80000 → mn i = -1 ∨ ∃ T k, mn i = nI T ∧ fw i = nI k ∧ T < 1100 ∧ k ≤ T ∧ rSt2 g i T k
def rLe (mn fw : Nat → Int32) (c T k : Nat) : Prop := ∃ T' k', mn c = nI T' ∧ fw c = nI k' ∧ T' < 1100 ∧ k' < 1100 ∧ lx T' k' T k
theorem rE_b {g : qPg} (v : gV g) {d h d' h' : Nat → Bool} {r r' : Nat} {f f' : Nat → Nat} {w b : Nat} (o : okS g d h r f) (e : rE g d h r f d' h' r' f' w b) : b ≤ w ∧ 1 ≤ w ∧ w ≤ 30 := by
  obtain ⟨o1, o2, o3, o4, o5⟩ := o
  obtain ⟨v1, v2, v3, v4, -⟩ := v
  rcases e with ⟨s, hs, ha, rfl, rfl, rfl, rfl, rfl, rfl⟩ | ⟨s, q, hs, hh, hq, hne, rfl, rfl, rfl, rfl, rfl, rfl⟩ | ⟨t, ht, hd, hop, hcn, rfl, rfl, rfl, rfl, rfl, rfl⟩
  · have := ds_lt o3 (o4 s hs); omega
  · have := ds_lt hq (o4 s hs)
    have : ds q (f s) ≠ 0 := fun z => hne (by unfold ds at z; omega)
    omega
  · have := v4 t ht; omega
theorem rP_ok {g : qPg} (v : gV g) : ∀ n d h r f T k, rP g n d h r f T k → okS g d h r f ∧ k ≤ T := by
  intro n
  induction n with
  | zero =>
    intro d h r f T k hp
    obtain ⟨h1, h2, h3, h4, h5, h6⟩ := hp
    subst h1 h2 h3 h4 h5 h6
    exact ⟨⟨fun _ _ => rfl, fun _ _ => rfl, v.2.2.2.2.1, v.2.2.2.2.2.1, v.2.2.2.2.2.2⟩, Nat.le_refl _⟩
  | succ n ih =>
    intro d h r f T k hp
    obtain ⟨d1, h1, r1, f1, T1, k1, w, b, hp1, he, rfl, rfl⟩ := hp
    obtain ⟨o, hk⟩ := ih _ _ _ _ _ _ hp1
    have := (rE_b v o he).1
    exact ⟨rE_ok v o he, by omega⟩
theorem rW_ok {g : qPg} (v : gV g) {d h : Nat → Bool} {r : Nat} {f : Nat → Nat} {T k : Nat} (hp : rW g d h r f T k) : okS g d h r f ∧ k ≤ T ∧ rcd d h r f < 80000 ∧ uD (rcd d h r f) = d ∧ uH (rcd d h r f) = h ∧ uR (rcd d h r f) = r ∧ uF (rcd d h r f) = f := by
  obtain ⟨n, hp⟩ := hp
  obtain ⟨o, hk⟩ := rP_ok v n _ _ _ _ _ _ hp
  exact ⟨o, hk, ucd (okS_R v o)⟩
theorem rSt2_c {g : qPg} (v : gV g) {d h : Nat → Bool} {r : Nat} {f : Nat → Nat} {T k : Nat} (hp : rW g d h r f T k) : rSt2 g (rcd d h r f) T k := by
  obtain ⟨-, -, -, e1, e2, e3, e4⟩ := rW_ok v hp
  unfold rSt2
  rw [e1, e2, e3, e4]; exact hp
/-- reaching a state -/
def rIs (mn fw : Nat → Int32) (c T k : Nat) : Prop := mn c = -1 ∨ nI T < mn c ∨ (nI T = mn c ∧ nI k < fw c)
theorem rch_y {g : qPg} {mn fw : Nat → Int32} {c T k : Nat} (S : rSnd g mn fw) (hc : c < 80000) (hT : T < 1100) (hk : k ≤ T) (hp : rSt2 g c T k) (y : rIs mn fw c T k) : rSnd g (upd mn c (nI T)) (upd fw c (nI k)) ∧ rLe (upd mn c (nI T)) (upd fw c (nI k)) c T k ∧ ∀ e T' k', rLe mn fw e T' k' → rLe (upd mn c (nI T)) (upd fw c (nI k)) e T' k' := by
  refine ⟨fun i hi => ?_, ⟨T, k, by unfold upd; rw [if_pos rfl], by unfold upd; rw [if_pos rfl], hT, by omega, Or.inr ⟨rfl, Nat.le_refl _⟩⟩, fun e T' k' ⟨T2, k2, h1, h2, h3, h4, h5⟩ => ?_⟩
  · by_cases e : i = c
    · subst e
      exact Or.inr ⟨T, k, by unfold upd; rw [if_pos rfl], by unfold upd; rw [if_pos rfl], hT, hk, hp⟩
    · unfold upd; rw [if_neg e, if_neg e]; exact S i hi
  · by_cases q : e = c
    · subst q
      refine ⟨T, k, by unfold upd; rw [if_pos rfl], by unfold upd; rw [if_pos rfl], hT, by omega, ?_⟩
      unfold rIs at y
      rw [h1, h2] at y
      unfold lx at *
      rcases y with y | y | ⟨y1, y2⟩
      · exact absurd y (fun z => by
          have h9 := congrArg Int32.toInt z
          rw [nI_i (by omega)] at h9
          have e1 : (-1 : Int32).toInt = -1 := rfl
          rw [e1] at h9; omega)
      · rw [nI_ltI (by omega) (by omega)] at y; omega
      · rw [nI_eq (by omega) (by omega)] at y1
        rw [nI_ltI (by omega) (by omega)] at y2
        omega
    · exact ⟨T2, k2, by unfold upd; rw [if_neg q]; exact h1, by unfold upd; rw [if_neg q]; exact h2, h3, h4, h5⟩
theorem rch_n {g : qPg} {mn fw : Nat → Int32} {c T k : Nat} (S : rSnd g mn fw) (hc : c < 80000) (hT : T < 1100) (hk : k ≤ T) (y : ¬ rIs mn fw c T k) : rLe mn fw c T k := by
  rcases S c hc with h | ⟨T', k', h1, h2, h3, h4, -⟩
  · exact absurd (Or.inl h) y
  · refine ⟨T', k', h1, h2, h3, by omega, ?_⟩
    unfold rIs at y
    rw [h1, h2] at y
    by_cases q1 : nI T < nI T'
    · exact absurd (Or.inr (Or.inl q1)) y
    · rw [nI_ltI (by omega) (by omega)] at q1
      unfold lx
      by_cases q2 : T' < T
      · exact Or.inl q2
      · have e : T' = T := by omega
        refine Or.inr ⟨e, Nat.le_of_not_lt fun q3 => y (Or.inr (Or.inr ⟨by rw [e], ?_⟩))⟩
        exact nI_lt q3 (by omega)
theorem lx_add {T k T' k' : Nat} (h : lx T k T' k') (w b : Nat) : lx (T + w) (k + b) (T' + w) (k' + b) := by unfold lx at *; omega
theorem lx_tr {T k T' k' T2 k2 : Nat} (h : lx T k T' k') (h' : lx T' k' T2 k2) : lx T k T2 k2 := by unfold lx at *; omega
theorem rLe_tr {mn fw : Nat → Int32} {c T k T' k' : Nat} (h : rLe mn fw c T k) (h' : lx T k T' k') : rLe mn fw c T' k' := by
  obtain ⟨a, b, h1, h2, h3, h4, h5⟩ := h
  exact ⟨a, b, h1, h2, h3, h4, lx_tr h5 h'⟩
/-- before (t, j) -/
def bef (T c t j : Nat) : Prop := T < t ∨ (T = t ∧ c < j)
/-- the tables when all up to (t, j) has been worked -/
def rDj (g : qPg) (mn fw : Nat → Int32) (t j : Nat) : Prop := rSnd g mn fw ∧ rLe mn fw (rcd (fun _ => false) (fun _ => false) (g0r g) (g0f g)) 0 0 ∧
  ∀ d h r f T k, rW g d h r f T k → bef T (rcd d h r f) t j → ∀ d' h' r' f' w b, rE g d h r f d' h' r' f' w b → rLe mn fw (rcd d' h' r' f') (T + w) (k + b)
/-- a path that ends at minute t is in the tables -/
theorem rDj_at {g : qPg} (v : gV g) {mn fw : Nat → Int32} {t j : Nat} (D : rDj g mn fw t j) {d h : Nat → Bool} {r : Nat} {f : Nat → Nat} {T k : Nat} (hp : rW g d h r f T k) (hT : T ≤ t) : rLe mn fw (rcd d h r f) T k := by
  obtain ⟨n, hp⟩ := hp
  cases n with
  | zero =>
    obtain ⟨e1, e2, e3, e4, e5, e6⟩ := hp
    subst e1 e2 e3 e4 e5 e6
    exact D.2.1
  | succ n =>
    obtain ⟨d', h', r', f', T', k', w, b, hp', he, rfl, rfl⟩ := hp
    have hw := (rE_b v (rP_ok v n _ _ _ _ _ _ hp').1 he).2.1
    exact D.2.2 _ _ _ _ _ _ ⟨n, hp'⟩ (Or.inl (by omega)) _ _ _ _ _ _ he
theorem rdec {g : qPg} (v : gV g) {d h : Nat → Bool} {r : Nat} {f : Nat → Nat} {T k j : Nat} (hp : rW g d h r f T k) (hj : rcd d h r f = j) : d = uD j ∧ h = uH j ∧ r = uR j ∧ f = uF j := by
  obtain ⟨-, -, -, e1, e2, e3, e4⟩ := rW_ok v hp
  rw [hj] at e1 e2 e3 e4
  exact ⟨e1.symm, e2.symm, e3.symm, e4.symm⟩
theorem nI_f {a b : Nat} (ha : a < 1100) (hb : b < 1100) (h : nI a = nI b) : a = b := (nI_eq (by omega) (by omega)).mp h
/-- a state whose minute is not t -/
theorem rDj_skip {g : qPg} (v : gV g) {mn fw : Nat → Int32} {t j : Nat} (ht : t < 1000) (D : rDj g mn fw t j) (hj : j < 80000) (hn : ¬ mn j = nI t) : rDj g mn fw t (j + 1) := by
  refine ⟨D.1, D.2.1, fun d h r f T k hp hb d' h' r' f' w b he => ?_⟩
  by_cases q : bef T (rcd d h r f) t j
  · exact D.2.2 _ _ _ _ _ _ hp q _ _ _ _ _ _ he
  · have hTj : T = t ∧ rcd d h r f = j := by unfold bef at hb q; omega
    obtain ⟨hTt, hcj⟩ := hTj
    have hle := rDj_at v D hp (by omega)
    rw [hcj] at hle
    obtain ⟨T', k', h1, h2, h3, h4, h5⟩ := hle
    have hlt : T' < T := by
      unfold lx at h5
      rcases h5 with h5 | ⟨h5, -⟩
      · exact h5
      · exact absurd (by rw [h1, h5, hTt]) hn
    rcases D.1 j hj with hm | ⟨T2, k2, g1, g2, g3, g4, g5⟩
    · rw [h1] at hm
      exact absurd hm (fun z => by
        have h9 := congrArg Int32.toInt z
        rw [nI_i (by omega)] at h9
        have e1 : (-1 : Int32).toInt = -1 := rfl
        rw [e1] at h9; omega)
    · have e : T2 = T' := nI_f g3 h3 (g1 ▸ h1)
      obtain ⟨a1, a2, a3, a4⟩ := rdec v hp hcj
      unfold rSt2 at g5
      rw [← a1, ← a2, ← a3, ← a4] at g5
      exact rLe_tr (D.2.2 _ _ _ _ _ _ g5 (Or.inl (by omega)) _ _ _ _ _ _ he) (Or.inl (by omega))
/-- a state of minute t, all its ways taken -/
theorem rDj_step {g : qPg} (v : gV g) {mn fw mn' fw' : Nat → Int32} {t j k0 : Nat} (ht : t < 1000) (D : rDj g mn fw t j) (hm : mn j = nI t) (hf : fw j = nI k0) (hk0 : k0 < 1100) (h1 : rSnd g mn' fw') (h2 : ∀ e T k, rLe mn fw e T k → rLe mn' fw' e T k)
    (h3 : ∀ d' h' r' f' w b, rE g (uD j) (uH j) (uR j) (uF j) d' h' r' f' w b → rLe mn' fw' (rcd d' h' r' f') (t + w) (k0 + b)) : rDj g mn' fw' t (j + 1) := by
  refine ⟨h1, h2 _ _ _ D.2.1, fun d h r f T k hp hb d' h' r' f' w b he => ?_⟩
  by_cases q : bef T (rcd d h r f) t j
  · exact h2 _ _ _ (D.2.2 _ _ _ _ _ _ hp q _ _ _ _ _ _ he)
  · have hTj : T = t ∧ rcd d h r f = j := by unfold bef at hb q; omega
    obtain ⟨hTt, hcj⟩ := hTj
    have hle := rDj_at v D hp (by omega)
    rw [hcj] at hle
    obtain ⟨T', k', g1, g2, g3, g4, g5⟩ := hle
    have e1 : T' = t := nI_f g3 (by omega) (g1 ▸ hm)
    have e2 : k' = k0 := nI_f g4 hk0 (g2 ▸ hf)
    obtain ⟨a1, a2, a3, a4⟩ := rdec v hp hcj
    rw [a1, a2, a3, a4] at he
    refine rLe_tr (h3 _ _ _ _ _ _ he) ?_
    unfold lx at g5 ⊢
    omega
theorem rDj_next {g : qPg} (v : gV g) {mn fw : Nat → Int32} {t : Nat} (D : rDj g mn fw t 80000) : rDj g mn fw (t + 1) 0 := by
  refine ⟨D.1, D.2.1, fun d h r f T k hp hb d' h' r' f' w b he => D.2.2 _ _ _ _ _ _ hp ?_ _ _ _ _ _ _ he⟩
  have := (rW_ok v hp).2.2.1
  unfold bef at *
  omega
/-- nobody done before (t, j) -/
def rPN (g : qPg) (t j : Nat) : Prop := ∀ d h r f T k, rW g d h r f T k → full g d → ¬ bef T (rcd d h r f) t j
/-- done at minute t, so many thanks among the first j -/
def rPS (g : qPg) (t j k : Nat) : Prop := rPN g t 0 ∧ (∃ d h r f, rW g d h r f t k ∧ full g d) ∧ ∀ d h r f k', rW g d h r f t k' → full g d → rcd d h r f < j → k ≤ k'
theorem rPN_skip {g : qPg} (v : gV g) {mn fw : Nat → Int32} {t j : Nat} (ht : t < 1000) (D : rDj g mn fw t j) (hj : j < 80000) (P : rPN g t j) (hn : ¬ (mn j = nI t ∧ full g (uD j))) : rPN g t (j + 1) := by
  intro d h r f T k hp hf hb
  by_cases q : bef T (rcd d h r f) t j
  · exact P _ _ _ _ _ _ hp hf q
  · have hTj : T = t ∧ rcd d h r f = j := by unfold bef at hb q; omega
    obtain ⟨hTt, hcj⟩ := hTj
    obtain ⟨a1, a2, a3, a4⟩ := rdec v hp hcj
    have hm : ¬ mn j = nI t := fun z => hn ⟨z, by rw [← a1]; exact hf⟩
    have hle := rDj_at v D hp (by omega)
    rw [hcj] at hle
    obtain ⟨T', k', h1, h2, h3, h4, h5⟩ := hle
    have hlt : T' < t := by
      unfold lx at h5
      rcases h5 with h5 | ⟨h5, -⟩
      · omega
      · exact absurd (by rw [h1, h5, hTt]) hm
    rcases D.1 j hj with hm' | ⟨T2, k2, g1, g2, g3, g4, g5⟩
    · rw [h1] at hm'
      exact absurd hm' (fun z => by
        have h9 := congrArg Int32.toInt z
        rw [nI_i (by omega)] at h9
        have e1 : (-1 : Int32).toInt = -1 := rfl
        rw [e1] at h9; omega)
    · have e : T2 = T' := nI_f g3 h3 (g1 ▸ h1)
      unfold rSt2 at g5
      rw [← a1, ← a2, ← a3, ← a4] at g5
      exact P _ _ _ _ _ _ g5 hf (Or.inl (by omega))
/-- the first that is done -/
theorem rPS_first {g : qPg} (v : gV g) {mn fw : Nat → Int32} {t j k0 : Nat} (ht : t < 1000) (D : rDj g mn fw t j) (hj : j < 80000) (P : rPN g t j) (hm : mn j = nI t) (hf : fw j = nI k0) (hk : k0 < 1100) (hfu : full g (uD j)) : rPS g t (j + 1) k0 := by
  rcases D.1 j hj with hm' | ⟨T2, k2, g1, g2, g3, g4, g5⟩
  · rw [hm] at hm'
    exact absurd hm' (fun z => by
      have h9 := congrArg Int32.toInt z
      rw [nI_i (by omega)] at h9
      have e1 : (-1 : Int32).toInt = -1 := rfl
      rw [e1] at h9; omega)
  · have e1 : T2 = t := nI_f g3 (by omega) (g1 ▸ hm)
    have e2 : k2 = k0 := nI_f (by omega) hk (g2 ▸ hf)
    rw [e1, e2] at g5
    refine ⟨fun d h r f T k hp hf' hb => P _ _ _ _ _ _ hp hf' (by unfold bef at *; omega), ⟨_, _, _, _, g5, hfu⟩, fun d h r f k' hp hf' hc => ?_⟩
    by_cases q : rcd d h r f < j
    · exact absurd (Or.inr ⟨rfl, q⟩) (P _ _ _ _ _ _ hp hf')
    · have hle := rDj_at v D hp (Nat.le_refl _)
      rw [show rcd d h r f = j by omega] at hle
      obtain ⟨T', k3, u1, u2, u3, u4, u5⟩ := hle
      have : k3 = k0 := nI_f u4 hk (u2 ▸ hf)
      have : T' = t := nI_f u3 (by omega) (u1 ▸ hm)
      unfold lx at u5
      omega
/-- another one -/
theorem rPS_more {g : qPg} (v : gV g) {mn fw : Nat → Int32} {t j k : Nat} (ht : t < 1000) (D : rDj g mn fw t j) (hj : j < 80000) (P : rPS g t j k) : (¬ (mn j = nI t ∧ full g (uD j)) → rPS g t (j + 1) k) ∧ (∀ k0, mn j = nI t → fw j = nI k0 → k0 < 1100 → full g (uD j) → rPS g t (j + 1) (if k0 < k then k0 else k)) := by
  obtain ⟨P1, P2, P3⟩ := P
  constructor
  · intro hn
    refine ⟨P1, P2, fun d h r f k' hp hf hc => ?_⟩
    by_cases q : rcd d h r f < j
    · exact P3 _ _ _ _ _ hp hf q
    · have hcj : rcd d h r f = j := by omega
      obtain ⟨a1, a2, a3, a4⟩ := rdec v hp hcj
      have hm : ¬ mn j = nI t := fun z => hn ⟨z, by rw [← a1]; exact hf⟩
      have hle := rDj_at v D hp (Nat.le_refl _)
      rw [hcj] at hle
      obtain ⟨T', k3, h1, h2, h3, h4, h5⟩ := hle
      have hlt : T' < t := by
        unfold lx at h5
        rcases h5 with h5 | ⟨h5, -⟩
        · exact h5
        · exact absurd (by rw [h1, h5]) hm
      rcases D.1 j hj with hm' | ⟨T2, k2, g1, g2, g3, g4, g5⟩
      · rw [h1] at hm'
        exact absurd hm' (fun z => by
          have h9 := congrArg Int32.toInt z
          rw [nI_i (by omega)] at h9
          have e1 : (-1 : Int32).toInt = -1 := rfl
          rw [e1] at h9; omega)
      · have e : T2 = T' := nI_f g3 h3 (g1 ▸ h1)
        unfold rSt2 at g5
        rw [← a1, ← a2, ← a3, ← a4] at g5
        exact absurd (Or.inl (by omega)) (P1 _ _ _ _ _ _ g5 hf)
  · intro k0 hm hf hk hfu
    rcases D.1 j hj with hm' | ⟨T2, k2, g1, g2, g3, g4, g5⟩
    · rw [hm] at hm'
      exact absurd hm' (fun z => by
        have h9 := congrArg Int32.toInt z
        rw [nI_i (by omega)] at h9
        have e1 : (-1 : Int32).toInt = -1 := rfl
        rw [e1] at h9; omega)
    · have e1 : T2 = t := nI_f g3 (by omega) (g1 ▸ hm)
      have e2 : k2 = k0 := nI_f (by omega) hk (g2 ▸ hf)
      rw [e1, e2] at g5
      refine ⟨P1, ?_, fun d h r f k' hp hf' hc => ?_⟩
      · by_cases c : k0 < k
        · rw [if_pos c]; exact ⟨_, _, _, _, g5, hfu⟩
        · rw [if_neg c]; exact P2
      · have hmin : (if k0 < k then k0 else k) ≤ k ∧ (if k0 < k then k0 else k) ≤ k0 := by split <;> omega
        by_cases q : rcd d h r f < j
        · have := P3 _ _ _ _ _ hp hf' q; omega
        · have hle := rDj_at v D hp (Nat.le_refl _)
          rw [show rcd d h r f = j by omega] at hle
          obtain ⟨T', k3, u1, u2, u3, u4, u5⟩ := hle
          have : k3 = k0 := nI_f u4 hk (u2 ▸ hf)
          have : T' = t := nI_f u3 (by omega) (u1 ▸ hm)
          unfold lx at u5
          omega
theorem rPS_end {g : qPg} (v : gV g) {t k : Nat} (P : rPS g t 80000 k) : isPl g t k := by
  refine ⟨P.2.1, fun d h r f T k' hp hf => ?_⟩
  have h1 := P.1 _ _ _ _ _ _ hp hf
  by_cases q : T = t
  · subst q
    exact Or.inr ⟨rfl, P.2.2 _ _ _ _ _ hp hf (rW_ok v hp).2.2.1⟩
  · exact Or.inl (by unfold bef at h1; omega)
/-- no time left -/
theorem rPN_far {g : qPg} (v : gV g) (P : rPN g 1000 0) : noPl g := fun d h r f T k hp hf => by
  obtain ⟨h', r', f', T', k', h1, h2, -⟩ := r_soon v hp
  exact P _ _ _ _ _ _ h1 hf (Or.inl (by omega))
/-- no state left -/
theorem rPN_none {g : qPg} (v : gV g) {mn fw : Nat → Int32} {t : Nat} (D : rDj g mn fw (t + 1) 0) (P : rPN g (t + 1) 0) (hl : ∀ i, i < 80000 → mn i = -1 ∨ ∃ T, T ≤ t ∧ mn i = nI T) (ht : t < 1000) : noPl g := by
  have hall : ∀ n d h r f T k, rP g n d h r f T k → ∃ T0 k0, T0 ≤ t ∧ lx T0 k0 T k ∧ rW g d h r f T0 k0 := by
    have hre : ∀ d h r f T k, rW g d h r f T k → rLe mn fw (rcd d h r f) T k → ∃ T0 k0, T0 ≤ t ∧ lx T0 k0 T k ∧ rW g d h r f T0 k0 := fun d h r f T k hp ⟨T1, k1, u1, u2, u3, u4, u5⟩ => by
      have hc := (rW_ok v hp).2.2.1
      obtain ⟨a1, a2, a3, a4⟩ := rdec v hp rfl
      have hT1 : T1 ≤ t := by
        rcases hl _ hc with z | ⟨T9, hT9, z⟩
        · rw [u1] at z
          exact absurd z (fun z => by
            have h9 := congrArg Int32.toInt z
            rw [nI_i (by omega)] at h9
            have e1 : (-1 : Int32).toInt = -1 := rfl
            rw [e1] at h9; omega)
        · have := nI_f (by omega) u3 (z ▸ u1); omega
      rcases D.1 _ hc with z | ⟨T2, k2, g1, g2, g3, g4, g5⟩
      · rw [u1] at z
        exact absurd z (fun z => by
          have h9 := congrArg Int32.toInt z
          rw [nI_i (by omega)] at h9
          have e1 : (-1 : Int32).toInt = -1 := rfl
          rw [e1] at h9; omega)
      · have e1 : T2 = T1 := nI_f g3 u3 (g1 ▸ u1)
        have e2 : k2 = k1 := nI_f (by omega) u4 (g2 ▸ u2)
        rw [e1, e2] at g5
        unfold rSt2 at g5
        rw [← a1, ← a2, ← a3, ← a4] at g5
        exact ⟨T1, k1, hT1, u5, g5⟩
    intro n
    induction n with
    | zero =>
      intro d h r f T k hp
      have hp' := hp
      obtain ⟨e1, e2, e3, e4, e5, e6⟩ := hp'
      subst e1 e2 e3 e4 e5 e6
      exact hre _ _ _ _ _ _ ⟨0, hp⟩ D.2.1
    | succ n ih =>
      intro d h r f T k hp
      have hp0 : rW g d h r f T k := ⟨n + 1, hp⟩
      obtain ⟨d1, h1, r1, f1, T1, k1, w, b, hp1, he, rfl, rfl⟩ := hp
      obtain ⟨T0, k0, u1, u2, u3⟩ := ih _ _ _ _ _ _ hp1
      exact hre _ _ _ _ _ _ hp0 (rLe_tr (D.2.2 _ _ _ _ _ _ u3 (Or.inl (by omega)) _ _ _ _ _ _ he) (lx_add u2 w b))
  intro d h r f T k ⟨n, hp⟩ hf
  obtain ⟨T0, k0, u1, -, u3⟩ := hall n _ _ _ _ _ _ hp
  exact P _ _ _ _ _ _ u3 hf (Or.inl (by omega))
