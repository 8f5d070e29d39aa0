/-! plans: the reference's fewest thanks, level by level -/
def fLe (fw : Nat → Int32) (c v : Nat) : Prop := ∃ u, fw c = nI u ∧ u ≤ v ∧ u < 1000
def fSnd (g : qPg) (fw : Nat → Int32) : Prop := ∀ i, i < 80000 → fw i = -1 ∨ ∃ T k, fw i = nI k ∧ k < 1000 ∧ rSt2 g i T k
/-- marked, with its thanks, not done, its ways taken -/
def fMk (g : qPg) (mn fw : Nat → Int32) (n : Nat) : Prop := ∀ i, i < 80000 → mn i = -1 ∨ ∃ k, fw i = nI k ∧ k ≤ n ∧ ¬ full g (uD i) ∧ ∀ d' h' r' f' w b, rE g (uD i) (uH i) (uR i) (uF i) d' h' r' f' w b → fLe fw (rcd d' h' r' f') (k + b)
/-- at level n: what is not marked has n or more -/
def fLv (mn fw : Nat → Int32) (n : Nat) : Prop := ∀ i, i < 80000 → mn i = -1 → fw i = -1 ∨ ∃ k, fw i = nI k ∧ n ≤ k ∧ k < 1000
def fwA (g : qPg) (mn fw : Nat → Int32) (n : Nat) : Prop := fSnd g fw ∧ fMk g mn fw n ∧ fLv mn fw n ∧ fLe fw (rcd (fun _ => false) (fun _ => false) (g0r g) (g0f g)) 0
theorem m1_nI2 {n : Nat} (h : n < 1000) : ¬ nI n = -1 := nI_m1 h
theorem nI_g {a b : Nat} (ha : a < 1100) (hb : b < 1100) (h : nI a = nI b) : a = b := (nI_eq (by omega) (by omega)).mp h
/-- all with fewer than N are marked: a path with fewer than N ends in a marked state -/
theorem f_path {g : qPg} (v : gV g) {mn fw : Nat → Int32} {n N : Nat} (S : fSnd g fw) (M : fMk g mn fw n) (hs : fLe fw (rcd (fun _ => false) (fun _ => false) (g0r g) (g0f g)) 0) (hN : ∀ i k, i < 80000 → fw i = nI k → k < N → ¬ mn i = -1) (hN2 : N ≤ 100) (hn : n ≤ 100) : ∀ m d h r f T k, rP g m d h r f T k → k < N → fLe fw (rcd d h r f) k ∧ ¬ full g d := by
  have hmk : ∀ d h r f T k, rW g d h r f T k → k < N → fLe fw (rcd d h r f) k → ¬ full g d ∧ ∃ u, u ≤ k ∧ ∀ d' h' r' f' w b, rE g d h r f d' h' r' f' w b → fLe fw (rcd d' h' r' f') (u + b) := fun d h r f T k hp hk ⟨u, u1, u2, u3⟩ => by
    obtain ⟨-, -, hc, e1, e2, e3, e4⟩ := rW_ok v hp
    obtain ⟨k2, g1, g2, g3, g4⟩ := (M _ hc).resolve_left (hN _ u hc u1 (by omega))
    have : nI k2 = nI u := g1 ▸ u1
    rw [e1] at g3
    rw [e1, e2, e3, e4] at g4
    refine ⟨g3, u, u2, fun d' h' r' f' w b he => ?_⟩
    obtain ⟨z, z1, z2, z3⟩ := g4 _ _ _ _ _ _ he
    have hk2 : k2 = u := nI_g (by omega) (by omega) this
    exact ⟨z, z1, by omega, z3⟩
  intro m
  induction m with
  | zero =>
    intro d h r f T k hp hk
    have hp' := hp
    obtain ⟨e1, e2, e3, e4, e5, e6⟩ := hp'
    subst e1 e2 e3 e4 e5 e6
    exact ⟨hs, (hmk _ _ _ _ _ _ ⟨0, hp⟩ hk hs).1⟩
  | succ m ih =>
    intro d h r f T k hp hk
    have hp0 : rW g d h r f T k := ⟨m + 1, hp⟩
    obtain ⟨d1, h1, r1, f1, T1, k1, w, b, hp1, he, rfl, rfl⟩ := hp
    obtain ⟨a1, -⟩ := ih _ _ _ _ _ _ hp1 (by omega)
    obtain ⟨-, u, hu, hw⟩ := hmk _ _ _ _ _ _ ⟨m, hp1⟩ (by omega) a1
    obtain ⟨z, z1, z2, z3⟩ := hw _ _ _ _ _ _ he
    have a2 : fLe fw (rcd d h r f) (k1 + b) := ⟨z, z1, by omega, z3⟩
    exact ⟨a2, (hmk _ _ _ _ _ _ hp0 hk a2).1⟩
theorem rE_b1 {g : qPg} {d h d' h' : Nat → Bool} {r r' : Nat} {f f' : Nat → Nat} {w b : Nat} (e : rE g d h r f d' h' r' f' w b) : b ≤ 1 := by
  rcases e with ⟨s, hs, ha, rfl, rfl, rfl, rfl, rfl, rfl⟩ | ⟨s, q, hs, hh, hq, hne, rfl, rfl, rfl, rfl, rfl, rfl⟩ | ⟨t, ht, hd, hop, hcn, rfl, rfl, rfl, rfl, rfl, rfl⟩ <;> omega
/-- a way taken -/
theorem f_rel {g : qPg} {mn fw : Nat → Int32} {n c b T : Nat} (S : fSnd g fw) (V : fLv mn fw n) (hc : c < 80000) (hn : n ≤ 100) (hb : b ≤ 1) (hp : rSt2 g c T (n + b)) :
    ((fw c = -1 ∨ nI (n + b) < fw c) → fSnd g (upd fw c (nI (n + b))) ∧ fLv mn (upd fw c (nI (n + b))) n ∧ fLe (upd fw c (nI (n + b))) c (n + b) ∧ (∀ e z, fLe fw e z → fLe (upd fw c (nI (n + b))) e z) ∧ (∀ i k, fw i = nI k → k ≤ n → upd fw c (nI (n + b)) i = nI k) ∧ (0 < b → ∀ i, upd fw c (nI (n + b)) i = nI n → fw i = nI n)) ∧
    (¬ (fw c = -1 ∨ nI (n + b) < fw c) → fLe fw c (n + b)) := by
  constructor
  · intro y
    have hold : ∀ i k, fw i = nI k → k ≤ n → i ≠ c := fun i k hi hk e => by
      subst e
      rcases y with y | y
      · rw [hi] at y; exact m1_nI2 (by omega) y
      · rw [hi, nI_ltI (by omega) (by omega)] at y; omega
    refine ⟨fun i hi => ?_, fun i hi hm => ?_, ⟨n + b, by unfold upd; rw [if_pos rfl], Nat.le_refl _, by omega⟩, fun e z ⟨u, h1, h2, h3⟩ => ?_, fun i k hi hk => ?_, fun h0 i hi => ?_⟩
    · by_cases e : i = c
      · subst e; exact Or.inr ⟨T, n + b, by unfold upd; rw [if_pos rfl], by omega, hp⟩
      · unfold upd; rw [if_neg e]; exact S i hi
    · by_cases e : i = c
      · subst e; exact Or.inr ⟨n + b, by unfold upd; rw [if_pos rfl], by omega, by omega⟩
      · unfold upd; rw [if_neg e]; exact V i hi hm
    · by_cases q : e = c
      · subst q
        refine ⟨n + b, by unfold upd; rw [if_pos rfl], ?_, by omega⟩
        rcases y with y | y
        · rw [h1] at y; exact absurd y (m1_nI2 h3)
        · rw [h1, nI_ltI (by omega) (by omega)] at y; omega
      · exact ⟨u, by unfold upd; rw [if_neg q]; exact h1, h2, h3⟩
    · unfold upd; rw [if_neg (hold i k hi hk)]; exact hi
    · by_cases e : i = c
      · subst e
        unfold upd at hi
        rw [if_pos rfl] at hi
        have := nI_g (by omega) (by omega) hi
        omega
      · unfold upd at hi
        rw [if_neg e] at hi; exact hi
  · intro y
    rcases S c hc with h | ⟨T', k, h1, h2, -⟩
    · exact absurd (Or.inl h) y
    · refine ⟨k, h1, Nat.le_of_not_lt fun q => y (Or.inr ?_), h2⟩
      rw [h1]; exact nI_lt q (by omega)
/-- found: nobody does it with fewer -/
theorem f_found {g : qPg} (v : gV g) {mn fw : Nat → Int32} {n i : Nat} (S : fSnd g fw) (M : fMk g mn fw n) (V : fLv mn fw n) (hs : fLe fw (rcd (fun _ => false) (fun _ => false) (g0r g) (g0f g)) 0) (hn : n ≤ 100) (hi : i < 80000) (hf : fw i = nI n) (hfu : full g (uD i)) : isFw g n := by
  have hN : ∀ i k, i < 80000 → fw i = nI k → k < n → ¬ mn i = -1 := fun i k hi hk hlt hm => by
    rcases V i hi hm with a | ⟨k2, a, b, c⟩
    · rw [hk] at a; exact m1_nI2 (by omega) a
    · have := nI_g (by omega) (by omega) (a ▸ hk)
      omega
  rcases S i hi with a | ⟨T, k, a, b, c⟩
  · rw [hf] at a; exact absurd a (m1_nI2 (by omega))
  · have : k = n := nI_g (by omega) (by omega) (a ▸ hf)
    subst this
    refine ⟨⟨_, _, _, _, T, c, hfu⟩, fun d h r f T' k' ⟨m, hp⟩ hf' => Nat.le_of_not_lt fun q => ?_⟩
    exact (f_path v S M hs hN (by omega) hn m _ _ _ _ _ _ hp q).2 hf'
/-- not found up to twelve -/
theorem f_none {g : qPg} (v : gV g) {mn fw : Nat → Int32} (S : fSnd g fw) (M : fMk g mn fw 12) (V : fLv mn fw 13) (hs : fLe fw (rcd (fun _ => false) (fun _ => false) (g0r g) (g0f g)) 0) : noPl g := fun d h r f T k hp hf => by
  obtain ⟨h', r', f', T', k', ⟨m, h1⟩, h2, -⟩ := r_few v hp
  have hN : ∀ i k, i < 80000 → fw i = nI k → k < 13 → ¬ mn i = -1 := fun i k hi hk hlt hm => by
    rcases V i hi hm with a | ⟨k2, a, b, c⟩
    · rw [hk] at a; exact m1_nI2 (by omega) a
    · have := nI_g (by omega) (by omega) (a ▸ hk)
      omega
  exact (f_path v S M hs hN (by omega) (by omega) m _ _ _ _ _ _ h1 (by omega)).2 hf
/-- the next level -/
theorem f_next {mn fw : Nat → Int32} {n : Nat} (V : fLv mn fw n) (h : ∀ i, i < 80000 → fw i = nI n → ¬ mn i = -1) : fLv mn fw (n + 1) := fun i hi hm => by
  rcases V i hi hm with a | ⟨k, a, b, c⟩
  · exact Or.inl a
  · refine Or.inr ⟨k, a, ?_, c⟩
    by_cases e : k = n
    · subst e; exact absurd hm (h i hi a)
    · omega
theorem f_mk1 {g : qPg} {mn fw : Nat → Int32} {n : Nat} (M : fMk g mn fw n) : fMk g mn fw (n + 1) := fun i hi => by
  rcases M i hi with a | ⟨k, a, b, c⟩
  · exact Or.inl a
  · exact Or.inr ⟨k, a, by omega, c⟩
/-- how many are marked -/
def fCm (mn : Nat → Int32) : Nat := sm (fun i => if mn i = -1 then 0 else 1) 80000
theorem fCm_le (mn : Nat → Int32) : fCm mn ≤ 80000 := by
  have h : ∀ n, sm (fun i => if mn i = -1 then 0 else 1) n ≤ n := fun n => by
    induction n with
    | zero => exact Nat.le_refl _
    | succ n ih => rw [sm]; split <;> omega
  exact h _
theorem fCm_up {mn : Nat → Int32} {j n : Nat} (hj : j < 80000) (hm : mn j = -1) (hn : n < 1000) : fCm (upd mn j (nI n)) = fCm mn + 1 := by
  have h : ∀ k, sm (fun i => if upd mn j (nI n) i = -1 then 0 else 1) k = sm (fun i => if mn i = -1 then 0 else 1) k + (if j < k then 1 else 0) := fun k => by
    induction k with
    | zero => rfl
    | succ k ih =>
      rw [sm, sm, ih]
      by_cases e : k = j
      · subst e
        have e1 : upd mn k (nI n) k = nI n := by unfold upd; rw [if_pos rfl]
        rw [e1, if_neg (m1_nI2 hn), if_pos hm, if_neg (Nat.lt_irrefl k), if_pos (Nat.lt_succ_self k)]
      · have e1 : upd mn j (nI n) k = mn k := by unfold upd; rw [if_neg e]
        rw [e1]
        by_cases c : j < k
        · rw [if_pos c, if_pos (show j < k + 1 by omega)]; omega
        · rw [if_neg c, if_neg (show ¬ j < k + 1 by omega)]; omega
  have := h 80000
  rw [if_pos hj] at this
  exact this
