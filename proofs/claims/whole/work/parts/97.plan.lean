/-! plans: the class's table, in the order of the numbers -/
theorem eB_up {A : Nat → Bool} {n s : Nat} (hn : n ≤ 4) (hA : ∀ t, n ≤ t → A t = false) (hs : s < n) (h : A s = false) : eB (va_up A s true) = eB A + 2 ^ s := by
  obtain ⟨g1, g2⟩ := eB_bt hn hA
  have h16 : 2 ^ n ≤ 16 := Nat.pow_le_pow_right (n := 2) (by omega) hn
  obtain ⟨g3, g4⟩ := bt_up hn g1 hs (by rw [g2]; exact h)
  obtain ⟨g5, g6⟩ := eB_bt (A := va_up A s true) hn (fun t ht => by rw [vu_n (by omega)]; exact hA t ht)
  refine bt_inj (by omega) (by omega) (fun t _ => ?_)
  rw [g6, g4, g2]
def sc (g : qPg) (d h : Nat → Bool) (r : Nat) (f : Nat → Nat) : Nat := sN (gS g) (gR g) (eB d) (eB h) r (dgs f (gR g) (gS g) 0)
def nst (g : qPg) : Nat := 2 ^ gN g * 2 ^ gS g * gR g * gR g ^ gS g
theorem sc_ok {g : qPg} (v : gV g) {d h : Nat → Bool} {r : Nat} {f : Nat → Nat} (o : okS g d h r f) : sc g d h r f < nst g ∧ bt (iD (gS g) (gR g) (sc g d h r f)) = d ∧ bt (iH (gS g) (gR g) (sc g d h r f)) = h ∧ iR (gS g) (gR g) (sc g d h r f) = r ∧ iF (gS g) (gR g) (sc g d h r f) = f := by
  obtain ⟨o1, o2, o3, o4, o5⟩ := o
  have v1 := v.1
  have v3 := v.2.2.1
  obtain ⟨d1, d2⟩ := eB_bt (by omega) o1
  obtain ⟨h1, h2⟩ := eB_bt (by omega) o2
  have hp : dgs f (gR g) (gS g) 0 < gR g ^ gS g := dgs_lt _ _ (fun s _ hs => o4 s (by omega))
  unfold sc
  exact ⟨sN_lt d1 h1 o3 hp, by rw [sN_d h1 o3 hp]; exact d2, by rw [sN_h h1 o3 hp]; exact h2, sN_r o3 hp, sN_f o4 o5⟩
theorem sc_up {g : qPg} (v : gV g) {d' h' d h : Nat → Bool} {r' r : Nat} {f' f : Nat → Nat} {w b : Nat} (o : okS g d' h' r' f') (e : cE g d' h' r' f' d h r f w b) : sc g d' h' r' f' < sc g d h r f := by
  obtain ⟨o1, o2, o3, o4, o5⟩ := o
  have v1 := v.1
  have v3 := v.2.2.1
  have hh := (eB_bt (by omega) o2).1
  have hp : dgs f' (gR g) (gS g) 0 < gR g ^ gS g := dgs_lt _ _ (fun s _ hs => o4 s (by omega))
  unfold sc
  rcases e with ⟨s, hs, ha, hs1, rfl, rfl, rfl, rfl, rfl, rfl⟩ | ⟨t, H, ht, hd, hop, hH, hcn, rfl, rfl, rfl, rfl, rfl, rfl⟩
  · refine sN_up hh o3 hp (Or.inr ⟨rfl, ?_⟩)
    rw [eB_up (by omega) o2 hs hs1]
    have := p2_0 s
    omega
  · refine sN_up hh o3 hp (Or.inl ?_)
    rw [eB_up (by omega) o1 ht hd]
    have := p2_0 t
    omega
def lv (l : Nat → Int32) (x v : Nat) : Prop := ∃ u, l x = nI u ∧ u ≤ v
def cSt (g : qPg) (i T k : Nat) : Prop := cW g (bt (iD (gS g) (gR g) i)) (bt (iH (gS g) (gR g) i)) (iR (gS g) (gR g) i) (iF (gS g) (gR g) i) T k
def cSnd (g : qPg) (c : Nat) (l : Nat → Int32) : Prop := ∀ i, i < nst g → l i = 1000000000 ∨ ∃ T k, l i = nI (T * c + k) ∧ cSt g i T k
def rch (l : Nat → Int32) (x : Nat) (v : Int32) : Nat → Int32 := if v < l x then upd l x v else l
theorem NV : (1000000000 : Int32) = nI 1000000000 := rfl
theorem c_small {g : qPg} (v : gV g) {c : Nat} (hc : c ≤ 1000) {d h : Nat → Bool} {r : Nat} {f : Nat → Nat} {T k : Nat} (hp : cW g d h r f T k) : T * c + k < 300000 := by
  obtain ⟨h1, h2⟩ := c_bnd v hp
  have : T * c ≤ 243 * 1000 := Nat.mul_le_mul h1 hc
  omega
theorem rch_1 {g : qPg} (v : gV g) {c : Nat} (hc : c ≤ 1000) {l : Nat → Int32} (hl : cSnd g c l) {x T k : Nat} (hx : x < nst g) (hp : cSt g x T k) : cSnd g c (rch l x (nI (T * c + k))) ∧ lv (rch l x (nI (T * c + k))) x (T * c + k) ∧ ∀ y w, lv l y w → lv (rch l x (nI (T * c + k))) y w := by
  have hs := c_small v hc hp
  have hval : ∃ u, l x = nI u ∧ u ≤ 1000000000 := by
    rcases hl x hx with h | ⟨T', k', h, hp'⟩
    · exact ⟨_, h, Nat.le_refl _⟩
    · exact ⟨_, h, by have := c_small v hc hp'; omega⟩
  obtain ⟨u, hu, hu9⟩ := hval
  have hcmp : nI (T * c + k) < l x ↔ T * c + k < u := by rw [hu, nI_ltI (by omega) (by omega)]
  unfold rch
  by_cases q : nI (T * c + k) < l x
  · rw [if_pos q]
    refine ⟨fun i hi => ?_, ⟨_, by unfold upd; rw [if_pos rfl], Nat.le_refl _⟩, fun y w ⟨z, hz, hzw⟩ => ?_⟩
    · by_cases e : i = x
      · subst e
        exact Or.inr ⟨T, k, by unfold upd; rw [if_pos rfl], hp⟩
      · have := hl i hi
        unfold upd; rw [if_neg e]; exact this
    · by_cases e : y = x
      · subst e
        refine ⟨T * c + k, by unfold upd; rw [if_pos rfl], ?_⟩
        by_cases hz9 : z < 2147483648
        · have : z = u := (nI_eq (by omega) (by omega)).mp (hz ▸ hu)
          have := hcmp.mp q
          omega
        · omega
      · exact ⟨z, by unfold upd; rw [if_neg e]; exact hz, hzw⟩
  · rw [if_neg q]
    refine ⟨hl, ⟨u, hu, ?_⟩, fun _ _ h => h⟩
    rw [hcmp] at q
    omega
/-- the table when all states before j have been worked -/
def cDP (g : qPg) (c : Nat) (l : Nat → Int32) (bs : Int32) (j : Nat) : Prop :=
  cSnd g c l ∧ lv l (sc g (fun _ => false) (fun _ => false) (g0r g) (g0f g)) 0 ∧
  (∀ d h r f T k, cW g d h r f T k → ¬ full g d → sc g d h r f < j → ∀ d' h' r' f' w b, cE g d h r f d' h' r' f' w b → lv l (sc g d' h' r' f') ((T + w) * c + (k + b))) ∧
  (bs = 1000000000 ∨ ∃ d h r f T k, cW g d h r f T k ∧ full g d ∧ bs = nI (T * c + k)) ∧
  (∀ d h r f T k, cW g d h r f T k → full g d → sc g d h r f < j → ∃ u, bs = nI u ∧ u ≤ T * c + k)
theorem full_up {g : qPg} {d' h' d h : Nat → Bool} {r' r : Nat} {f' f : Nat → Nat} {w b : Nat} (e : cE g d' h' r' f' d h r f w b) (hf : full g d') : full g d := by
  rcases e with ⟨s, hs, ha, hs1, rfl, rfl, rfl, rfl, rfl, rfl⟩ | ⟨t, H, ht, hd, hop, hH, hcn, rfl, rfl, rfl, rfl, rfl, rfl⟩
  · exact hf
  · intro j hj
    by_cases q : j = t
    · rw [q, vu_s]
    · rw [vu_n q]; exact hf j hj
theorem dp_at {g : qPg} (v : gV g) {c : Nat} {l : Nat → Int32} {bs : Int32} {j : Nat} (D : cDP g c l bs j) {d h : Nat → Bool} {r : Nat} {f : Nat → Nat} {T k : Nat} (hp : cW g d h r f T k) (hj : sc g d h r f = j) : lv l j (T * c + k) ∨ (full g d ∧ ∃ u, bs = nI u ∧ u ≤ T * c + k) := by
  obtain ⟨D1, D2, D3, D4, D5⟩ := D
  obtain ⟨n, hp⟩ := hp
  cases n with
  | zero =>
    obtain ⟨e1, e2, e3, e4, e5, e6⟩ := hp
    subst e1 e2 e3 e4 e5 e6
    rw [hj] at D2
    obtain ⟨u, hu, h0⟩ := D2
    exact Or.inl ⟨u, hu, by omega⟩
  | succ n =>
    obtain ⟨d', h', r', f', T', k', w, b, hp', he, rfl, rfl⟩ := hp
    have hlt := sc_up v (c_inv v n _ _ _ _ _ _ hp').1 he
    by_cases q : full g d'
    · obtain ⟨u, hu, h1⟩ := D5 _ _ _ _ _ _ ⟨n, hp'⟩ q (by omega)
      refine Or.inr ⟨full_up he q, u, hu, ?_⟩
      rw [Nat.add_mul]; omega
    · have := D3 _ _ _ _ _ _ ⟨n, hp'⟩ q (by omega) _ _ _ _ _ _ he
      rw [hj] at this
      exact Or.inl this
theorem dp_none {g : qPg} (v : gV g) {c : Nat} (hc : c ≤ 1000) {l : Nat → Int32} {bs : Int32} {j : Nat} (D : cDP g c l bs j) (hj : l j = 1000000000) : cDP g c l bs (j + 1) := by
  have hno : ∀ d h r f T k, cW g d h r f T k → ¬ lv l j (T * c + k) := fun d h r f T k hp ⟨u, hu, hu2⟩ => by
    have := c_small v hc hp
    rw [hj, NV] at hu
    have := (nI_eq (by omega) (by omega)).mp hu
    omega
  refine ⟨D.1, D.2.1, fun d h r f T k hp hf hs d' h' r' f' w b he => ?_, D.2.2.2.1, fun d h r f T k hp hf hs => ?_⟩
  · by_cases q : sc g d h r f < j
    · exact D.2.2.1 _ _ _ _ _ _ hp hf q _ _ _ _ _ _ he
    · rcases dp_at v D hp (by omega) with h1 | h1
      · exact absurd h1 (hno _ _ _ _ _ _ hp)
      · exact absurd h1.1 hf
  · by_cases q : sc g d h r f < j
    · exact D.2.2.2.2 _ _ _ _ _ _ hp hf q
    · rcases dp_at v D hp (by omega) with h1 | h1
      · exact absurd h1 (hno _ _ _ _ _ _ hp)
      · exact h1.2
theorem dec_j {g : qPg} (v : gV g) {d h : Nat → Bool} {r : Nat} {f : Nat → Nat} {T k j : Nat} (hp : cW g d h r f T k) (hj : sc g d h r f = j) : d = bt (iD (gS g) (gR g) j) ∧ h = bt (iH (gS g) (gR g) j) ∧ r = iR (gS g) (gR g) j ∧ f = iF (gS g) (gR g) j := by
  obtain ⟨n, hp⟩ := hp
  obtain ⟨-, e1, e2, e3, e4⟩ := sc_ok v (c_inv v n _ _ _ _ _ _ hp).1
  rw [hj] at e1 e2 e3 e4
  exact ⟨e1.symm, e2.symm, e3.symm, e4.symm⟩
/-- a state that is done: the best so far -/
theorem dp_full {g : qPg} (v : gV g) {c : Nat} (hc : c ≤ 1000) {l : Nat → Int32} {bs : Int32} {j : Nat} (D : cDP g c l bs j) (hjn : j < nst g) (hj : ¬ l j = 1000000000) (hf : full g (bt (iD (gS g) (gR g) j))) : cDP g c l (if bs ≤ l j then bs else l j) (j + 1) := by
  obtain ⟨T0, k0, hl, hp0⟩ := (D.1 j hjn).resolve_left hj
  have hs0 := c_small v hc hp0
  have hbs : ∃ u, bs = nI u ∧ u ≤ 1000000000 := by
    rcases D.2.2.2.1 with h | ⟨d, h, r, f, T, k, hp, -, h'⟩
    · exact ⟨_, h, Nat.le_refl _⟩
    · exact ⟨_, h', by have := c_small v hc hp; omega⟩
  obtain ⟨u, hu, hu9⟩ := hbs
  have hle : bs ≤ l j ↔ u ≤ T0 * c + k0 := by rw [hu, hl, nI_leI (by omega) (by omega)]
  have hnew : ∃ z, (if bs ≤ l j then bs else l j) = nI z ∧ z ≤ u ∧ z ≤ T0 * c + k0 := by
    by_cases q : bs ≤ l j
    · rw [if_pos q]; exact ⟨u, hu, Nat.le_refl _, hle.mp q⟩
    · rw [if_neg q]; rw [hle] at q; exact ⟨_, hl, by omega, Nat.le_refl _⟩
  obtain ⟨z, hz, hz1, hz2⟩ := hnew
  refine ⟨D.1, D.2.1, fun d h r f T k hp hf' hs d' h' r' f' w b he => ?_, ?_, fun d h r f T k hp hf' hs => ?_⟩
  · by_cases q : sc g d h r f < j
    · exact D.2.2.1 _ _ _ _ _ _ hp hf' q _ _ _ _ _ _ he
    · have := (dec_j v hp (j := j) (by omega)).1
      rw [this] at hf'
      exact absurd hf hf'
  · by_cases q : bs ≤ l j
    · rw [if_pos q]; exact D.2.2.2.1
    · rw [if_neg q]; exact Or.inr ⟨_, _, _, _, T0, k0, hp0, hf, hl⟩
  · refine ⟨z, hz, ?_⟩
    by_cases q : sc g d h r f < j
    · obtain ⟨y, hy, hy2⟩ := D.2.2.2.2 _ _ _ _ _ _ hp hf' q
      have hs1 := c_small v hc hp
      have : y = u := (nI_eq (by omega) (by omega)).mp (hy ▸ hu)
      omega
    · have hs1 := c_small v hc hp
      rcases dp_at v D hp (by omega) with ⟨y, hy, hy2⟩ | ⟨-, y, hy, hy2⟩
      · have : y = T0 * c + k0 := (nI_eq (by omega) (by omega)).mp (hy ▸ hl)
        omega
      · have : y = u := (nI_eq (by omega) (by omega)).mp (hy ▸ hu)
        omega
/-- a state that is not done: all its steps -/
theorem dp_step {g : qPg} (v : gV g) {c : Nat} (hc : c ≤ 1000) {l l' : Nat → Int32} {bs : Int32} {j T0 k0 : Nat} (D : cDP g c l bs j) (hl : l j = nI (T0 * c + k0)) (hp0 : cSt g j T0 k0) (h1 : cSnd g c l') (h2 : ∀ y w, lv l y w → lv l' y w) (hf : ¬ full g (bt (iD (gS g) (gR g) j)))
    (h3 : ∀ d' h' r' f' w b, cE g (bt (iD (gS g) (gR g) j)) (bt (iH (gS g) (gR g) j)) (iR (gS g) (gR g) j) (iF (gS g) (gR g) j) d' h' r' f' w b → lv l' (sc g d' h' r' f') ((T0 + w) * c + (k0 + b))) : cDP g c l' bs (j + 1) := by
  have hs0 := c_small v hc hp0
  refine ⟨h1, h2 _ _ D.2.1, fun d h r f T k hp hf' hs d' h' r' f' w b he => ?_, D.2.2.2.1, fun d h r f T k hp hf' hs => ?_⟩
  · by_cases q : sc g d h r f < j
    · exact h2 _ _ (D.2.2.1 _ _ _ _ _ _ hp hf' q _ _ _ _ _ _ he)
    · have hj : sc g d h r f = j := by omega
      have hs1 := c_small v hc hp
      have hle : T0 * c + k0 ≤ T * c + k := by
        rcases dp_at v D hp hj with ⟨y, hy, hy2⟩ | ⟨q, -⟩
        · have : y = T0 * c + k0 := (nI_eq (by omega) (by omega)).mp (hy ▸ hl)
          omega
        · exact absurd q hf'
      obtain ⟨e1, e2, e3, e4⟩ := dec_j v hp hj
      subst e1 e2 e3 e4
      obtain ⟨y, hy, hy2⟩ := h3 _ _ _ _ _ _ he
      refine ⟨y, hy, ?_⟩
      rw [Nat.add_mul] at hy2 ⊢
      omega
  · by_cases q : sc g d h r f < j
    · exact D.2.2.2.2 _ _ _ _ _ _ hp hf' q
    · have := (dec_j v hp (j := j) (by omega)).1
      rw [this] at hf'
      exact absurd hf' hf
theorem dp_end {g : qPg} (v : gV g) {c : Nat} (hc : c ≤ 1000) {l : Nat → Int32} {bs : Int32} (D : cDP g c l bs (nst g)) : (bs = 1000000000 ∧ cNo g) ∨ (∃ m, bs = nI m ∧ m < 300000 ∧ cMin g c m) := by
  have hlt : ∀ d h r f T k, cW g d h r f T k → sc g d h r f < nst g := fun d h r f T k ⟨n, hp⟩ => (sc_ok v (c_inv v n _ _ _ _ _ _ hp).1).1
  rcases D.2.2.2.1 with h | ⟨d, h, r, f, T, k, hp, hf, hb⟩
  · refine Or.inl ⟨h, fun d a r f T k hp hf => ?_⟩
    obtain ⟨u, hu, hu2⟩ := D.2.2.2.2 _ _ _ _ _ _ hp hf (hlt _ _ _ _ _ _ hp)
    have hs := c_small v hc hp
    rw [h, NV] at hu
    have := (nI_eq (by omega) (by omega)).mp hu
    omega
  · have hs := c_small v hc hp
    refine Or.inr ⟨T * c + k, hb, hs, ⟨d, h, r, f, T, k, hp, hf, rfl⟩, fun d' a' r' f' T' k' hp' hf' => ?_⟩
    obtain ⟨u, hu, hu2⟩ := D.2.2.2.2 _ _ _ _ _ _ hp' hf' (hlt _ _ _ _ _ _ hp')
    have hs' := c_small v hc hp'
    have : u = T * c + k := (nI_eq (by omega) (by omega)).mp (hu ▸ hb)
    omega
