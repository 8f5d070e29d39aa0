/-! plans: a state's number -/
def dgs (f : Nat → Nat) (R : Nat) : Nat → Nat → Nat
  | 0, _ => 0
  | n + 1, k => dgs f R n (k + 1) * R + f k
theorem dgs_lt {f : Nat → Nat} {R : Nat} : ∀ n k, (∀ s, k ≤ s → s < k + n → f s < R) → dgs f R n k < R ^ n := by
  intro n
  induction n with
  | zero => intro k _; exact Nat.one_pos
  | succ n ih =>
    intro k h
    have h1 := ih (k + 1) (fun s a b => h s (by omega) (by omega))
    have h2 := h k (by omega) (by omega)
    have h3 : (dgs f R n (k + 1) + 1) * R ≤ R ^ n * R := Nat.mul_le_mul_right R h1
    rw [Nat.add_mul, Nat.one_mul] at h3
    rw [dgs, Nat.pow_succ]
    omega
theorem dgs_dg {f : Nat → Nat} {R : Nat} (hR : 0 < R) : ∀ n k s, s < n → (∀ s, k ≤ s → s < k + n → f s < R) → dgs f R n k / R ^ s % R = f (k + s) := by
  intro n
  induction n with
  | zero => intro k s hs; omega
  | succ n ih =>
    intro k s hs h
    have h2 := h k (by omega) (by omega)
    rw [dgs]
    cases s with
    | zero => rw [Nat.pow_zero, Nat.div_one, Nat.mul_comm, Nat.mul_add_mod, Nat.mod_eq_of_lt h2]; rfl
    | succ s =>
      rw [Nat.pow_succ, Nat.mul_comm (R ^ s), ← Nat.div_div_eq_div_mul, Nat.mul_comm (dgs f R n (k + 1)), Nat.mul_add_div hR, Nat.div_eq_of_lt h2, Nat.add_zero, ih (k + 1) s (by omega) (fun s a b => h s (by omega) (by omega))]
      congr 1; omega
theorem dgs_cong {f f' : Nat → Nat} {R : Nat} : ∀ n k, (∀ s, k ≤ s → s < k + n → f s = f' s) → dgs f R n k = dgs f' R n k := by
  intro n
  induction n with
  | zero => intro k _; rfl
  | succ n ih =>
    intro k h
    rw [dgs, dgs, ih (k + 1) (fun s a b => h s (by omega) (by omega)), h k (by omega) (by omega)]
def sN (S R dn hn r pl : Nat) : Nat := ((dn * 2 ^ S + hn) * R + r) * R ^ S + pl
def iF (S R i s : Nat) : Nat := if s < S then i / R ^ s % R else 0
def iR (S R i : Nat) : Nat := i / R ^ S % R
def iH (S R i : Nat) : Nat := i / R ^ S / R % 2 ^ S
def iD (S R i : Nat) : Nat := i / R ^ S / R / 2 ^ S
theorem p2_0 (n : Nat) : 0 < 2 ^ n := Nat.pow_pos (by omega)
theorem sN_pl {S R dn hn r pl : Nat} (h4 : pl < R ^ S) : sN S R dn hn r pl / R ^ S = (dn * 2 ^ S + hn) * R + r := by
  have h0 : 0 < R ^ S := by omega
  unfold sN
  rw [Nat.mul_comm, Nat.mul_add_div h0, Nat.div_eq_of_lt h4, Nat.add_zero]
theorem sN_r {S R dn hn r pl : Nat} (h3 : r < R) (h4 : pl < R ^ S) : iR S R (sN S R dn hn r pl) = r := by
  unfold iR
  rw [sN_pl h4, Nat.mul_comm, Nat.mul_add_mod, Nat.mod_eq_of_lt h3]
theorem sN_2 {S R dn hn r pl : Nat} (h3 : r < R) (h4 : pl < R ^ S) : sN S R dn hn r pl / R ^ S / R = dn * 2 ^ S + hn := by
  rw [sN_pl h4, Nat.mul_comm, Nat.mul_add_div (by omega), Nat.div_eq_of_lt h3, Nat.add_zero]
theorem sN_h {S R dn hn r pl : Nat} (h2 : hn < 2 ^ S) (h3 : r < R) (h4 : pl < R ^ S) : iH S R (sN S R dn hn r pl) = hn := by
  unfold iH
  rw [sN_2 h3 h4, Nat.mul_comm, Nat.mul_add_mod, Nat.mod_eq_of_lt h2]
theorem sN_d {S R dn hn r pl : Nat} (h2 : hn < 2 ^ S) (h3 : r < R) (h4 : pl < R ^ S) : iD S R (sN S R dn hn r pl) = dn := by
  unfold iD
  rw [sN_2 h3 h4, Nat.mul_comm, Nat.mul_add_div (p2_0 S), Nat.div_eq_of_lt h2, Nat.add_zero]
theorem sN_f {S R dn hn r : Nat} {f : Nat → Nat} (hf : ∀ s, s < S → f s < R) (hz : ∀ s, S ≤ s → f s = 0) : iF S R (sN S R dn hn r (dgs f R S 0)) = f := by
  funext s
  unfold iF
  by_cases hs : s < S
  · rw [if_pos hs]
    have hR : 0 < R := by have := hf s hs; omega
    have hd := dgs_dg (f := f) hR S 0 s hs (fun s _ b => hf s (by omega))
    rw [Nat.zero_add] at hd
    unfold sN
    have e : R ^ S = R ^ s * (R * R ^ (S - s - 1)) := by
      rw [← Nat.mul_assoc, ← Nat.pow_succ, ← Nat.pow_add]; congr 1; omega
    have h0 : 0 < R ^ s := Nat.pow_pos hR
    rw [show ((dn * 2 ^ S + hn) * R + r) * R ^ S + dgs f R S 0 = R ^ s * (R * (((dn * 2 ^ S + hn) * R + r) * R ^ (S - s - 1))) + dgs f R S 0 by
      congr 1
      rw [e, Nat.mul_left_comm, Nat.mul_left_comm R]]
    rw [Nat.mul_add_div h0, Nat.mul_add_mod]
    exact hd
  · rw [if_neg hs, hz s (by omega)]
theorem sN_lt {S R N dn hn r pl : Nat} (h1 : dn < 2 ^ N) (h2 : hn < 2 ^ S) (h3 : r < R) (h4 : pl < R ^ S) : sN S R dn hn r pl < 2 ^ N * 2 ^ S * R * R ^ S := by
  have a1 : (dn + 1) * 2 ^ S ≤ 2 ^ N * 2 ^ S := Nat.mul_le_mul_right _ h1
  rw [Nat.add_mul, Nat.one_mul] at a1
  have a2 : (dn * 2 ^ S + hn + 1) * R ≤ 2 ^ N * 2 ^ S * R := Nat.mul_le_mul_right _ (by omega)
  rw [Nat.add_mul, Nat.one_mul] at a2
  have a3 : ((dn * 2 ^ S + hn) * R + r + 1) * R ^ S ≤ 2 ^ N * 2 ^ S * R * R ^ S := Nat.mul_le_mul_right _ (by omega)
  rw [Nat.add_mul, Nat.one_mul] at a3
  unfold sN
  omega
/-- later in the order -/
theorem sN_up {S R dn hn r pl dn' hn' r' pl' : Nat} (h2 : hn < 2 ^ S) (h3 : r < R) (h4 : pl < R ^ S) (h : dn < dn' ∨ (dn = dn' ∧ hn < hn')) : sN S R dn hn r pl < sN S R dn' hn' r' pl' := by
  have a1 : dn * 2 ^ S + hn + 1 ≤ dn' * 2 ^ S + hn' := by
    rcases h with h | ⟨rfl, h⟩
    · have : (dn + 1) * 2 ^ S ≤ dn' * 2 ^ S := Nat.mul_le_mul_right _ h
      rw [Nat.add_mul, Nat.one_mul] at this
      omega
    · omega
  have a2 : (dn * 2 ^ S + hn + 1) * R ≤ (dn' * 2 ^ S + hn') * R := Nat.mul_le_mul_right _ a1
  rw [Nat.add_mul, Nat.one_mul] at a2
  have a3 : ((dn * 2 ^ S + hn) * R + r + 1) * R ^ S ≤ ((dn' * 2 ^ S + hn') * R + r') * R ^ S := Nat.mul_le_mul_right _ (by omega)
  rw [Nat.add_mul, Nat.one_mul] at a3
  unfold sN
  omega
theorem i_ok {S R N i : Nat} (hi : i < 2 ^ N * 2 ^ S * R * R ^ S) : 0 < R ∧ iD S R i < 2 ^ N ∧ iH S R i < 2 ^ S ∧ iR S R i < R ∧ (∀ s, s < S → iF S R i s < R) ∧ (∀ s, S ≤ s → iF S R i s = 0) := by
  have hR : 0 < R := Nat.pos_of_ne_zero fun e => by subst e; simp at hi
  refine ⟨hR, ?_, Nat.mod_lt _ (p2_0 S), Nat.mod_lt _ hR, fun s hs => ?_, fun s hs => ?_⟩
  · unfold iD
    rw [Nat.div_div_eq_div_mul, Nat.div_div_eq_div_mul]
    refine Nat.div_lt_of_lt_mul ?_
    rw [show R ^ S * (R * 2 ^ S) * 2 ^ N = 2 ^ N * 2 ^ S * R * R ^ S by ac_rfl]
    exact hi
  · unfold iF; rw [if_pos hs]; exact Nat.mod_lt _ hR
  · unfold iF; rw [if_neg (by omega)]
/-- a set as a number -/
def eB (A : Nat → Bool) : Nat := sm (fun s => if A s then 2 ^ s else 0) 4
def F4 (a b c d : Bool) (s : Nat) : Bool := if s = 0 then a else if s = 1 then b else if s = 2 then c else if s = 3 then d else false
theorem eB_d : ∀ a b c d : Bool, eB (F4 a b c d) < 16 ∧ (∀ t : Fin 4, bt (eB (F4 a b c d)) t.val = F4 a b c d t.val) ∧ (∀ n : Fin 4, (∀ t : Fin 4, n.val ≤ t.val → F4 a b c d t.val = false) → eB (F4 a b c d) < 2 ^ n.val) := by decide +kernel
theorem F4_e {A : Nat → Bool} {s : Nat} (h : s < 4) : F4 (A 0) (A 1) (A 2) (A 3) s = A s := by
  have : s = 0 ∨ s = 1 ∨ s = 2 ∨ s = 3 := by omega
  rcases this with rfl | rfl | rfl | rfl <;> rfl
theorem eB_F {A : Nat → Bool} : eB (F4 (A 0) (A 1) (A 2) (A 3)) = eB A := by
  unfold eB
  exact sm_cong _ (fun s hs => by rw [F4_e hs])
theorem bt_big {x n t : Nat} (hx : x < 2 ^ n) (ht : n ≤ t) : bt x t = false := by
  have : 2 ^ n ≤ 2 ^ t := Nat.pow_le_pow_right (by omega) ht
  unfold bt
  rw [Nat.div_eq_of_lt (by omega)]; rfl
theorem eB_bt {A : Nat → Bool} {n : Nat} (hn : n ≤ 4) (hA : ∀ t, n ≤ t → A t = false) : eB A < 2 ^ n ∧ bt (eB A) = A := by
  obtain ⟨h1, h2, h3⟩ := eB_d (A 0) (A 1) (A 2) (A 3)
  rw [eB_F] at h1 h2 h3
  have h4 : eB A < 2 ^ n := by
    by_cases c : n = 4
    · subst c; exact h1
    · exact h3 ⟨n, by omega⟩ (fun t ht => by rw [F4_e t.isLt]; exact hA _ ht)
  refine ⟨h4, ?_⟩
  funext t
  by_cases c : t < 4
  · have := h2 ⟨t, c⟩
    rw [F4_e c] at this; exact this
  · rw [hA t (by omega), bt_big (n := 4) h1 (by omega)]
theorem bt_inj4 : ∀ x y : Fin 16, (∀ t : Fin 4, bt x.val t.val = bt y.val t.val) → x = y := by decide +kernel
theorem bt_inj {x y : Nat} (hx : x < 16) (hy : y < 16) (h : ∀ t, t < 4 → bt x t = bt y t) : x = y := congrArg Fin.val (bt_inj4 ⟨x, hx⟩ ⟨y, hy⟩ (fun t => h t t.isLt))
theorem bt_add4 : ∀ x : Fin 16, ∀ s t : Fin 4, bt x.val s.val = false → bt (x.val + 2 ^ s.val) t.val = (if t.val = s.val then true else bt x.val t.val) := by decide +kernel
theorem bt_up {x s n : Nat} (hn : n ≤ 4) (hx : x < 2 ^ n) (hs : s < n) (h : bt x s = false) : x + 2 ^ s < 2 ^ n ∧ bt (x + 2 ^ s) = va_up (bt x) s true := by
  have h16 : 2 ^ n ≤ 16 := Nat.pow_le_pow_right (n := 2) (by omega) hn
  have hA : ∀ t, n ≤ t → va_up (bt x) s true t = false := fun t ht => by
    rw [vu_n (by omega)]; exact bt_big hx ht
  obtain ⟨g1, g2⟩ := eB_bt hn hA
  have h32 := bt_lt (x := x) (s := s) (by omega) (by omega) h
  have he : x + 2 ^ s = eB (va_up (bt x) s true) := by
    have hx2 : x + 2 ^ s < 16 := by
      have : ∀ x : Fin 16, ∀ s : Fin 4, bt x.val s.val = false → x.val + 2 ^ s.val < 16 := by decide +kernel
      exact this ⟨x, by omega⟩ ⟨s, by omega⟩ h
    refine bt_inj hx2 (by omega) (fun t ht => ?_)
    rw [g2, bt_add4 ⟨x, by omega⟩ ⟨s, by omega⟩ ⟨t, ht⟩ h]
    by_cases c : t = s
    · subst c; rw [vu_s]; exact if_pos rfl
    · rw [vu_n c]; exact if_neg c
  rw [he]
  exact ⟨g1, g2⟩
