/-! rows: counting forward and backward -/
def sm (f : Nat → Nat) : Nat → Nat
  | 0 => 0
  | n + 1 => sm f n + f n
theorem sm_cong {f g : Nat → Nat} : ∀ n, (∀ i, i < n → f i = g i) → sm f n = sm g n := by
  intro n
  induction n with
  | zero => intro _; rfl
  | succ n ih => intro h; rw [sm, sm, ih (fun i hi => h i (by omega)), h n (Nat.lt_succ_self n)]
theorem sm_le {f g : Nat → Nat} : ∀ n, (∀ i, i < n → f i ≤ g i) → sm f n ≤ sm g n := by
  intro n
  induction n with
  | zero => intro _; exact Nat.le_refl _
  | succ n ih => intro h; rw [sm, sm]; exact Nat.add_le_add (ih (fun i hi => h i (by omega))) (h n (Nat.lt_succ_self n))
theorem sm_0 : ∀ n, sm (fun _ => 0) n = 0 := by
  intro n
  induction n with
  | zero => rfl
  | succ n ih => rw [sm, ih]
theorem sm_plus {f g : Nat → Nat} : ∀ n, sm (fun i => f i + g i) n = sm f n + sm g n := by
  intro n
  induction n with
  | zero => rfl
  | succ n ih => rw [sm, sm, sm, ih]; omega
theorem sm_mul {f : Nat → Nat} {c : Nat} : ∀ n, sm (fun i => c * f i) n = c * sm f n := by
  intro n
  induction n with
  | zero => rfl
  | succ n ih => rw [sm, sm, ih, Nat.mul_add]
theorem sm_mulR {f : Nat → Nat} {c : Nat} : ∀ n, sm (fun i => f i * c) n = sm f n * c := by
  intro n
  induction n with
  | zero => rw [sm, sm, Nat.zero_mul]
  | succ n ih => rw [sm, sm, ih, Nat.add_mul]
theorem sm_swap {F : Nat → Nat → Nat} {m : Nat} : ∀ n, sm (fun i => sm (fun j => F i j) m) n = sm (fun j => sm (fun i => F i j) n) m := by
  intro n
  induction n with
  | zero => rw [sm]; exact (sm_0 m).symm
  | succ n ih => rw [sm, ih, ← sm_plus]; rfl
theorem sm_add {f : Nat → Nat} {a : Nat} : ∀ b, sm f (a + b) = sm f a + sm (fun i => f (a + i)) b := by
  intro b
  induction b with
  | zero => rfl
  | succ b ih => rw [← Nat.add_assoc, sm, sm, ih]; omega
theorem sm_blk {f : Nat → Nat} {a : Nat} : ∀ m, sm f (m * (a + a)) = sm (fun h => sm (fun lo => f (h * (a + a) + lo)) a + sm (fun lo => f (h * (a + a) + a + lo)) a) m := by
  intro m
  induction m with
  | zero => rw [Nat.zero_mul]; rfl
  | succ m ih =>
    rw [Nat.succ_mul, sm_add, sm_add, ih, sm]
    rw [sm_cong a (g := fun lo => f (m * (a + a) + a + lo)) (f := fun i => f (m * (a + a) + (a + i))) (fun i _ => by rw [← Nat.add_assoc])]
theorem sm_pos {f : Nat → Nat} {n i : Nat} (hi : i < n) : f i ≤ sm f n := by
  induction n with
  | zero => omega
  | succ n ih =>
    rw [sm]
    by_cases h : i = n
    · subst h; omega
    · have := ih (by omega); omega
theorem sm_one {f : Nat → Nat} {n i : Nat} (hi : i < n) (h : ∀ j, j < n → j ≠ i → f j = 0) : sm f n = f i := by
  induction n with
  | zero => omega
  | succ n ih =>
    rw [sm]
    by_cases hin : i = n
    · subst hin
      rw [sm_cong i (g := fun _ => 0) (fun j hj => h j (by omega) (by omega)), sm_0, Nat.zero_add]
    · rw [ih (by omega) (fun j hj => h j (by omega)), h n (by omega) (by omega), Nat.add_zero]
def allB (p : Nat → Bool) : Nat → Bool
  | 0 => true
  | n + 1 => allB p n && p n
theorem allB_iff {p : Nat → Bool} : ∀ n, allB p n = true ↔ ∀ i, i < n → p i = true := by
  intro n
  induction n with
  | zero => exact ⟨fun _ i hi => by omega, fun _ => rfl⟩
  | succ n ih =>
    rw [allB, Bool.and_eq_true, ih]
    constructor
    · rintro ⟨h1, h2⟩ i hi
      by_cases h : i = n
      · rw [h]; exact h2
      · exact h1 i (by omega)
    · intro h
      exact ⟨fun i hi => h i (by omega), h n (Nat.lt_succ_self n)⟩
theorem allB_cong {p q : Nat → Bool} (n : Nat) (h : ∀ i, i < n → p i = q i) : allB p n = allB q n := by
  induction n with
  | zero => rfl
  | succ n ih => rw [allB, allB, ih (fun i hi => h i (by omega)), h n (Nat.lt_succ_self n)]
/-- the bit s of a set x -/
def bt (x s : Nat) : Bool := x / 2 ^ s % 2 == 1
theorem bt_add : ∀ x : Fin 32, ∀ s t : Fin 5, bt x.val s.val = false → x.val + 2 ^ s.val < 32 ∧ bt (x.val + 2 ^ s.val) t.val = (if t.val = s.val then true else bt x.val t.val) := by decide +kernel
theorem bt_a {x s t : Nat} (hx : x < 32) (hs : s < 5) (ht : t < 5) (h : bt x s = false) : bt (x + 2 ^ s) t = if t = s then true else bt x t := (bt_add ⟨x, hx⟩ ⟨s, hs⟩ ⟨t, ht⟩ h).2
theorem bt_lt {x s : Nat} (hx : x < 32) (hs : s < 5) (h : bt x s = false) : x + 2 ^ s < 32 := (bt_add ⟨x, hx⟩ ⟨s, hs⟩ ⟨0, by omega⟩ h).1
/-- the digit s of a state k; k with the digit d at s -/
def dg (k s : Nat) : Nat := k / 4 ^ s % 4
def dst (k s d : Nat) : Nat := k - dg k s * 4 ^ s + d * 4 ^ s
theorem c5 {s : Nat} (h : s < 5) : s = 0 ∨ s = 1 ∨ s = 2 ∨ s = 3 ∨ s = 4 := by omega
theorem dst_lt {k s d : Nat} (hk : k < 1024) (hs : s < 5) (hd : d < 4) : dst k s d < 1024 := by
  unfold dst dg
  rcases c5 hs with h | h | h | h | h <;> subst h <;> simp only [Nat.reducePow] <;> omega
theorem dg_st {k s t d : Nat} (hk : k < 1024) (hs : s < 5) (ht : t < 5) (hd : d < 4) : dg (dst k s d) t = if t = s then d else dg k t := by
  unfold dst dg
  rcases c5 hs with h | h | h | h | h <;> subst h <;> rcases c5 ht with h2 | h2 | h2 | h2 | h2 <;> subst h2 <;> simp only [Nat.reducePow, Nat.reduceEqDiff, if_true, if_false, Nat.zero_ne_one, reduceCtorEq] <;> first | omega | (simp; omega)
section RW
variable {nS nM : Nat} {may mt : Nat → Nat → Bool}
/-- how many masters may thank s; how many of them as seen -/
def rwT (nM : Nat) (may : Nat → Nat → Bool) (s : Nat) : Nat := sm (fun m => if may m s then 1 else 0) nM
def rwL (nM : Nat) (may mt : Nat → Nat → Bool) (s : Nat) : Nat := sm (fun m => if may m s && mt s (m + 1) then 1 else 0) nM
/-- one longer, backward: of the sets -/
def wol (nS : Nat) (T L W : Nat → Nat) (x : Nat) : Nat := sm (fun s => if bt x s then W x * T s + W (x - 2 ^ s) * L s else 0) nS
def pP (nS : Nat) (T L g : Nat → Nat) (x : Nat) : Nat := sm (fun s => if bt x s then T s * g x else L s * g (x + 2 ^ s)) nS
theorem bt_lo {h a s lo : Nat} (ha : a = 2 ^ s) (hlo : lo < a) : bt (h * (a + a) + lo) s = false := by
  unfold bt
  rw [← ha]
  have h1 : (h * (a + a) + lo) / a = h + h := by
    rw [Nat.mul_add, ← Nat.add_mul, Nat.add_comm, Nat.add_mul_div_right _ _ (by omega), Nat.div_eq_of_lt hlo, Nat.zero_add]
  rw [h1]
  simp
  omega
theorem bt_hi {h a s lo : Nat} (ha : a = 2 ^ s) (hlo : lo < a) : bt (h * (a + a) + a + lo) s = true := by
  unfold bt
  rw [← ha]
  have h1 : (h * (a + a) + a + lo) / a = h + h + 1 := by
    rw [Nat.mul_add, ← Nat.add_mul, ← Nat.succ_mul, Nat.add_comm, Nat.add_mul_div_right _ _ (by omega), Nat.div_eq_of_lt hlo, Nat.zero_add]
  rw [h1]
  simp
  omega
/-- a sum over the sets with s is one over those without -/
theorem sm_flip {F : Nat → Nat → Nat} {n s : Nat} (hs : s < n) : sm (fun x => if bt x s then F (x - 2 ^ s) x else 0) (2 ^ n) = sm (fun x => if bt x s then 0 else F x (x + 2 ^ s)) (2 ^ n) := by
  obtain ⟨a, ha⟩ : ∃ a, a = 2 ^ s := ⟨_, rfl⟩
  have e : 2 ^ n = 2 ^ (n - s - 1) * (a + a) := by
    rw [ha, show 2 ^ s + 2 ^ s = 2 ^ (s + 1) from by rw [Nat.pow_succ]; omega, ← Nat.pow_add]
    congr 1
    omega
  rw [e, sm_blk, sm_blk]
  refine sm_cong _ (fun h _ => ?_)
  rw [sm_cong a (g := fun _ => 0) (fun lo hlo => by rw [bt_lo ha hlo]; rfl), sm_0, Nat.zero_add]
  rw [sm_cong a (f := fun lo => if bt (h * (a + a) + a + lo) s = true then 0 else _) (g := fun _ => 0) (fun lo hlo => by rw [bt_hi ha hlo]; rfl), sm_0, Nat.add_zero]
  refine sm_cong a (fun lo hlo => ?_)
  rw [bt_hi ha hlo, bt_lo ha hlo, ← ha]
  show F (h * (a + a) + a + lo - a) (h * (a + a) + a + lo) = F (h * (a + a) + lo) (h * (a + a) + lo + a)
  rw [show h * (a + a) + a + lo - a = h * (a + a) + lo from by omega, show h * (a + a) + lo + a = h * (a + a) + a + lo from by omega]
theorem wol_dual {T L W g : Nat → Nat} : sm (fun x => wol nS T L W x * g x) (2 ^ nS) = sm (fun x => W x * pP nS T L g x) (2 ^ nS) := by
  have h1 : sm (fun x => wol nS T L W x * g x) (2 ^ nS) = sm (fun s => sm (fun x => if bt x s then W x * T s * g x else 0) (2 ^ nS) + sm (fun x => if bt x s then W (x - 2 ^ s) * L s * g x else 0) (2 ^ nS)) nS := by
    rw [sm_cong (2 ^ nS) (g := fun x => sm (fun s => if bt x s then W x * T s * g x + W (x - 2 ^ s) * L s * g x else 0) nS) (fun x _ => by
      unfold wol
      rw [← sm_mulR]
      refine sm_cong nS (fun s _ => ?_)
      split
      · rw [Nat.add_mul]
      · rw [Nat.zero_mul])]
    rw [sm_swap]
    refine sm_cong nS (fun s _ => ?_)
    rw [← sm_plus]
    refine sm_cong _ (fun x _ => ?_)
    split <;> rfl
  have h2 : sm (fun x => W x * pP nS T L g x) (2 ^ nS) = sm (fun s => sm (fun x => if bt x s then W x * T s * g x else 0) (2 ^ nS) + sm (fun x => if bt x s then 0 else W x * L s * g (x + 2 ^ s)) (2 ^ nS)) nS := by
    rw [sm_cong (2 ^ nS) (g := fun x => sm (fun s => if bt x s then W x * T s * g x else W x * L s * g (x + 2 ^ s)) nS) (fun x _ => by
      unfold pP
      rw [← sm_mul]
      refine sm_cong nS (fun s _ => ?_)
      split <;> rw [Nat.mul_assoc])]
    rw [sm_swap]
    refine sm_cong nS (fun s _ => ?_)
    rw [← sm_plus]
    refine sm_cong _ (fun x _ => ?_)
    split <;> simp
  rw [h1, h2]
  refine sm_cong nS (fun s hs => ?_)
  rw [sm_flip (F := fun y x => W y * L s * g x) hs]
def pI (nS : Nat) (T L : Nat → Nat) : Nat → (Nat → Nat) → Nat → Nat
  | 0, g => g
  | i + 1, g => pI nS T L i (pP nS T L g)
def wI (nS : Nat) (T L : Nat → Nat) : Nat → Nat → Nat
  | 0 => fun x => if x = 0 then 1 else 0
  | i + 1 => wol nS T L (wI nS T L i)
theorem wI_dual {T L : Nat → Nat} : ∀ (i : Nat) (g : Nat → Nat), sm (fun x => wI nS T L i x * g x) (2 ^ nS) = pI nS T L i g 0 := by
  intro i
  induction i with
  | zero =>
    intro g
    rw [sm_one (i := 0) (Nat.pos_of_ne_zero (by simp)) (fun j _ hj => by show (if j = 0 then 1 else 0) * g j = 0; rw [if_neg hj, Nat.zero_mul])]
    show 1 * g 0 = g 0
    rw [Nat.one_mul]
  | succ i ih =>
    intro g
    rw [show sm (fun x => wI nS T L (i + 1) x * g x) (2 ^ nS) = sm (fun x => wol nS T L (wI nS T L i) x * g x) (2 ^ nS) from rfl, wol_dual, ih]
    rfl
theorem pP_lin {T L : Nat → Nat} {F : Nat → Nat → Nat} {n : Nat} : pP nS T L (fun x => sm (fun j => F j x) n) = fun x => sm (fun j => pP nS T L (F j) x) n := by
  funext x
  unfold pP
  rw [sm_swap]
  refine sm_cong nS (fun s _ => ?_)
  split
  · rw [← sm_mul]
  · rw [← sm_mul]
theorem pI_lin {T L : Nat → Nat} {n : Nat} : ∀ (i : Nat) (F : Nat → Nat → Nat) (x : Nat), pI nS T L i (fun x => sm (fun j => F j x) n) x = sm (fun j => pI nS T L i (F j) x) n := by
  intro i
  induction i with
  | zero => intro F x; rfl
  | succ i ih =>
    intro F x
    show pI nS T L i (pP nS T L (fun x => sm (fun j => F j x) n)) x = _
    rw [pP_lin, ih]
    rfl
theorem pI_cong {T L : Nat → Nat} (h5 : nS ≤ 5) : ∀ (i : Nat) (g g' : Nat → Nat), (∀ x, x < 32 → g x = g' x) → ∀ x, x < 32 → pI nS T L i g x = pI nS T L i g' x := by
  intro i
  induction i with
  | zero => intro g g' h x hx; exact h x hx
  | succ i ih =>
    intro g g' h x hx
    refine ih _ _ (fun y hy => ?_) x hx
    unfold pP
    refine sm_cong nS (fun s hs => ?_)
    cases hb : bt y s with
    | true => simp [h y hy]
    | false => simp [h _ (bt_lt hy (by omega) hb)]
theorem pI_0 {T L : Nat → Nat} : ∀ (i : Nat) (x : Nat), pI nS T L i (fun _ => 0) x = 0 := by
  intro i
  induction i with
  | zero => intro x; rfl
  | succ i ih =>
    intro x
    show pI nS T L i (pP nS T L (fun _ => 0)) x = 0
    rw [show pP nS T L (fun _ => 0) = fun _ => 0 from by funext y; unfold pP; rw [sm_cong nS (g := fun _ => 0) (fun s _ => by split <;> simp), sm_0]]
    exact ih x
/-- seen by the state k, the set x being free -/
def rwG (nS : Nat) (mt : Nat → Nat → Bool) (k x : Nat) : Nat := if allB (fun s => bt x s || mt s (dg k s)) nS then 1 else 0
/-- one longer, forward: of the states -/
def mM (nS nM : Nat) (may : Nat → Nat → Bool) (h : Nat → Nat) (k : Nat) : Nat := sm (fun s => sm (fun m => if may m s then h (dst k s (m + 1)) else 0) nM) nS
def mI (nS nM : Nat) (may : Nat → Nat → Bool) : Nat → (Nat → Nat) → Nat → Nat
  | 0, h => h
  | i + 1, h => mM nS nM may (mI nS nM may i h)
theorem mI_c : ∀ (i : Nat) (h : Nat → Nat), mI nS nM may i (mM nS nM may h) = mI nS nM may (i + 1) h := by
  intro i
  induction i with
  | zero => intro h; rfl
  | succ i ih => intro h; show mM nS nM may (mI nS nM may i (mM nS nM may h)) = _; rw [ih]; rfl
theorem rwG_step {k x : Nat} (h5 : nS ≤ 5) (h3 : nM ≤ 3) (hk : k < 1024) (hx : x < 32) : pP nS (rwT nM may) (rwL nM may mt) (rwG nS mt k) x = sm (fun s => sm (fun m => if may m s then rwG nS mt (dst k s (m + 1)) x else 0) nM) nS := by
  unfold pP
  refine sm_cong nS (fun s hs => ?_)
  cases hb : bt x s with
  | true =>
    simp only [if_true]
    unfold rwT
    rw [← sm_mulR]
    refine sm_cong nM (fun m hm => ?_)
    cases may m s with
    | false => simp
    | true =>
      simp only [if_true, Nat.one_mul]
      unfold rwG
      rw [allB_cong nS (q := fun t => bt x t || mt t (dg (dst k s (m + 1)) t)) (fun t ht => ?_)]
      rw [dg_st hk (by omega) (by omega) (by omega)]
      by_cases hts : t = s
      · rw [hts, hb]; simp
      · rw [if_neg hts]
  | false =>
    simp only [Bool.false_eq_true, if_false]
    unfold rwL
    rw [← sm_mulR]
    refine sm_cong nM (fun m hm => ?_)
    cases hmay : may m s with
    | false => simp
    | true =>
      cases hmt : mt s (m + 1) with
      | true =>
        simp only [Bool.and_self, if_true, Nat.one_mul]
        unfold rwG
        rw [allB_cong nS (q := fun t => bt x t || mt t (dg (dst k s (m + 1)) t)) (fun t ht => ?_)]
        rw [dg_st hk (by omega) (by omega) (by omega), bt_a hx (by omega) (by omega) hb]
        by_cases hts : t = s
        · rw [if_pos hts, if_pos hts, hts, hmt]; simp
        · rw [if_neg hts, if_neg hts]
      | false =>
        simp only [Bool.and_false, Bool.false_eq_true, if_false, Nat.zero_mul, if_true]
        unfold rwG
        rw [if_neg]
        intro h
        have := (allB_iff nS).mp h s hs
        rw [dg_st hk (by omega) (by omega) (by omega), if_pos rfl, hb, hmt] at this
        exact absurd this (by decide)
theorem mI_p (h5 : nS ≤ 5) (h3 : nM ≤ 3) : ∀ (i k : Nat), k < 1024 → mI nS nM may i (fun k => rwG nS mt k 0) k = pI nS (rwT nM may) (rwL nM may mt) i (rwG nS mt k) 0 := by
  intro i
  induction i with
  | zero => intro k _; rfl
  | succ i ih =>
    intro k hk
    show mM nS nM may (mI nS nM may i (fun k => rwG nS mt k 0)) k = pI nS _ _ i (pP nS _ _ (rwG nS mt k)) 0
    rw [pI_cong h5 i _ _ (fun x hx => rwG_step h5 h3 hk hx) 0 (by omega), pI_lin]
    unfold mM
    refine sm_cong nS (fun s hs => ?_)
    rw [pI_lin]
    refine sm_cong nM (fun m hm => ?_)
    cases may m s with
    | false => simp only [Bool.false_eq_true, if_false]; rw [pI_0]
    | true => simp only [if_true]; exact ih _ (dst_lt hk (by omega) (by omega))
/-- both count alike -/
theorem rw_main (h5 : nS ≤ 5) (h3 : nM ≤ 3) (n : Nat) : sm (fun x => wI nS (rwT nM may) (rwL nM may mt) n x * rwG nS mt 0 x) (2 ^ nS) = mI nS nM may n (fun k => rwG nS mt k 0) 0 := by
  rw [wI_dual, mI_p h5 h3 n 0 (by omega)]
end RW
