/-! feed -/
/-- byte j of a word, the highest first -/
def wb (w : Int32) (j : Nat) : Int32 := (w >>> (nI (24 - 8 * j) &&& 31)) &&& 255
def by5 (a b c e f : Int32) (k : Nat) : Int32 := wb (if k < 4 then a else if k < 8 then b else if k < 12 then c else if k < 16 then e else f) (k % 4)
/-- bytes that aren't 0 are put behind each other -/
def tpS (g : Nat → Int32) (s : (Nat → Int32) × Nat) : Nat → (Nat → Int32) × Nat
  | 0 => s
  | k + 1 => if g k = 0 then tpS g s k else (upd (tpS g s k).1 (tpS g s k).2 (g k), (tpS g s k).2 + 1)
def cN (g : Nat → Int32) : Nat → Nat
  | 0 => 0
  | k + 1 => if g k = 0 then cN g k else cN g k + 1
theorem tpS_2 {g : Nat → Int32} {s : (Nat → Int32) × Nat} : ∀ k, (tpS g s k).2 = s.2 + cN g k := by
  intro k
  induction k with
  | zero => rfl
  | succ k ih => rw [tpS, cN]; split <;> simp_all <;> omega
theorem cN_le {g : Nat → Int32} : ∀ k, cN g k ≤ k := by
  intro k
  induction k with
  | zero => exact Nat.le_refl _
  | succ k ih => rw [cN]; split <;> omega
theorem cN_mono {g : Nat → Int32} {k : Nat} : ∀ j, cN g k ≤ cN g (k + j) := by
  intro j
  induction j with
  | zero => exact Nat.le_refl _
  | succ j ih => rw [← Nat.add_assoc, cN]; split <;> omega
theorem tpS_add {g : Nat → Int32} {s : (Nat → Int32) × Nat} {i : Nat} : ∀ j, tpS g s (i + j) = tpS (fun k => g (i + k)) (tpS g s i) j := by
  intro j
  induction j with
  | zero => rfl
  | succ j ih => rw [← Nat.add_assoc, tpS, tpS, ih]
theorem cN_add {g : Nat → Int32} {i : Nat} : ∀ j, cN g (i + j) = cN g i + cN (fun k => g (i + k)) j := by
  intro j
  induction j with
  | zero => rfl
  | succ j ih => rw [← Nat.add_assoc, cN, cN, ih]; split <;> omega
theorem tpS_cong {g h : Nat → Int32} {s : (Nat → Int32) × Nat} : ∀ j, (∀ k, k < j → g k = h k) → tpS g s j = tpS h s j := by
  intro j
  induction j with
  | zero => intro _; rfl
  | succ j ih => intro hh; rw [tpS, tpS, ih (fun k hk => hh k (by omega)), hh j (Nat.lt_succ_self j)]
theorem cN_cong {g h : Nat → Int32} : ∀ j, (∀ k, k < j → g k = h k) → cN g j = cN h j := by
  intro j
  induction j with
  | zero => intro _; rfl
  | succ j ih => intro hh; rw [cN, cN, ih (fun k hk => hh k (by omega)), hh j (Nat.lt_succ_self j)]
theorem by5_w {a b c e f : Int32} {k : Nat} (hk : k < 4) : by5 a b c e f k = wb a k ∧ by5 a b c e f (4 + k) = wb b k ∧ by5 a b c e f (8 + k) = wb c k ∧ by5 a b c e f (12 + k) = wb e k ∧ by5 a b c e f (16 + k) = wb f k := by
  unfold by5
  refine ⟨?_, ?_, ?_, ?_, ?_⟩
  · rw [if_pos hk, Nat.mod_eq_of_lt hk]
  · rw [if_neg (by omega), if_pos (by omega), show (4 + k) % 4 = k from by omega]
  · rw [if_neg (by omega), if_neg (by omega), if_pos (by omega), show (8 + k) % 4 = k from by omega]
  · rw [if_neg (by omega), if_neg (by omega), if_neg (by omega), if_pos (by omega), show (12 + k) % 4 = k from by omega]
  · rw [if_neg (by omega), if_neg (by omega), if_neg (by omega), if_neg (by omega), show (16 + k) % 4 = k from by omega]
theorem tpS_20 {a b c e f : Int32} {s : (Nat → Int32) × Nat} : tpS (by5 a b c e f) s 20 = tpS (wb f) (tpS (wb e) (tpS (wb c) (tpS (wb b) (tpS (wb a) s 4) 4) 4) 4) 4 := by
  rw [show (20 : Nat) = 16 + 4 from rfl, tpS_add, show (16 : Nat) = 12 + 4 from rfl, tpS_add, show (12 : Nat) = 8 + 4 from rfl, tpS_add, show (8 : Nat) = 4 + 4 from rfl, tpS_add]
  rw [tpS_cong (g := by5 a b c e f) (h := wb a) 4 (fun k hk => (by5_w hk).1)]
  rw [tpS_cong (g := fun k => by5 a b c e f (4 + k)) (h := wb b) 4 (fun k hk => (by5_w hk).2.1)]
  rw [tpS_cong (g := fun k => by5 a b c e f (4 + 4 + k)) (h := wb c) 4 (fun k hk => (by5_w hk).2.2.1)]
  rw [tpS_cong (g := fun k => by5 a b c e f (4 + 4 + 4 + k)) (h := wb e) 4 (fun k hk => (by5_w hk).2.2.2.1)]
  rw [tpS_cong (g := fun k => by5 a b c e f (4 + 4 + 4 + 4 + k)) (h := wb f) 4 (fun k hk => (by5_w hk).2.2.2.2)]
theorem cN_20 {a b c e f : Int32} : cN (by5 a b c e f) 20 = cN (wb a) 4 + cN (wb b) 4 + cN (wb c) 4 + cN (wb e) 4 + cN (wb f) 4 := by
  rw [show (20 : Nat) = 16 + 4 from rfl, cN_add, show (16 : Nat) = 12 + 4 from rfl, cN_add, show (12 : Nat) = 8 + 4 from rfl, cN_add, show (8 : Nat) = 4 + 4 from rfl, cN_add]
  rw [cN_cong (g := by5 a b c e f) (h := wb a) 4 (fun k hk => (by5_w hk).1)]
  rw [cN_cong (g := fun k => by5 a b c e f (4 + k)) (h := wb b) 4 (fun k hk => (by5_w hk).2.1)]
  rw [cN_cong (g := fun k => by5 a b c e f (4 + 4 + k)) (h := wb c) 4 (fun k hk => (by5_w hk).2.2.1)]
  rw [cN_cong (g := fun k => by5 a b c e f (4 + 4 + 4 + k)) (h := wb e) 4 (fun k hk => (by5_w hk).2.2.2.1)]
  rw [cN_cong (g := fun k => by5 a b c e f (4 + 4 + 4 + 4 + k)) (h := wb f) 4 (fun k hk => (by5_w hk).2.2.2.2)]
theorem wb_in (w : Int32) (j : Nat) : ∃ b, b < 256 ∧ wb w j = nI b := pk_andE _ (m := 255) 8 (by decide)
/-- the class shifts without sign: the same bytes -/
theorem wb_u {w : Int32} {j : Nat} (hj : j < 4) : ((((w : Int32).toUInt32 >>> ((nI (24 - 8 * j)).toUInt32 &&& Int32.toUInt32 31)).toInt32) &&& 255) = wb w j := by
  have hk : ∀ k, (k = 24 ∨ k = 16 ∨ k = 8 ∨ k = 0) → ((((w : Int32).toUInt32 >>> ((nI k).toUInt32 &&& Int32.toUInt32 31)).toInt32) &&& 255) = (w >>> (nI k &&& 31)) &&& 255 := by
    intro k hk
    have hs1 : (((nI k).toUInt32 &&& Int32.toUInt32 31).toBitVec % 32).toNat = k := by rcases hk with h | h | h | h <;> subst h <;> decide
    have hs2 : ((nI k &&& 31).toBitVec.smod 32).toNat = k := by rcases hk with h | h | h | h <;> subst h <;> decide
    rw [pk_and _ 8 (by decide), pk_and _ 8 (by decide), pk_ushr w (nI k) k hs1]
    have h2 := pk_shr w (nI k &&& 31) k hs2
    congr 1
    have hb : ∀ x : Int32, (x.toBitVec.toNat : Int) = x.toInt % 4294967296 := fun x => by
      have : x.toInt = x.toBitVec.toInt := rfl
      rw [this, BitVec.toInt_eq_toNat_bmod]
      have := x.toBitVec.isLt
      rw [Int.bmod_def]
      split <;> omega
    have hw := hb w
    have hx := hb (w >>> (nI k &&& 31))
    rw [h2, Int.shiftRight_eq_div_pow] at hx
    have hlt := w.toBitVec.isLt
    rcases hk with h | h | h | h <;> subst h <;> simp only [Nat.reducePow] at hx ⊢ <;> omega
  have : 24 - 8 * j = 24 ∨ 24 - 8 * j = 16 ∨ 24 - 8 * j = 8 ∨ 24 - 8 * j = 0 := by omega
  exact hk _ this
def putE (I : Nat → Nat → Int32) (a : Int32) (J : Nat → Nat → Int32) : Prop := qFr (fun j k => (j = 1 ∧ k = 1) ∨ j = 2) I J ∧ ∀ n, n ≤ 160 → I 1 1 = nI n → J 1 1 = nI (tpS (wb a) (I 2, n) 4).2 ∧ J 2 = (tpS (wb a) (I 2, n) 4).1
section L78
variable {d : Nat} {K : qK} {I : Nat → Nat → Int32} {L : Nat → Nat → Int64} {R : Nat → Nat → Option Nat} {sz : Nat} {Q : Option Value → qMem → Prop} {p : qPa}
theorem z9001 {a : Int32}    (q1 : X d 0 0 9001 0 0 3 [some (.ref 1), some (.int a), some (.int 24), none] [] (K, I, L, R, sz) Q) : X d 0 0 9001 0 0 0 (qent (qml 9001) [.ref 1, .int a]) [] (K, I, L, R, sz) Q := show X _ 0 0 9001 0 0 0 [some (.ref 1), some (.int a), none, none] [] _ _ from x_bipush (v := 24) k9001_0 rfl <| x_ist2 k9001_2 (Nat.le_of_ble_eq_true rfl) rfl <| q1
theorem z9001_3 {x1 : Int32} {x2 : Int32}  (hK : qLay K sz) (hR : qRef R) (b1 : ¬ x2 < 0 → ¬ ((((x1 : Int32).toUInt32 >>> ((x2 : Int32).toUInt32 &&& Int32.toUInt32 31)).toInt32) &&& 255) = 0 → ¬ 160 ≤ (I 1 1) → vp_in (I 1 1) 160) (q1 : x2 < 0 → Q none (K, I, L, R, sz)) (q2 : ¬ x2 < 0 → ((((x1 : Int32).toUInt32 >>> ((x2 : Int32).toUInt32 &&& Int32.toUInt32 31)).toInt32) &&& 255) = 0 → X d 0 0 9001 0 0 3 [some (.ref 1), some (.int x1), some (.int (x2 + (-8))), none] [] (K, I, L, R, sz) Q) (q3 : ¬ x2 < 0 → ¬ ((((x1 : Int32).toUInt32 >>> ((x2 : Int32).toUInt32 &&& Int32.toUInt32 31)).toInt32) &&& 255) = 0 → 160 ≤ (I 1 1) → X d 0 0 9001 0 0 3 [some (.ref 1), some (.int x1), some (.int (x2 + (-8))), none] [] (K, I, L, R, sz) Q) (q4 : ¬ x2 < 0 → ¬ ((((x1 : Int32).toUInt32 >>> ((x2 : Int32).toUInt32 &&& Int32.toUInt32 31)).toInt32) &&& 255) = 0 → ¬ 160 ≤ (I 1 1) → ∀ I4 : Nat → Nat → Int32, I4 = va_up I 2 (upd (I 2) ((I 1 1).toNatClampNeg) ((((x1 : Int32).toUInt32 >>> ((x2 : Int32).toUInt32 &&& Int32.toUInt32 31)).toInt32) &&& 255)) → ∀ I6 : Nat → Nat → Int32, I6 = va_up I4 1 (upd (I4 1) 1 ((I4 1 1) + 1)) → X d 0 0 9001 0 0 3 [some (.ref 1), some (.int x1), some (.int (x2 + (-8))), none] [] (K, I6, L, R, sz) Q) : X d 0 0 9001 0 0 3 [some (.ref 1), some (.int x1), some (.int x2), none] [] (K, I, L, R, sz) Q := x_ild2 k9001_3 <| x_iflt (tgt := 55) k9001_4 (by decide) (fun h1 => x_vret k9001_55 rfl (Nat.le_refl _) (Nat.le_refl _) <| (q1 h1)) (fun h1 => x_ild1 k9001_7 <| x_ild2 k9001_8 <| x_iushr k9001_9 <| x_sipush (v := 255) k9001_10 rfl <| x_iand k9001_13 <| x_ist3 k9001_14 (Nat.le_of_ble_eq_true rfl) rfl <| x_ild3 k9001_15 <| x_ifeq (tgt := 49) k9001_16 (by decide) (fun h2 => x_inc2 (c := (-8)) k9001_49 rfl (Nat.le_of_ble_eq_true rfl) rfl <| x_goto (tgt := 3) k9001_52 (by decide) <| x_wk (ls := [some (.ref 1), some (.int x1), some (.int (x2 + (-8))), none]) ⟨rfl, ⟨rfl, ⟨rfl, True.intro⟩⟩⟩ <| (q2 h1 h2)) (fun h2 => x_ald0 k9001_19 <| x_getI k9001_20 f9_15_8 (hK.at rfl) rfl <| x_sipush (v := 160) k9001_23 rfl <| x_icmpge (tgt := 49) k9001_26 (by decide) (fun h3 => x_inc2 (c := (-8)) k9001_49 rfl (Nat.le_of_ble_eq_true rfl) rfl <| x_goto (tgt := 3) k9001_52 (by decide) <| x_wk (ls := [some (.ref 1), some (.int x1), some (.int (x2 + (-8))), none]) ⟨rfl, ⟨rfl, ⟨rfl, True.intro⟩⟩⟩ <| (q3 h1 h2 h3)) (fun h3 => x_ald0 k9001_29 <| x_getR k9001_30 f9_9_8 (hK.at rfl) rfl (hR _ _ _ rfl) <| x_ald0 k9001_33 <| x_getI k9001_34 f9_15_8 (hK.at rfl) rfl <| x_ild3 k9001_37 <| x_iast k9001_38 (hK.at rfl) (b1 h1 h2 h3) <| x_nm fun I4 e5 => x_ald0 k9001_39 <| x_dup k9001_40 rfl <| x_getI k9001_41 f9_15_8 (hK.at rfl) rfl <| x_iconst (v := 1) k9001_44 rfl <| x_iadd k9001_45 <| x_putI k9001_46 f9_15_8 (Or.inl rfl) (hK.at rfl) <| x_nm fun I6 e7 => x_inc2 (c := (-8)) k9001_49 rfl (Nat.le_of_ble_eq_true rfl) rfl <| x_goto (tgt := 3) k9001_52 (by decide) <| x_wk (ls := [some (.ref 1), some (.int x1), some (.int (x2 + (-8))), none]) ⟨rfl, ⟨rfl, ⟨rfl, True.intro⟩⟩⟩ <| (q4 h1 h2 h3 I4 e5 I6 e7))))
theorem l11052 {w : Int32} (hq : Q (some (.int (nI (cN (wb w) 4)))) (K, I, L, R, sz)) : ∀ (k i : Nat), i + k = 4 → X d 0 0 11052 0 0 5 [some (.int w), some (.int (nI (cN (wb w) i))), some (.int (24 - nI (8 * i)))] [] (K, I, L, R, sz) Q := by
  intro k
  induction k with
  | zero =>
    intro i hi
    have : i = 4 := by omega
    subst this
    exact g11052_5 (fun _ => hq) (fun h => absurd (show (24 - nI (8 * 4) : Int32) < 0 by decide) h) (fun h => absurd (show (24 - nI (8 * 4) : Int32) < 0 by decide) h)
  | succ k ih =>
    intro i hi
    have e : (24 - nI (8 * i) : Int32) = nI (24 - 8 * i) := pk_sub (a := 24) (by omega)
    have hnl : ¬ (24 - nI (8 * i) : Int32) < 0 := by rw [e]; exact nI_pos (by omega)
    have e2 : (24 - nI (8 * i) : Int32) + (-8) = 24 - nI (8 * (i + 1)) := by
      rw [Int32.sub_eq_add_neg, Int32.sub_eq_add_neg, show 8 * (i + 1) = 8 * i + 8 from by omega, ← nI_add (8 * i) 8, Int32.neg_add, show nI 8 = (8 : Int32) from rfl, Int32.add_assoc, Int32.sub_eq_add_neg]
    have hv := wb_u (w := w) (j := i) (by omega)
    have ih' := ih (i + 1) (by omega)
    refine g11052_5 (fun h => absurd h hnl) (fun _ h => ?_) (fun _ h => ?_) <;> rw [e, hv] at h <;> rw [e2]
    · rw [cN, if_pos h] at ih'; exact ih'
    · rw [cN, if_neg h] at ih'; rw [nI_1]; exact ih'
theorem s11052 {w : Int32} (hq : Q (some (.int (nI (cN (wb w) 4)))) (K, I, L, R, sz)) : X d 0 0 11052 0 0 0 (qent (qml 11052) [.int w]) [] (K, I, L, R, sz) Q := e11052 (l11052 hq 4 0 rfl)
theorem l9001 {w : Int32} {n : Nat} (hK : qLay K sz) (hR : qRef R) (hn : n + cN (wb w) 4 ≤ 160) (hq : ∀ J, qFr (fun j k => (j = 1 ∧ k = 1) ∨ j = 2) I J → J 1 1 = nI (tpS (wb w) (I 2, n) 4).2 → J 2 = (tpS (wb w) (I 2, n) 4).1 → Q none (K, J, L, R, sz)) : ∀ (k i : Nat) (J : Nat → Nat → Int32), i + k = 4 → qFr (fun j k => (j = 1 ∧ k = 1) ∨ j = 2) I J → J 1 1 = nI (tpS (wb w) (I 2, n) i).2 → J 2 = (tpS (wb w) (I 2, n) i).1 → X d 0 0 9001 0 0 3 [some (.ref 1), some (.int w), some (.int (24 - nI (8 * i))), none] [] (K, J, L, R, sz) Q := by
  intro k
  induction k with
  | zero =>
    intro i J hi hf h1 h2
    have : i = 4 := by omega
    subst this
    have hlt : (24 - nI (8 * 4) : Int32) < 0 := by decide
    exact z9001_3 hK hR (fun h => absurd hlt h) (fun _ => hq J hf h1 h2) (fun h => absurd hlt h) (fun h => absurd hlt h) (fun h => absurd hlt h)
  | succ k ih =>
    intro i J hi hf h1 h2
    have e : (24 - nI (8 * i) : Int32) = nI (24 - 8 * i) := pk_sub (a := 24) (by omega)
    have hnl : ¬ (24 - nI (8 * i) : Int32) < 0 := by rw [e]; exact nI_pos (by omega)
    have e2 : (24 - nI (8 * i) : Int32) + (-8) = 24 - nI (8 * (i + 1)) := by
      rw [Int32.sub_eq_add_neg, Int32.sub_eq_add_neg, show 8 * (i + 1) = 8 * i + 8 from by omega, ← nI_add (8 * i) 8, Int32.neg_add, show nI 8 = (8 : Int32) from rfl, Int32.add_assoc, Int32.sub_eq_add_neg]
    have hv := wb_u (w := w) (j := i) (by omega)
    have hS := tpS_2 (g := wb w) (s := (I 2, n)) i
    have hS4 := tpS_2 (g := wb w) (s := (I 2, n)) (i + 1)
    have hm := cN_mono (g := wb w) (k := i + 1) (4 - (i + 1))
    rw [show i + 1 + (4 - (i + 1)) = 4 from by omega] at hm
    have hbd : ¬ wb w i = 0 → (tpS (wb w) (I 2, n) i).2 < 160 := fun h => by
      have : cN (wb w) (i + 1) = cN (wb w) i + 1 := by rw [cN, if_neg h]
      rw [hS]; show n + cN (wb w) i < 160; omega
    refine z9001_3 hK hR ?_ (fun h => absurd h hnl) ?_ ?_ ?_ <;> intro _ h <;> rw [e, hv] at h
    · intro _; rw [h1]; exact vI (hbd h) (by omega)
    · rw [e2]
      exact ih (i + 1) J (by omega) hf (by rw [tpS, if_pos h]; exact h1) (by rw [tpS, if_pos h]; exact h2)
    · intro h3
      rw [h1] at h3
      exact absurd h3 (nI_ge (b := 160) (hbd h) (by omega))
    · intro _ J1 e1 J2 e3
      rw [e, hv, h1, nI_c (by have := hbd h; omega)] at e1
      rw [e2]
      subst e1 e3
      refine ih (i + 1) _ (by omega) ((hf.trans (qFr.up (fun _ => Or.inr rfl))).trans (qFr.up1 (Or.inl ⟨rfl, rfl⟩))) ?_ ?_
      · show J 1 1 + 1 = _
        rw [h1, nI_1, tpS, if_neg h]
      · show upd (J 2) _ _ = _
        rw [h2, tpS, if_neg h]
theorem s9001 {w : Int32} (hK : qLay K sz) (hR : qRef R) (hn : ∃ n, I 1 1 = nI n ∧ n + cN (wb w) 4 ≤ 160) (hq : ∀ J, putE I w J → Q none (K, J, L, R, sz)) : X d 0 0 9001 0 0 0 (qent (qml 9001) [.ref 1, .int w]) [] (K, I, L, R, sz) Q := by
  obtain ⟨n, e, h⟩ := hn
  refine z9001 (l9001 hK hR h (fun J hf h1 h2 => hq J ⟨hf, fun m hm em => ?_⟩) 4 0 I rfl qFr.refl e rfl)
  have : m = n := (nI_eq (by omega) (by omega)).mp (em.symm.trans e)
  subst this
  exact ⟨h1, h2⟩
theorem s12004 {a b c e f g : Int32} (hg : ∃ j, j < 20 ∧ g = nI j) (hq : Q (some (.int (by5 a b c e f (Int32.toNatClampNeg g)))) (K, I, L, R, sz)) : X d 0 0 12004 0 0 0 (qent (qml 12004) [.int a, .int b, .int c, .int e, .int f, .int g]) [] (K, I, L, R, sz) Q := by
  obtain ⟨j, hj, rfl⟩ := hg
  rw [nI_c (by omega)] at hq
  have e4 : (nI j - nI j / 4 * 4 : Int32) = nI (j % 4) := pk_rem (a := j) (d := 4) (by omega) (by omega) (by omega)
  have e8 : (24 - (8 * nI (j % 4)) : Int32) = nI (24 - 8 * (j % 4)) := by
    have : (8 * nI (j % 4) : Int32) = nI (8 * (j % 4)) := pk_mul 8 (j % 4)
    rw [this]; exact pk_sub (a := 24) (by omega)
  have hle : ∀ m, m < 100 → (nI m ≤ nI j ↔ m ≤ j) := fun m hm => nI_leI (by omega) (by omega)
  unfold by5 wb at hq
  refine t12004 (fun h1 h2 h3 h4 => ?_) (fun h1 h2 h3 h4 => ?_) (fun h1 h2 h3 => ?_) (fun h1 h2 => ?_) (fun h1 => ?_) <;> rw [e4, e8]
  · have := (hle 16 (by omega)).mp h4
    rw [if_neg (by omega), if_neg (by omega), if_neg (by omega), if_neg (by omega)] at hq; exact hq
  · have h5 := (hle 12 (by omega)).mp h3
    have h6 := mt (hle 16 (by omega)).mpr h4
    rw [if_neg (by omega), if_neg (by omega), if_neg (by omega), if_pos (by omega)] at hq; exact hq
  · have h5 := (hle 8 (by omega)).mp h2
    have h6 := mt (hle 12 (by omega)).mpr h3
    rw [if_neg (by omega), if_neg (by omega), if_pos (by omega)] at hq; exact hq
  · have h5 := (hle 4 (by omega)).mp h1
    have h6 := mt (hle 8 (by omega)).mpr h2
    rw [if_neg (by omega), if_pos (by omega)] at hq; exact hq
  · have h6 := mt (hle 4 (by omega)).mpr h1
    rw [if_pos (by omega)] at hq; exact hq
theorem z11001 {a : Int32} {b : Int32} {c : Int32} {e : Int32} {f : Int32}  (hK : qLay K sz) (hR : qRef R) (b1 : ((I 1 1) + (((((nI (cN (wb a) 4)) + (nI (cN (wb b) 4))) + (nI (cN (wb c) 4))) + (nI (cN (wb e) 4))) + (nI (cN (wb f) 4)))) ≤ 160 → ∃ n, I 1 1 = nI n ∧ n + cN (wb a) 4 ≤ 160) (b2 : ((I 1 1) + (((((nI (cN (wb a) 4)) + (nI (cN (wb b) 4))) + (nI (cN (wb c) 4))) + (nI (cN (wb e) 4))) + (nI (cN (wb f) 4)))) ≤ 160 → ∀ I2 : Nat → Nat → Int32, putE I a I2 → ∃ n, I2 1 1 = nI n ∧ n + cN (wb b) 4 ≤ 160) (b3 : ((I 1 1) + (((((nI (cN (wb a) 4)) + (nI (cN (wb b) 4))) + (nI (cN (wb c) 4))) + (nI (cN (wb e) 4))) + (nI (cN (wb f) 4)))) ≤ 160 → ∀ I2 : Nat → Nat → Int32, putE I a I2 → ∀ I4 : Nat → Nat → Int32, putE I2 b I4 → ∃ n, I4 1 1 = nI n ∧ n + cN (wb c) 4 ≤ 160) (b4 : ((I 1 1) + (((((nI (cN (wb a) 4)) + (nI (cN (wb b) 4))) + (nI (cN (wb c) 4))) + (nI (cN (wb e) 4))) + (nI (cN (wb f) 4)))) ≤ 160 → ∀ I2 : Nat → Nat → Int32, putE I a I2 → ∀ I4 : Nat → Nat → Int32, putE I2 b I4 → ∀ I6 : Nat → Nat → Int32, putE I4 c I6 → ∃ n, I6 1 1 = nI n ∧ n + cN (wb e) 4 ≤ 160) (b5 : ((I 1 1) + (((((nI (cN (wb a) 4)) + (nI (cN (wb b) 4))) + (nI (cN (wb c) 4))) + (nI (cN (wb e) 4))) + (nI (cN (wb f) 4)))) ≤ 160 → ∀ I2 : Nat → Nat → Int32, putE I a I2 → ∀ I4 : Nat → Nat → Int32, putE I2 b I4 → ∀ I6 : Nat → Nat → Int32, putE I4 c I6 → ∀ I8 : Nat → Nat → Int32, putE I6 e I8 → ∃ n, I8 1 1 = nI n ∧ n + cN (wb f) 4 ≤ 160) (q1 : ((I 1 1) + (((((nI (cN (wb a) 4)) + (nI (cN (wb b) 4))) + (nI (cN (wb c) 4))) + (nI (cN (wb e) 4))) + (nI (cN (wb f) 4)))) ≤ 160 → ∀ I2 : Nat → Nat → Int32, putE I a I2 → ∀ I4 : Nat → Nat → Int32, putE I2 b I4 → ∀ I6 : Nat → Nat → Int32, putE I4 c I6 → ∀ I8 : Nat → Nat → Int32, putE I6 e I8 → ∀ I10 : Nat → Nat → Int32, putE I8 f I10 → Q (some (.int (I10 1 1))) (K, I10, L, R, sz)) (q2 : ¬ ((I 1 1) + (((((nI (cN (wb a) 4)) + (nI (cN (wb b) 4))) + (nI (cN (wb c) 4))) + (nI (cN (wb e) 4))) + (nI (cN (wb f) 4)))) ≤ 160 → Q (some (.int (-1))) (K, I, L, R, sz)) : X (d + 1) 0 0 11001 0 0 0 (qent (qml 11001) [.ref 0, .int a, .int b, .int c, .int e, .int f]) [] (K, I, L, R, sz) Q := show X _ 0 0 11001 0 0 0 [some (.ref 0), some (.int a), some (.int b), some (.int c), some (.int e), some (.int f), none] [] _ _ from x_ild1 k11001_0 <| x_cS1 (MCz := 0) (MSz := 0) k11001_1 s11_81 (Nat.le_of_ble_eq_true rfl) (Nat.le_of_ble_eq_true rfl) (Nat.le_refl _) (Nat.le_refl _) <| s11052 (x_ild2 k11001_4 <| x_cS1 (MCz := 0) (MSz := 0) k11001_5 s11_81 (Nat.le_of_ble_eq_true rfl) (Nat.le_of_ble_eq_true rfl) (Nat.le_refl _) (Nat.le_refl _) <| s11052 (x_iadd k11001_8 <| x_ild3 k11001_9 <| x_cS1 (MCz := 0) (MSz := 0) k11001_10 s11_81 (Nat.le_of_ble_eq_true rfl) (Nat.le_of_ble_eq_true rfl) (Nat.le_refl _) (Nat.le_refl _) <| s11052 (x_iadd k11001_13 <| x_ild4 k11001_14 <| x_cS1 (MCz := 0) (MSz := 0) k11001_16 s11_81 (Nat.le_of_ble_eq_true rfl) (Nat.le_of_ble_eq_true rfl) (Nat.le_refl _) (Nat.le_refl _) <| s11052 (x_iadd k11001_19 <| x_ild5 k11001_20 <| x_cS1 (MCz := 0) (MSz := 0) k11001_22 s11_81 (Nat.le_of_ble_eq_true rfl) (Nat.le_of_ble_eq_true rfl) (Nat.le_refl _) (Nat.le_refl _) <| s11052 (x_iadd k11001_25 <| x_ist6 k11001_26 (Nat.le_of_ble_eq_true rfl) rfl <| x_ald0 k11001_28 <| x_getR k11001_29 f11_10_10 (hK.at rfl) rfl (hR _ _ _ rfl) <| x_getI k11001_32 f11_85_8 (hK.at rfl) rfl <| x_ild6 k11001_35 <| x_iadd k11001_37 <| x_sipush (v := 160) k11001_38 rfl <| x_icmple (tgt := 46) k11001_41 (by decide) (fun h1 => x_ald0 k11001_46 <| x_getR k11001_47 f11_10_10 (hK.at rfl) rfl (hR _ _ _ rfl) <| x_ild1 k11001_50 <| x_cV1 (MCz := 0) (MSz := 0) k11001_51 v11_88_8 (hK.at rfl) (Nat.le_of_ble_eq_true rfl) (Nat.le_of_ble_eq_true rfl) (Nat.le_refl _) (Nat.le_refl _) <| s9001 hK hR (b1 h1) (fun I2 g3 => x_ald0 k11001_54 <| x_getR k11001_55 f11_10_10 (hK.at rfl) rfl (hR _ _ _ rfl) <| x_ild2 k11001_58 <| x_cV1 (MCz := 0) (MSz := 0) k11001_59 v11_88_8 (hK.at rfl) (Nat.le_of_ble_eq_true rfl) (Nat.le_of_ble_eq_true rfl) (Nat.le_refl _) (Nat.le_refl _) <| s9001 hK hR (b2 h1 I2 g3) (fun I4 g5 => x_ald0 k11001_62 <| x_getR k11001_63 f11_10_10 (hK.at rfl) rfl (hR _ _ _ rfl) <| x_ild3 k11001_66 <| x_cV1 (MCz := 0) (MSz := 0) k11001_67 v11_88_8 (hK.at rfl) (Nat.le_of_ble_eq_true rfl) (Nat.le_of_ble_eq_true rfl) (Nat.le_refl _) (Nat.le_refl _) <| s9001 hK hR (b3 h1 I2 g3 I4 g5) (fun I6 g7 => x_ald0 k11001_70 <| x_getR k11001_71 f11_10_10 (hK.at rfl) rfl (hR _ _ _ rfl) <| x_ild4 k11001_74 <| x_cV1 (MCz := 0) (MSz := 0) k11001_76 v11_88_8 (hK.at rfl) (Nat.le_of_ble_eq_true rfl) (Nat.le_of_ble_eq_true rfl) (Nat.le_refl _) (Nat.le_refl _) <| s9001 hK hR (b4 h1 I2 g3 I4 g5 I6 g7) (fun I8 g9 => x_ald0 k11001_79 <| x_getR k11001_80 f11_10_10 (hK.at rfl) rfl (hR _ _ _ rfl) <| x_ild5 k11001_83 <| x_cV1 (MCz := 0) (MSz := 0) k11001_85 v11_88_8 (hK.at rfl) (Nat.le_of_ble_eq_true rfl) (Nat.le_of_ble_eq_true rfl) (Nat.le_refl _) (Nat.le_refl _) <| s9001 hK hR (b5 h1 I2 g3 I4 g5 I6 g7 I8 g9) (fun I10 g11 => x_ald0 k11001_88 <| x_getR k11001_89 f11_10_10 (hK.at rfl) rfl (hR _ _ _ rfl) <| x_getI k11001_92 f11_85_8 (hK.at rfl) rfl <| x_iret k11001_95 rfl (Nat.le_refl _) (Nat.le_refl _) <| (q1 h1 I2 g3 I4 g5 I6 g7 I8 g9 I10 g11))))))) (fun h1 => x_iconst (v := (-1)) k11001_44 rfl <| x_iret k11001_45 rfl (Nat.le_refl _) (Nat.le_refl _) <| (q2 h1)))))))
theorem ez12005 {a : Int32} {b : Int32} {c : Int32} {e : Int32} {f : Int32}    (q1 : X d 0 0 12005 0 0 6 [some (.ref 73), some (.int a), some (.int b), some (.int c), some (.int e), some (.int f), some (.int 0), some (.int 0), none] [] (K, I, L, R, sz) Q) : X d 0 0 12005 0 0 0 (qent (qml 12005) [.ref 73, .int a, .int b, .int c, .int e, .int f]) [] (K, I, L, R, sz) Q := show X _ 0 0 12005 0 0 0 [some (.ref 73), some (.int a), some (.int b), some (.int c), some (.int e), some (.int f), none, none, none] [] _ _ from x_iconst (v := 0) k12005_0 rfl <| x_ist6 k12005_1 (Nat.le_of_ble_eq_true rfl) rfl <| x_iconst (v := 0) k12005_3 rfl <| x_ist7 k12005_4 (Nat.le_of_ble_eq_true rfl) rfl <| q1
theorem z12005_6 {x1 : Int32} {x2 : Int32} {x3 : Int32} {x4 : Int32} {x5 : Int32} {x6 : Int32} {x7 : Int32}  (hK : qLay K sz) (b1 : ¬ 20 ≤ x7 → ∃ j, j < 20 ∧ x7 = nI j) (q1 : 20 ≤ x7 → ((I 73 2) + x6) ≤ 160 → X (d + 1) 0 0 12005 0 0 62 [some (.ref 73), some (.int x1), some (.int x2), some (.int x3), some (.int x4), some (.int x5), some (.int x6), some (.int 0), none] [] (K, I, L, R, sz) Q) (q2 : 20 ≤ x7 → ¬ ((I 73 2) + x6) ≤ 160 → Q (some (.int (-1))) (K, I, L, R, sz)) (q3 : ¬ 20 ≤ x7 → (by5 x1 x2 x3 x4 x5 (Int32.toNatClampNeg x7)) = 0 → X (d + 1) 0 0 12005 0 0 6 [some (.ref 73), some (.int x1), some (.int x2), some (.int x3), some (.int x4), some (.int x5), some (.int (x6 + 0)), some (.int (x7 + 1)), none] [] (K, I, L, R, sz) Q) (q4 : ¬ 20 ≤ x7 → ¬ (by5 x1 x2 x3 x4 x5 (Int32.toNatClampNeg x7)) = 0 → X (d + 1) 0 0 12005 0 0 6 [some (.ref 73), some (.int x1), some (.int x2), some (.int x3), some (.int x4), some (.int x5), some (.int (x6 + 1)), some (.int (x7 + 1)), none] [] (K, I, L, R, sz) Q) : X (d + 1) 0 0 12005 0 0 6 [some (.ref 73), some (.int x1), some (.int x2), some (.int x3), some (.int x4), some (.int x5), some (.int x6), some (.int x7), none] [] (K, I, L, R, sz) Q := x_ild7 k12005_6 <| x_bipush (v := 20) k12005_8 rfl <| x_icmpge (tgt := 44) k12005_10 (by decide) (fun h1 => x_ald0 k12005_44 <| x_getI k12005_45 f12_123_11 (hK.at rfl) rfl <| x_ild6 k12005_48 <| x_iadd k12005_50 <| x_sipush (v := 160) k12005_51 rfl <| x_icmple (tgt := 59) k12005_54 (by decide) (fun h2 => x_iconst (v := 0) k12005_59 rfl <| x_ist7 k12005_60 (Nat.le_of_ble_eq_true rfl) rfl <| (q1 h1 h2)) (fun h2 => x_iconst (v := (-1)) k12005_57 rfl <| x_iret k12005_58 rfl (Nat.le_refl _) (Nat.le_refl _) <| (q2 h1 h2))) (fun h1 => x_ild6 k12005_13 <| x_ild1 k12005_15 <| x_ild2 k12005_16 <| x_ild3 k12005_17 <| x_ild4 k12005_18 <| x_ild5 k12005_20 <| x_ild7 k12005_22 <| x_cS6 (MCz := 0) (MSz := 0) k12005_24 s12_119 (Nat.le_of_ble_eq_true rfl) (Nat.le_of_ble_eq_true rfl) (Nat.le_refl _) (Nat.le_refl _) <| s12004 (b1 h1) (x_ifeq (tgt := 34) k12005_27 (by decide) (fun h3 => x_iconst (v := 0) k12005_34 rfl <| x_iadd k12005_35 <| x_ist6 k12005_36 (Nat.le_of_ble_eq_true rfl) rfl <| x_inc7 (c := 1) k12005_38 rfl (Nat.le_of_ble_eq_true rfl) rfl <| x_goto (tgt := 6) k12005_41 (by decide) <| (q3 h1 h3)) (fun h3 => x_iconst (v := 1) k12005_30 rfl <| x_goto (tgt := 35) k12005_31 (by decide) <| x_iadd k12005_35 <| x_ist6 k12005_36 (Nat.le_of_ble_eq_true rfl) rfl <| x_inc7 (c := 1) k12005_38 rfl (Nat.le_of_ble_eq_true rfl) rfl <| x_goto (tgt := 6) k12005_41 (by decide) <| (q4 h1 h3))))
theorem z12005_62 {x1 : Int32} {x2 : Int32} {x3 : Int32} {x4 : Int32} {x5 : Int32} {x6 : Int32} {x7 : Int32}  (hK : qLay K sz) (hR : qRef R) (b1 : ¬ 20 ≤ x7 → ∃ j, j < 20 ∧ x7 = nI j) (b2 : ¬ 20 ≤ x7 → ¬ (by5 x1 x2 x3 x4 x5 (Int32.toNatClampNeg x7)) = 0 → vp_in (I 73 2) 160) (q1 : 20 ≤ x7 → Q (some (.int (I 73 2))) (K, I, L, R, sz)) (q2 : ¬ 20 ≤ x7 → (by5 x1 x2 x3 x4 x5 (Int32.toNatClampNeg x7)) = 0 → X (d + 1) 0 0 12005 0 0 62 [some (.ref 73), some (.int x1), some (.int x2), some (.int x3), some (.int x4), some (.int x5), some (.int x6), some (.int (x7 + 1)), none] [] (K, I, L, R, sz) Q) (q3 : ¬ 20 ≤ x7 → ¬ (by5 x1 x2 x3 x4 x5 (Int32.toNatClampNeg x7)) = 0 → ∀ I3 : Nat → Nat → Int32, I3 = va_up I 74 (upd (I 74) ((I 73 2).toNatClampNeg) (by5 x1 x2 x3 x4 x5 (Int32.toNatClampNeg x7))) → ∀ I5 : Nat → Nat → Int32, I5 = va_up I3 73 (upd (I3 73) 2 ((I3 73 2) + 1)) → X (d + 1) 0 0 12005 0 0 62 [some (.ref 73), some (.int x1), some (.int x2), some (.int x3), some (.int x4), some (.int x5), some (.int x6), some (.int (x7 + 1)), none] [] (K, I5, L, R, sz) Q) : X (d + 1) 0 0 12005 0 0 62 [some (.ref 73), some (.int x1), some (.int x2), some (.int x3), some (.int x4), some (.int x5), some (.int x6), some (.int x7), none] [] (K, I, L, R, sz) Q := x_ild7 k12005_62 <| x_bipush (v := 20) k12005_64 rfl <| x_icmpge (tgt := 115) k12005_66 (by decide) (fun h1 => x_ald0 k12005_115 <| x_getI k12005_116 f12_123_11 (hK.at rfl) rfl <| x_iret k12005_119 rfl (Nat.le_refl _) (Nat.le_refl _) <| (q1 h1)) (fun h1 => x_ild1 k12005_69 <| x_ild2 k12005_70 <| x_ild3 k12005_71 <| x_ild4 k12005_72 <| x_ild5 k12005_74 <| x_ild7 k12005_76 <| x_cS6 (MCz := 0) (MSz := 0) k12005_78 s12_119 (Nat.le_of_ble_eq_true rfl) (Nat.le_of_ble_eq_true rfl) (Nat.le_refl _) (Nat.le_refl _) <| s12004 (b1 h1) (x_ist8 k12005_81 (Nat.le_of_ble_eq_true rfl) rfl <| x_ild8 k12005_83 <| x_ifeq (tgt := 109) k12005_85 (by decide) (fun h2 => x_inc7 (c := 1) k12005_109 rfl (Nat.le_of_ble_eq_true rfl) rfl <| x_goto (tgt := 62) k12005_112 (by decide) <| x_wk (ls := [some (.ref 73), some (.int x1), some (.int x2), some (.int x3), some (.int x4), some (.int x5), some (.int x6), some (.int (x7 + 1)), none]) ⟨rfl, ⟨rfl, ⟨rfl, ⟨rfl, ⟨rfl, ⟨rfl, ⟨rfl, ⟨rfl, True.intro⟩⟩⟩⟩⟩⟩⟩⟩ <| (q2 h1 h2)) (fun h2 => x_ald0 k12005_88 <| x_getR k12005_89 f12_9_11 (hK.at rfl) rfl (hR _ _ _ rfl) <| x_ald0 k12005_92 <| x_getI k12005_93 f12_123_11 (hK.at rfl) rfl <| x_ild8 k12005_96 <| x_iast k12005_98 (hK.at rfl) (b2 h1 h2) <| x_nm fun I3 e4 => x_ald0 k12005_99 <| x_dup k12005_100 rfl <| x_getI k12005_101 f12_123_11 (hK.at rfl) rfl <| x_iconst (v := 1) k12005_104 rfl <| x_iadd k12005_105 <| x_putI k12005_106 f12_123_11 (Or.inl rfl) (hK.at rfl) <| x_nm fun I5 e6 => x_inc7 (c := 1) k12005_109 rfl (Nat.le_of_ble_eq_true rfl) rfl <| x_goto (tgt := 62) k12005_112 (by decide) <| x_wk (ls := [some (.ref 73), some (.int x1), some (.int x2), some (.int x3), some (.int x4), some (.int x5), some (.int x6), some (.int (x7 + 1)), none]) ⟨rfl, ⟨rfl, ⟨rfl, ⟨rfl, ⟨rfl, ⟨rfl, ⟨rfl, ⟨rfl, True.intro⟩⟩⟩⟩⟩⟩⟩⟩ <| (q3 h1 h2 I3 e4 I5 e6))))
end L78
