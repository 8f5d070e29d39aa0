/-! the next change; between two changes the leanings stay -/
theorem mn_f (a x : Int32) : (if a < x then a else x).toInt ≤ x.toInt ∧ (if a < x then a else x).toInt ≤ a.toInt ∧ ((if a < x then a else x) = a ∨ (if a < x then a else x) = x) := by
  by_cases h : a < x
  · rw [if_pos h]
    rw [i_lt] at h
    exact ⟨by omega, by omega, Or.inl rfl⟩
  · rw [if_neg h]
    rw [i_lt] at h
    exact ⟨by omega, by omega, Or.inr rfl⟩
/-- x lies behind now and not behind a change of the thanks below i -/
def qNx (mi : Nat → Int32) (now la : Int32) (i : Nat) (x : Int32) : Prop := now.toInt < x.toInt ∧ ∀ j, j < i → (now.toInt < (mi j).toInt → x.toInt ≤ (mi j).toInt) ∧ (0 < la.toInt → now.toInt < (mi j + la).toInt → x.toInt ≤ (mi j + la).toInt)
theorem qNx_s {mi : Nat → Int32} {now la x y : Int32} {i : Nat} (h : qNx mi now la i x) (h1 : y.toInt ≤ x.toInt) (h2 : now.toInt < y.toInt) (h3 : now.toInt < (mi i).toInt → y.toInt ≤ (mi i).toInt) (h4 : 0 < la.toInt → now.toInt < (mi i + la).toInt → y.toInt ≤ (mi i + la).toInt) : qNx mi now la (i + 1) y := by
  refine ⟨h2, fun j hj => ?_⟩
  by_cases hji : j = i
  · subst hji; exact ⟨h3, h4⟩
  · have := h.2 j (by omega)
    exact ⟨fun q => Int.le_trans h1 (this.1 q), fun q w => Int.le_trans h1 (this.2 q w)⟩
section L49
variable {d : Nat} {K : qK} {I : Nat → Nat → Int32} {L : Nat → Nat → Int64} {R : Nat → Nat → Option Nat} {sz : Nat} {Q : Option Value → qMem → Prop}
theorem l10009 {now la : Int32} {n : Nat} (hK : qLay K sz) (hR : qRef R) (hn : I 51 5 = nI n) (h40 : n ≤ 40) (hq : ∀ r, qNx (I 54) now la n r → Q (some (.int r)) (K, I, L, R, sz)) : ∀ (k i : Nat) (x : Int32), i + k = n → qNx (I 54) now la i x → X (d + 1) 0 0 10009 0 0 6 [some (.ref 51), some (.int now), some (.int la), some (.int x), some (.int (nI i))] [] (K, I, L, R, sz) Q := by
  intro k
  induction k with
  | zero =>
    intro i x hi hx
    have hle : I 51 5 ≤ nI i := by rw [hn]; exact nI_le (by omega) (by omega)
    have : i = n := by omega
    subst this
    exact g10009_6 hK hR (fun h => absurd hle h) (fun h => absurd hle h) (fun h => absurd hle h) (fun h => absurd hle h) (fun h => absurd hle h) (fun h => absurd hle h) (fun _ => hq x hx) (fun h => absurd hle h) (fun h => absurd hle h) (fun h => absurd hle h) (fun h => absurd hle h) (fun h => absurd hle h) (fun h => absurd hle h)
  | succ k ih =>
    intro i x hi hx
    have hnl : ¬ I 51 5 ≤ nI i := by rw [hn]; exact nI_ge (by omega) (by omega)
    have hci : (nI i).toNatClampNeg = i := nI_c (by omega)
    have hv : vp_in (nI i) 40 := vI (by omega) (by omega)
    have hnx : ∀ y, qNx (I 54) now la (i + 1) y → X (d + 1) 0 0 10009 0 0 6 [some (.ref 51), some (.int now), some (.int la), some (.int y), some (.int (nI i + 1))] [] (K, I, L, R, sz) Q := fun y hy => by
      rw [nI_1]
      exact ih (i + 1) y (by omega) hy
    have h0 := hx.1
    have e0 : (0 : Int32).toInt = 0 := rfl
    refine g10009_6 hK hR (fun _ => hv) (fun _ _ _ => hv) (fun _ _ _ _ => hv) (fun _ _ => hv) (fun _ _ _ => hv) (fun _ _ _ _ => hv) (fun h => absurd h hnl) ?_ ?_ ?_ ?_ ?_ ?_ <;> rw [hci] <;> intro _ <;> simp only [i_le, e0]
    · intro h1 h2
      exact hnx x (qNx_s hx (Int.le_refl _) h0 (fun q => by omega) (fun q => by omega))
    · intro h1 h2 h3
      exact hnx x (qNx_s hx (Int.le_refl _) h0 (fun q => by omega) (fun q w => by omega))
    · intro h1 h2 h3
      obtain ⟨a1, a2, a3⟩ := mn_f (I 54 i + la) x
      refine hnx _ (qNx_s hx a1 ?_ (fun q => by omega) (fun _ _ => a2))
      rcases a3 with e | e <;> rw [e] <;> omega
    · intro h1 h2
      obtain ⟨a1, a2, a3⟩ := mn_f (I 54 i) x
      refine hnx _ (qNx_s hx a1 ?_ (fun _ => a2) (fun q => by omega))
      rcases a3 with e | e <;> rw [e] <;> omega
    · intro h1 h2 h3
      obtain ⟨a1, a2, a3⟩ := mn_f (I 54 i) x
      refine hnx _ (qNx_s hx a1 ?_ (fun _ => a2) (fun q w => by omega))
      rcases a3 with e | e <;> rw [e] <;> omega
    · intro h1 h2 h3
      obtain ⟨a1, a2, a3⟩ := mn_f (I 54 i) x
      obtain ⟨b1, b2, b3⟩ := mn_f (I 54 i + la) (if I 54 i < x then I 54 i else x)
      refine hnx _ (qNx_s hx (Int.le_trans b1 a1) ?_ (fun _ => Int.le_trans b1 a2) (fun _ _ => b2))
      rcases b3 with e | e
      · rw [e]; omega
      · rw [e]
        rcases a3 with e | e <;> rw [e] <;> omega
theorem s10009 {now la : Int32} {n : Nat} (hK : qLay K sz) (hR : qRef R) (hn : I 51 5 = nI n) (h40 : n ≤ 40) (hw : now.toInt < 1000000000) (hq : ∀ r, qNx (I 54) now la n r → Q (some (.int r)) (K, I, L, R, sz)) : X (d + 1) 0 0 10009 0 0 0 (qent (qml 10009) [.ref 51, .int now, .int la]) [] (K, I, L, R, sz) Q :=
  e10009 (l10009 hK hR hn h40 hq n 0 1000000000 (by omega) ⟨hw, fun j hj => absurd hj (by omega)⟩)
end L49
/-- between two changes the leanings stay -/
theorem qLn_stay {cnt : Nat → Prop} {wo wm mi : Nat → Int32} {now t la r : Int32} : ∀ n, qNx mi now la n r → now.toInt ≤ t.toInt → t.toInt < r.toInt → 0 ≤ la.toInt → (∀ j, j < n → 0 ≤ (mi j).toInt ∧ (mi j).toInt ≤ 1000) → la.toInt ≤ 1000 → 0 ≤ now.toInt → t.toInt ≤ 1000 → qLn cnt wo wm mi t la n = qLn cnt wo wm mi now la n := by
  intro n
  induction n with
  | zero => intros; rfl
  | succ n ih =>
    intro hx h1 h2 h3 h4 h5 h6 h7
    obtain ⟨c1, c2⟩ := hx.2 n (Nat.lt_succ_self n)
    obtain ⟨m0, m1⟩ := h4 n (Nat.lt_succ_self n)
    have eadd : (mi n + la).toInt = (mi n).toInt + la.toInt := by rw [Int32.toInt_add, Int.bmod_eq_of_le (by omega) (by omega)]
    rw [eadd] at c2
    have hi := ih ⟨hx.1, fun j hj => hx.2 j (by omega)⟩ h1 h2 h3 (fun j hj => h4 j (by omega)) h5 h6 h7
    have e0 : (0 : Int32).toInt = 0 := rfl
    rw [qLn, qLn, hi]
    have hlt : t < mi n ↔ now < mi n := by
      rw [i_lt, i_lt]
      constructor
      · intro q; omega
      · intro q
        have := c1 q
        omega
    by_cases hc : cnt n ∧ ¬ t < mi n
    · have hc2 : cnt n ∧ ¬ now < mi n := ⟨hc.1, fun q => hc.2 (hlt.mpr q)⟩
      rw [if_pos hc, if_pos hc2]
      have hnow : (mi n).toInt ≤ now.toInt := by
        have := hc2.2
        rw [i_lt] at this
        omega
      have es : (t - mi n).toInt = t.toInt - (mi n).toInt := by rw [Int32.toInt_sub, Int.bmod_eq_of_le (by omega) (by omega)]
      have en : (now - mi n).toInt = now.toInt - (mi n).toInt := by rw [Int32.toInt_sub, Int.bmod_eq_of_le (by omega) (by omega)]
      have hl : (la = 0 ∨ ¬ la ≤ t - mi n) ↔ (la = 0 ∨ ¬ la ≤ now - mi n) := by
        rw [i_le, i_le, es, en, i_eq, e0]
        by_cases hz : la.toInt = 0
        · simp [hz]
        · have hp : 0 < la.toInt := by omega
          constructor
          · intro q
            right
            have := q.resolve_left hz
            omega
          · intro q
            right
            have q2 := q.resolve_left hz
            have := c2 hp (by omega)
            omega
      by_cases hq : la = 0 ∨ ¬ la ≤ t - mi n
      · rw [if_pos hq, if_pos (hl.mp hq)]
      · rw [if_neg hq, if_neg (fun q => hq (hl.mpr q))]
    · have hc2 : ¬ (cnt n ∧ ¬ now < mi n) := fun q => hc ⟨q.1, fun w => q.2 (hlt.mp w)⟩
      rw [if_neg hc, if_neg hc2]
