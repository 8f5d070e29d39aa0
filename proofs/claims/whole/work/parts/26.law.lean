/-! laws worked out: the class's loop, sign by sign -/
def qEnv (m s t n l : Int32) : Ev := fun c => if c = 109 then m else if c = 115 then s else if c = 116 then t else if c = 110 then n else l
section L26
variable {d : Nat} {K : qK} {I : Nat → Nat → Int32} {L : Nat → Nat → Int64} {R : Nat → Nat → Option Nat} {sz : Nat} {Q : Option Value → qMem → Prop} {o : Nat} {m s t n l : Int32}
def LX (d : Nat) (K : qK) (I : Nat → Nat → Int32) (L : Nat → Nat → Int64) (R : Nat → Nat → Option Nat) (sz : Nat) (Q : Option Value → qMem → Prop) (o : Nat) (m s t n l : Int32) (i h : Nat) (S : Nat → Int32) : Prop := X (d + 3) 0 0 3002 0 0 11 [some (.ref o), some (.int m), some (.int s), some (.int t), some (.int n), some (.int l), some (.int 1), some (.int (nI i)), none] [] (K, qLm I o (nI h) S, L, R, sz) Q
/-- the same while a clause is skipped -/
def LX0 (d : Nat) (K : qK) (I : Nat → Nat → Int32) (L : Nat → Nat → Int64) (R : Nat → Nat → Option Nat) (sz : Nat) (Q : Option Value → qMem → Prop) (o : Nat) (m s t n l : Int32) (i h : Nat) (S : Nat → Int32) : Prop := X (d + 3) 0 0 3002 0 0 11 [some (.ref o), some (.int m), some (.int s), some (.int t), some (.int n), some (.int l), some (.int 0), some (.int (nI i)), none] [] (K, qLm I o (nI h) S, L, R, sz) Q
theorem LX_go {i h : Nat} {z : Int32} {S : Nat → Int32} (ho : qLw K R sz o) (hq : LX d K I L R sz Q o m s t n l (i + 1) h S) : X (d + 3) 0 0 3002 0 0 190 [some (.ref o), some (.int m), some (.int s), some (.int t), some (.int n), some (.int l), some (.int 1), some (.int (nI i)), some (.int z)] [] (K, qLm I o (nI h) S, L, R, sz) Q := by
  refine g3002_190 ho ?_
  rw [nI_1]
  exact x_wk (ls := [some (.ref o), some (.int m), some (.int s), some (.int t), some (.int n), some (.int l), some (.int 1), some (.int (nI (i + 1))), none]) ⟨rfl, rfl, rfl, rfl, rfl, rfl, rfl, rfl, trivial⟩ hq
theorem LX_go0 {i h : Nat} {z : Int32} {S : Nat → Int32} (ho : qLw K R sz o) (hq : LX0 d K I L R sz Q o m s t n l (i + 1) h S) : X (d + 3) 0 0 3002 0 0 190 [some (.ref o), some (.int m), some (.int s), some (.int t), some (.int n), some (.int l), some (.int 0), some (.int (nI i)), some (.int z)] [] (K, qLm I o (nI h) S, L, R, sz) Q := by
  refine g3002_190 ho ?_
  rw [nI_1]
  exact x_wk (ls := [some (.ref o), some (.int m), some (.int s), some (.int t), some (.int n), some (.int l), some (.int 0), some (.int (nI (i + 1))), none]) ⟨rfl, rfl, rfl, rfl, rfl, rfl, rfl, rfl, trivial⟩ hq
theorem LX_num {N i h : Nat} {S : Nat → Int32} (ho : qLw K R sz o) (hN : I o 1 = nI N) (hi : i < N) (h161 : N ≤ 161) (hh : h < 161) {x : Int32} (hx : I (o + 1) i = x) (h0 : 0 ≤ x) (h9 : x ≤ 9999) (hq : LX d K I L R sz Q o m s t n l (i + 1) (h + 1) (upd S h x)) : LX d K I L R sz Q o m s t n l i h S := by
  have hc : (nI i).toNatClampNeg = i := nI_c (by omega)
  have hnl : ¬ qLm I o (nI h) S o 1 ≤ nI i := by rw [qLm_1, hN]; exact nI_ge hi (by omega)
  have hw : -(qLm I o (nI h) S (o + 1) (nI i).toNatClampNeg) = -x := by rw [qLm_c, hc, hx]
  have hp : ¬ (0 : Int32) < -x := by
    rw [i_lt]
    rw [i_le] at h0 h9
    have e1 : (0 : Int32).toInt = 0 := rfl
    have e2 : (9999 : Int32).toInt = 9999 := rfl
    rw [Int32.toInt_neg, Int.bmod_eq_of_le (by omega) (by omega)]
    omega
  refine g3002_11 ho (fun _ => vI (by omega) (by omega)) (fun h => absurd h hnl) (fun _ _ h1 => absurd (hw ▸ h1) hp) (fun _ _ h1 => absurd (hw ▸ h1) hp) (fun _ _ h1 => absurd (hw ▸ h1) hp) (fun _ _ h1 => absurd (hw ▸ h1) hp) (fun _ _ h1 => absurd (hw ▸ h1) hp) (fun _ _ h1 => absurd (hw ▸ h1) hp) (fun _ _ h1 => absurd (hw ▸ h1) hp) (fun _ _ h1 => absurd (hw ▸ h1) hp) (fun _ _ _ => ?_) (fun _ h => absurd h (by decide)) (fun _ h => absurd h (by decide))
  refine g3002_65 ho hh ?_
  rw [qLm_c, hc, hx]
  exact LX_go ho hq
theorem LX_sign {N i h : Nat} {S : Nat → Int32} (ho : qLw K R sz o) (hN : I o 1 = nI N) (hi : i < N) (h161 : N ≤ 161) {c : Int32} (hx : I (o + 1) i = -c) (h0 : 0 < c)
    (k1 : c ≠ 59 → c ≠ 63 → ¬ qlet c → X (d + 3) 0 0 3002 0 0 187 [some (.ref o), some (.int m), some (.int s), some (.int t), some (.int n), some (.int l), some (.int 1), some (.int (nI i)), some (.int c)] [.int c, .ref o] (K, qLm I o (nI h) S, L, R, sz) Q)
    (k2 : qlet c → h < 161 ∧ LX d K I L R sz Q o m s t n l (i + 1) (h + 1) (upd S h (qEnv m s t n l c)))
    (k3 : c = 63 → X (d + 3) 0 0 3002 0 0 91 [some (.ref o), some (.int m), some (.int s), some (.int t), some (.int n), some (.int l), some (.int 1), some (.int (nI i)), some (.int c)] [.ref o] (K, qLm I o (nI h) S, L, R, sz) Q)
    (k4 : c = 59 → X (d + 3) 0 0 3002 0 0 79 [some (.ref o), some (.int m), some (.int s), some (.int t), some (.int n), some (.int l), some (.int 1), some (.int (nI i)), some (.int c)] [.ref o] (K, qLm I o (nI h) S, L, R, sz) Q) : LX d K I L R sz Q o m s t n l i h S := by
  have hc : (nI i).toNatClampNeg = i := nI_c (by omega)
  have hnl : ¬ qLm I o (nI h) S o 1 ≤ nI i := by rw [qLm_1, hN]; exact nI_ge hi (by omega)
  have hw : -(qLm I o (nI h) S (o + 1) (nI i).toNatClampNeg) = c := by rw [qLm_c, hc, hx, Int32.neg_neg]
  refine g3002_11 ho (fun _ => vI (by omega) (by omega)) (fun h => absurd h hnl) ?_ ?_ ?_ ?_ ?_ ?_ ?_ ?_ ?_ (fun _ h => absurd h (by decide)) (fun _ h => absurd h (by decide)) <;> rw [hw]
  · intro _ _ _ h1 h2 h3 h4 h5 h6 h7
    exact k1 h1 h2 (fun q => q.elim h3 (fun q => q.elim h4 (fun q => q.elim h5 (fun q => q.elim h6 h7))))
  · intro _ _ _ h1 h2 h3 h4 h5 h6 h7
    obtain ⟨hh, hq⟩ := k2 (by simp [qlet, h7])
    refine g3002_178 ho hh ?_
    rw [qEnv, h7] at hq
    exact LX_go ho hq
  · intro _ _ _ h1 h2 h3 h4 h5 h7
    obtain ⟨hh, hq⟩ := k2 (by simp [qlet, h7])
    refine g3002_162 ho hh ?_
    rw [qEnv, h7] at hq
    exact LX_go ho hq
  · intro _ _ _ h1 h2 h3 h4 h7
    obtain ⟨hh, hq⟩ := k2 (by simp [qlet, h7])
    refine g3002_146 ho hh ?_
    rw [qEnv, h7] at hq
    exact LX_go ho hq
  · intro _ _ _ h1 h2 h3 h7
    obtain ⟨hh, hq⟩ := k2 (by simp [qlet, h7])
    refine g3002_131 ho hh ?_
    rw [qEnv, h7] at hq
    exact LX_go ho hq
  · intro _ _ _ h1 h2 h7
    obtain ⟨hh, hq⟩ := k2 (by simp [qlet, h7])
    refine g3002_116 ho hh ?_
    rw [qEnv, h7] at hq
    exact LX_go ho hq
  · intro _ _ _ h1 h2
    exact k3 h2
  · intro _ _ _ h1
    exact k4 h1
  · intro _ _ h1
    exact absurd h0 h1
/-- operate and on -/
theorem LX_op {i : Nat} {c z : Int32} {J : Nat → Nat → Int32} (ho : qLw K R sz o) (hq : ∀ Q', Q' none (K, J, L, R, sz) → X (d + 2) 0 0 3004 0 0 0 (qent (qml 3004) [.ref o, .int c]) [] (K, I, L, R, sz) Q') (hk : X (d + 3) 0 0 3002 0 0 190 [some (.ref o), some (.int m), some (.int s), some (.int t), some (.int n), some (.int l), some (.int 1), some (.int (nI i)), some (.int z)] [] (K, J, L, R, sz) Q) : X (d + 3) 0 0 3002 0 0 187 [some (.ref o), some (.int m), some (.int s), some (.int t), some (.int n), some (.int l), some (.int 1), some (.int (nI i)), some (.int z)] [.int c, .ref o] (K, I, L, R, sz) Q :=
  x_cV1 (MCz := 0) (MSz := 0) k3002_187 v3_45_3 ho.1 (Nat.le_of_ble_eq_true rfl) (Nat.le_of_ble_eq_true rfl) (Nat.le_refl _) (Nat.le_refl _) <| hq _ hk
theorem LX_bin {N i h : Nat} {S : Nat → Int32} (ho : qLw K R sz o) (hN : I o 1 = nI N) (hi : i < N) (h161 : N ≤ 161) (hh : h + 1 < 161) {op : Int32} (hx : I (o + 1) i = -op) (hop : op = 43 ∨ op = 45 ∨ op = 42 ∨ op = 47) (hq : LX d K I L R sz Q o m s t n l (i + 1) (h + 1) (upd S h (rk op (S h) (S (h + 1))))) : LX d K I L R sz Q o m s t n l i (h + 2) S := by
  have hn : ¬ qlet op ∧ op ≠ 59 ∧ op ≠ 63 ∧ 0 < op ∧ op ≠ 33 ∧ op ≠ 38 ∧ op ≠ 60 ∧ op ≠ 61 ∧ op ≠ 62 ∧ op ≠ 124 := by
    rcases hop with h | h | h | h <;> subst h <;> exact ⟨by unfold qlet; decide, by decide, by decide, by decide, by decide, by decide, by decide, by decide, by decide, by decide⟩
  refine LX_sign ho hN hi h161 hx hn.2.2.2.1 (fun _ _ _ => ?_) (fun h => absurd h hn.1) (fun h => absurd h hn.2.2.1) (fun h => absurd h hn.2.1)
  obtain ⟨_, _, _, _, a1, a2, a3, a4, a5, a6⟩ := hn
  exact LX_op ho (fun Q' h' => t3004 (d := d) ho (by omega) (fun _ => by omega) (fun _ h => absurd h a2) (fun _ _ h => absurd h a3) (fun _ _ h => absurd h a3) (fun _ _ _ h => absurd h a4) (fun _ _ _ h => absurd h a4) (fun _ _ _ _ h => absurd h a5) (fun _ _ _ _ h => absurd h a5) (fun _ _ _ _ _ h => absurd h a6) (fun _ _ _ _ _ _ => h') (fun h => absurd h a1) (fun h => absurd h a1)) (LX_go ho hq)
theorem LX_cmp {N i h : Nat} {S : Nat → Int32} (ho : qLw K R sz o) (hN : I o 1 = nI N) (hi : i < N) (h161 : N ≤ 161) (hh : h + 1 < 161) {op : Int32} (hx : I (o + 1) i = -op) (hop : op = 61 ∨ op = 60 ∨ op = 62) (hq : LX d K I L R sz Q o m s t n l (i + 1) (h + 1) (upd S h (qcp op (S h) (S (h + 1))))) : LX d K I L R sz Q o m s t n l i (h + 2) S := by
  have hn : ¬ qlet op ∧ op ≠ 59 ∧ op ≠ 63 ∧ 0 < op ∧ op ≠ 33 ∧ op ≠ 38 ∧ op ≠ 124 := by
    rcases hop with h | h | h <;> subst h <;> exact ⟨by unfold qlet; decide, by decide, by decide, by decide, by decide, by decide, by decide⟩
  refine LX_sign ho hN hi h161 hx hn.2.2.2.1 (fun _ _ _ => ?_) (fun h => absurd h hn.1) (fun h => absurd h hn.2.2.1) (fun h => absurd h hn.2.1)
  obtain ⟨_, _, _, _, a1, a2, a6⟩ := hn
  refine LX_op (J := qLm I o (nI (h + 1)) (upd S h (qcp op (S h) (S (h + 1))))) ho (fun Q' h' => t3004 (d := d) ho (by omega) (fun _ => by omega) (fun _ h => absurd h a2) (fun _ _ e1 e2 => ?_) (fun _ _ e1 e2 => ?_) (fun _ _ e0 e1 e2 => ?_) (fun _ _ e0 e1 e2 => ?_) (fun _ _ e0 e3 e1 e2 => ?_) (fun _ _ e0 e3 e1 e2 => ?_) (fun _ _ _ _ _ h => absurd h a6) (fun _ _ e1 e2 e3 _ => ?_) (fun h => absurd h a1) (fun h => absurd h a1)) (LX_go ho hq)
  · rw [qcp, if_neg (by rw [e1]; decide), if_pos e1, qb, if_neg (by rw [i_lt]; rw [i_le] at e2; omega)] at h'; exact h'
  · rw [qcp, if_neg (by rw [e1]; decide), if_pos e1, qb, if_pos (by rw [i_lt]; rw [i_le] at e2; omega)] at h'; exact h'
  · rw [qcp, if_pos e1, qb, if_neg e2] at h'; exact h'
  · rw [qcp, if_pos e1, qb, if_pos e2] at h'; exact h'
  · rw [qcp, if_neg e3, if_neg e0, qb, if_neg (by rw [i_lt]; rw [i_le] at e2; omega)] at h'; exact h'
  · rw [qcp, if_neg e3, if_neg e0, qb, if_pos (by rw [i_lt]; rw [i_le] at e2; omega)] at h'; exact h'
  · exact (hop.elim e2 (fun q => q.elim e1 e3)).elim
theorem LX_not {N i h : Nat} {S : Nat → Int32} (ho : qLw K R sz o) (hN : I o 1 = nI N) (hi : i < N) (h161 : N ≤ 161) (hh : h < 161) (hx : I (o + 1) i = -33) (hq : LX d K I L R sz Q o m s t n l (i + 1) (h + 1) (upd S h (qb (S h = 0)))) : LX d K I L R sz Q o m s t n l i (h + 1) S := by
  refine LX_sign ho hN hi h161 hx (by decide) (fun _ _ _ => ?_) (fun h => absurd h (by unfold qlet; decide)) (fun h => absurd h (by decide)) (fun h => absurd h (by decide))
  refine LX_op (J := qLm I o (nI (h + 1)) (upd S h (qb (S h = 0)))) ho (fun Q' h' => t3004n (d := d + 1) ho hh (fun e => ?_) (fun e => ?_)) (LX_go ho hq)
  · rw [qb, if_neg e] at h'; exact h'
  · rw [qb, if_pos e] at h'; exact h'
theorem LX_and {N i h : Nat} {S : Nat → Int32} (ho : qLw K R sz o) (hN : I o 1 = nI N) (hi : i < N) (h161 : N ≤ 161) (hh : h + 1 < 161) (hx : I (o + 1) i = -38) (h1 : S h = 0 ∨ S h = 1) (h2 : S (h + 1) = 0 ∨ S (h + 1) = 1) (hq : LX d K I L R sz Q o m s t n l (i + 1) (h + 1) (upd S h (qb (¬ S h = 0 ∧ ¬ S (h + 1) = 0)))) : LX d K I L R sz Q o m s t n l i (h + 2) S := by
  refine LX_sign ho hN hi h161 hx (by decide) (fun _ _ _ => ?_) (fun h => absurd h (by unfold qlet; decide)) (fun h => absurd h (by decide)) (fun h => absurd h (by decide))
  have e : S h &&& S (h + 1) = qb (¬ S h = 0 ∧ ¬ S (h + 1) = 0) := by
    rcases h1 with h1 | h1 <;> rcases h2 with h2 | h2 <;> rw [h1, h2] <;> decide
  rw [← e] at hq
  exact LX_op ho (fun Q' h' => t3004 (d := d) ho (by omega) (fun _ => by omega) (fun _ _ => h') (fun _ h => absurd rfl h) (fun _ h => absurd rfl h) (fun _ h => absurd rfl h) (fun _ h => absurd rfl h) (fun _ h => absurd rfl h) (fun _ h => absurd rfl h) (fun _ h => absurd rfl h) (fun _ h => absurd rfl h) (fun h => absurd h (by decide)) (fun h => absurd h (by decide))) (LX_go ho hq)
theorem LX_or {N i h : Nat} {S : Nat → Int32} (ho : qLw K R sz o) (hN : I o 1 = nI N) (hi : i < N) (h161 : N ≤ 161) (hh : h + 1 < 161) (hx : I (o + 1) i = -124) (h1 : S h = 0 ∨ S h = 1) (h2 : S (h + 1) = 0 ∨ S (h + 1) = 1) (hq : LX d K I L R sz Q o m s t n l (i + 1) (h + 1) (upd S h (qb (¬ S h = 0 ∨ ¬ S (h + 1) = 0)))) : LX d K I L R sz Q o m s t n l i (h + 2) S := by
  refine LX_sign ho hN hi h161 hx (by decide) (fun _ _ _ => ?_) (fun h => absurd h (by unfold qlet; decide)) (fun h => absurd h (by decide)) (fun h => absurd h (by decide))
  have e : S h ||| S (h + 1) = qb (¬ S h = 0 ∨ ¬ S (h + 1) = 0) := by
    rcases h1 with h1 | h1 <;> rcases h2 with h2 | h2 <;> rw [h1, h2] <;> decide
  rw [← e] at hq
  exact LX_op ho (fun Q' h' => t3004 (d := d) ho (by omega) (fun _ => by omega) (fun _ h => absurd h (by decide)) (fun _ _ h => absurd h (by decide)) (fun _ _ h => absurd h (by decide)) (fun _ _ _ h => absurd h (by decide)) (fun _ _ _ h => absurd h (by decide)) (fun _ _ _ _ h => absurd h (by decide)) (fun _ _ _ _ h => absurd h (by decide)) (fun _ _ _ _ _ _ => h') (fun _ _ _ _ _ h => absurd rfl h) (fun h => absurd h (by decide)) (fun h => absurd h (by decide))) (LX_go ho hq)
end L26
