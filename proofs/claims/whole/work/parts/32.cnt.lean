/-! which thanks count -/
/-- only the places of P may have changed -/
def qFr (P : Nat → Nat → Prop) (I J : Nat → Nat → Int32) : Prop := ∀ j k, ¬ P j k → J j k = I j k
theorem qFr.refl {P : Nat → Nat → Prop} {I : Nat → Nat → Int32} : qFr P I I := fun _ _ _ => rfl
theorem qFr.trans {P : Nat → Nat → Prop} {I J H : Nat → Nat → Int32} (h : qFr P I J) (g : qFr P J H) : qFr P I H := fun j k n => (g j k n).trans (h j k n)
theorem qFr.mono {P P' : Nat → Nat → Prop} {I J : Nat → Nat → Int32} (h : qFr P I J) (hp : ∀ j k, P j k → P' j k) : qFr P' I J := fun j k n => h j k (fun q => n (hp j k q))
theorem qFr.row {P : Nat → Nat → Prop} {I J : Nat → Nat → Int32} (h : qFr P I J) {j : Nat} (n : ∀ k, ¬ P j k) : J j = I j := funext fun k => h j k (n k)
theorem qFr.up {P : Nat → Nat → Prop} {I : Nat → Nat → Int32} {j : Nat} {f : Nat → Int32} (n : ∀ k, P j k) : qFr P I (va_up I j f) := fun i k hn => by
  by_cases h : i = j
  · subst h; exact absurd (n k) hn
  · rw [vu_n h]
theorem qFr.up1 {P : Nat → Nat → Prop} {I : Nat → Nat → Int32} {j m : Nat} {v : Int32} (n : P j m) : qFr P I (va_up I j (upd (I j) m v)) := fun i k hn => by
  by_cases h : i = j
  · subst h
    rw [vu_s, upd]
    split
    · next e => subst e; exact absurd n hn
    · rfl
  · rw [vu_n h]
/-- what the working out of a law of the class may change -/
def scL (j k : Nat) : Prop := 39 ≤ j ∧ j ≤ 50 ∧ ((j - 39) % 3 = 2 ∨ ((j - 39) % 3 = 0 ∧ k = 3))
/-- and of the reference -/
def scR (j _k : Nat) : Prop := j = 82 ∨ j = 83
theorem scL_lm {I : Nat → Nat → Int32} {i : Nat} {h : Int32} {S : Nat → Int32} (hi : i < 4) : qFr scL I (qLm I (39 + 3 * i) h S) := by
  intro j k hn
  unfold scL at hn
  by_cases h1 : j = 39 + 3 * i
  · subst h1
    have : k ≠ 3 := fun e => hn ⟨by omega, by omega, Or.inr ⟨by omega, e⟩⟩
    simp [qLm, va_up, upd, this]
  · by_cases h2 : j = 39 + 3 * i + 2
    · exact absurd ⟨by omega, by omega, Or.inl (by omega)⟩ hn
    · rw [qLm_o h1 h2]
theorem scL_no {j : Nat} (h : j < 39 ∨ 50 < j ∨ (j - 39) % 3 = 1) : ∀ k, ¬ scL j k := by
  intro k q
  unfold scL at q
  omega
/-- how often, of the thanks below k -/
def qOft (wo wm : Nat → Int32) (lf : Int32) (i : Nat) : Nat → Nat
  | 0 => 0
  | k + 1 => if ¬ nI k = lf ∧ wm k = wm i then qOft wo wm lf i k + (if wo k = wo i then 1 else 0) else qOft wo wm lf i k
def qSin (wm mi : Nat → Int32) (lf : Int32) (i : Nat) : Nat → Int32
  | 0 => 1000
  | k + 1 => if ¬ nI k = lf ∧ wm k = wm i then mi i - mi k else qSin wm mi lf i k
/-- thank i counts, lf left out -/
def qCnt (wo wm mi br : Nat → Int32) (h : Option (List qCls)) (lf : Int32) (i : Nat) : Prop :=
  (¬ 10 ≤ wo i → ¬ br (wm i).toNatClampNeg = wo i) ∧ ∀ cs, h = some cs → 0 < qWorth (qEnv (wo i) (wm i) (mi i) (nI (qOft wo wm lf i i)) (qSin wm mi lf i i)) cs
/-- the law that holds: its place, its clauses -/
def qHo (I : Nat → Nat → Int32) (w : Option Nat) (h : Option (List qCls)) : Prop := (w = none ∧ h = none) ∨ ∃ j cs, w = some j ∧ h = some cs ∧ j < 4 ∧ qLawC I (39 + 3 * j) cs
def qLv : Option Nat → Value
  | none => .null
  | some j => .ref (39 + 3 * j)
/-- whom each servant is barred from, of the class -/
def qBr (I : Nat → Nat → Int32) : Nat → Int32 := fun s => I (24 + s) 1
def qBrR (I : Nat → Nat → Int32) : Nat → Int32 := fun s => I 85 (3 * s + 1)
theorem qLawC_fr {I J : Nat → Nat → Int32} {j : Nat} {cs : List qCls} (hf : qFr scL I J) (hj : j < 4) (h : qLawC I (39 + 3 * j) cs) : qLawC J (39 + 3 * j) cs := by
  obtain ⟨h1, h2, h3, h4⟩ := h
  refine ⟨?_, h2, ?_, h4⟩
  · rw [hf _ _ (by unfold scL; omega)]; exact h1
  · rw [hf.row (scL_no (Or.inr (Or.inr (by omega))))]; exact h3
theorem qHo_fr {I J : Nat → Nat → Int32} {w : Option Nat} {h : Option (List qCls)} (hf : qFr scL I J) (hh : qHo I w h) : qHo J w h := by
  rcases hh with h | ⟨j, cs, h1, h2, h3, h4⟩
  · exact Or.inl h
  · exact Or.inr ⟨j, cs, h1, h2, h3, qLawC_fr hf h3 h4⟩
section L32
variable {d : Nat} {K : qK} {I : Nat → Nat → Int32} {L : Nat → Nat → Int64} {R : Nat → Nat → Option Nat} {sz : Nat} {Q : Option Value → qMem → Prop}
theorem l10008 {o i : Nat} {lf : Int32} (hK : qLay K sz) (hR : qRef R) (hi : i < 40)
    (hq : X (d + 4) 0 0 10008 0 0 150 [some (.ref 51), some (.int (nI i)), some (.int lf), some (.ref 22), some (.ref o), some (.int (nI (qOft (I 52) (I 53) lf i i))), some (.int (qSin (I 53) (I 54) lf i i)), some (.int (nI i))] [.int (qSin (I 53) (I 54) lf i i), .int (nI (qOft (I 52) (I 53) lf i i)), .int (I 54 i), .int (I 53 i), .int (I 52 i), .ref o] (K, I, L, R, sz) Q) : ∀ (k j : Nat), j + k = i → X (d + 4) 0 0 10008 0 0 50 [some (.ref 51), some (.int (nI i)), some (.int lf), some (.ref 22), some (.ref o), some (.int (nI (qOft (I 52) (I 53) lf i j))), some (.int (qSin (I 53) (I 54) lf i j)), some (.int (nI j))] [] (K, I, L, R, sz) Q := by
  intro k
  have hci : (nI i).toNatClampNeg = i := nI_c (by omega)
  induction k with
  | zero =>
    intro j hj
    have : j = i := by omega
    subst this
    have hle : nI j ≤ nI j := nI_le (by omega) (by omega)
    refine g10008_50 hK hR (fun _ => vI hi (by omega)) (fun h => absurd hle h) (fun h => absurd hle h) (fun _ => ?_) (fun h => absurd hle h) (fun h => absurd hle h) (fun h => absurd hle h) (fun h => absurd hle h)
    rw [hci]
    exact hq
  | succ k ih =>
    intro j hj
    have hnl : ¬ nI i ≤ nI j := nI_ge (by omega) (by omega)
    have hcj : (nI j).toNatClampNeg = j := nI_c (by omega)
    have ih' := ih (j + 1) (by omega)
    refine g10008_50 hK hR (fun h => absurd h hnl) (fun _ _ => vI (by omega) (by omega)) (fun _ _ => vI hi (by omega)) (fun h => absurd h hnl) (fun _ h1 => ?_) (fun _ h1 h2 => ?_) (fun _ h1 h2 h3 => ?_) (fun _ h1 h2 h3 => ?_)
    · rw [qOft, if_neg (fun q => q.1 h1), qSin, if_neg (fun q => q.1 h1)] at ih'
      rw [nI_1]; exact ih'
    · rw [hci, hcj] at h2
      rw [qOft, if_neg (fun q => h2 q.2), qSin, if_neg (fun q => h2 q.2)] at ih'
      rw [nI_1]; exact ih'
    · rw [hci, hcj] at h2 h3
      rw [qOft, if_pos ⟨h1, h2⟩, if_neg h3, qSin, if_pos ⟨h1, h2⟩] at ih'
      rw [hci, hcj, nI_1, Int32.add_zero]; exact ih'
    · rw [hci, hcj] at h2 h3
      rw [qOft, if_pos ⟨h1, h2⟩, if_pos h3, qSin, if_pos ⟨h1, h2⟩] at ih'
      rw [hci, hcj, nI_1, nI_1]; exact ih'
theorem s10008 {i : Nat} {a lf : Int32} {w : Option Nat} {hold : Option (List qCls)} (hK : qLay K sz) (hR : qRef R) (hi : i < 40) (ha : a = nI i) (hw : qIn 5 (I 53 i)) (hh : qHo I w hold) (ht : qCnt (I 52) (I 53) (I 54) (qBr I) hold lf i → ∀ J, qFr scL I J → Q (some (.int 1)) (K, J, L, R, sz)) (hf : ¬ qCnt (I 52) (I 53) (I 54) (qBr I) hold lf i → ∀ J, qFr scL I J → Q (some (.int 0)) (K, J, L, R, sz)) : X (d + 4) 0 0 10008 0 0 0 (qent (qml 10008) [.ref 51, .int a, .int lf, .ref 22, qLv w]) [] (K, I, L, R, sz) Q := by
  subst ha
  have hci : (nI i).toNatClampNeg = i := nI_c (by omega)
  rcases hh with ⟨rfl, rfl⟩ | ⟨j, cs, rfl, rfl, hj, hc⟩
  · refine e10008n hK hR (vI hi (by omega)) (fun _ => by rw [hci]; exact hw) ?_ ?_ ?_ <;> rw [hci]
    · intro h
      exact ht ⟨fun q => absurd h q, fun cs e => absurd e (by simp)⟩ _ qFr.refl
    · intro h h1
      exact ht ⟨fun _ => h1, fun cs e => absurd e (by simp)⟩ _ qFr.refl
    · intro h h1
      exact hf (fun q => q.1 h h1) _ qFr.refl
  · have hgo : (¬ 10 ≤ I 52 i → ¬ qBr I (I 53 i).toNatClampNeg = I 52 i) → X (d + 4) 0 0 10008 0 0 50 [some (.ref 51), some (.int (nI i)), some (.int lf), some (.ref 22), some (.ref (39 + 3 * j)), some (.int 0), some (.int 1000), some (.int 0)] [] (K, I, L, R, sz) Q := by
      intro hb
      refine l10008 (o := 39 + 3 * j) (lf := lf) hK hR hi ?_ i 0 (by omega)
      have ho := qLw_at hK hR hj
      refine x_cV5 (MCz := 0) (MSz := 0) k10008_150 v10_57_3 ho.1 (Nat.le_of_ble_eq_true rfl) (Nat.le_of_ble_eq_true rfl) (Nat.le_refl _) (Nat.le_refl _) ?_
      refine s3002 ho hc (fun h S => ?_)
      refine x_ifle (tgt := 160) k10008_153 (by decide) (fun hn => ?_) (fun hp => ?_)
      · refine x_iconst (v := 0) k10008_160 rfl <| x_zret k10008_161 rfl (Or.inl rfl) (Nat.le_refl _) (Nat.le_refl _) <| hf (fun q => ?_) _ (scL_lm hj)
        have := q.2 cs rfl
        rw [i_lt] at this
        rw [i_le] at hn
        omega
      · refine x_iconst (v := 1) k10008_156 rfl <| x_goto (tgt := 161) k10008_157 (by decide) <| x_zret k10008_161 rfl (Or.inr rfl) (Nat.le_refl _) (Nat.le_refl _) <| ht ⟨hb, fun cs' e => ?_⟩ _ (scL_lm hj)
        cases e
        rw [i_lt]
        rw [i_le] at hp
        omega
    refine e10008 hK hR (vI hi (by omega)) (fun _ => by rw [hci]; exact hw) ?_ ?_ ?_ <;> rw [hci]
    · intro h
      exact hgo (fun q => absurd h q)
    · intro h h1
      exact hgo (fun _ => h1)
    · intro h h1
      exact hf (fun q => q.1 h h1) _ qFr.refl
theorem l12054 {i : Nat} (hK : qLay K sz) (hR : qRef R) (hi : i < 40)
    (hq : X (d + 5) 0 0 12054 0 0 182 [some (.ref 73), some (.int (nI i)), some (.int (nI (qOft (I 86) (I 87) (I 73 34) i i))), some (.int (qSin (I 87) (I 88) (I 73 34) i i)), some (.int (nI i))] [.int (I 73 27), .ref 73] (K, va_up I 82 (upd (upd (upd (upd (upd (I 82) 0 (I 86 i)) 1 (I 87 i)) 2 (I 88 i)) 3 (nI (qOft (I 86) (I 87) (I 73 34) i i))) 4 (qSin (I 87) (I 88) (I 73 34) i i)), L, R, sz) Q) : ∀ (k j : Nat), j + k = i → X (d + 5) 0 0 12054 0 0 51 [some (.ref 73), some (.int (nI i)), some (.int (nI (qOft (I 86) (I 87) (I 73 34) i j))), some (.int (qSin (I 87) (I 88) (I 73 34) i j)), some (.int (nI j))] [] (K, I, L, R, sz) Q := by
  intro k
  have hci : (nI i).toNatClampNeg = i := nI_c (by omega)
  induction k with
  | zero =>
    intro j hj
    have : j = i := by omega
    subst this
    have hle : nI j ≤ nI j := nI_le (by omega) (by omega)
    refine g12054_51 hK hR (fun _ => vI hi (by omega)) (fun h => absurd hle h) (fun h => absurd hle h) (fun _ => ?_) (fun h => absurd hle h) (fun h => absurd hle h) (fun h => absurd hle h) (fun h => absurd hle h)
    simp only [vu_t, vu_s, hci]
    exact hq
  | succ k ih =>
    intro j hj
    have hnl : ¬ nI i ≤ nI j := nI_ge (by omega) (by omega)
    have hcj : (nI j).toNatClampNeg = j := nI_c (by omega)
    have ih' := ih (j + 1) (by omega)
    refine g12054_51 hK hR (fun h => absurd h hnl) (fun _ _ => vI (by omega) (by omega)) (fun _ _ => vI hi (by omega)) (fun h => absurd h hnl) (fun _ h1 => ?_) (fun _ h1 h2 => ?_) (fun _ h1 h2 h3 => ?_) (fun _ h1 h2 h3 => ?_)
    · rw [qOft, if_neg (fun q => q.1 h1), qSin, if_neg (fun q => q.1 h1)] at ih'
      rw [nI_1]; exact ih'
    · rw [hci, hcj] at h2
      rw [qOft, if_neg (fun q => h2 q.2), qSin, if_neg (fun q => h2 q.2)] at ih'
      rw [nI_1]; exact ih'
    · rw [hci, hcj] at h2 h3
      rw [qOft, if_pos ⟨h1, h2⟩, if_neg h3, qSin, if_pos ⟨h1, h2⟩] at ih'
      rw [hci, hcj, nI_1, Int32.add_zero]; exact ih'
    · rw [hci, hcj] at h2 h3
      rw [qOft, if_pos ⟨h1, h2⟩, if_pos h3, qSin, if_pos ⟨h1, h2⟩] at ih'
      rw [hci, hcj, nI_1, nI_1]; exact ih'
/-- the law that holds, of the reference -/
def qHoR (I : Nat → Nat → Int32) (h : Option (List qCls)) : Prop := (I 73 27 = -1 ∧ h = none) ∨ ∃ n cs, I 73 27 = nI n ∧ h = some cs ∧ n < 4 ∧ qLawR I n cs
theorem s12054 {i : Nat} {a : Int32} {hold : Option (List qCls)} (hK : qLay K sz) (hR : qRef R) (hi : i < 40) (ha : a = nI i) (hw : qIn 5 (I 87 i)) (hh : qHoR I hold) (ht : qCnt (I 86) (I 87) (I 88) (qBrR I) hold (I 73 34) i → ∀ J, qFr scR I J → Q (some (.int 1)) (K, J, L, R, sz)) (hf : ¬ qCnt (I 86) (I 87) (I 88) (qBrR I) hold (I 73 34) i → ∀ J, qFr scR I J → Q (some (.int 0)) (K, J, L, R, sz)) : X (d + 5) 0 0 12054 0 0 0 (qent (qml 12054) [.ref 73, .int a]) [] (K, I, L, R, sz) Q := by
  subst ha
  have hci : (nI i).toNatClampNeg = i := nI_c (by omega)
  rcases hh with ⟨h27, rfl⟩ | ⟨n, cs, h27, rfl, hn, hc⟩
  · refine e12054 hK hR (vI hi (by omega)) (fun _ => by rw [hci]; exact hw) (fun _ h => absurd h27 h) ?_ (fun _ _ h => absurd h27 h) ?_ ?_ <;> rw [hci]
    · intro h _
      exact ht ⟨fun q => absurd h q, fun cs e => absurd e (by simp)⟩ _ qFr.refl
    · intro h h1 _
      exact ht ⟨fun _ => h1, fun cs e => absurd e (by simp)⟩ _ qFr.refl
    · intro h h1
      exact hf (fun q => q.1 h h1) _ qFr.refl
  · have hne : ¬ I 73 27 = -1 := by
      rw [h27]
      intro e
      have := congrArg Int32.toInt e
      rw [nI_i (by omega)] at this
      have e1 : (-1 : Int32).toInt = -1 := rfl
      omega
    have hgo : (¬ 10 ≤ I 86 i → ¬ qBrR I (I 87 i).toNatClampNeg = I 86 i) → X (d + 5) 0 0 12054 0 0 51 [some (.ref 73), some (.int (nI i)), some (.int 0), some (.int 1000), some (.int 0)] [] (K, I, L, R, sz) Q := by
      intro hb
      refine l12054 hK hR hi ?_ i 0 (by omega)
      refine x_cV1 (MCz := 0) (MSz := 0) k12054_182 v12_327_11 (hK.at rfl) (Nat.le_of_ble_eq_true rfl) (Nat.le_of_ble_eq_true rfl) (Nat.le_refl _) (Nat.le_refl _) ?_
      refine s12032 (ev := qEnv (I 86 i) (I 87 i) (I 88 i) (nI (qOft (I 86) (I 87) (I 73 34) i i)) (qSin (I 87) (I 88) (I 73 34) i i)) (n := n) (cs := cs) hK hR ⟨rfl, rfl, rfl, rfl, rfl⟩ (by omega) h27 hc (fun S => ?_)
      have hfr : ∀ A, qFr scR I (va_up (va_up I 82 A) 83 S) := fun A => (qFr.up (fun _ => Or.inl rfl)).trans (qFr.up (fun _ => Or.inr rfl))
      refine x_ifle (tgt := 192) k12054_185 (by decide) (fun hn => ?_) (fun hp => ?_)
      · refine x_iconst (v := 0) k12054_192 rfl <| x_zret k12054_193 rfl (Or.inl rfl) (Nat.le_refl _) (Nat.le_refl _) <| hf (fun q => ?_) _ (hfr _)
        have := q.2 cs rfl
        rw [i_lt] at this
        rw [i_le] at hn
        omega
      · refine x_iconst (v := 1) k12054_188 rfl <| x_goto (tgt := 193) k12054_189 (by decide) <| x_zret k12054_193 rfl (Or.inr rfl) (Nat.le_refl _) (Nat.le_refl _) <| ht ⟨hb, fun cs' e => ?_⟩ _ (hfr _)
        cases e
        rw [i_lt]
        rw [i_le] at hp
        omega
    refine e12054 hK hR (vI hi (by omega)) (fun _ => by rw [hci]; exact hw) ?_ (fun _ h => absurd h hne) ?_ (fun _ _ h => absurd h hne) ?_ <;> rw [hci]
    · intro h _
      exact hgo (fun q => absurd h q)
    · intro h h1 _
      exact hgo (fun _ => h1)
    · intro h h1
      exact hf (fun q => q.1 h h1) _ qFr.refl
end L32
