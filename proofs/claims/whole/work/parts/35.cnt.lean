/-! which thanks count with one left out; the leanings by what counts -/
theorem x_wk2 {d MC MS y uc us pc : Nat} {ls ls' : List (Option Value)} {st : List Value} {M : qMem} {Q : Option Value → qMem → Prop} (k : X d MC MS y uc us pc ls st M Q) (h : qsub ls ls') : X d MC MS y uc us pc ls' st M Q := x_wk h k
theorem nI_m1 {j : Nat} (h : j < 1000) : ¬ nI j = -1 := by
  intro e
  have := congrArg Int32.toInt e
  rw [nI_i (by omega)] at this
  have e1 : (-1 : Int32).toInt = -1 := rfl
  omega
theorem qOft_same {wo wm : Nat → Int32} {lf lf' : Int32} {i : Nat} : ∀ k, (∀ j, j < k → ((¬ nI j = lf ∧ wm j = wm i) ↔ (¬ nI j = lf' ∧ wm j = wm i))) → qOft wo wm lf i k = qOft wo wm lf' i k := by
  intro k
  induction k with
  | zero => intro _; rfl
  | succ k ih =>
    intro h
    rw [qOft, qOft, ih (fun j hj => h j (by omega))]
    simp only [h k (Nat.lt_succ_self k)]
theorem qSin_same {wm mi : Nat → Int32} {lf lf' : Int32} {i : Nat} : ∀ k, (∀ j, j < k → ((¬ nI j = lf ∧ wm j = wm i) ↔ (¬ nI j = lf' ∧ wm j = wm i))) → qSin wm mi lf i k = qSin wm mi lf' i k := by
  intro k
  induction k with
  | zero => intro _; rfl
  | succ k ih =>
    intro h
    rw [qSin, qSin, ih (fun j hj => h j (by omega))]
    simp only [h k (Nat.lt_succ_self k)]
theorem qCnt_same {wo wm mi br : Nat → Int32} {h : Option (List qCls)} {l i : Nat} (hi : i < 1000) (hl : l < 1000) (hd : i ≤ l ∨ wm l ≠ wm i) : qCnt wo wm mi br h (nI l) i ↔ qCnt wo wm mi br h (-1) i := by
  have hs : ∀ j, j < i → ((¬ nI j = nI l ∧ wm j = wm i) ↔ (¬ nI j = -1 ∧ wm j = wm i)) := by
    intro j hj
    have h1 := nI_m1 (j := j) (by omega)
    by_cases hjl : j = l
    · subst hjl
      have : wm j ≠ wm i := hd.resolve_left (by omega)
      simp [this]
    · have : ¬ nI j = nI l := fun e => hjl ((nI_eq (by omega) (by omega)).mp e)
      simp [h1, this]
  unfold qCnt
  rw [qOft_same i hs, qSin_same i hs]
def scW (j k : Nat) : Prop := scL j k ∨ j = 56
theorem scW_no {j : Nat} (h : j < 39 ∨ (50 < j ∧ j ≠ 56) ∨ (j ≠ 56 ∧ (j - 39) % 3 = 1)) : ∀ k, ¬ scW j k := by
  intro k q
  unfold scW scL at q
  omega
/-- the trial below m -/
def qTri (I : Nat → Nat → Int32) (hold : Option (List qCls)) (l m : Nat) : Prop := ∀ i, i < m → (¬ I 56 i = 0 ↔ (¬ i = l ∧ qCnt (I 52) (I 53) (I 54) (qBr I) hold (nI l) i))
section L35
variable {d : Nat} {K : qK} {I : Nat → Nat → Int32} {L : Nat → Nat → Int64} {R : Nat → Nat → Option Nat} {sz : Nat} {Q : Option Value → qMem → Prop}
theorem l10007 {n l : Nat} {w : Option Nat} {hold : Option (List qCls)} (hK : qLay K sz) (hR : qRef R) (h40 : n ≤ 40) (hl : l < n) : ∀ (k j : Nat) (I : Nat → Nat → Int32), j + k = n → I 51 5 = nI n → (∀ i, i < n → qIn 5 (I 53 i)) → qHo I w hold → qJud I hold n → qTri I hold l j → (∀ J, qFr scW I J → qTri J hold l n → Q none (K, J, L, R, sz)) → X (d + 5) 0 0 10007 0 0 3 [some (.ref 51), some (.int (nI l)), some (.ref 22), some (qLv w), some (.int (nI j)), none] [] (K, I, L, R, sz) Q := by
  intro k
  induction k with
  | zero =>
    intro j I hj hn hw hh hc ht hq
    have : j = n := by omega
    subst this
    have hle : I 51 5 ≤ nI j := by rw [hn]; exact nI_le (by omega) (by omega)
    cases w with
    | none => exact g10007n_3 hK hR (fun h => absurd hle h) (fun h => absurd hle h) (fun h => absurd hle h) (fun h => absurd hle h) (fun _ => hq I qFr.refl ht) (fun h => absurd hle h) (fun h => absurd hle h) (fun h => absurd hle h) (fun h => absurd hle h) (fun h => absurd hle h) (fun h => absurd hle h) (fun h => absurd hle h)
    | some o => exact g10007_3 hK hR (fun h => absurd hle h) (fun h => absurd hle h) (fun h => absurd hle h) (fun h => absurd hle h) (fun _ => hq I qFr.refl ht) (fun h => absurd hle h) (fun h => absurd hle h) (fun h => absurd hle h) (fun h => absurd hle h) (fun h => absurd hle h) (fun h => absurd hle h) (fun h => absurd hle h)
  | succ k ih =>
    intro j I hj hn hw hh hc ht hq
    have hnl : ¬ I 51 5 ≤ nI j := by rw [hn]; exact nI_ge (by omega) (by omega)
    have hcj : (nI j).toNatClampNeg = j := nI_c (by omega)
    have hcl : (nI l).toNatClampNeg = l := nI_c (by omega)
    have hvj : vp_in (nI j) 40 := vI (by omega) (by omega)
    have hvl : vp_in (nI l) 40 := vI (by omega) (by omega)
    have hnext : ∀ (v : Int32) (J : Nat → Nat → Int32), (¬ v = 0 ↔ (¬ j = l ∧ qCnt (I 52) (I 53) (I 54) (qBr I) hold (nI l) j)) → qFr scL I J → X (d + 5) 0 0 10007 0 0 3 [some (.ref 51), some (.int (nI l)), some (.ref 22), some (qLv w), some (.int (nI j + 1)), none] [] (K, va_up J 56 (upd (J 56) (nI j).toNatClampNeg v), L, R, sz) Q := by
      intro v J hvc hf
      have hf1 : qFr scW I (va_up J 56 (upd (J 56) j v)) := (hf.mono (fun _ _ => Or.inl)).trans (qFr.up (fun _ => Or.inr rfl))
      rw [hcj, nI_1]
      refine ih (j + 1) _ (by omega) ?_ ?_ ?_ ?_ ?_ ?_
      · rw [hf1 _ _ (scW_no (by omega) _)]; exact hn
      · intro i hi
        rw [hf1.row (scW_no (by omega))]
        exact hw i hi
      · rcases qHo_fr hf hh with h | ⟨a, cs, h1, h2, h3, h4⟩
        · exact Or.inl h
        · refine Or.inr ⟨a, cs, h1, h2, h3, ?_⟩
          obtain ⟨g1, g2, g3, g4⟩ := h4
          refine ⟨?_, g2, ?_, g4⟩
          · rw [vu_n (by omega)]; exact g1
          · rw [vu_n (by omega)]; exact g3
      · exact qJud_fr hf1 (fun j k h => scW_no (by omega) k) (scW_no (by omega)) (scW_no (by omega)) (scW_no (by omega)) (scW_no (by omega)) hw hc
      · intro i hi
        rw [qCnt_fr hf1 (fun j k h => scW_no (by omega) k) (scW_no (by omega)) (scW_no (by omega)) (scW_no (by omega)) (hw i (by omega)), vu_s]
        by_cases hij : i = j
        · subst hij
          rw [upd, if_pos rfl]
          exact hvc
        · rw [upd, if_neg hij, hf.row (scL_no (by omega))]
          exact ht i (by omega)
      · intro J' h1 h2
        exact hq J' (hf1.trans h1) h2
    have hcall : ∀ t : Int32, X (d + 5) 0 0 10007 0 0 58 [some (.ref 51), some (.int (nI l)), some (.ref 22), some (qLv w), some (.int (nI j)), some (.int t)] [qLv w, .ref 22, .int (nI l), .int (nI j), .ref 51, .int (nI j), .ref 56] (K, I, L, R, sz) Q ∨ j = l := by
      intro t
      by_cases hjl : j = l
      · exact Or.inr hjl
      · left
        refine x_cV4 (MCz := 0) (MSz := 0) k10007_58 v10_47_9 (hK.at rfl) (by simp [Value.category]) (by cases w <;> exact Nat.le_of_ble_eq_true rfl) (Nat.le_refl _) (Nat.le_refl _) ?_
        refine s10008 hK hR (by omega) rfl (hw j (by omega)) hh (fun h J hf => ?_) (fun h J hf => ?_)
        · have hk := hnext 1 J ⟨fun _ => ⟨hjl, h⟩, fun _ => by decide⟩ hf
          refine x_goto (tgt := 85) k10007_61 (by decide) ?_
          cases w
          · exact g10007n_85 hK hvj (Or.inr rfl) (x_wk2 hk ⟨rfl, rfl, rfl, rfl, rfl, trivial⟩)
          · exact g10007_85 hK hvj (Or.inr rfl) (x_wk2 hk ⟨rfl, rfl, rfl, rfl, rfl, trivial⟩)
        · have hk := hnext 0 J ⟨fun q => absurd rfl q, fun q => absurd q.2 h⟩ hf
          refine x_goto (tgt := 85) k10007_61 (by decide) ?_
          cases w
          · exact g10007n_85 hK hvj (Or.inl rfl) (x_wk2 hk ⟨rfl, rfl, rfl, rfl, rfl, trivial⟩)
          · exact g10007_85 hK hvj (Or.inl rfl) (x_wk2 hk ⟨rfl, rfl, rfl, rfl, rfl, trivial⟩)
    have hcj2 := (hc j (by omega)).2
    have hle_iff : nI j ≤ nI l ↔ j ≤ l := nI_leI (by omega) (by omega)
    have heq_iff : nI j = nI l ↔ j = l := nI_eq (by omega) (by omega)
    -- the thank left out
    have a1 : nI j = nI l → X (d + 5) 0 0 10007 0 0 3 [some (.ref 51), some (.int (nI l)), some (.ref 22), some (qLv w), some (.int (nI j + 1)), none] [] (K, va_up I 56 (upd (I 56) (nI j).toNatClampNeg 0), L, R, sz) Q := fun h => hnext 0 I ⟨fun q => absurd rfl q, fun q => absurd (heq_iff.mp h) q.1⟩ qFr.refl
    -- untouched
    have a2 : (j ≤ l ∨ ¬ I 53 j = I 53 l) → ¬ nI j = nI l → I 55 j = 0 → X (d + 5) 0 0 10007 0 0 3 [some (.ref 51), some (.int (nI l)), some (.ref 22), some (qLv w), some (.int (nI j + 1)), none] [] (K, va_up I 56 (upd (I 56) (nI j).toNatClampNeg 0), L, R, sz) Q := fun h1 h2 h3 => by
      refine hnext 0 I ⟨fun q => absurd rfl q, fun q => ?_⟩ qFr.refl
      have := (qCnt_same (by omega) (by omega) (h1.imp id (fun e q => e q.symm))).mp q.2
      exact absurd h3 (hcj2.mpr this)
    have a3 : (j ≤ l ∨ ¬ I 53 j = I 53 l) → ¬ nI j = nI l → ¬ I 55 j = 0 → X (d + 5) 0 0 10007 0 0 3 [some (.ref 51), some (.int (nI l)), some (.ref 22), some (qLv w), some (.int (nI j + 1)), none] [] (K, va_up I 56 (upd (I 56) (nI j).toNatClampNeg 1), L, R, sz) Q := fun h1 h2 h3 => by
      refine hnext 1 I ⟨fun _ => ⟨fun q => h2 (heq_iff.mpr q), ?_⟩, fun _ => by decide⟩ qFr.refl
      exact (qCnt_same (by omega) (by omega) (h1.imp id (fun e q => e q.symm))).mpr (hcj2.mp h3)
    cases w with
    | none =>
      refine g10007n_3 hK hR (fun _ _ _ => hvj) (fun _ _ _ => hvj) (fun _ _ => hvj) (fun _ _ => hvl) (fun h => absurd h hnl) (fun _ _ h => a1 h) (fun _ h1 h2 h3 => a2 (Or.inl (hle_iff.mp h1)) h2 (by rw [hcj] at h3; exact h3)) (fun _ h1 h2 h3 => a3 (Or.inl (hle_iff.mp h1)) h2 (by rw [hcj] at h3; exact h3)) (fun _ _ _ h => a1 h) (fun _ _ h1 h2 h3 => a2 (Or.inr (by rw [hcj, hcl] at h1; exact h1)) h2 (by rw [hcj] at h3; exact h3)) (fun _ _ h1 h2 h3 => a3 (Or.inr (by rw [hcj, hcl] at h1; exact h1)) h2 (by rw [hcj] at h3; exact h3)) (fun _ h1 _ => ?_)
      exact (hcall 1).resolve_right (fun e => h1 (hle_iff.mpr (by omega)))
    | some o =>
      refine g10007_3 hK hR (fun _ _ _ => hvj) (fun _ _ _ => hvj) (fun _ _ => hvj) (fun _ _ => hvl) (fun h => absurd h hnl) (fun _ _ h => a1 h) (fun _ h1 h2 h3 => a2 (Or.inl (hle_iff.mp h1)) h2 (by rw [hcj] at h3; exact h3)) (fun _ h1 h2 h3 => a3 (Or.inl (hle_iff.mp h1)) h2 (by rw [hcj] at h3; exact h3)) (fun _ _ _ h => a1 h) (fun _ _ h1 h2 h3 => a2 (Or.inr (by rw [hcj, hcl] at h1; exact h1)) h2 (by rw [hcj] at h3; exact h3)) (fun _ _ h1 h2 h3 => a3 (Or.inr (by rw [hcj, hcl] at h1; exact h1)) h2 (by rw [hcj] at h3; exact h3)) (fun _ h1 _ => ?_)
      exact (hcall 1).resolve_right (fun e => h1 (hle_iff.mpr (by omega)))
theorem s10007 {n l : Nat} {a : Int32} {w : Option Nat} {hold : Option (List qCls)} (hK : qLay K sz) (hR : qRef R) (h40 : n ≤ 40) (hl : l < n) (ha : a = nI l) (hn : I 51 5 = nI n) (hw : ∀ i, i < n → qIn 5 (I 53 i)) (hh : qHo I w hold) (hc : qJud I hold n) (hq : ∀ J, qFr scW I J → qTri J hold l n → Q none (K, J, L, R, sz)) : X (d + 5) 0 0 10007 0 0 0 (qent (qml 10007) [.ref 51, .int a, .ref 22, qLv w]) [] (K, I, L, R, sz) Q := by
  subst ha
  have := l10007 (d := d) (Q := Q) (L := L) (w := w) hK hR h40 hl n 0 I (by omega) hn hw hh hc (fun i hi => absurd hi (by omega)) hq
  cases w with
  | none => exact e10007n this
  | some o => exact e10007 this
end L35
