/-! which thanks count: the loops -/
def scJ (j k : Nat) : Prop := scL j k ∨ j = 55 ∨ (j = 51 ∧ k = 6)
theorem scJ_no {j : Nat} (h : j < 39 ∨ (50 < j ∧ j ≠ 51 ∧ j ≠ 55) ∨ (j ≠ 51 ∧ j ≠ 55 ∧ (j - 39) % 3 = 1)) : ∀ k, ¬ scJ j k := by
  intro k q
  unfold scJ scL at q
  omega
/-- the counts below m are right -/
def qJud (I : Nat → Nat → Int32) (hold : Option (List qCls)) (m : Nat) : Prop := ∀ i, i < m → ((I 55 i = 0 ∨ I 55 i = 1) ∧ (¬ I 55 i = 0 ↔ qCnt (I 52) (I 53) (I 54) (qBr I) hold (-1) i))
theorem qBr_fr {P : Nat → Nat → Prop} {I J : Nat → Nat → Int32} (hf : qFr P I J) (h : ∀ j k, j < 39 → ¬ P j k) (s : Nat) (hs : s < 5) : qBr J s = qBr I s := hf _ _ (h _ _ (by omega))
theorem qCnt_br {wo wm mi br br' : Nat → Int32} {h : Option (List qCls)} {lf : Int32} {i : Nat} (hb : br' (wm i).toNatClampNeg = br (wm i).toNatClampNeg) : qCnt wo wm mi br' h lf i ↔ qCnt wo wm mi br h lf i := by
  unfold qCnt
  rw [hb]
theorem qIn_c {n : Nat} {a : Int32} (h : qIn n a) (hn : n ≤ 5) : a.toNatClampNeg < n := by
  obtain ⟨s, h1, rfl⟩ := h
  rw [nI_c (by omega)]
  exact h1
theorem qCnt_fr {P : Nat → Nat → Prop} {I J : Nat → Nat → Int32} {h : Option (List qCls)} {lf : Int32} {i : Nat} (hf : qFr P I J) (hp : ∀ j k, j < 39 → ¬ P j k) (h2 : ∀ k, ¬ P 52 k) (h3 : ∀ k, ¬ P 53 k) (h4 : ∀ k, ¬ P 54 k) (hw : qIn 5 (I 53 i)) : qCnt (J 52) (J 53) (J 54) (qBr J) h lf i ↔ qCnt (I 52) (I 53) (I 54) (qBr I) h lf i := by
  rw [hf.row h2, hf.row h3, hf.row h4]
  exact qCnt_br (qBr_fr hf hp _ (qIn_c hw (by omega)))
theorem qJud_fr {P : Nat → Nat → Prop} {I J : Nat → Nat → Int32} {h : Option (List qCls)} {m : Nat} (hf : qFr P I J) (hp : ∀ j k, j < 39 → ¬ P j k) (h2 : ∀ k, ¬ P 52 k) (h3 : ∀ k, ¬ P 53 k) (h4 : ∀ k, ¬ P 54 k) (h5 : ∀ k, ¬ P 55 k) (hw : ∀ i, i < m → qIn 5 (I 53 i)) (hc : qJud I h m) : qJud J h m := by
  intro i hi
  rw [qCnt_fr hf hp h2 h3 h4 (hw i hi), hf.row h5]
  exact hc i hi
section L34
variable {d : Nat} {K : qK} {I : Nat → Nat → Int32} {L : Nat → Nat → Int64} {R : Nat → Nat → Option Nat} {sz : Nat} {Q : Option Value → qMem → Prop}
theorem l10006 {n : Nat} {w : Option Nat} {hold : Option (List qCls)} (hK : qLay K sz) (hR : qRef R) (h40 : n ≤ 40) : ∀ (k j : Nat) (I : Nat → Nat → Int32), j + k = n → I 51 5 = nI n → I 51 6 = nI j → (∀ i, i < n → qIn 5 (I 53 i)) → qHo I w hold → qJud I hold j → (∀ J, qFr scJ I J → J 51 6 = nI n → qJud J hold n → Q none (K, J, L, R, sz)) → X (d + 5) 0 0 10006 0 0 0 [some (.ref 51), some (.ref 22), some (qLv w)] [] (K, I, L, R, sz) Q := by
  intro k
  induction k with
  | zero =>
    intro j I hj hn hjd hw hh hc hq
    have : j = n := by omega
    subst this
    have hle : I 51 5 ≤ I 51 6 := by rw [hn, hjd]; exact nI_le (by omega) (by omega)
    cases w with
    | none => exact g10006n_0 hK hR (fun _ => hq I qFr.refl hjd hc) (fun h => absurd hle h)
    | some o => exact g10006_0 hK hR (fun _ => hq I qFr.refl hjd hc) (fun h => absurd hle h)
  | succ k ih =>
    intro j I hj hn hjd hw hh hc hq
    have hnl : ¬ I 51 5 ≤ I 51 6 := by rw [hn, hjd]; exact nI_ge (by omega) (by omega)
    have hcj : (nI j).toNatClampNeg = j := nI_c (by omega)
    have hgo : ∀ (v : Int32) (J : Nat → Nat → Int32), v = 0 ∨ v = 1 → (¬ v = 0 ↔ qCnt (I 52) (I 53) (I 54) (qBr I) hold (-1) j) → qFr scL I J → X (d + 5) 0 0 10006 0 0 30 [some (.ref 51), some (.ref 22), some (qLv w)] [.int v, .int (nI j), .ref 55] (K, J, L, R, sz) Q := by
      intro v J hv hvc hf
      refine g10006_30 hK (vI (by omega) (by omega)) hv ?_
      have e516 : J 51 6 = nI j := by rw [hf _ _ (by unfold scL; omega)]; exact hjd
      have hf1 : qFr scJ I (va_up (va_up J 55 (upd (J 55) j v)) 51 (upd (J 51) 6 (nI (j + 1)))) := by
        have h0 := qFr.up1 (P := scJ) (I := va_up J 55 (upd (J 55) j v)) (j := 51) (m := 6) (v := nI (j + 1)) (Or.inr (Or.inr ⟨rfl, rfl⟩))
        rw [vu_n (i := 55) (j := 51) (by decide)] at h0
        have h1 : qFr scJ J (va_up J 55 (upd (J 55) j v)) := qFr.up (fun _ => Or.inr (Or.inl rfl))
        exact ((hf.mono (fun _ _ => Or.inl)).trans h1).trans h0
      rw [hcj, e516, nI_1, vu_n (j := 51) (by decide)]
      refine ih (j + 1) _ (by omega) ?_ ?_ ?_ ?_ ?_ ?_
      · rw [vu_s, upd, if_neg (by decide), hf _ _ (by unfold scL; omega)]; exact hn
      · rw [vu_s, upd, if_pos rfl]
      · intro i hi
        rw [hf1.row (scJ_no (by omega))]
        exact hw i hi
      · have : qHo J w hold := qHo_fr hf hh
        rcases this with h | ⟨a, cs, h1, h2, h3, h4⟩
        · exact Or.inl h
        · refine Or.inr ⟨a, cs, h1, h2, h3, ?_⟩
          obtain ⟨g1, g2, g3, g4⟩ := h4
          refine ⟨?_, g2, ?_, g4⟩
          · rw [vu_n (by omega), vu_n (by omega)]; exact g1
          · rw [vu_n (by omega), vu_n (by omega)]; exact g3
      · intro i hi
        rw [qCnt_fr hf1 (fun j k h => scJ_no (by omega) k) (scJ_no (by omega)) (scJ_no (by omega)) (scJ_no (by omega)) (hw i (by omega)), vu_n (by decide), vu_s]
        by_cases hij : i = j
        · subst hij
          rw [upd, if_pos rfl]
          exact ⟨hv, hvc⟩
        · rw [upd, if_neg hij, hf.row (scL_no (by omega))]
          exact hc i (by omega)
      · intro J' h1 h2 h3
        exact hq J' (hf1.trans h1) h2 h3
    have hcall : X (d + 5) 0 0 10006 0 0 27 [some (.ref 51), some (.ref 22), some (qLv w)] [qLv w, .ref 22, .int (-1), .int (nI j), .ref 51, .int (nI j), .ref 55] (K, I, L, R, sz) Q := by
      refine x_cV4 (MCz := 0) (MSz := 0) k10006_27 v10_47_9 (hK.at rfl) (by simp [Value.category]) (by cases w <;> exact Nat.le_of_ble_eq_true rfl) (Nat.le_refl _) (Nat.le_refl _) ?_
      exact s10008 hK hR (by omega) rfl (hw j (by omega)) hh (fun h J hf => hgo 1 J (Or.inr rfl) ⟨fun _ => h, fun _ => by decide⟩ hf) (fun h J hf => hgo 0 J (Or.inl rfl) ⟨fun q => absurd rfl q, fun q => absurd q h⟩ hf)
    cases w with
    | none =>
      refine g10006n_0 hK hR (fun h => absurd h hnl) (fun _ => ?_)
      rw [hjd]; exact hcall
    | some o =>
      refine g10006_0 hK hR (fun h => absurd h hnl) (fun _ => ?_)
      rw [hjd]; exact hcall
theorem s10006 {n j : Nat} {w : Option Nat} {hold : Option (List qCls)} (hK : qLay K sz) (hR : qRef R) (h40 : n ≤ 40) (hj : j ≤ n) (hn : I 51 5 = nI n) (hjd : I 51 6 = nI j) (hw : ∀ i, i < n → qIn 5 (I 53 i)) (hh : qHo I w hold) (hc : qJud I hold j) (hq : ∀ J, qFr scJ I J → J 51 6 = nI n → qJud J hold n → Q none (K, J, L, R, sz)) : X (d + 5) 0 0 10006 0 0 0 (qent (qml 10006) [.ref 51, .ref 22, qLv w]) [] (K, I, L, R, sz) Q := by
  have := l10006 (d := d) (Q := Q) (L := L) (w := w) hK hR h40 (n - j) j I (by omega) hn hjd hw hh hc hq
  cases w <;> exact this
def scC (j k : Nat) : Prop := scR j k ∨ j = 90
theorem scC_no {j : Nat} (h : j ≠ 82 ∧ j ≠ 83 ∧ j ≠ 90) : ∀ k, ¬ scC j k := by
  intro k q
  unfold scC scR at q
  omega
theorem qHoR_fr {P : Nat → Nat → Prop} {I J : Nat → Nat → Int32} {h : Option (List qCls)} (hf : qFr P I J) (h1 : ¬ P 73 27) (h2 : ∀ j k, 75 ≤ j → j ≤ 81 → ¬ P j k) (hh : qHoR I h) : qHoR J h := by
  rcases hh with ⟨e, rfl⟩ | ⟨n, cs, e, rfl, hn, g1, g2, g3, g4⟩
  · exact Or.inl ⟨by rw [hf _ _ h1]; exact e, rfl⟩
  · refine Or.inr ⟨n, cs, by rw [hf _ _ h1]; exact e, rfl, hn, ?_, g2, ?_, g4⟩
    · rw [hf _ _ (h2 _ _ (by omega) (by omega))]; exact g1
    · intro c x hx
      have := g3 c x hx
      unfold qClR at this ⊢
      rw [hf.row (fun k => h2 79 k (by omega) (by omega)), hf.row (fun k => h2 80 k (by omega) (by omega)), hf.row (fun k => h2 81 k (by omega) (by omega)), hf.row (fun k => h2 75 k (by omega) (by omega)), hf.row (fun k => h2 76 k (by omega) (by omega))]
      exact this
/-- the reference's counts below m, lf left out -/
def qJudR (I : Nat → Nat → Int32) (hold : Option (List qCls)) (m : Nat) : Prop := ∀ i, i < m → (¬ I 90 i = 0 ↔ (¬ nI i = I 73 34 ∧ qCnt (I 86) (I 87) (I 88) (qBrR I) hold (I 73 34) i))
theorem l12057 {n : Nat} {hold : Option (List qCls)} (hK : qLay K sz) (hR : qRef R) (h40 : n ≤ 40) : ∀ (k j : Nat) (I : Nat → Nat → Int32), j + k = n → I 73 33 = nI n → (∀ i, i < n → qIn 5 (I 87 i)) → qHoR I hold → qJudR I hold j → (∀ J, qFr scC I J → qJudR J hold n → Q none (K, J, L, R, sz)) → X (d + 6) 0 0 12057 0 0 2 [some (.ref 73), some (.int (nI j))] [] (K, I, L, R, sz) Q := by
  intro k
  induction k with
  | zero =>
    intro j I hj hn hw hh hc hq
    have : j = n := by omega
    subst this
    have hle : I 73 33 ≤ nI j := by rw [hn]; exact nI_le (by omega) (by omega)
    exact g12057_2 hK hR (fun _ => hq I qFr.refl hc) (fun h => absurd hle h) (fun h => absurd hle h)
  | succ k ih =>
    intro j I hj hn hw hh hc hq
    have hnl : ¬ I 73 33 ≤ nI j := by rw [hn]; exact nI_ge (by omega) (by omega)
    have hcj : (nI j).toNatClampNeg = j := nI_c (by omega)
    have hgo : ∀ (v : Int32) (J : Nat → Nat → Int32), v = 0 ∨ v = 1 → (¬ v = 0 ↔ (¬ nI j = I 73 34 ∧ qCnt (I 86) (I 87) (I 88) (qBrR I) hold (I 73 34) j)) → qFr scR I J → X (d + 6) 0 0 12057 0 0 36 [some (.ref 73), some (.int (nI j))] [.int v, .int (nI j), .ref 90] (K, J, L, R, sz) Q := by
      intro v J hv hvc hf
      refine g12057_36 hK (vI (by omega) (by omega)) hv ?_
      have hf1 : qFr scC I (va_up J 90 (upd (J 90) j v)) := (hf.mono (fun _ _ => Or.inl)).trans (qFr.up (fun _ => Or.inr rfl))
      rw [hcj, nI_1]
      refine ih (j + 1) _ (by omega) ?_ ?_ ?_ ?_ ?_
      · rw [hf1 _ _ (scC_no (by omega) _)]; exact hn
      · intro i hi
        rw [hf1.row (scC_no (by omega))]
        exact hw i hi
      · exact qHoR_fr hf1 (scC_no (by omega) _) (fun j k h1 h2 => scC_no (by omega) k) hh
      · intro i hi
        unfold qBrR
        rw [hf1.row (scC_no (j := 86) (by omega)), hf1.row (scC_no (j := 87) (by omega)), hf1.row (scC_no (j := 88) (by omega)), hf1.row (scC_no (j := 73) (by omega)), hf1.row (scC_no (j := 85) (by omega)), vu_s]
        by_cases hij : i = j
        · subst hij
          rw [upd, if_pos rfl]
          exact hvc
        · rw [upd, if_neg hij, hf.row (fun k => by unfold scR; omega)]
          exact hc i (by omega)
      · intro J' h1 h3
        exact hq J' (hf1.trans h1) h3
    refine g12057_2 hK hR (fun h => absurd h hnl) (fun _ h => ?_) (fun _ h => ?_)
    · exact hgo 0 I (Or.inl rfl) ⟨fun q => absurd rfl q, fun q => absurd h q.1⟩ qFr.refl
    · refine x_cV1 (MCz := 0) (MSz := 0) k12057_25 v12_330_11 (hK.at rfl) (Nat.le_of_ble_eq_true rfl) (Nat.le_of_ble_eq_true rfl) (Nat.le_refl _) (Nat.le_refl _) ?_
      refine s12054 hK hR (by omega) rfl (hw j (by omega)) hh (fun hc J hf => ?_) (fun hc J hf => ?_)
      · exact x_ifeqF (tgt := 35) k12057_28 (by decide) (show ¬ (1 : Int32) = 0 by decide) <| x_iconst (v := 1) k12057_31 rfl <| x_goto (tgt := 36) k12057_32 (by decide) <| hgo 1 J (Or.inr rfl) ⟨fun _ => ⟨h, hc⟩, fun _ => by decide⟩ hf
      · exact x_ifeqT (tgt := 35) k12057_28 (by decide) (show (0 : Int32) = 0 by decide) <| x_iconst (v := 0) k12057_35 rfl <| hgo 0 J (Or.inl rfl) ⟨fun q => absurd rfl q, fun q => absurd q.2 hc⟩ hf
theorem s12057 {n : Nat} {hold : Option (List qCls)} (hK : qLay K sz) (hR : qRef R) (h40 : n ≤ 40) (hn : I 73 33 = nI n) (hw : ∀ i, i < n → qIn 5 (I 87 i)) (hh : qHoR I hold) (hq : ∀ J, qFr scC I J → qJudR J hold n → Q none (K, J, L, R, sz)) : X (d + 6) 0 0 12057 0 0 0 (qent (qml 12057) [.ref 73]) [] (K, I, L, R, sz) Q :=
  e12057 (l12057 hK hR h40 n 0 I (by omega) hn hw hh (fun i hi => absurd hi (by omega)) hq)
end L34
