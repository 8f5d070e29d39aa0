/-! the leanings by what counts; lookAt and layNow -/
/-- the leanings of the minute t by the thanks below i -/
noncomputable def qLn (cnt : Nat → Prop) (wo wm mi : Nat → Int32) (t la : Int32) : Nat → Nat → Int32
  | 0 => fun _ => -1
  | i + 1 => @ite (Nat → Int32) (cnt i ∧ ¬ t < mi i) (Classical.propDecidable _) (upd (qLn cnt wo wm mi t la i) (wm i).toNatClampNeg (if la = 0 ∨ ¬ la ≤ t - mi i then wo i else -1)) (qLn cnt wo wm mi t la i)
theorem qLy_ln {c wo wm mi b : Nat → Int32} {cnt : Nat → Prop} {t la : Int32} {s : Nat} (hb : b s = -1) : ∀ n, (∀ i, i < n → (¬ c i = 0 ↔ cnt i)) → qLy c wo wm mi t la b n s = qLn cnt wo wm mi t la n s := by
  intro n
  induction n with
  | zero => intro _; exact hb
  | succ n ih =>
    intro h
    have hi := ih (fun i hi => h i (by omega))
    have hn := h n (Nat.lt_succ_self n)
    rw [qLy, qLn]
    by_cases hc : cnt n ∧ ¬ t < mi n
    · rw [if_pos hc, if_pos ⟨hn.mpr hc.1, hc.2⟩, upd, upd]
      split
      · rfl
      · exact hi
    · rw [if_neg hc, if_neg (fun q => hc ⟨hn.mp q.1, q.2⟩)]
      exact hi
theorem qLn_cong {wo wm mi : Nat → Int32} {cnt cnt' : Nat → Prop} {t la : Int32} : ∀ n, (∀ i, i < n → (cnt i ↔ cnt' i)) → qLn cnt wo wm mi t la n = qLn cnt' wo wm mi t la n := by
  intro n
  induction n with
  | zero => intro _; rfl
  | succ n ih =>
    intro h
    rw [qLn, qLn, ih (fun i hi => h i (by omega))]
    have hn := h n (Nat.lt_succ_self n)
    by_cases hc : cnt n ∧ ¬ t < mi n
    · have hc2 : cnt' n ∧ ¬ t < mi n := ⟨hn.mp hc.1, hc.2⟩
      rw [if_pos hc, if_pos hc2]
    · have hc2 : ¬ (cnt' n ∧ ¬ t < mi n) := fun q => hc ⟨hn.mpr q.1, q.2⟩
      rw [if_neg hc, if_neg hc2]
theorem qLn_in {cnt : Nat → Prop} {wo wm mi : Nat → Int32} {t la : Int32} {P : Int32 → Prop} (h1 : P (-1)) {s : Nat} : ∀ n, (∀ i, i < n → P (wo i)) → P (qLn cnt wo wm mi t la n s) := by
  intro n
  induction n with
  | zero => intro _; exact h1
  | succ n ih =>
    intro h
    rw [qLn]
    split
    · rw [upd]
      split
      · split
        · exact h n (Nat.lt_succ_self n)
        · exact h1
      · exact ih (fun i hi => h i (by omega))
    · exact ih (fun i hi => h i (by omega))
/-- who may thank: a master of the nM, a servant of the nS -/
def qWho (nS nM : Nat) (a : Int32) : Prop := (∃ m, m < nM ∧ a = nI m) ∨ ∃ s, s < nS ∧ a = nI (10 + s)
theorem qWho_val {nS nM : Nat} {a : Int32} (hM : nM ≤ 3) (h : qWho nS nM a) : ¬ 10 ≤ a ∨ ∃ i, i < nS ∧ a = nI (10 + i) := by
  rcases h with ⟨m, h1, h2⟩ | h
  · left
    rw [h2, i_le, nI_i (by omega)]
    have e1 : (10 : Int32).toInt = 10 := rfl
    omega
  · exact Or.inr h
theorem qLn_val {cnt : Nat → Prop} {wo wm mi : Nat → Int32} {t la : Int32} {n nS nM : Nat} (hM : nM ≤ 3) (h : ∀ i, i < n → qWho nS nM (wo i)) : qVal (qLn cnt wo wm mi t la n) nS := fun s _ =>
  qLn_in (P := fun a => ¬ 10 ≤ a ∨ ∃ i, i < nS ∧ a = nI (10 + i)) (Or.inl i10m1) n (fun i hi => qWho_val hM (h i hi))
def scV (j k : Nat) : Prop := scJ j k ∨ j = 70 ∨ (j = 69 ∧ k = 2)
theorem scV_no {j : Nat} (h : j < 39 ∨ (50 < j ∧ j ≠ 51 ∧ j ≠ 55 ∧ j ≠ 69 ∧ j ≠ 70) ∨ (j < 50 ∧ (j - 39) % 3 = 1)) : ∀ k, ¬ scV j k := by
  intro k q
  unfold scV scJ scL at q
  omega
def scN (j k : Nat) : Prop := scC j k ∨ j = 89
theorem scN_no {j : Nat} (h : j ≠ 82 ∧ j ≠ 83 ∧ j ≠ 90 ∧ j ≠ 89) : ∀ k, ¬ scN j k := by
  intro k q
  unfold scN scC scR at q
  omega
/-- which law holds, of the class -/
def qHw (I : Nat → Nat → Int32) (w : Option Nat) : Prop := match w with
  | none => I 0 6 = -1
  | some j => I 0 6 = nI j ∧ j < 4 ∧ ∃ k, j < k ∧ k ≤ 4 ∧ I 0 5 = nI k
section L36
variable {d : Nat} {K : qK} {I : Nat → Nat → Int32} {L : Nat → Nat → Int64} {R : Nat → Nat → Option Nat} {sz : Nat} {Q : Option Value → qMem → Prop}
theorem e11044 {a : Int32}  (hK : qLay K sz) (hR : qRef R)  (q1 : X d 0 0 11044 0 0 9 [some (.ref 0), some (.int a)] [.ref 0, .ref 22, .ref 51] (K, I, L, R, sz) Q) : X d 0 0 11044 0 0 0 (qent (qml 11044) [.ref 0, .int a]) [] (K, I, L, R, sz) Q := show X _ 0 0 11044 0 0 0 [some (.ref 0), some (.int a)] [] _ _ from x_ald0 k11044_0 <| x_getR k11044_1 f11_53_10 (hK.at rfl) rfl (hR _ _ _ rfl) <| x_ald0 k11044_4 <| x_getR k11044_5 f11_35_10 (hK.at rfl) rfl (hR _ _ _ rfl) <| x_ald0 k11044_8 <| q1
theorem g11044_15 {a : Int32}  (hK : qLay K sz) (hR : qRef R)  (q1 : X d 0 0 11044 0 0 42 [some (.ref 0), some (.int a)] [.int (I 0 7), .int a, .int (I 22 1), .ref 55, .ref 51, .ref 69] (K, I, L, R, sz) Q) : X d 0 0 11044 0 0 15 [some (.ref 0), some (.int a)] [] (K, I, L, R, sz) Q := x_ald0 k11044_15 <| x_getR k11044_16 f11_73_10 (hK.at rfl) rfl (hR _ _ _ rfl) <| x_ald0 k11044_19 <| x_getR k11044_20 f11_53_10 (hK.at rfl) rfl (hR _ _ _ rfl) <| x_ald0 k11044_23 <| x_getR k11044_24 f11_53_10 (hK.at rfl) rfl (hR _ _ _ rfl) <| x_getR k11044_27 f11_189_9 (hK.at rfl) rfl (hR _ _ _ rfl) <| x_ald0 k11044_30 <| x_getR k11044_31 f11_35_10 (hK.at rfl) rfl (hR _ _ _ rfl) <| x_getI k11044_34 f11_118_1 (hK.at rfl) rfl <| x_ild1 k11044_37 <| x_ald0 k11044_38 <| x_getI k11044_39 f11_160_10 (hK.at rfl) rfl <| q1
theorem e12059 {a : Int32}    (q1 : X d 0 0 12059 0 0 1 [some (.ref 73), some (.int a)] [.ref 73] (K, I, L, R, sz) Q) : X d 0 0 12059 0 0 0 (qent (qml 12059) [.ref 73, .int a]) [] (K, I, L, R, sz) Q := show X _ 0 0 12059 0 0 0 [some (.ref 73), some (.int a)] [] _ _ from x_ald0 k12059_0 <| q1
theorem g12059_4 {a : Int32}    (q1 : X d 0 0 12059 0 0 6 [some (.ref 73), some (.int a)] [.int a, .ref 73] (K, I, L, R, sz) Q) : X d 0 0 12059 0 0 4 [some (.ref 73), some (.int a)] [] (K, I, L, R, sz) Q := x_ald0 k12059_4 <| x_ild1 k12059_5 <| q1
theorem s11043 {w : Option Nat} (hK : qLay K sz) (hR : qRef R) (hw : qHw I w) (hq : Q (some (qLv w)) (K, I, L, R, sz)) : X d 0 0 11043 0 0 0 (qent (qml 11043) [.ref 0]) [] (K, I, L, R, sz) Q := by
  cases w with
  | none =>
    have h : I 0 6 = -1 := hw
    have hl : I 0 6 < 0 := by rw [h]; decide
    exact t11043 hK hR (fun q => absurd hl q) (fun _ => hq) (fun q => absurd hl q) (fun q => absurd hl q)
  | some j =>
    obtain ⟨h1, h2, k, h3, h4, h5⟩ := (show I 0 6 = nI j ∧ j < 4 ∧ ∃ k, j < k ∧ k ≤ 4 ∧ I 0 5 = nI k from hw)
    have hn : ¬ I 0 6 < 0 := by rw [h1]; exact nI_pos (by omega)
    have hl : ¬ I 0 5 ≤ I 0 6 := by rw [h1, h5]; exact nI_ge (by omega) (by omega)
    refine t11043 hK hR (fun _ _ => by rw [h1]; exact vI h2 (by omega)) (fun q => absurd q hn) (fun _ q => absurd q hl) (fun _ _ => ?_)
    rw [h1, nI_c (by omega)]
    exact hq
theorem s11044 {n j nS : Nat} {t : Int32} {w : Option Nat} {hold : Option (List qCls)} (hK : qLay K sz) (hR : qRef R) (h40 : n ≤ 40) (hj : j ≤ n) (hS : nS ≤ 5) (lS : I 22 1 = nI nS) (hn : I 51 5 = nI n) (hjd : I 51 6 = nI j) (hwm : ∀ i, i < n → qIn 5 (I 53 i)) (hs : qSort (I 54) n) (hw : qHw I w) (hh : qHo I w hold) (hc : qJud I hold j)
    (hq : ∀ J, qFr scV I J → J 69 2 = nI nS → (∀ s, s < 5 → J 70 s = qLn (fun i => qCnt (I 52) (I 53) (I 54) (qBr I) hold (-1) i) (I 52) (I 53) (I 54) t (I 0 7) n s) → J 51 6 = nI n → qJud J hold n → Q none (K, J, L, R, sz)) : X (d + 6) 0 0 11044 0 0 0 (qent (qml 11044) [.ref 0, .int t]) [] (K, I, L, R, sz) Q := by
  refine e11044 hK hR ?_
  refine x_cV0 (MCz := 0) (MSz := 0) k11044_9 v11_181_10 (hK.at rfl) (Nat.le_of_ble_eq_true rfl) (Nat.le_of_ble_eq_true rfl) (Nat.le_refl _) (Nat.le_refl _) ?_
  refine s11043 hK hR hw ?_
  refine x_cV2 (MCz := 0) (MSz := 0) k11044_12 v11_185_9 (hK.at rfl) (Nat.le_of_ble_eq_true rfl) (by cases w <;> exact Nat.le_of_ble_eq_true rfl) (Nat.le_refl _) (Nat.le_refl _) ?_
  refine s10006 hK hR h40 hj hn hjd hwm hh hc (fun J hf h6 hJ => ?_)
  refine g11044_15 hK hR ?_
  refine x_cV5 (MCz := 0) (MSz := 0) k11044_42 v11_329_5 (hK.at rfl) (Nat.le_of_ble_eq_true rfl) (Nat.le_of_ble_eq_true rfl) (Nat.le_refl _) (Nat.le_refl _) ?_
  have e53 : J 53 = I 53 := hf.row (scJ_no (by omega))
  have e54 : J 54 = I 54 := hf.row (scJ_no (by omega))
  have e52 : J 52 = I 52 := hf.row (scJ_no (by omega))
  have e515 : J 51 5 = I 51 5 := hf _ _ (by unfold scJ scL; omega)
  have e07 : J 0 7 = I 0 7 := hf _ _ (scJ_no (by omega) _)
  have e221 : J 22 1 = I 22 1 := hf _ _ (scJ_no (by omega) _)
  refine s5001 (n := n) hK hR (by rw [e515]; exact hn) h40 (fun i hi => by rw [e53]; exact qIn_vp (hwm i hi) (Nat.le_refl _) (by omega)) (by rw [e54]; exact hs) ?_
  refine x_vret k11044_45 rfl (Nat.le_refl _) (Nat.le_refl _) ?_
  have hfr : qFr scV I (va_up (va_up J 69 (upd (J 69) 2 (J 22 1))) 70 (qLy (J 55) (J 52) (J 53) (J 54) t (J 0 7) (qfi (-1) (J 70) 5) n)) := by
    have h1 : qFr scV J (va_up J 69 (upd (J 69) 2 (J 22 1))) := qFr.up1 (P := scV) (Or.inr (Or.inr ⟨rfl, rfl⟩))
    have h2 : qFr scV (va_up J 69 (upd (J 69) 2 (J 22 1))) (va_up (va_up J 69 (upd (J 69) 2 (J 22 1))) 70 (qLy (J 55) (J 52) (J 53) (J 54) t (J 0 7) (qfi (-1) (J 70) 5) n)) := qFr.up (fun _ => Or.inr (Or.inl rfl))
    exact ((hf.mono (fun _ _ => Or.inl)).trans h1).trans h2
  refine hq _ hfr ?_ ?_ ?_ ?_
  · rw [vu_n (by decide), vu_s, upd, if_pos rfl, e221]; exact lS
  · intro s hs5
    rw [vu_s, e52, e53, e54, e07]
    refine qLy_ln (by rw [qfi, if_pos hs5]) n (fun i hi => ?_)
    rw [← qCnt_fr hf (fun j k h => scJ_no (by omega) k) (scJ_no (by omega)) (scJ_no (by omega)) (scJ_no (by omega)) (hwm i hi)]
    exact (hJ i hi).2
  · rw [vu_n (by decide), vu_n (by decide)]; exact h6
  · refine qJud_fr (P := fun j k => j = 70 ∨ (j = 69 ∧ k = 2)) (I := J) ?_ (by omega) (by omega) (by omega) (by omega) (by omega) (fun i hi => by rw [e53]; exact hwm i hi) hJ
    exact (qFr.up1 (P := fun j k => j = 70 ∨ (j = 69 ∧ k = 2)) (Or.inr ⟨rfl, rfl⟩)).trans (qFr.up (fun _ => Or.inl rfl))
theorem s12059 {n nS : Nat} {t : Int32} {hold : Option (List qCls)} (hK : qLay K sz) (hR : qRef R) (h40 : n ≤ 40) (hS : nS ≤ 5) (mS : I 73 24 = nI nS) (hn : I 73 33 = nI n) (hwm : ∀ i, i < n → qIn nS (I 87 i)) (hh : qHoR I hold)
    (hq : ∀ J, qFr scN I J → (∀ s, s < nS → J 89 s = qLn (fun i => ¬ nI i = I 73 34 ∧ qCnt (I 86) (I 87) (I 88) (qBrR I) hold (I 73 34) i) (I 86) (I 87) (I 88) t (I 73 28) n s) → qJudR J hold n → Q none (K, J, L, R, sz)) : X (d + 7) 0 0 12059 0 0 0 (qent (qml 12059) [.ref 73, .int t]) [] (K, I, L, R, sz) Q := by
  have hw5 : ∀ i, i < n → qIn 5 (I 87 i) := fun i hi => by
    obtain ⟨s, h1, h2⟩ := hwm i hi
    exact ⟨s, by omega, h2⟩
  refine e12059 ?_
  refine x_cV0 (MCz := 0) (MSz := 0) k12059_1 v12_333_11 (hK.at rfl) (Nat.le_of_ble_eq_true rfl) (Nat.le_of_ble_eq_true rfl) (Nat.le_refl _) (Nat.le_refl _) ?_
  refine s12057 hK hR h40 hn hw5 hh (fun J hf hJ => ?_)
  refine g12059_4 ?_
  refine x_cV1 (MCz := 0) (MSz := 0) k12059_6 v12_336_11 (hK.at rfl) (Nat.le_of_ble_eq_true rfl) (Nat.le_of_ble_eq_true rfl) (Nat.le_refl _) (Nat.le_refl _) ?_
  have e86 : J 86 = I 86 := hf.row (scC_no (by omega))
  have e87 : J 87 = I 87 := hf.row (scC_no (by omega))
  have e88 : J 88 = I 88 := hf.row (scC_no (by omega))
  have e73 : J 73 = I 73 := hf.row (scC_no (by omega))
  have e85 : J 85 = I 85 := hf.row (scC_no (by omega))
  refine s12058 (n := n) (nS := nS) hK hR (by rw [e73]; exact mS) (by rw [e73]; exact hn) h40 hS (by rw [e87]; exact hwm) ?_
  refine x_vret k12059_9 rfl (Nat.le_refl _) (Nat.le_refl _) ?_
  refine hq _ ((hf.mono (fun _ _ => Or.inl)).trans (qFr.up (fun _ => Or.inr rfl))) ?_ ?_
  · intro s hs
    rw [vu_s, e86, e87, e88, e73]
    refine qLy_ln (by rw [qfi, if_pos hs]) n (fun i hi => ?_)
    have := hJ i hi
    unfold qBrR at this ⊢
    rw [e86, e87, e88, e73, e85] at this
    exact this
  · intro i hi
    have := hJ i hi
    unfold qBrR at this ⊢
    rw [vu_n (j := 90) (by decide), vu_n (j := 73) (by decide), vu_n (j := 86) (by decide), vu_n (j := 87) (by decide), vu_n (j := 88) (by decide), vu_n (j := 85) (by decide)]
    exact this
end L36
