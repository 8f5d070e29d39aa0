/-! one and cut: both -/
/-- the value that the reference keeps beside the best -/
def rvB (r : Int32 × Int32) : Int32 := if r.2 = -1 then 0 else r.1
noncomputable def rT (I : Nat → Nat → Int32) (p : qPa) (a b c : Int32) : Int32 × Int32 := btk (hvv (I 89) (pS p) a b) (mayR I a) (if c = 0 then ltR else gtR) (pS p)
theorem hvv_64 {f : Nat → Int32} {n : Nat} {m h : Int32} (s : Nat) : ∃ j, j < 64 ∧ hvv f n m h s = nI j := bc_nn _
noncomputable def fOne (LE : Int32 → Nat → Int32) (may : Int32 → Nat → Prop) (p : qPa) (a b c : Int32) : Int32 := @ite Int32 (qIn (pM p) a ∧ (c = 0 ∨ c = 1) ∧ 0 ≤ b) (Classical.propDecidable _) (if c = 0 then (btk (hvv (LE b) (pS p) a a) (may a) gtR (pS p)).2 else (btk (hvv (LE b) (pS p) a a) (may a) gtR (pS p)).1) (-1)
noncomputable def fCut (LE : Int32 → Nat → Int32) (may : Int32 → Nat → Prop) (p : qPa) (a b c e : Int32) : Int32 := @ite Int32 (qIn (pM p) a ∧ qIn (pM p) b ∧ ¬ a = b ∧ (e = 0 ∨ e = 1) ∧ 0 ≤ c) (Classical.propDecidable _) (if e = 0 then (btk (hvv (LE c) (pS p) a b) (may a) ltR (pS p)).2 else (btk (hvv (LE c) (pS p) a b) (may a) ltR (pS p)).1) (-1)
theorem le_nlt {a b : Int32} : a ≤ b ↔ ¬ b < a := by rw [i_le, i_lt]; omega
section L43
variable {d : Nat} {K : qK} {I : Nat → Nat → Int32} {L : Nat → Nat → Int64} {R : Nat → Nat → Option Nat} {sz : Nat} {Q : Option Value → qMem → Prop} {p : qPa}
theorem l11017 {x1 x2 x3 : Int32} (hK : qLay K sz) (hR : qRef R) (lS : I 22 1 = nI (pS p)) (hn : I 69 2 = nI (pS p)) (w5 : pS p ≤ 5) (hq : Q (some (.int (if x3 = 0 then (btk (hvv (I 70) (pS p) x1 x1) (mayC I x1) gtR (pS p)).2 else (btk (hvv (I 70) (pS p) x1 x1) (mayC I x1) gtR (pS p)).1))) (K, I, L, R, sz)) : ∀ (k i : Nat), i + k = pS p → X (d + 4) 0 0 11017 0 0 35 [some (.ref 0), some (.int x1), some (.int x2), some (.int x3), some (.int (btk (hvv (I 70) (pS p) x1 x1) (mayC I x1) gtR i).1), some (.int (btk (hvv (I 70) (pS p) x1 x1) (mayC I x1) gtR i).2), some (.int (nI i)), none] [] (K, I, L, R, sz) Q := by
  intro k
  induction k with
  | zero =>
    intro i hi
    have hle : I 22 1 ≤ nI i := by rw [lS]; exact nI_le (by omega) (by omega)
    have : i = pS p := by omega
    subst this
    refine g11017_35 (p := p) hK hR (fun h => absurd hle h) (fun h => absurd hle h) (fun h => absurd hle h) (fun h => absurd hle h) (fun _ h => ?_) (fun _ h => ?_) (fun h => absurd hle h) (fun h => absurd hle h) (fun h => absurd hle h)
    · rw [if_neg h] at hq; exact hq
    · rw [if_pos h] at hq; exact hq
  | succ k ih =>
    intro i hi
    have hnl : ¬ I 22 1 ≤ nI i := by rw [lS]; exact nI_ge (by omega) (by omega)
    have ih' := ih (i + 1) (by omega)
    have hci : (nI i).toNatClampNeg = i := nI_c (by omega)
    have hin := btk_inv (v := hvv (I 70) (pS p) x1 x1) (may := mayC I x1) (bet := gtR) w5 (fun i _ => hvv_64 i) i (by omega)
    refine g11017_35 (p := p) hK hR (fun _ => ⟨i, by omega, rfl⟩) (fun _ _ => hn) (fun _ _ => w5) (fun _ _ => ⟨i, by omega, rfl⟩) (fun h => absurd h hnl) (fun h => absurd h hnl) ?_ ?_ ?_ <;> rw [hci, nI_1]
    · intro _ h1 h2
      rw [btk, if_neg (fun q => ?_)] at ih'
      · exact ih'
      · rcases hin with ⟨e1, e2⟩ | ⟨⟨k, hk, e⟩, _⟩
        · obtain ⟨j, hj, e3⟩ := hvv_64 (f := I 70) (n := pS p) (m := x1) (h := x1) i
          rw [e2, e3, i_le, nI_i (by omega)] at h2
          have e0 : (-1 : Int32).toInt = -1 := rfl
          omega
        · rcases q.2 with q | q
          · rw [e] at q; exact nI_m1 (by omega) q
          · exact le_nlt.mp h2 q
    · intro _ h1 h2
      have h5 : mayC I x1 i ∧ ((btk (hvv (I 70) (pS p) x1 x1) (mayC I x1) gtR i).2 = -1 ∨ gtR (hvv (I 70) (pS p) x1 x1 i) (btk (hvv (I 70) (pS p) x1 x1) (mayC I x1) gtR i).1) := ⟨h1, Or.inr (Classical.not_not.mp (fun w => h2 (le_nlt.mpr w)))⟩
      rw [btk, if_pos h5] at ih'
      exact ih'
    · intro _ h1
      rw [btk, if_neg (fun q => q.1 h1)] at ih'
      exact ih'
theorem mayC_fr {J : Nat → Nat → Int32} (hf : qFr scQ I J) {m : Int32} {i : Nat} (hi : i < 5) : mayC J m i ↔ mayC I m i := by
  unfold mayC
  rw [hf.row (j := 24 + i) (scQ_no (by omega))]
theorem mayR_C (r : RI I p) {m : Int32} {i : Nat} (hi : i < 5) (hi2 : i < pS p) : mayR I m i ↔ mayC I m i := by
  unfold mayC mayR
  rw [r.2.1.1 i 1 hi hi2 (by omega)]
theorem s11017 {a b c : Int32} (hK : qLay K sz) (hR : qRef R) (cI : CI I p) (hq : ∀ J, qAf I p J → Q (some (.int (fOne (LEn I p) (mayC I) p a b c))) (K, J, L, R, sz)) : X (d + 7) 0 0 11017 0 0 0 (qent (qml 11017) [.ref 0, .int a, .int b, .int c]) [] (K, I, L, R, sz) Q := by
  unfold fOne at hq
  have w5 := cI.w5
  refine e11017 hK hR cI (fun h1 h2 h3 J hJ => ?_) (fun h1 h2 h3 => ?_) (fun h1 h2 => ?_) (fun h1 => ?_)
  · have := hq J (hJ.af cI)
    rw [if_pos ⟨h1, h2, h3⟩] at this
    rw [← btk_cong (v' := hvv (J 70) (pS p) a a) (may' := mayC J a) (fun i hi => hvv_cong (LEn_val cI b) w5 cI.w3 h1 (hJ.le5 cI)) (fun i hi => mayC_fr (hJ.af cI).1 (by omega)) (pS p) (Nat.le_refl _)] at this
    exact l11017 (d := d + 3) hK hR (by rw [hJ.1 _ _ (scV_no (by omega) _)]; exact cI.lS) hJ.2.1 w5 this (pS p) 0 (by omega)
  · have := hq I (qAf.refl cI)
    rw [if_neg (fun q => h3 q.2.2)] at this
    exact this
  · have := hq I (qAf.refl cI)
    rw [if_neg (fun q => h2 q.2.1)] at this
    exact this
  · have := hq I (qAf.refl cI)
    rw [if_neg (fun q => h1 q.1)] at this
    exact this
theorem l11018 {x1 x2 x3 x4 : Int32} (hK : qLay K sz) (hR : qRef R) (lS : I 22 1 = nI (pS p)) (hn : I 69 2 = nI (pS p)) (w5 : pS p ≤ 5) (hq : Q (some (.int (if x4 = 0 then (btk (hvv (I 70) (pS p) x1 x2) (mayC I x1) ltR (pS p)).2 else (btk (hvv (I 70) (pS p) x1 x2) (mayC I x1) ltR (pS p)).1))) (K, I, L, R, sz)) : ∀ (k i : Nat), i + k = pS p → X (d + 4) 0 0 11018 0 0 51 [some (.ref 0), some (.int x1), some (.int x2), some (.int x3), some (.int x4), some (.int (btk (hvv (I 70) (pS p) x1 x2) (mayC I x1) ltR i).1), some (.int (btk (hvv (I 70) (pS p) x1 x2) (mayC I x1) ltR i).2), some (.int (nI i)), none] [] (K, I, L, R, sz) Q := by
  intro k
  induction k with
  | zero =>
    intro i hi
    have hle : I 22 1 ≤ nI i := by rw [lS]; exact nI_le (by omega) (by omega)
    have : i = pS p := by omega
    subst this
    refine g11018_51 (p := p) hK hR (fun h => absurd hle h) (fun h => absurd hle h) (fun h => absurd hle h) (fun h => absurd hle h) (fun _ h => ?_) (fun _ h => ?_) (fun h => absurd hle h) (fun h => absurd hle h) (fun h => absurd hle h) (fun h => absurd hle h)
    · rw [if_neg h] at hq; exact hq
    · rw [if_pos h] at hq; exact hq
  | succ k ih =>
    intro i hi
    have hnl : ¬ I 22 1 ≤ nI i := by rw [lS]; exact nI_ge (by omega) (by omega)
    have ih' := ih (i + 1) (by omega)
    have hci : (nI i).toNatClampNeg = i := nI_c (by omega)
    refine g11018_51 (p := p) hK hR (fun _ => ⟨i, by omega, rfl⟩) (fun _ _ => hn) (fun _ _ => w5) (fun _ _ => ⟨i, by omega, rfl⟩) (fun h => absurd h hnl) (fun h => absurd h hnl) ?_ ?_ ?_ ?_ <;> rw [hci, nI_1]
    · intro _ h1 h2
      rw [btk, if_pos (⟨h1, Or.inl h2⟩ : mayC I x1 i ∧ _)] at ih'
      exact ih'
    · intro _ h1 h2 h3
      rw [btk, if_neg (fun q => q.2.elim h2 (fun w => le_nlt.mp h3 w))] at ih'
      exact ih'
    · intro _ h1 h2 h3
      have h5 : mayC I x1 i ∧ ((btk (hvv (I 70) (pS p) x1 x2) (mayC I x1) ltR i).2 = -1 ∨ ltR (hvv (I 70) (pS p) x1 x2 i) (btk (hvv (I 70) (pS p) x1 x2) (mayC I x1) ltR i).1) := ⟨h1, Or.inr (Classical.not_not.mp (fun w => h3 (le_nlt.mpr w)))⟩
      rw [btk, if_pos h5] at ih'
      exact ih'
    · intro _ h1
      rw [btk, if_neg (fun q => q.1 h1)] at ih'
      exact ih'
theorem s11018 {a b c e : Int32} (hK : qLay K sz) (hR : qRef R) (cI : CI I p) (hq : ∀ J, qAf I p J → Q (some (.int (fCut (LEn I p) (mayC I) p a b c e))) (K, J, L, R, sz)) : X (d + 7) 0 0 11018 0 0 0 (qent (qml 11018) [.ref 0, .int a, .int b, .int c, .int e]) [] (K, I, L, R, sz) Q := by
  unfold fCut at hq
  have w5 := cI.w5
  refine e11018 hK hR cI (fun h1 h2 h3 h4 h5 J hJ => ?_) (fun h1 h2 h3 h4 h5 => ?_) (fun h1 h2 h3 h4 => ?_) (fun h1 h2 h3 => ?_) (fun h1 h2 => ?_) (fun h1 => ?_)
  · have := hq J (hJ.af cI)
    rw [if_pos ⟨h1, h2, h3, h4, h5⟩] at this
    rw [← btk_cong (v' := hvv (J 70) (pS p) a b) (may' := mayC J a) (fun i hi => hvv_cong (LEn_val cI c) w5 cI.w3 h1 (hJ.le5 cI)) (fun i hi => mayC_fr (hJ.af cI).1 (by omega)) (pS p) (Nat.le_refl _)] at this
    exact l11018 (d := d + 3) hK hR (by rw [hJ.1 _ _ (scV_no (by omega) _)]; exact cI.lS) hJ.2.1 w5 this (pS p) 0 (by omega)
  · have := hq I (qAf.refl cI)
    rw [if_neg (fun q => h5 q.2.2.2.2)] at this
    exact this
  · have := hq I (qAf.refl cI)
    rw [if_neg (fun q => h4 q.2.2.2.1)] at this
    exact this
  · have := hq I (qAf.refl cI)
    rw [if_neg (fun q => q.2.2.1 h3)] at this
    exact this
  · have := hq I (qAf.refl cI)
    rw [if_neg (fun q => h2 q.2.1)] at this
    exact this
  · have := hq I (qAf.refl cI)
    rw [if_neg (fun q => h1 q.1)] at this
    exact this
theorem l12069 {x1 x2 x3 : Int32} {m : Nat} (hK : qLay K sz) (hR : qRef R) (mS : I 73 24 = nI (pS p)) (w5 : pS p ≤ 5) (hv : qVal (I 89) (pS p)) (hm : m < 3) (h1m : x1 = nI m) (hq : Q (some (.int (rT I p x1 x2 x3).2)) (K, va_up I 73 (upd (I 73) 37 (rvB (rT I p x1 x2 x3))), L, R, sz)) : ∀ (k i : Nat), i + k = pS p → X (d + 3) 0 0 12069 0 0 9 [some (.ref 73), some (.int x1), some (.int x2), some (.int x3), some (.int (btk (hvv (I 89) (pS p) x1 x2) (mayR I x1) (if x3 = 0 then ltR else gtR) i).2), some (.int (rvB (btk (hvv (I 89) (pS p) x1 x2) (mayR I x1) (if x3 = 0 then ltR else gtR) i))), some (.int (nI i)), none, none] [] (K, I, L, R, sz) Q := by
  intro k
  induction k with
  | zero =>
    intro i hi
    have hle : I 73 24 ≤ nI i := by rw [mS]; exact nI_le (by omega) (by omega)
    have : i = pS p := by omega
    subst this
    exact g12069_9 (p := p) hK hR (fun h => absurd hle h) (fun h => absurd hle h) (fun h => absurd hle h) (fun h => absurd hle h) (fun h => absurd hle h) (fun _ => hq) (fun h => absurd hle h) (fun h => absurd hle h) (fun h => absurd hle h) (fun h => absurd hle h) (fun h => absurd hle h) (fun h => absurd hle h)
  | succ k ih =>
    intro i hi
    have hnl : ¬ I 73 24 ≤ nI i := by rw [mS]; exact nI_ge (by omega) (by omega)
    have ih' := ih (i + 1) (by omega)
    have hci : (nI i).toNatClampNeg = i := nI_c (by omega)
    have hv' : qVal (upd (I 89) i x1) (pS p) := fun j hj => by
      rw [upd]
      split
      · exact qWho_val (nS := pS p) (nM := 3) (Nat.le_refl _) (Or.inl ⟨m, hm, h1m⟩)
      · exact hv j hj
    have hne : ¬ (nI i = -1) := nI_m1 (by omega)
    refine g12069_9 (p := p) hK hR (fun _ => ⟨i, by omega, rfl⟩) (fun _ _ => vI (by omega) (by omega)) (fun _ _ => mS) (fun _ _ => w5) (fun _ _ => by rw [vu_s, hci]; exact hv') (fun h => absurd h hnl) ?_ ?_ ?_ ?_ ?_ ?_ <;> (try rw [vu_s, vu_t]) <;> (try rw [hci]) <;> rw [nI_1]
    · intro _ h1 h2
      rw [upd_back, vu_id]
      rw [btk, if_pos (⟨h1, Or.inl h2⟩ : mayR I x1 i ∧ _), rvB, if_neg hne] at ih'
      exact ih'
    · intro _ h1 h2 h3 h4
      rw [upd_back, vu_id]
      rw [rvB, if_neg h2] at h4
      rw [btk, if_neg (fun q => q.2.elim h2 (fun w => by rw [if_pos h3] at w; exact le_nlt.mp (by first | exact h4 | (rw [if_pos h3]; exact h4) | (rw [if_pos h3] at h4; exact h4)) w))] at ih'
      exact ih'
    · intro _ h1 h2 h3 h4
      rw [upd_back, vu_id]
      rw [rvB, if_neg h2] at h4
      have h5 : mayR I x1 i ∧ ((btk (hvv (I 89) (pS p) x1 x2) (mayR I x1) (if x3 = 0 then ltR else gtR) i).2 = -1 ∨ (if x3 = 0 then ltR else gtR) (hvv (I 89) (pS p) x1 x2 i) (btk (hvv (I 89) (pS p) x1 x2) (mayR I x1) (if x3 = 0 then ltR else gtR) i).1) := ⟨h1, Or.inr (by rw [if_pos h3]; rw [if_pos h3] at h4; exact Classical.not_not.mp (fun w => h4 (le_nlt.mpr w)))⟩
      rw [btk, if_pos h5, rvB, if_neg hne] at ih'
      exact ih'
    · intro _ h1 h2 h3 h4
      rw [upd_back, vu_id]
      rw [rvB, if_neg h2] at h4
      rw [btk, if_neg (fun q => q.2.elim h2 (fun w => by rw [if_neg h3] at w h4; exact le_nlt.mp h4 w))] at ih'
      exact ih'
    · intro _ h1 h2 h3 h4
      rw [upd_back, vu_id]
      rw [rvB, if_neg h2] at h4
      have h5 : mayR I x1 i ∧ ((btk (hvv (I 89) (pS p) x1 x2) (mayR I x1) (if x3 = 0 then ltR else gtR) i).2 = -1 ∨ (if x3 = 0 then ltR else gtR) (hvv (I 89) (pS p) x1 x2 i) (btk (hvv (I 89) (pS p) x1 x2) (mayR I x1) (if x3 = 0 then ltR else gtR) i).1) := ⟨h1, Or.inr (by rw [if_neg h3]; rw [if_neg h3] at h4; exact Classical.not_not.mp (fun w => h4 (le_nlt.mpr w)))⟩
      rw [btk, if_pos h5, rvB, if_neg hne] at ih'
      exact ih'
    · intro _ h1
      rw [btk, if_neg (fun q => q.1 h1)] at ih'
      exact ih'
theorem u12069 {a b c : Int32} (hK : qLay K sz) (hR : qRef R) (mS : I 73 24 = nI (pS p)) (w5 : pS p ≤ 5) (hv : qVal (I 89) (pS p)) (hm : ∃ m, m < 3 ∧ a = nI m) (hq : Q (some (.int (rT I p a b c).2)) (K, va_up I 73 (upd (I 73) 37 (rvB (rT I p a b c))), L, R, sz)) : X (d + 3) 0 0 12069 0 0 0 (qent (qml 12069) [.ref 73, .int a, .int b, .int c]) [] (K, I, L, R, sz) Q := by
  obtain ⟨m, h1, h2⟩ := hm
  exact e12069 (l12069 (p := p) hK hR mS w5 hv h1 h2 hq (pS p) 0 (by omega))
theorem t12070 {a : Int32} {b : Int32} {c : Int32}  (hK : qLay K sz) (hR : qRef R) (cI : CI I p) (rI : RI I p) (b1 : qIn (pM p) a → ¬ b < 0 → 0 ≤ c → c ≤ 1 → ∀ I5 : Nat → Nat → Int32, qLr I p b I5 → I5 73 24 = nI (pS p)) (b2 : qIn (pM p) a → ¬ b < 0 → 0 ≤ c → c ≤ 1 → ∀ I5 : Nat → Nat → Int32, qLr I p b I5 → pS p ≤ 5) (b3 : qIn (pM p) a → ¬ b < 0 → 0 ≤ c → c ≤ 1 → ∀ I5 : Nat → Nat → Int32, qLr I p b I5 → qVal (I5 89) (pS p)) (b4 : qIn (pM p) a → ¬ b < 0 → 0 ≤ c → c ≤ 1 → ∀ I5 : Nat → Nat → Int32, qLr I p b I5 → ∃ m, m < 3 ∧ a = nI m) (q1 : qIn (pM p) a → b < 0 → Q (some (.int (-1))) (K, I, L, R, sz)) (q2 : qIn (pM p) a → ¬ b < 0 → 0 ≤ c → c ≤ 1 → ∀ I5 : Nat → Nat → Int32, qLr I p b I5 → ((rT I5 p a a 1).2) = (-1) → Q (some (.int ((rT I5 p a a 1).2))) (K, va_up I5 73 (upd (I5 73) 37 (rvB (rT I5 p a a 1))), L, R, sz)) (q3 : qIn (pM p) a → ¬ b < 0 → 0 ≤ c → c ≤ 1 → ∀ I5 : Nat → Nat → Int32, qLr I p b I5 → ¬ ((rT I5 p a a 1).2) = (-1) → ¬ c = 0 → Q (some (.int (rvB (rT I5 p a a 1)))) (K, va_up I5 73 (upd (I5 73) 37 (rvB (rT I5 p a a 1))), L, R, sz)) (q4 : qIn (pM p) a → ¬ b < 0 → 0 ≤ c → c ≤ 1 → ∀ I5 : Nat → Nat → Int32, qLr I p b I5 → ¬ ((rT I5 p a a 1).2) = (-1) → c = 0 → Q (some (.int ((rT I5 p a a 1).2))) (K, va_up I5 73 (upd (I5 73) 37 (rvB (rT I5 p a a 1))), L, R, sz)) (q5 : qIn (pM p) a → ¬ b < 0 → ¬ (0 ≤ c ∧ c ≤ 1) → Q (some (.int (-1))) (K, I, L, R, sz)) (q6 : ¬ qIn (pM p) a → Q (some (.int (-1))) (K, I, L, R, sz)) : X (d + 8) 0 0 12070 0 0 0 (qent (qml 12070) [.ref 73, .int a, .int b, .int c]) [] (K, I, L, R, sz) Q := show X _ 0 0 12070 0 0 0 [some (.ref 73), some (.int a), some (.int b), some (.int c), none] [] _ _ from x_ald0 k12070_0 <| x_ild1 k12070_1 <| x_cV1 (MCz := 0) (MSz := 0) k12070_2 v12_314_11 (hK.at rfl) (Nat.le_of_ble_eq_true rfl) (Nat.le_of_ble_eq_true rfl) (Nat.le_refl _) (Nat.le_refl _) <| u12047 hK cI rI (fun g1 => x_ifeqF (tgt := 21) k12070_5 (by decide) (show ¬ (1 : Int32) = 0 by decide) <| x_ild2 k12070_8 <| x_iflt (tgt := 21) k12070_9 (by decide) (fun h2 => x_iconst (v := (-1)) k12070_21 rfl <| x_iret k12070_22 rfl (Nat.le_refl _) (Nat.le_refl _) <| (q1 g1 h2)) (fun h2 => x_ild3 k12070_12 <| x_iconst (v := 0) k12070_13 rfl <| x_iconst (v := 1) k12070_14 rfl <| x_cS3 (MCz := 0) (MSz := 0) k12070_15 s12_231 (Nat.le_of_ble_eq_true rfl) (Nat.le_of_ble_eq_true rfl) (Nat.le_refl _) (Nat.le_refl _) <| t12000 (fun g3 g4 => x_ifneT (tgt := 23) k12070_18 (by decide) (show ¬ (1 : Int32) = 0 by decide) <| x_ald0 k12070_23 <| x_ild2 k12070_24 <| x_cV1 (MCz := 0) (MSz := 0) k12070_25 v12_348_11 (hK.at rfl) (Nat.le_of_ble_eq_true rfl) (Nat.le_of_ble_eq_true rfl) (Nat.le_refl _) (Nat.le_refl _) <| u12059 hK hR cI rI (fun I5 g6 => x_ald0 k12070_28 <| x_ild1 k12070_29 <| x_ild1 k12070_30 <| x_iconst (v := 1) k12070_31 rfl <| x_cV3 (MCz := 0) (MSz := 0) k12070_32 v12_362_11 (hK.at rfl) (Nat.le_of_ble_eq_true rfl) (Nat.le_of_ble_eq_true rfl) (Nat.le_refl _) (Nat.le_refl _) <| u12069 hK hR (b1 g1 h2 g3 g4 I5 g6) (b2 g1 h2 g3 g4 I5 g6) (b3 g1 h2 g3 g4 I5 g6) (b4 g1 h2 g3 g4 I5 g6) (x_ist4 k12070_35 (Nat.le_of_ble_eq_true rfl) rfl <| x_ild4 k12070_37 <| x_iconst (v := (-1)) k12070_39 rfl <| x_icmpeq (tgt := 47) k12070_40 (by decide) (fun h7 => x_ild4 k12070_47 <| x_goto (tgt := 56) k12070_49 (by decide) <| x_iret k12070_56 rfl (Nat.le_refl _) (Nat.le_refl _) <| (q2 g1 h2 g3 g4 I5 g6 h7)) (fun h7 => x_ild3 k12070_43 <| x_ifne (tgt := 52) k12070_44 (by decide) (fun h8 => x_ald0 k12070_52 <| x_getI k12070_53 f12_359_11 (hK.at rfl) rfl <| x_iret k12070_56 rfl (Nat.le_refl _) (Nat.le_refl _) <| (q3 g1 h2 g3 g4 I5 g6 h7 h8)) (fun h8 => x_ild4 k12070_47 <| x_goto (tgt := 56) k12070_49 (by decide) <| x_iret k12070_56 rfl (Nat.le_refl _) (Nat.le_refl _) <| (q4 g1 h2 g3 g4 I5 g6 h7 h8)))))) (fun g9 => x_ifneF (tgt := 23) k12070_18 (by decide) (show (0 : Int32) = 0 by decide) <| x_iconst (v := (-1)) k12070_21 rfl <| x_iret k12070_22 rfl (Nat.le_refl _) (Nat.le_refl _) <| (q5 g1 h2 g9)))) (fun g10 => x_ifeqT (tgt := 21) k12070_5 (by decide) (show (0 : Int32) = 0 by decide) <| x_iconst (v := (-1)) k12070_21 rfl <| x_iret k12070_22 rfl (Nat.le_refl _) (Nat.le_refl _) <| (q6 g10))
theorem t12071 {a : Int32} {b : Int32} {c : Int32} {e : Int32}  (hK : qLay K sz) (hR : qRef R) (cI : CI I p) (rI : RI I p) (b1 : qIn (pM p) a → qIn (pM p) b → ¬ a = b → ¬ c < 0 → 0 ≤ e → e ≤ 1 → ∀ I7 : Nat → Nat → Int32, qLr I p c I7 → I7 73 24 = nI (pS p)) (b2 : qIn (pM p) a → qIn (pM p) b → ¬ a = b → ¬ c < 0 → 0 ≤ e → e ≤ 1 → ∀ I7 : Nat → Nat → Int32, qLr I p c I7 → pS p ≤ 5) (b3 : qIn (pM p) a → qIn (pM p) b → ¬ a = b → ¬ c < 0 → 0 ≤ e → e ≤ 1 → ∀ I7 : Nat → Nat → Int32, qLr I p c I7 → qVal (I7 89) (pS p)) (b4 : qIn (pM p) a → qIn (pM p) b → ¬ a = b → ¬ c < 0 → 0 ≤ e → e ≤ 1 → ∀ I7 : Nat → Nat → Int32, qLr I p c I7 → ∃ m, m < 3 ∧ a = nI m) (q1 : qIn (pM p) a → qIn (pM p) b → a = b → Q (some (.int (-1))) (K, I, L, R, sz)) (q2 : qIn (pM p) a → qIn (pM p) b → ¬ a = b → c < 0 → Q (some (.int (-1))) (K, I, L, R, sz)) (q3 : qIn (pM p) a → qIn (pM p) b → ¬ a = b → ¬ c < 0 → 0 ≤ e → e ≤ 1 → ∀ I7 : Nat → Nat → Int32, qLr I p c I7 → ((rT I7 p a b 0).2) = (-1) → Q (some (.int ((rT I7 p a b 0).2))) (K, va_up I7 73 (upd (I7 73) 37 (rvB (rT I7 p a b 0))), L, R, sz)) (q4 : qIn (pM p) a → qIn (pM p) b → ¬ a = b → ¬ c < 0 → 0 ≤ e → e ≤ 1 → ∀ I7 : Nat → Nat → Int32, qLr I p c I7 → ¬ ((rT I7 p a b 0).2) = (-1) → ¬ e = 0 → Q (some (.int (rvB (rT I7 p a b 0)))) (K, va_up I7 73 (upd (I7 73) 37 (rvB (rT I7 p a b 0))), L, R, sz)) (q5 : qIn (pM p) a → qIn (pM p) b → ¬ a = b → ¬ c < 0 → 0 ≤ e → e ≤ 1 → ∀ I7 : Nat → Nat → Int32, qLr I p c I7 → ¬ ((rT I7 p a b 0).2) = (-1) → e = 0 → Q (some (.int ((rT I7 p a b 0).2))) (K, va_up I7 73 (upd (I7 73) 37 (rvB (rT I7 p a b 0))), L, R, sz)) (q6 : qIn (pM p) a → qIn (pM p) b → ¬ a = b → ¬ c < 0 → ¬ (0 ≤ e ∧ e ≤ 1) → Q (some (.int (-1))) (K, I, L, R, sz)) (q7 : qIn (pM p) a → ¬ qIn (pM p) b → Q (some (.int (-1))) (K, I, L, R, sz)) (q8 : ¬ qIn (pM p) a → Q (some (.int (-1))) (K, I, L, R, sz)) : X (d + 8) 0 0 12071 0 0 0 (qent (qml 12071) [.ref 73, .int a, .int b, .int c, .int e]) [] (K, I, L, R, sz) Q := show X _ 0 0 12071 0 0 0 [some (.ref 73), some (.int a), some (.int b), some (.int c), some (.int e), none] [] _ _ from x_ald0 k12071_0 <| x_ild1 k12071_1 <| x_cV1 (MCz := 0) (MSz := 0) k12071_2 v12_314_11 (hK.at rfl) (Nat.le_of_ble_eq_true rfl) (Nat.le_of_ble_eq_true rfl) (Nat.le_refl _) (Nat.le_refl _) <| u12047 hK cI rI (fun g1 => x_ifeqF (tgt := 35) k12071_5 (by decide) (show ¬ (1 : Int32) = 0 by decide) <| x_ald0 k12071_8 <| x_ild2 k12071_9 <| x_cV1 (MCz := 0) (MSz := 0) k12071_10 v12_314_11 (hK.at rfl) (Nat.le_of_ble_eq_true rfl) (Nat.le_of_ble_eq_true rfl) (Nat.le_refl _) (Nat.le_refl _) <| u12047 hK cI rI (fun g2 => x_ifeqF (tgt := 35) k12071_13 (by decide) (show ¬ (1 : Int32) = 0 by decide) <| x_ild1 k12071_16 <| x_ild2 k12071_17 <| x_icmpeq (tgt := 35) k12071_18 (by decide) (fun h3 => x_iconst (v := (-1)) k12071_35 rfl <| x_iret k12071_36 rfl (Nat.le_refl _) (Nat.le_refl _) <| (q1 g1 g2 h3)) (fun h3 => x_ild3 k12071_21 <| x_iflt (tgt := 35) k12071_22 (by decide) (fun h4 => x_iconst (v := (-1)) k12071_35 rfl <| x_iret k12071_36 rfl (Nat.le_refl _) (Nat.le_refl _) <| (q2 g1 g2 h3 h4)) (fun h4 => x_ild4 k12071_25 <| x_iconst (v := 0) k12071_27 rfl <| x_iconst (v := 1) k12071_28 rfl <| x_cS3 (MCz := 0) (MSz := 0) k12071_29 s12_231 (Nat.le_of_ble_eq_true rfl) (Nat.le_of_ble_eq_true rfl) (Nat.le_refl _) (Nat.le_refl _) <| t12000 (fun g5 g6 => x_ifneT (tgt := 37) k12071_32 (by decide) (show ¬ (1 : Int32) = 0 by decide) <| x_ald0 k12071_37 <| x_ild3 k12071_38 <| x_cV1 (MCz := 0) (MSz := 0) k12071_39 v12_348_11 (hK.at rfl) (Nat.le_of_ble_eq_true rfl) (Nat.le_of_ble_eq_true rfl) (Nat.le_refl _) (Nat.le_refl _) <| u12059 hK hR cI rI (fun I7 g8 => x_ald0 k12071_42 <| x_ild1 k12071_43 <| x_ild2 k12071_44 <| x_iconst (v := 0) k12071_45 rfl <| x_cV3 (MCz := 0) (MSz := 0) k12071_46 v12_362_11 (hK.at rfl) (Nat.le_of_ble_eq_true rfl) (Nat.le_of_ble_eq_true rfl) (Nat.le_refl _) (Nat.le_refl _) <| u12069 hK hR (b1 g1 g2 h3 h4 g5 g6 I7 g8) (b2 g1 g2 h3 h4 g5 g6 I7 g8) (b3 g1 g2 h3 h4 g5 g6 I7 g8) (b4 g1 g2 h3 h4 g5 g6 I7 g8) (x_ist5 k12071_49 (Nat.le_of_ble_eq_true rfl) rfl <| x_ild5 k12071_51 <| x_iconst (v := (-1)) k12071_53 rfl <| x_icmpeq (tgt := 62) k12071_54 (by decide) (fun h9 => x_ild5 k12071_62 <| x_goto (tgt := 71) k12071_64 (by decide) <| x_iret k12071_71 rfl (Nat.le_refl _) (Nat.le_refl _) <| (q3 g1 g2 h3 h4 g5 g6 I7 g8 h9)) (fun h9 => x_ild4 k12071_57 <| x_ifne (tgt := 67) k12071_59 (by decide) (fun h10 => x_ald0 k12071_67 <| x_getI k12071_68 f12_359_11 (hK.at rfl) rfl <| x_iret k12071_71 rfl (Nat.le_refl _) (Nat.le_refl _) <| (q4 g1 g2 h3 h4 g5 g6 I7 g8 h9 h10)) (fun h10 => x_ild5 k12071_62 <| x_goto (tgt := 71) k12071_64 (by decide) <| x_iret k12071_71 rfl (Nat.le_refl _) (Nat.le_refl _) <| (q5 g1 g2 h3 h4 g5 g6 I7 g8 h9 h10)))))) (fun g11 => x_ifneF (tgt := 37) k12071_32 (by decide) (show (0 : Int32) = 0 by decide) <| x_iconst (v := (-1)) k12071_35 rfl <| x_iret k12071_36 rfl (Nat.le_refl _) (Nat.le_refl _) <| (q6 g1 g2 h3 h4 g11))))) (fun g12 => x_ifeqT (tgt := 35) k12071_13 (by decide) (show (0 : Int32) = 0 by decide) <| x_iconst (v := (-1)) k12071_35 rfl <| x_iret k12071_36 rfl (Nat.le_refl _) (Nat.le_refl _) <| (q7 g1 g12))) (fun g13 => x_ifeqT (tgt := 35) k12071_5 (by decide) (show (0 : Int32) = 0 by decide) <| x_iconst (v := (-1)) k12071_35 rfl <| x_iret k12071_36 rfl (Nat.le_refl _) (Nat.le_refl _) <| (q8 g13))
theorem qAf.up {J J' : Nat → Nat → Int32} (g : qAf I p J) (hf : qFr scQ J J') (h1 : J' 51 = J 51) (h2 : J' 55 = J 55) : qAf I p J' :=
  ⟨g.1.trans hf, CI_fr hf (CI_jud hf (by rw [h1]) h2 g.2) g.2⟩
theorem qAf.z {J : Nat → Nat → Int32} (g : qAf I p J) {k : Nat} {v : Int32} (hk : scQ 73 k) : qAf I p (va_up J 73 (upd (J 73) k v)) := g.up (qFr.up1 hk) (vu_n (by decide)) (vu_n (by decide))
theorem sc37 : scQ 73 37 := by
  intro q
  unfold kpQ at q
  omega
theorem i01 {b : Int32} : (0 ≤ b ∧ b ≤ 1) ↔ (b = 0 ∨ b = 1) := by
  rw [i_le, i_le, i_eq, i_eq]
  have e0 : (0 : Int32).toInt = 0 := rfl
  have e1 : (1 : Int32).toInt = 1 := rfl
  omega
theorem inl {a : Int32} : ¬ a < 0 ↔ 0 ≤ a := by rw [i_lt, i_le]; omega
theorem rT_eq {J : Nat → Nat → Int32} {t a b c : Int32} (cI : CI I p) (rI : RI I p) (hm : qIn (pM p) a) (hJ : qLr I p t J) : rT J p a b c = btk (hvv (LEn I p t) (pS p) a b) (mayC I a) (if c = 0 then ltR else gtR) (pS p) := by
  unfold rT
  have hf := (hJ.af cI).1
  exact btk_cong (fun i hi => hvv_cong (LEn_val cI t) cI.w5 cI.w3 hm hJ.2.1) (fun i hi => (mayR_C (RI_fr hf rI) (by have := cI.w5; omega) hi).trans (mayC_fr hf (by have := cI.w5; omega))) (pS p) (Nat.le_refl _)
theorem btk_m1 {v : Nat → Int32} {may : Nat → Prop} {bet : Int32 → Int32 → Prop} {n : Nat} (hn : n ≤ 5) (hv : ∀ i, i < n → ∃ j, j < 64 ∧ v i = nI j) (h : (btk v may bet n).2 = -1) : (btk v may bet n).1 = -1 := by
  rcases btk_inv (may := may) (bet := bet) hn hv n (Nat.le_refl _) with ⟨_, e⟩ | ⟨⟨k, hk, e⟩, _⟩
  · exact e
  · rw [e] at h; exact absurd h (nI_m1 (by omega))
theorem s12070 {a b c : Int32} (hK : qLay K sz) (hR : qRef R) (cI : CI I p) (rI : RI I p) (hq : ∀ J, qAf I p J → Q (some (.int (fOne (LEn I p) (mayC I) p a b c))) (K, J, L, R, sz)) : X (d + 8) 0 0 12070 0 0 0 (qent (qml 12070) [.ref 73, .int a, .int b, .int c]) [] (K, I, L, R, sz) Q := by
  unfold fOne at hq
  have w5 := cI.w5
  have hin : qIn (pM p) a → ∃ m, m < 3 ∧ a = nI m := fun ⟨m, h1, h2⟩ => ⟨m, by have := cI.w3; omega, h2⟩
  have hb1 : (if (1 : Int32) = 0 then ltR else gtR) = gtR := if_neg (by decide)
  refine t12070 (p := p) hK hR cI rI (fun _ _ _ _ J hJ => ?_) (fun _ _ _ _ J hJ => w5) (fun _ _ _ _ J hJ => hJ.val cI) (fun h _ _ _ _ _ => hin h) (fun _ h => ?_) (fun h1 h2 h3 h4 J hJ h5 => ?_) (fun h1 h2 h3 h4 J hJ h5 h6 => ?_) (fun h1 h2 h3 h4 J hJ h5 h6 => ?_) (fun _ _ h => ?_) (fun h => ?_)
  · rw [hJ.1 _ _ (scN_no (by omega) _)]; exact rI.mS cI
  · have := hq I (qAf.refl cI)
    rw [if_neg (fun q => inl.mpr q.2.2 h)] at this
    exact this
  · have := hq _ ((hJ.af cI).z (v := rvB (rT J p a a 1)) sc37)
    rw [if_pos ⟨h1, i01.mp ⟨h3, h4⟩, inl.mp h2⟩] at this
    rw [rT_eq cI rI h1 hJ, hb1] at h5 this ⊢
    rw [btk_m1 w5 (fun i _ => hvv_64 i) h5, h5, ite_self] at this
    rw [h5]
    exact this
  · have := hq _ ((hJ.af cI).z (v := rvB (rT J p a a 1)) sc37)
    rw [if_pos ⟨h1, i01.mp ⟨h3, h4⟩, inl.mp h2⟩, if_neg h6] at this
    rw [rT_eq cI rI h1 hJ, hb1] at h5 this ⊢
    rw [rvB, if_neg h5] at this ⊢
    exact this
  · have := hq _ ((hJ.af cI).z (v := rvB (rT J p a a 1)) sc37)
    rw [if_pos ⟨h1, i01.mp ⟨h3, h4⟩, inl.mp h2⟩, if_pos h6] at this
    rw [rT_eq cI rI h1 hJ, hb1] at this ⊢
    exact this
  · have := hq I (qAf.refl cI)
    rw [if_neg (fun q => h (i01.mpr q.2.1))] at this
    exact this
  · have := hq I (qAf.refl cI)
    rw [if_neg (fun q => h q.1)] at this
    exact this
theorem s12071 {a b c e : Int32} (hK : qLay K sz) (hR : qRef R) (cI : CI I p) (rI : RI I p) (hq : ∀ J, qAf I p J → Q (some (.int (fCut (LEn I p) (mayC I) p a b c e))) (K, J, L, R, sz)) : X (d + 8) 0 0 12071 0 0 0 (qent (qml 12071) [.ref 73, .int a, .int b, .int c, .int e]) [] (K, I, L, R, sz) Q := by
  unfold fCut at hq
  have w5 := cI.w5
  have hin : qIn (pM p) a → ∃ m, m < 3 ∧ a = nI m := fun ⟨m, h1, h2⟩ => ⟨m, by have := cI.w3; omega, h2⟩
  have hb0 : (if (0 : Int32) = 0 then ltR else gtR) = ltR := if_pos rfl
  refine t12071 (p := p) hK hR cI rI (fun _ _ _ _ _ _ J hJ => ?_) (fun _ _ _ _ _ _ J hJ => w5) (fun _ _ _ _ _ _ J hJ => hJ.val cI) (fun h _ _ _ _ _ _ _ => hin h) (fun _ _ h => ?_) (fun _ _ _ h => ?_) (fun h1 g1 g2 h2 h3 h4 J hJ h5 => ?_) (fun h1 g1 g2 h2 h3 h4 J hJ h5 h6 => ?_) (fun h1 g1 g2 h2 h3 h4 J hJ h5 h6 => ?_) (fun _ _ _ _ h => ?_) (fun _ h => ?_) (fun h => ?_)
  · rw [hJ.1 _ _ (scN_no (by omega) _)]; exact rI.mS cI
  · have := hq I (qAf.refl cI)
    rw [if_neg (fun q => q.2.2.1 h)] at this
    exact this
  · have := hq I (qAf.refl cI)
    rw [if_neg (fun q => inl.mpr q.2.2.2.2 h)] at this
    exact this
  · have := hq _ ((hJ.af cI).z (v := rvB (rT J p a b 0)) sc37)
    rw [if_pos ⟨h1, g1, g2, i01.mp ⟨h3, h4⟩, inl.mp h2⟩] at this
    rw [rT_eq cI rI h1 hJ, hb0] at h5 this ⊢
    rw [btk_m1 w5 (fun i _ => hvv_64 i) h5, h5, ite_self] at this
    rw [h5]
    exact this
  · have := hq _ ((hJ.af cI).z (v := rvB (rT J p a b 0)) sc37)
    rw [if_pos ⟨h1, g1, g2, i01.mp ⟨h3, h4⟩, inl.mp h2⟩, if_neg h6] at this
    rw [rT_eq cI rI h1 hJ, hb0] at h5 this ⊢
    rw [rvB, if_neg h5] at this ⊢
    exact this
  · have := hq _ ((hJ.af cI).z (v := rvB (rT J p a b 0)) sc37)
    rw [if_pos ⟨h1, g1, g2, i01.mp ⟨h3, h4⟩, inl.mp h2⟩, if_pos h6] at this
    rw [rT_eq cI rI h1 hJ, hb0] at this ⊢
    exact this
  · have := hq I (qAf.refl cI)
    rw [if_neg (fun q => h (i01.mpr q.2.2.2.1))] at this
    exact this
  · have := hq I (qAf.refl cI)
    rw [if_neg (fun q => h q.2.1)] at this
    exact this
  · have := hq I (qAf.refl cI)
    rw [if_neg (fun q => h q.1)] at this
    exact this
end L43
